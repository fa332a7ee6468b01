/-! COLOURS RENAMED: the class's act, the reference, the call -/
section RNC2
variable {κ κ1 : Mem} {G : Gm} {F p q c d : Nat} {t : Nat → Nat → Nat}
theorem XG_players (h : XG κ 1 (withT G t)) : mi κ 1 0 = nI (Gn G) := h.1
theorem sX0_swapNames (hG : XG κ 1 G) (hw : WF G) (hF : 5000 < F) (hp : p < Gn G) (hc : c < Gh G p) (hd : d < Gh G p) (hcd : c ≠ d) : ∃ κ1, agr (fun k => k = 4) κ κ1 ∧ XG κ1 1 (renG G p c d) ∧ pX0_swapNames F κ (nI p) (nI c) (nI d) = some (nI (nRen G p c d), κ1) := by
  have hp6 := hw_lt hw hp
  have h4 := hw.h4 hp
  have hsl := sit_le hw hp
  have hn := hw.n6
  unfold pX0_swapNames
  rw [sX2_situations hG hw (by omega) hp, Option.bind_some]
  obtain ⟨tt, ett⟩ : ∃ tt : Nat → Nat → Nat → Nat, tt = fun i r σ => if r = p then rn c d (Gt G p σ) else if r < i ∧ sees G r p = true then Gt G r (mv G r p c d σ) else Gt G r σ := ⟨_, rfl⟩
  have hB : ∀ s : Mem, agr (fun k => k = 4) κ s → XG s 1 (withT G (tt 0)) → ∃ κ1, agr (fun k => k = 4) κ κ1 ∧ XG κ1 1 (renG G p c d) ∧ pX0_swapNames_80 F (nI p) (nI c) (nI d) F s (nI (nOwn G p c d (sit G p))) 0 = some (nI (nRen G p c d), κ1) := fun s hs1 hs2 => by
    refine lp_inv (fun fu (x : Mem × Int32) i => pX0_swapNames_80 F (nI p) (nI c) (nI d) fu x.1 x.2 (nI i)) (fun x i => agr (fun k => k = 4) κ x.1 ∧ XG x.1 1 (withT G (tt i)) ∧ x.2 = nI (nOwn G p c d (sit G p) + sm (fun q => if sees G q p then nSee G p c d q (sit G q) else 0) i)) (Gn G) (fun x => ∃ κ1, agr (fun k => k = 4) κ κ1 ∧ XG κ1 1 (renG G p c d) ∧ x = some (nI (nRen G p c d), κ1)) (fun fu s hI => ?_) (fun fu s i hi hI => ?_) F (s, nI (nOwn G p c d (sit G p))) 0 (Nat.zero_le _) (by omega) ⟨hs1, hs2, rfl⟩
    · obtain ⟨b1, b2, b3⟩ := hI
      refine ⟨s.1, b1, XG_same b2 (fun r hr σ hσ => ?_), ?_⟩
      · rw [ett]
        show tR G p c d r σ = if r = p then rn c d (Gt G p σ) else if r < Gn G ∧ sees G r p = true then Gt G r (mv G r p c d σ) else Gt G r σ
        unfold tR
        by_cases e : r = p
        · rw [if_pos e, if_pos e]
        · rw [if_neg e, if_neg e]
          by_cases hs : sees G r p = true
          · rw [if_pos hs, if_pos ⟨hr, hs⟩]
          · rw [if_neg hs, if_neg (fun w => hs w.2)]
      · show pX0_swapNames_80 F (nI p) (nI c) (nI d) (fu + 1) s.1 s.2 (nI (Gn G)) = _
        rw [pX0_swapNames_80, b3, XG_players b2]
        simp (disch := omega) only [n_0, n_1, n_2, n_3, n_4, n_5, n_6, n_7, n_8, n_9, n_10, n_12, n_13, n_14, n_20, n_31, n_32, n_63, n_64, n_600, n_1024, n_4096, n_6157, n_add, n_mul, nm_def, Option.bind_some, Option.some.injEq, ck_in, ck_nz, ck_p, n_cl, n_lt, n_le, n_eq, n_div, n_rem, if_pos, if_neg, if_true, if_false, eq_self, n_192, n_256, n_20000, m1_n0, m1_np, m1_n0p, m1_lt0, m1_lt0p, mi_setIA, mi_setI, ml_setIA, ml_setI, mr_setI, mr_setIA]
        rfl
    · obtain ⟨b1, b2, b3⟩ := hI
      have hi6 : i < 6 := by omega
      have e1 := xT_watches b2 hw hi (show p < 32 by omega)
      cases hs : sees G i p
      · refine ⟨s, ⟨b1, XG_same b2 (fun r hr σ hσ => ?_), ?_⟩, ?_⟩
        · rw [ett]
          show (if r = p then rn c d (Gt G p σ) else if r < i + 1 ∧ sees G r p = true then Gt G r (mv G r p c d σ) else Gt G r σ) = if r = p then rn c d (Gt G p σ) else if r < i ∧ sees G r p = true then Gt G r (mv G r p c d σ) else Gt G r σ
          by_cases e : r = p
          · rw [if_pos e, if_pos e]
          · rw [if_neg e, if_neg e]
            by_cases z : r < i ∧ sees G r p = true
            · rw [if_pos z, if_pos ⟨by omega, z.2⟩]
            · rw [if_neg z, if_neg (fun w => z ⟨by
                have : r ≠ i := fun y => by rw [y, hs] at w; cases w.2
                omega, w.2⟩)]
        · rw [b3, sm, hs, if_neg (by decide), Nat.add_zero]
        · show pX0_swapNames_80 F (nI p) (nI c) (nI d) (fu + 1) s.1 s.2 (nI i) = pX0_swapNames_80 F (nI p) (nI c) (nI d) fu s.1 s.2 (nI (i + 1))
          rw [pX0_swapNames_80, XG_players b2, e1, hs]
          unfold pX0_swapNames_119
          simp (disch := omega) only [n_0, n_1, n_2, n_3, n_4, n_5, n_6, n_7, n_8, n_9, n_10, n_12, n_13, n_14, n_20, n_31, n_32, n_63, n_64, n_600, n_1024, n_4096, n_6157, n_add, n_mul, nm_def, Option.bind_some, Option.some.injEq, ck_in, ck_nz, ck_p, n_cl, n_lt, n_le, n_eq, n_div, n_rem, if_pos, if_neg, if_true, if_false, eq_self, n_192, n_256, n_20000, m1_n0, m1_np, m1_n0p, m1_lt0, m1_lt0p, mi_setIA, mi_setI, ml_setIA, ml_setI, mr_setI, mr_setIA, Bool.toNat_false]
      · have hip : i ≠ p := fun z => by rw [z, (hw.2 p hp).2.2.1] at hs; cases hs
        obtain ⟨κ1, c1, c2, c3⟩ := sX0_swapSeen (F := F) (t := tt i) b2 hw (by omega) hp hi hs hc hd hcd (fun σ hσ => by
          rw [ett]
          show (if i = p then rn c d (Gt G p σ) else if i < i ∧ sees G i p = true then Gt G i (mv G i p c d σ) else Gt G i σ) = Gt G i σ
          rw [if_neg hip, if_neg (fun w => Nat.lt_irrefl _ w.1)])
        refine ⟨(κ1, s.2 + nI (nSee G p c d i (sit G i))), ⟨agr_trans b1 c1, XG_same c2 (fun r hr σ hσ => ?_), ?_⟩, ?_⟩
        · rw [ett]
          show (if r = p then rn c d (Gt G p σ) else if r < i + 1 ∧ sees G r p = true then Gt G r (mv G r p c d σ) else Gt G r σ) = if r = i then Gt G i (mv G i p c d σ) else (if r = p then rn c d (Gt G p σ) else if r < i ∧ sees G r p = true then Gt G r (mv G r p c d σ) else Gt G r σ)
          by_cases e2 : r = i
          · rw [if_pos e2, if_neg (by omega), if_pos ⟨by omega, by rw [e2]; exact hs⟩, e2]
          · rw [if_neg e2]
            by_cases e : r = p
            · rw [if_pos e, if_pos e]
            · rw [if_neg e, if_neg e]
              by_cases z : r < i ∧ sees G r p = true
              · rw [if_pos z, if_pos ⟨by omega, z.2⟩]
              · rw [if_neg z, if_neg (fun w => z ⟨by omega, w.2⟩)]
        · show s.2 + _ = _
          rw [b3, sm, hs, if_pos rfl]
          simp (disch := omega) only [n_0, n_1, n_2, n_3, n_4, n_5, n_6, n_7, n_8, n_9, n_10, n_12, n_13, n_14, n_20, n_31, n_32, n_63, n_64, n_600, n_1024, n_4096, n_6157, n_add, n_mul, nm_def, Option.bind_some, Option.some.injEq, ck_in, ck_nz, ck_p, n_cl, n_lt, n_le, n_eq, n_div, n_rem, if_pos, if_neg, if_true, if_false, eq_self, n_192, n_256, n_20000, m1_n0, m1_np, m1_n0p, m1_lt0, m1_lt0p, mi_setIA, mi_setI, ml_setIA, ml_setI, mr_setI, mr_setIA]
          rw [Nat.add_assoc]
        · show pX0_swapNames_80 F (nI p) (nI c) (nI d) (fu + 1) s.1 s.2 (nI i) = pX0_swapNames_80 F (nI p) (nI c) (nI d) fu κ1 (s.2 + nI (nSee G p c d i (sit G i))) (nI (i + 1))
          rw [pX0_swapNames_80, XG_players b2, e1, hs]
          unfold pX0_swapNames_119
          simp (disch := omega) only [n_0, n_1, n_2, n_3, n_4, n_5, n_6, n_7, n_8, n_9, n_10, n_12, n_13, n_14, n_20, n_31, n_32, n_63, n_64, n_600, n_1024, n_4096, n_6157, n_add, n_mul, nm_def, Option.bind_some, Option.some.injEq, ck_in, ck_nz, ck_p, n_cl, n_lt, n_le, n_eq, n_div, n_rem, if_pos, if_neg, if_true, if_false, eq_self, n_192, n_256, n_20000, m1_n0, m1_np, m1_n0p, m1_lt0, m1_lt0p, mi_setIA, mi_setI, ml_setIA, ml_setI, mr_setI, mr_setIA, Bool.toNat_true, c3]
  obtain ⟨t1, et1⟩ : ∃ t1 : Nat → Nat → Nat → Nat, t1 = fun i r σ => if r = p ∧ σ < i then rn c d (Gt G p σ) else Gt G r σ := ⟨_, rfl⟩
  refine lp_inv (fun fu (x : Mem × Int32) i => pX0_swapNames_16 F (nI p) (nI c) (nI d) (nI (sit G p)) fu x.1 x.2 (nI i)) (fun x i => agr (fun k => k = 4) κ x.1 ∧ XG x.1 1 (withT G (t1 i)) ∧ x.2 = nI (nOwn G p c d i)) (sit G p) (fun x => ∃ κ1, agr (fun k => k = 4) κ κ1 ∧ XG κ1 1 (renG G p c d) ∧ x = some (nI (nRen G p c d), κ1)) (fun fu s hI => ?_) (fun fu s i hi hI => ?_) F (κ, 0) 0 (Nat.zero_le _) (by omega) ⟨agr_rfl, XG_same (XG_wT hG) (fun r hr σ hσ => ?_), rfl⟩
  · obtain ⟨b1, b2, b3⟩ := hI
    obtain ⟨κ1, c1, c2, c3⟩ := hB s.1 b1 (XG_same b2 (fun r hr σ hσ => by
      rw [ett, et1]
      show (if r = p then rn c d (Gt G p σ) else if r < 0 ∧ sees G r p = true then Gt G r (mv G r p c d σ) else Gt G r σ) = if r = p ∧ σ < sit G p then rn c d (Gt G p σ) else Gt G r σ
      by_cases e : r = p
      · subst e
        rw [if_pos rfl, if_pos ⟨rfl, hσ⟩]
      · rw [if_neg e, if_neg (fun w => Nat.not_lt_zero _ w.1), if_neg (fun w => e w.1)]))
    refine ⟨κ1, c1, c2, ?_⟩
    show pX0_swapNames_16 F (nI p) (nI c) (nI d) (nI (sit G p)) (fu + 1) s.1 s.2 (nI (sit G p)) = _
    rw [pX0_swapNames_16, b3]
    simp (disch := omega) only [n_0, n_1, n_2, n_3, n_4, n_5, n_6, n_7, n_8, n_9, n_10, n_12, n_13, n_14, n_20, n_31, n_32, n_63, n_64, n_600, n_1024, n_4096, n_6157, n_add, n_mul, nm_def, Option.bind_some, Option.some.injEq, ck_in, ck_nz, ck_p, n_cl, n_lt, n_le, n_eq, n_div, n_rem, if_pos, if_neg, if_true, if_false, eq_self, n_192, n_256, n_20000, m1_n0, m1_np, m1_n0p, m1_lt0, m1_lt0p, mi_setIA, mi_setI, ml_setIA, ml_setI, mr_setI, mr_setIA]
    exact c3
  · obtain ⟨b1, b2, b3⟩ := hI
    have htp := hw.t hp hi
    have e1 : pX2_told 1 s.1 (nI p) (nI i) = some (nI (Gt G p i)) := by
      rw [sX2_told s.1 1 hp6 (by omega), show tol s.1 1 p i = t1 i p i from b2.2.2.2 p hp i hi, et1]
      show some (nI (if p = p ∧ i < i then rn c d (Gt G p i) else Gt G p i)) = _
      rw [if_neg (fun w => Nat.lt_irrefl _ w.2)]
    have ec : (nI (Gt G p i) = nI c) = (Gt G p i = c) := n_eq (by omega) (by omega)
    have ed : (nI (Gt G p i) = nI d) = (Gt G p i = d) := n_eq (by omega) (by omega)
    have hr4 : rn c d (Gt G p i) < 4 := Nat.lt_of_lt_of_le (rn_lt hc hd htp) h4
    have hk1 := XG_tell b2 hw hp (show i < 1024 by omega) hr4
    have hst : ∀ r, r < Gn G → ∀ σ, σ < sit G r → t1 (i + 1) r σ = if r = p ∧ σ = i then rn c d (Gt G p i) else t1 i r σ := fun r hr σ hσ => by
      rw [et1]
      show (if r = p ∧ σ < i + 1 then rn c d (Gt G p σ) else Gt G r σ) = if r = p ∧ σ = i then rn c d (Gt G p i) else (if r = p ∧ σ < i then rn c d (Gt G p σ) else Gt G r σ)
      by_cases e : r = p ∧ σ = i
      · rw [if_pos (show r = p ∧ σ < i + 1 from ⟨e.1, by omega⟩), if_pos e, e.2]
      · rw [if_neg e]
        by_cases z : r = p ∧ σ < i
        · rw [if_pos z, if_pos ⟨z.1, by omega⟩]
        · rw [if_neg z, if_neg (fun w => z ⟨w.1, by have : σ ≠ i := fun y => e ⟨w.1, y⟩; omega⟩)]
    have hsm : nOwn G p c d (i + 1) = nOwn G p c d i + if Gt G p i = c ∨ Gt G p i = d then 1 else 0 := rfl
    have etl : ∀ k, pX2_tell 1 s.1 (nI p) (nI i) (nI k) = some (telK s.1 1 p i k) := fun k => sX2_tell s.1 1 hp6 (show i < 1024 by omega)
    by_cases h1 : Gt G p i = c
    · refine ⟨(telK s.1 1 p i (rn c d (Gt G p i)), s.2 + 1), ⟨agr_trans b1 (agr_telK rfl), XG_same hk1 hst, ?_⟩, ?_⟩
      · show s.2 + 1 = _
        rw [b3, hsm, if_pos (Or.inl h1)]
        simp (disch := omega) only [n_0, n_1, n_2, n_3, n_4, n_5, n_6, n_7, n_8, n_9, n_10, n_12, n_13, n_14, n_20, n_31, n_32, n_63, n_64, n_600, n_1024, n_4096, n_6157, n_add, n_mul, nm_def, Option.bind_some, Option.some.injEq, ck_in, ck_nz, ck_p, n_cl, n_lt, n_le, n_eq, n_div, n_rem, if_pos, if_neg, if_true, if_false, eq_self, n_192, n_256, n_20000, m1_n0, m1_np, m1_n0p, m1_lt0, m1_lt0p, mi_setIA, mi_setI, ml_setIA, ml_setI, mr_setI, mr_setIA]
      · show pX0_swapNames_16 F (nI p) (nI c) (nI d) (nI (sit G p)) (fu + 1) s.1 s.2 (nI i) = pX0_swapNames_16 F (nI p) (nI c) (nI d) (nI (sit G p)) fu (telK s.1 1 p i (rn c d (Gt G p i))) (s.2 + 1) (nI (i + 1))
        have er : rn c d (Gt G p i) = d := if_pos h1
        rw [pX0_swapNames_16, er]
        unfold pX0_swapNames_47 pX0_swapNames_65 pX0_swapNames_71
        simp (disch := omega) only [n_0, n_1, n_2, n_3, n_4, n_5, n_6, n_7, n_8, n_9, n_10, n_12, n_13, n_14, n_20, n_31, n_32, n_63, n_64, n_600, n_1024, n_4096, n_6157, n_add, n_mul, nm_def, Option.bind_some, Option.some.injEq, ck_in, ck_nz, ck_p, n_cl, n_lt, n_le, n_eq, n_div, n_rem, if_pos, if_neg, if_true, if_false, eq_self, n_192, n_256, n_20000, m1_n0, m1_np, m1_n0p, m1_lt0, m1_lt0p, mi_setIA, mi_setI, ml_setIA, ml_setI, mr_setI, mr_setIA, e1, h1, etl]
    · by_cases h2 : Gt G p i = d
      · refine ⟨(telK s.1 1 p i (rn c d (Gt G p i)), s.2 + 1), ⟨agr_trans b1 (agr_telK rfl), XG_same hk1 hst, ?_⟩, ?_⟩
        · show s.2 + 1 = _
          rw [b3, hsm, if_pos (Or.inr h2)]
          simp (disch := omega) only [n_0, n_1, n_2, n_3, n_4, n_5, n_6, n_7, n_8, n_9, n_10, n_12, n_13, n_14, n_20, n_31, n_32, n_63, n_64, n_600, n_1024, n_4096, n_6157, n_add, n_mul, nm_def, Option.bind_some, Option.some.injEq, ck_in, ck_nz, ck_p, n_cl, n_lt, n_le, n_eq, n_div, n_rem, if_pos, if_neg, if_true, if_false, eq_self, n_192, n_256, n_20000, m1_n0, m1_np, m1_n0p, m1_lt0, m1_lt0p, mi_setIA, mi_setI, ml_setIA, ml_setI, mr_setI, mr_setIA]
        · show pX0_swapNames_16 F (nI p) (nI c) (nI d) (nI (sit G p)) (fu + 1) s.1 s.2 (nI i) = pX0_swapNames_16 F (nI p) (nI c) (nI d) (nI (sit G p)) fu (telK s.1 1 p i (rn c d (Gt G p i))) (s.2 + 1) (nI (i + 1))
          have er : rn c d (Gt G p i) = c := (if_neg h1).trans (if_pos h2)
          rw [pX0_swapNames_16, er]
          unfold pX0_swapNames_47 pX0_swapNames_65 pX0_swapNames_71
          have hdc : (nI d = nI c) = False := by rw [n_eq (by omega) (by omega)]; exact eq_false (fun z => hcd z.symm)
          simp (disch := omega) only [n_0, n_1, n_2, n_3, n_4, n_5, n_6, n_7, n_8, n_9, n_10, n_12, n_13, n_14, n_20, n_31, n_32, n_63, n_64, n_600, n_1024, n_4096, n_6157, n_add, n_mul, nm_def, Option.bind_some, Option.some.injEq, ck_in, ck_nz, ck_p, n_cl, n_lt, n_le, n_eq, n_div, n_rem, if_pos, if_neg, if_true, if_false, eq_self, n_192, n_256, n_20000, m1_n0, m1_np, m1_n0p, m1_lt0, m1_lt0p, mi_setIA, mi_setI, ml_setIA, ml_setI, mr_setI, mr_setIA, e1, h2, hdc, etl]
      · refine ⟨s, ⟨b1, XG_same b2 (fun r hr σ hσ => ?_), ?_⟩, ?_⟩
        · rw [hst r hr σ hσ]
          by_cases z : r = p ∧ σ = i
          · rw [if_pos z, z.1, z.2, et1]
            show rn c d (Gt G p i) = if p = p ∧ i < i then rn c d (Gt G p i) else Gt G p i
            rw [if_neg (fun w => Nat.lt_irrefl _ w.2)]
            exact (if_neg h1).trans (if_neg h2)
          · rw [if_neg z]
        · rw [b3, hsm, if_neg (by rintro (z | z); exact h1 z; exact h2 z), Nat.add_zero]
        · show pX0_swapNames_16 F (nI p) (nI c) (nI d) (nI (sit G p)) (fu + 1) s.1 s.2 (nI i) = pX0_swapNames_16 F (nI p) (nI c) (nI d) (nI (sit G p)) fu s.1 s.2 (nI (i + 1))
          rw [pX0_swapNames_16]
          unfold pX0_swapNames_71
          simp (disch := omega) only [n_0, n_1, n_2, n_3, n_4, n_5, n_6, n_7, n_8, n_9, n_10, n_12, n_13, n_14, n_20, n_31, n_32, n_63, n_64, n_600, n_1024, n_4096, n_6157, n_add, n_mul, nm_def, Option.bind_some, Option.some.injEq, ck_in, ck_nz, ck_p, n_cl, n_lt, n_le, n_eq, n_div, n_rem, if_pos, if_neg, if_true, if_false, eq_self, n_192, n_256, n_20000, m1_n0, m1_np, m1_n0p, m1_lt0, m1_lt0p, mi_setIA, mi_setI, ml_setIA, ml_setI, mr_setI, mr_setIA, e1, h1, h2]
  · rw [et1]
    show (if r = p ∧ σ < 0 then rn c d (Gt G p σ) else Gt G r σ) = Gt G r σ
    rw [if_neg (fun w => by omega)]
end RNC2
