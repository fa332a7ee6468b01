/-! SIGHT GIVEN AND TAKEN: the class -/
section EY
variable {κ κ1 : Mem} {G : Gm} {F p q r : Nat} {y : Bool}
theorem XG_see {v : Nat} (hG : XG κ 1 G) (hw : WF G) (hp : p < Gn G) (hv : v = if y then Gs G p ||| 2 ^ q else clr (Gs G p) q) : XG (setI κ 3 p (nI v)) 1 (sG G p q y (fun r σ => tol κ 1 r σ)) := by
  refine ⟨by rw [mi_setI, if_neg (by omega)]; exact hG.1, fun r hr => by rw [mi_setI, if_neg (by omega)]; exact hG.h hr, fun r hr => ?_, fun r hr σ _ => rfl⟩
  rw [mi_setI]
  show _ = nI (if r = p then (if y then Gs G p ||| 2 ^ q else clr (Gs G p) q) else Gs G r)
  by_cases e : r = p
  · rw [if_pos ⟨rfl, e⟩, if_pos e, hv]
  · rw [if_neg (fun z => e z.2), if_neg e]
    exact hG.s hr
theorem XG_seG {s : Mem} (hG : XG κ 1 G) (hw : WF G) (hp : p < Gn G) (hq : q < Gn G) (hk : XG κ1 1 (sG G p q y (fun r σ => tol κ 1 r σ))) (ha : agr (fun k => k = 4) κ1 s) (ht : ∀ r σ, σ < 1024 → tol s 1 r σ = if r = p ∧ σ < sit (seG G p q y) p then seT G p q y p σ else tol κ 1 r σ) (hw2 : WF (seG G p q y)) : XG s 1 (seG G p q y) := by
  refine ⟨(agr_mi ha (by omega) 0).trans hk.1, fun r hr => (agr_mi ha (by omega) r).trans (hk.2.1 r hr), fun r hr => (agr_mi ha (by omega) r).trans (hk.2.2.1 r hr), fun r hr σ hσ => ?_⟩
  have hsl := sit_le hw2 hr
  rw [ht r σ (by omega)]
  by_cases e : r = p
  · subst e
    rw [if_pos ⟨rfl, hσ⟩]
    rfl
  · rw [if_neg (fun z => e z.1)]
    have hσ2 : σ < sit G r := by rw [← sG_sit (y := y) (t := seT G p q y) hw hp hq e]; exact hσ
    rw [hG.t hr hσ2]
    show _ = seT G p q y r σ
    unfold seT
    rw [if_neg e]
theorem sX0_openEyes (hG : XG κ 1 G) (hw : WF G) (hF : 5000 < F) (hp : p < Gn G) (hq : q < Gn G) (hpq : p ≠ q) (hs : sees G p q = false) : ∃ κ1, agr (fun k => k = 3 ∨ k = 4) κ κ1 ∧ XG κ1 1 (seG G p q true) ∧ pX0_openEyes F κ (nI p) (nI q) = some κ1 := by
  have hp6 := hw_lt hw hp
  have hq6 := hw_lt hw hq
  have hs64 := hw.s64 hp
  have hB := WF_sG0 (y := true) hw hp hq hpq
  have hw2 := WF_seG (y := true) hw hp hq hpq (by rw [hs]; rfl)
  have hd : drp G (seG G p q true) p q := sG_drp1 hw hp hq hs
  have hk := XG_see (y := true) (q := q) (v := Gs G p ||| 2 ^ q) hG hw hp rfl
  have hsl := sit_le (p := p) hw2 hp
  have e1 := sX2_weightBehind0 (F := F) (G := seG G p q true) (t := fun r σ => tol κ 1 r σ) (p := p) (a := q + 1) (v2 := nI q) hk hw2 (by omega) hp (n_add q 1) hq
  have e2 : pX2_situations F 1 (setI κ 3 p (nI (Gs G p ||| 2 ^ q))) (nI p) = some (nI (sit (seG G p q true) p)) := by
    unfold pX2_situations
    rw [sX2_weightBehind0 (F := F) (G := seG G p q true) (t := fun r σ => tol κ 1 r σ) (p := p) (a := 0) hk hw2 (by omega) hp rfl (Nat.zero_le _)]
    rfl
  have hW := wB_pos (p := p) hw2 (q + 1)
  have hWl := wB_le (p := p) hw2 (q + 1)
  have hh1 := hw.h1 hq
  have hh4 := hw.h4 hq
  have hM : wB (seG G p q true) p (q + 1) * Gh G q ≤ 4096 * 4 := Nat.mul_le_mul hWl hh4
  have hM0 : 0 < wB (seG G p q true) p (q + 1) * Gh G q := Nat.mul_pos hW hh1
  have key := lp_dinv (fun fu (s : Mem) i => pX0_openEyes_50 F (nI p) (nI (wB (seG G p q true) p (q + 1))) (nI (wB (seG G p q true) p (q + 1) * Gh G q)) fu s (predI i)) (fun s i => agr (fun k => k = 4) (setI κ 3 p (nI (Gs G p ||| 2 ^ q))) s ∧ ∀ r σ, σ < 1024 → tol s 1 r σ = if r = p ∧ i ≤ σ ∧ σ < sit (seG G p q true) p then seT G p q true p σ else tol κ 1 r σ) (sit (seG G p q true) p) (fun x => ∃ κ1, agr (fun k => k = 4) (setI κ 3 p (nI (Gs G p ||| 2 ^ q))) κ1 ∧ XG κ1 1 (seG G p q true) ∧ x = some κ1)
    (fun fu s hI => by
      obtain ⟨b1, b2⟩ := hI
      refine ⟨s, b1, XG_seG hG hw hp hq hk b1 (fun r σ hσ => ?_) hw2, ?_⟩
      · rw [b2 r σ hσ]
        by_cases e : r = p ∧ σ < sit (seG G p q true) p
        · rw [if_pos e, if_pos ⟨e.1, Nat.zero_le _, e.2⟩]
        · rw [if_neg e, if_neg (fun z => e ⟨z.1, z.2.2⟩)]
      · show pX0_openEyes_50 F (nI p) _ _ (fu + 1) s (predI 0) = _
        rw [pX0_openEyes_50]
        simp (disch := omega) only [n_0, n_1, n_2, n_3, n_4, n_5, n_6, n_7, n_8, n_9, n_10, n_12, n_13, n_14, n_20, n_31, n_32, n_63, n_64, n_600, n_1024, n_4096, n_6157, n_add, n_mul, nm_def, Option.bind_some, Option.some.injEq, ck_in, ck_nz, ck_p, n_cl, n_lt, n_le, n_eq, n_div, n_rem, if_pos, if_neg, if_true, if_false, eq_self, n_192, n_256, n_20000, m1_n0, m1_np, m1_n0p, m1_lt0, m1_lt0p, mi_setIA, mi_setI, ml_setIA, ml_setI, mr_setI, mr_setIA])
    (fun fu s i hi hI => by
      obtain ⟨b1, b2⟩ := hI
      have hx := drX_le (p := p) i hw2 hq
      have hx2 := drX_lt hw2 hd hq hi
      have hxe : drX (seG G p q true) p q i = i / (wB (seG G p q true) p (q + 1) * Gh G q) * wB (seG G p q true) p (q + 1) + i % wB (seG G p q true) p (q + 1) := by
        unfold drX
        rw [Nat.mul_comm (wB (seG G p q true) p (q + 1)) (Gh G q)]
        rfl
      have et : tol s 1 p (drX (seG G p q true) p q i) = Gt G p (drX (seG G p q true) p q i) := by
        rw [b2 p _ (by omega), if_neg (by omega), hG.t hp hx2]
      have e9 : seT G p q true p i = Gt G p (drX (seG G p q true) p q i) := by unfold seT; rw [if_pos rfl]; rfl
      have htl := hw.t hp hx2
      have h4 := hw.h4 hp
      refine ⟨telK s 1 p i (seT G p q true p i), ⟨agr_trans b1 (agr_telK rfl), fun r σ hσ => ?_⟩, ?_⟩
      · rw [tol_telK s 1 (by omega) hσ (by omega), b2 r σ hσ]
        by_cases e : r = p ∧ σ = i
        · rw [if_pos e, if_pos ⟨e.1, by omega, by omega⟩, e.2]
        · rw [if_neg e]
          by_cases e2 : r = p ∧ i + 1 ≤ σ ∧ σ < sit (seG G p q true) p
          · rw [if_pos e2, if_pos ⟨e2.1, by omega, e2.2.2⟩]
          · rw [if_neg e2, if_neg (by omega)]
      · show pX0_openEyes_50 F (nI p) _ _ (fu + 1) s (predI (i + 1)) = pX0_openEyes_50 F (nI p) _ _ fu _ (predI i)
        have hq1 : i / (wB (seG G p q true) p (q + 1) * Gh G q) * wB (seG G p q true) p (q + 1) ≤ 1024 := by omega
        have hq2 : i / (wB (seG G p q true) p (q + 1) * Gh G q) ≤ i := Nat.div_le_self _ _
        have hq3 := Nat.mod_lt i hW
        rw [pX0_openEyes_50, predI_s]
        simp (disch := omega) only [n_0, n_1, n_2, n_3, n_4, n_5, n_6, n_7, n_8, n_9, n_10, n_12, n_13, n_14, n_20, n_31, n_32, n_63, n_64, n_600, n_1024, n_4096, n_6157, n_add, n_mul, nm_def, Option.bind_some, Option.some.injEq, ck_in, ck_nz, ck_p, n_cl, n_lt, n_le, n_eq, n_div, n_rem, if_pos, if_neg, if_true, if_false, eq_self, n_192, n_256, n_20000, m1_n0, m1_np, m1_n0p, m1_lt0, m1_lt0p, mi_setIA, mi_setI, ml_setIA, ml_setI, mr_setI, mr_setIA, n_dec]
        rw [← hxe, sX2_told s 1 hp6 (by omega), Option.bind_some, et, sX2_tell s 1 hp6 (by omega), Option.bind_some, e9])
    F (setI κ 3 p (nI (Gs G p ||| 2 ^ q))) (sit (seG G p q true) p) (Nat.le_refl _) (by omega) ⟨agr_rfl, fun r σ _ => by rw [if_neg (by omega)]; rfl⟩
  obtain ⟨κ1, c1, c2, c3⟩ := key
  refine ⟨κ1, agr_trans (agr_setI (Or.inl rfl)) (agr_mono c1 (fun k hk => Or.inr hk)), c2, ?_⟩
  have e5 : mi κ 2 q = nI (Gh G q) := hG.h hq
  unfold pX0_openEyes
  simp (disch := omega) only [n_0, n_1, n_2, n_3, n_4, n_5, n_6, n_7, n_8, n_9, n_10, n_12, n_13, n_14, n_20, n_31, n_32, n_63, n_64, n_600, n_1024, n_4096, n_6157, n_add, n_mul, nm_def, Option.bind_some, Option.some.injEq, ck_in, ck_nz, ck_p, n_cl, n_lt, n_le, n_eq, n_div, n_rem, if_pos, if_neg, if_true, if_false, eq_self, n_192, n_256, n_20000, m1_n0, m1_np, m1_n0p, m1_lt0, m1_lt0p, mi_setIA, mi_setI, ml_setIA, ml_setI, mr_setI, mr_setIA, hG.s hp, n_shl1, n_or, e1, e2, e5, n_sub1]
  exact c3
theorem sX0_closeEyes (hG : XG κ 1 G) (hw : WF G) (hF : 5000 < F) (hp : p < Gn G) (hq : q < Gn G) (hpq : p ≠ q) (hs : sees G p q = true) : ∃ κ1, agr (fun k => k = 3 ∨ k = 4) κ κ1 ∧ XG κ1 1 (seG G p q false) ∧ pX0_closeEyes F κ (nI p) (nI q) = some κ1 := by
  have hp6 := hw_lt hw hp
  have hq6 := hw_lt hw hq
  have hs64 := hw.s64 hp
  have hw2 := WF_seG (y := false) hw hp hq hpq (by rw [hs]; rfl)
  have hd : drp (seG G p q false) G p q := sG_drp0 hw hp hq hs
  have hk := XG_see (y := false) (q := q) (v := clr (Gs G p) q) hG hw hp rfl
  have hsl := sit_le (p := p) hw2 hp
  have hsl1 := sit_le (p := p) hw hp
  have eW : wB (seG G p q false) p (q + 1) = wB G p (q + 1) := drp_wB hd (Nat.lt_succ_self q)
  have e1 := sX2_weightBehind0 (F := F) (G := seG G p q false) (t := fun r σ => tol κ 1 r σ) (p := p) (a := q + 1) (v2 := nI q) hk hw2 (by omega) hp (n_add q 1) hq
  rw [eW] at e1
  have e2 : pX2_situations F 1 (setI κ 3 p (nI (clr (Gs G p) q))) (nI p) = some (nI (sit (seG G p q false) p)) := by
    unfold pX2_situations
    rw [sX2_weightBehind0 (F := F) (G := seG G p q false) (t := fun r σ => tol κ 1 r σ) (p := p) (a := 0) hk hw2 (by omega) hp rfl (Nat.zero_le _)]
    rfl
  have hW := wB_pos (p := p) hw (q + 1)
  have hWl := wB_le (p := p) hw (q + 1)
  have hh1 := hw.h1 hq
  have hh4 := hw.h4 hq
  have hM : wB G p (q + 1) * Gh G q ≤ 4096 * 4 := Nat.mul_le_mul hWl hh4
  have key := lp_inv (fun fu (s : Mem) i => pX0_closeEyes_53 F (nI p) (nI (wB G p (q + 1))) (nI (wB G p (q + 1) * Gh G q)) (nI (sit (seG G p q false) p)) fu s (nI i)) (fun s i => agr (fun k => k = 4) (setI κ 3 p (nI (clr (Gs G p) q))) s ∧ ∀ r σ, σ < 1024 → tol s 1 r σ = if r = p ∧ σ < i then seT G p q false p σ else tol κ 1 r σ) (sit (seG G p q false) p) (fun x => ∃ κ1, agr (fun k => k = 4) (setI κ 3 p (nI (clr (Gs G p) q))) κ1 ∧ XG κ1 1 (seG G p q false) ∧ x = some κ1)
    (fun fu s hI => by
      obtain ⟨b1, b2⟩ := hI
      refine ⟨s, b1, XG_seG hG hw hp hq hk b1 b2 hw2, ?_⟩
      show pX0_closeEyes_53 F (nI p) _ _ _ (fu + 1) s (nI (sit (seG G p q false) p)) = _
      rw [pX0_closeEyes_53]
      simp (disch := omega) only [n_0, n_1, n_2, n_3, n_4, n_5, n_6, n_7, n_8, n_9, n_10, n_12, n_13, n_14, n_20, n_31, n_32, n_63, n_64, n_600, n_1024, n_4096, n_6157, n_add, n_mul, nm_def, Option.bind_some, Option.some.injEq, ck_in, ck_nz, ck_p, n_cl, n_lt, n_le, n_eq, n_div, n_rem, if_pos, if_neg, if_true, if_false, eq_self, n_192, n_256, n_20000, m1_n0, m1_np, m1_n0p, m1_lt0, m1_lt0p, mi_setIA, mi_setI, ml_setIA, ml_setI, mr_setI, mr_setIA])
    (fun fu s i hi hI => by
      obtain ⟨b1, b2⟩ := hI
      have hx := drY_ge (p := p) hw hq i
      have hx2 := drY_lt hw hd hq hi
      have hxe : drY G p q i = i / wB G p (q + 1) * (wB G p (q + 1) * Gh G q) + i % wB G p (q + 1) := by
        unfold drY
        rw [Nat.mul_comm (wB G p (q + 1)) (Gh G q)]
      have et : tol s 1 p (drY G p q i) = Gt G p (drY G p q i) := by
        rw [b2 p _ (by omega), if_neg (by omega), hG.t hp hx2]
      have e9 : seT G p q false p i = Gt G p (drY G p q i) := by unfold seT; rw [if_pos rfl]; rfl
      have htl := hw.t hp hx2
      have h4 := hw.h4 hp
      refine ⟨telK s 1 p i (seT G p q false p i), ⟨agr_trans b1 (agr_telK rfl), fun r σ hσ => ?_⟩, ?_⟩
      · rw [tol_telK s 1 (by omega) hσ (by omega), b2 r σ hσ]
        by_cases e : r = p ∧ σ = i
        · rw [if_pos e, if_pos ⟨e.1, by omega⟩, e.2]
        · rw [if_neg e]
          by_cases e2 : r = p ∧ σ < i
          · rw [if_pos e2, if_pos ⟨e2.1, by omega⟩]
          · rw [if_neg e2, if_neg (by omega)]
      · show pX0_closeEyes_53 F (nI p) _ _ _ (fu + 1) s (nI i) = pX0_closeEyes_53 F (nI p) _ _ _ fu _ (nI (i + 1))
        have hq2 : i / wB G p (q + 1) ≤ i := Nat.div_le_self _ _
        have hq3 := Nat.mod_lt i hW
        rw [pX0_closeEyes_53]
        simp (disch := omega) only [n_0, n_1, n_2, n_3, n_4, n_5, n_6, n_7, n_8, n_9, n_10, n_12, n_13, n_14, n_20, n_31, n_32, n_63, n_64, n_600, n_1024, n_4096, n_6157, n_add, n_mul, nm_def, Option.bind_some, Option.some.injEq, ck_in, ck_nz, ck_p, n_cl, n_lt, n_le, n_eq, n_div, n_rem, if_pos, if_neg, if_true, if_false, eq_self, n_192, n_256, n_20000, m1_n0, m1_np, m1_n0p, m1_lt0, m1_lt0p, mi_setIA, mi_setI, ml_setIA, ml_setI, mr_setI, mr_setIA]
        rw [← hxe, sX2_told s 1 hp6 (by omega), Option.bind_some, et, sX2_tell s 1 hp6 (by omega), Option.bind_some, e9])
    F (setI κ 3 p (nI (clr (Gs G p) q))) 0 (Nat.zero_le _) (by omega) ⟨agr_rfl, fun r σ _ => by rw [if_neg (by omega)]; rfl⟩
  obtain ⟨κ1, c1, c2, c3⟩ := key
  refine ⟨κ1, agr_trans (agr_setI (Or.inl rfl)) (agr_mono c1 (fun k hk => Or.inr hk)), c2, ?_⟩
  have e5 : mi κ 2 q = nI (Gh G q) := hG.h hq
  unfold pX0_closeEyes
  simp (disch := omega) only [n_0, n_1, n_2, n_3, n_4, n_5, n_6, n_7, n_8, n_9, n_10, n_12, n_13, n_14, n_20, n_31, n_32, n_63, n_64, n_600, n_1024, n_4096, n_6157, n_add, n_mul, nm_def, Option.bind_some, Option.some.injEq, ck_in, ck_nz, ck_p, n_cl, n_lt, n_le, n_eq, n_div, n_rem, if_pos, if_neg, if_true, if_false, eq_self, n_192, n_256, n_20000, m1_n0, m1_np, m1_n0p, m1_lt0, m1_lt0p, mi_setIA, mi_setI, ml_setIA, ml_setI, mr_setI, mr_setIA, hG.s hp, n_shl1, n_clr2, e1, e2, e5]
  exact c3
end EY
