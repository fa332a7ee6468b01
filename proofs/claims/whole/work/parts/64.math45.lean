/-! RENUMBERINGS: the class keeps; the reference; the call -/
section RNX2
variable {κ κ1 : Mem} {G : Gm} {F p q : Nat} {π ψ : Nat → Nat}
theorem IM.agr {S : Nat → Prop} (h : IM κ G π) (ha : agr S κ κ1) (h0 : ¬ S 56) : IM κ1 G π := fun p hp => (agr_mi ha h0 p).trans (h p hp)
theorem pfac_le (hw : WF G) (hp : p < Gn G) (hq : q ≤ Gn G) : pw (fac G p) 0 q ≤ 1024 := by
  have h1 := sit_le hw hp
  have h2 : pw (fac G p) 0 (Gn G) = pw (fac G p) 0 q * pw (fac G p) (0 + q) (Gn G - q) := by
    rw [← pw_split, show q + (Gn G - q) = Gn G by omega]
  have h3 : sit G p = pw (fac G p) 0 (Gn G) := by unfold sit wB; rw [Nat.sub_zero]
  have h4 : 0 < pw (fac G p) (0 + q) (Gn G - q) := pw_pos (fun i a b => fac_pos hw (by omega))
  have h5 := Nat.le_mul_of_pos_right (pw (fac G p) 0 q) h4
  omega
theorem sX7_keeps (hG : XG κ 1 G) (hw : WF G) (hF : 6000 < F) (hI : IM κ G π) (hfit : fitB G π = true) (hP : Pm (Gn G) π ψ) (hp : p < Gn G) : ∃ κ1, agr (fun k => k = 57) κ κ1 ∧ pX7_keeps F κ (nI p) = some (nI (keepP G π p).toNat, κ1) := by
  have hn := hw.n6
  have hp6 := hw_lt hw hp
  have hpp := hP.1 p hp
  have hpp6 := hw_lt hw hpp
  have hsl := sit_le hw hp
  have hsit : pw (fac G p) 0 (Gn G) = sit G p := by unfold sit wB; rw [Nat.sub_zero]
  have h3 := hI p hp
  have a0 : agr (fun k => k = 57) κ (setI κ 57 0 0) := agr_setI rfl
  have key := lp_inv (fun fu (x : Mem × Int32) i => pX7_keeps_11 F (nI p) fu x.1 x.2 (nI i)) (fun x i => agr (fun k => k = 57) κ x.1 ∧ (∀ y, y < pw (fac G p) 0 i → mi x.1 57 y = nI (cw G p (fun r => wgt G (π p) (π r)) i y)) ∧ x.2 = nI (pw (fac G p) 0 i)) (Gn G) (fun x => ∃ κ1, agr (fun k => k = 57) κ κ1 ∧ x = some (nI (keepP G π p).toNat, κ1)) (fun fu s hI2 => by
    obtain ⟨b1, b2, b3⟩ := hI2
    have e0 : mi s.1 1 0 = nI (Gn G) := (hG.agr b1 (by omega) (by omega) (by omega) (by omega)).1
    have hG2 := hG.agr b1 (by omega) (by omega) (by omega) (by omega)
    have hI3 := hI.agr b1 (by omega)
    refine ⟨s.1, b1, ?_⟩
    show pX7_keeps_11 F (nI p) (fu + 1) s.1 s.2 (nI (Gn G)) = _
    rw [pX7_keeps_11, b3, hsit]
    simp (disch := omega) only [n_0, n_1, n_2, n_3, n_4, n_5, n_6, n_7, n_8, n_9, n_10, n_12, n_13, n_14, n_20, n_31, n_32, n_63, n_64, n_600, n_1024, n_4096, n_6157, n_add, n_mul, nm_def, Option.bind_some, Option.some.injEq, ck_in, ck_nz, ck_p, n_cl, n_lt, n_le, n_eq, n_div, n_rem, if_pos, if_neg, if_true, if_false, eq_self, n_192, n_256, n_20000, m1_n0, m1_np, m1_n0p, m1_lt0, m1_lt0p, mi_setIA, mi_setI, ml_setIA, ml_setI, mr_setI, mr_setIA, e0]
    have k2 := lp_all (fun fu2 i => pX7_keeps_79 F s.1 (nI p) (nI (sit G p)) fu2 (nI i)) (fun i => decide (Gt G p i = Gt G (π p) (carr G π p i))) (sit G p) (some ((1 : Int32), s.1)) (some ((0 : Int32), s.1)) (fun fu2 => by
      show pX7_keeps_79 F s.1 (nI p) (nI (sit G p)) (fu2 + 1) (nI (sit G p)) = _
      rw [pX7_keeps_79]
      simp (disch := omega) only [n_0, n_1, n_2, n_3, n_4, n_5, n_6, n_7, n_8, n_9, n_10, n_12, n_13, n_14, n_20, n_31, n_32, n_63, n_64, n_600, n_1024, n_4096, n_6157, n_add, n_mul, nm_def, Option.bind_some, Option.some.injEq, ck_in, ck_nz, ck_p, n_cl, n_lt, n_le, n_eq, n_div, n_rem, if_pos, if_neg, if_true, if_false, eq_self, n_192, n_256, n_20000, m1_n0, m1_np, m1_n0p, m1_lt0, m1_lt0p, mi_setIA, mi_setI, ml_setIA, ml_setI, mr_setI, mr_setIA]) (fun fu2 i hi => by
      show pX7_keeps_79 F s.1 (nI p) (nI (sit G p)) (fu2 + 1) (nI i) = if _ then pX7_keeps_79 F s.1 (nI p) (nI (sit G p)) fu2 (nI (i + 1)) else _
      have hc := carr_lt hw hfit hP hp i
      have hcl := sit_le hw hpp
      have hti := hw.t hp hi
      have htc := hw.t hpp hc
      have g1 := hw.h4 hp
      have g2 := hw.h4 hpp
      have e1 : mi s.1 57 i = nI (carr G π p i) := by rw [b2 i (by rw [hsit]; exact hi), cw_carr]
      have e2 : pX2_told 1 s.1 (nI p) (nI i) = some (nI (Gt G p i)) := by
        rw [sX2_told s.1 1 hp6 (by omega), hG2.t hp hi]
      have e3 : pX2_told 1 s.1 (nI (π p)) (nI (carr G π p i)) = some (nI (Gt G (π p) (carr G π p i))) := by
        rw [sX2_told s.1 1 hpp6 (by omega), hG2.t hpp hc]
      rw [pX7_keeps_79]
      simp (disch := omega) only [n_0, n_1, n_2, n_3, n_4, n_5, n_6, n_7, n_8, n_9, n_10, n_12, n_13, n_14, n_20, n_31, n_32, n_63, n_64, n_600, n_1024, n_4096, n_6157, n_add, n_mul, nm_def, Option.bind_some, Option.some.injEq, ck_in, ck_nz, ck_p, n_cl, n_lt, n_le, n_eq, n_div, n_rem, if_pos, if_neg, if_true, if_false, eq_self, n_192, n_256, n_20000, m1_n0, m1_np, m1_n0p, m1_lt0, m1_lt0p, mi_setIA, mi_setI, ml_setIA, ml_setI, mr_setI, mr_setIA, e1, e2, hI3 p hp, e3]
      by_cases z : Gt G p i = Gt G (π p) (carr G π p i)
      · simp [z]
      · simp [z]) F (by omega)
    refine Eq.trans k2 ?_
    show (if keepP G π p = true then _ else _) = _
    cases keepP G π p <;> rfl) (fun fu s i hi hI2 => by
    obtain ⟨b1, b2, b3⟩ := hI2
    have hG2 := hG.agr b1 (by omega) (by omega) (by omega) (by omega)
    have e0 : mi s.1 1 0 = nI (Gn G) := hG2.1
    have hI3 := hI.agr b1 (by omega)
    have hi6 := hw_lt hw hi
    have hii := hP.1 i hi
    have hii6 := hw_lt hw hii
    have hl1 := pfac_le (q := i) hw hp (by omega)
    have hl2 := pfac_le (q := i + 1) hw hp (by omega)
    rw [pw, Nat.zero_add] at hl2
    cases hc : sees G p i
    · refine ⟨s, ⟨b1, fun y hy => ?_, ?_⟩, ?_⟩
      · rw [pw, Nat.zero_add, fac_f hc, Nat.mul_one] at hy
        rw [b2 y hy, cw, hc]
        rfl
      · rw [b3, pw, Nat.zero_add, fac_f hc, Nat.mul_one]
      · show pX7_keeps_11 F (nI p) (fu + 1) s.1 s.2 (nI i) = pX7_keeps_11 F (nI p) fu s.1 s.2 (nI (i + 1))
        rw [pX7_keeps_11]
        unfold pX7_keeps_71
        simp (disch := omega) only [n_0, n_1, n_2, n_3, n_4, n_5, n_6, n_7, n_8, n_9, n_10, n_12, n_13, n_14, n_20, n_31, n_32, n_63, n_64, n_600, n_1024, n_4096, n_6157, n_add, n_mul, nm_def, Option.bind_some, Option.some.injEq, ck_in, ck_nz, ck_p, n_cl, n_lt, n_le, n_eq, n_div, n_rem, if_pos, if_neg, if_true, if_false, eq_self, n_192, n_256, n_20000, m1_n0, m1_np, m1_n0p, m1_lt0, m1_lt0p, mi_setIA, mi_setI, ml_setIA, ml_setI, mr_setI, mr_setIA, e0, sX2_watches hG2 hw hp (show i < 32 by omega), hc, Bool.toNat_false]
    · rw [fac_t hc] at hl2
      have e1 := sX10_lengthen (r0 := 57) (F := F) (κ := s.1) (sz := pw (fac G p) 0 i) (h := Gh G i) (w := nI (wgt G (π p) (π i))) (by omega) (hw.h1 hi) (hw.h4 hi) hl2 (show (1024 : Nat) ≤ 4096 by decide) (by omega)
      refine ⟨(setIA s.1 57 (lenF (s.1.1 57) 0 (pw (fac G p) 0 i * Gh G i) (Gh G i) (nI (wgt G (π p) (π i)))), nI (pw (fac G p) 0 i * Gh G i)), ⟨agr_trans b1 (agr_setIA rfl), fun y hy => ?_, ?_⟩, ?_⟩
      · rw [pw, Nat.zero_add, fac_t hc] at hy
        rw [mi_setIA, if_pos rfl, lenF, if_pos ⟨Nat.zero_le _, hy⟩, cw, hc, if_pos rfl]
        have hd : y / Gh G i < pw (fac G p) 0 i := Nat.div_lt_of_lt_mul (by rw [Nat.mul_comm]; exact hy)
        have := b2 _ hd
        rw [show s.1.1 57 (y / Gh G i) = mi s.1 57 (y / Gh G i) from rfl, this]
        simp (disch := omega) only [n_0, n_1, n_2, n_3, n_4, n_5, n_6, n_7, n_8, n_9, n_10, n_12, n_13, n_14, n_20, n_31, n_32, n_63, n_64, n_600, n_1024, n_4096, n_6157, n_add, n_mul, nm_def, Option.bind_some, Option.some.injEq, ck_in, ck_nz, ck_p, n_cl, n_lt, n_le, n_eq, n_div, n_rem, if_pos, if_neg, if_true, if_false, eq_self, n_192, n_256, n_20000, m1_n0, m1_np, m1_n0p, m1_lt0, m1_lt0p, mi_setIA, mi_setI, ml_setIA, ml_setI, mr_setI, mr_setIA]
      · show nI _ = nI _
        rw [pw, Nat.zero_add, fac_t hc]
      · show pX7_keeps_11 F (nI p) (fu + 1) s.1 s.2 (nI i) = pX7_keeps_11 F (nI p) fu _ _ (nI (i + 1))
        have e2 := sX2_weight (F := F) hG2 hw (by omega) hpp hii
        rw [show (if sees G (π p) (π i) = true then wB G (π p) (π i + 1) else 0) = wgt G (π p) (π i) from rfl] at e2
        rw [pX7_keeps_11, b3]
        unfold pX7_keeps_71
        simp (disch := omega) only [n_0, n_1, n_2, n_3, n_4, n_5, n_6, n_7, n_8, n_9, n_10, n_12, n_13, n_14, n_20, n_31, n_32, n_63, n_64, n_600, n_1024, n_4096, n_6157, n_add, n_mul, nm_def, Option.bind_some, Option.some.injEq, ck_in, ck_nz, ck_p, n_cl, n_lt, n_le, n_eq, n_div, n_rem, if_pos, if_neg, if_true, if_false, eq_self, n_192, n_256, n_20000, m1_n0, m1_np, m1_n0p, m1_lt0, m1_lt0p, mi_setIA, mi_setI, ml_setIA, ml_setI, mr_setI, mr_setIA, e0, sX2_watches hG2 hw hp (show i < 32 by omega), hc, Bool.toNat_true, hI3 p hp, hI3 i hi, e2, hG2.h hi, e1]) F (setI κ 57 0 0, 1) 0 (Nat.zero_le _) (by omega) ⟨a0, fun y hy => by
      rw [pw] at hy
      have : y = 0 := by omega
      subst this
      rw [mi_setI, if_pos ⟨rfl, rfl⟩]
      rfl, rfl⟩
  obtain ⟨κ1, c1, c2⟩ := key
  refine ⟨κ1, c1, ?_⟩
  unfold pX7_keeps
  rw [show ckI 0 1024 = fun x => x from rfl]
  exact c2
theorem sX7_keepsAll (hG : XG κ 1 G) (hw : WF G) (hF : 6000 < F) (hI : IM κ G π) (hfit : fitB G π = true) (hP : Pm (Gn G) π ψ) : ∃ κ1, agr (fun k => k = 57) κ κ1 ∧ pX7_keepsAll F κ = some (nI (keepA G π).toNat, κ1) := by
  have hn := hw.n6
  unfold pX7_keepsAll
  obtain ⟨κ1, a1, a2⟩ := lp_allS (fun fu (s : Mem) i => pX7_keepsAll_2 F fu s (nI i)) (fun s => agr (fun k => k = 57) κ s) (keepP G π) (Gn G) (fun s => some ((1 : Int32), s)) (fun s => some ((0 : Int32), s)) (fun fu s hS => by
    have e0 : mi s 1 0 = nI (Gn G) := (hG.agr hS (by omega) (by omega) (by omega) (by omega)).1
    show pX7_keepsAll_2 F (fu + 1) s (nI (Gn G)) = _
    rw [pX7_keepsAll_2]
    simp (disch := omega) only [n_0, n_1, n_2, n_3, n_4, n_5, n_6, n_7, n_8, n_9, n_10, n_12, n_13, n_14, n_20, n_31, n_32, n_63, n_64, n_600, n_1024, n_4096, n_6157, n_add, n_mul, nm_def, Option.bind_some, Option.some.injEq, ck_in, ck_nz, ck_p, n_cl, n_lt, n_le, n_eq, n_div, n_rem, if_pos, if_neg, if_true, if_false, eq_self, n_192, n_256, n_20000, m1_n0, m1_np, m1_n0p, m1_lt0, m1_lt0p, mi_setIA, mi_setI, ml_setIA, ml_setI, mr_setI, mr_setIA, e0]) (fun fu s i hi hS => by
    have hG2 := hG.agr hS (by omega) (by omega) (by omega) (by omega)
    have e0 : mi s 1 0 = nI (Gn G) := hG2.1
    obtain ⟨s1, b1, b2⟩ := sX7_keeps (F := F) hG2 hw hF (hI.agr hS (by omega)) hfit hP hi
    refine ⟨s1, agr_trans hS b1, ?_⟩
    show pX7_keepsAll_2 F (fu + 1) s (nI i) = if _ then pX7_keepsAll_2 F fu s1 (nI (i + 1)) else _
    rw [pX7_keepsAll_2]
    simp (disch := omega) only [n_0, n_1, n_2, n_3, n_4, n_5, n_6, n_7, n_8, n_9, n_10, n_12, n_13, n_14, n_20, n_31, n_32, n_63, n_64, n_600, n_1024, n_4096, n_6157, n_add, n_mul, nm_def, Option.bind_some, Option.some.injEq, ck_in, ck_nz, ck_p, n_cl, n_lt, n_le, n_eq, n_div, n_rem, if_pos, if_neg, if_true, if_false, eq_self, n_192, n_256, n_20000, m1_n0, m1_np, m1_n0p, m1_lt0, m1_lt0p, mi_setIA, mi_setI, ml_setIA, ml_setI, mr_setI, mr_setIA, e0, b2]
    cases keepP G π i
    · simp (disch := omega) only [n_0, n_1, n_2, n_3, n_4, n_5, n_6, n_7, n_8, n_9, n_10, n_12, n_13, n_14, n_20, n_31, n_32, n_63, n_64, n_600, n_1024, n_4096, n_6157, n_add, n_mul, nm_def, Option.bind_some, Option.some.injEq, ck_in, ck_nz, ck_p, n_cl, n_lt, n_le, n_eq, n_div, n_rem, if_pos, if_neg, if_true, if_false, eq_self, n_192, n_256, n_20000, m1_n0, m1_np, m1_n0p, m1_lt0, m1_lt0p, mi_setIA, mi_setI, ml_setIA, ml_setI, mr_setI, mr_setIA, Bool.toNat_false]
      rfl
    · simp (disch := omega) only [n_0, n_1, n_2, n_3, n_4, n_5, n_6, n_7, n_8, n_9, n_10, n_12, n_13, n_14, n_20, n_31, n_32, n_63, n_64, n_600, n_1024, n_4096, n_6157, n_add, n_mul, nm_def, Option.bind_some, Option.some.injEq, ck_in, ck_nz, ck_p, n_cl, n_lt, n_le, n_eq, n_div, n_rem, if_pos, if_neg, if_true, if_false, eq_self, n_192, n_256, n_20000, m1_n0, m1_np, m1_n0p, m1_lt0, m1_lt0p, mi_setIA, mi_setI, ml_setIA, ml_setI, mr_setI, mr_setIA, Bool.toNat_true]) F κ (by omega) agr_rfl
  refine ⟨κ1, a1, Eq.trans a2 ?_⟩
  show (if keepA G π = true then _ else _) = _
  cases keepA G π <;> rfl
theorem sX7_stay (κ : Mem) (hF : 100 < F) : pX7_stay F κ = some (setIA κ 56 (wr (κ.1 56) 0 6 (fun i => nI i))) := by
  unfold pX7_stay
  refine lp_upE F (fun fu i => pX7_stay_2 F fu (setIA κ 56 (wr (κ.1 56) 0 i (fun i => nI i))) (nI i)) (0) (6) _ _ ?_ (fun fu => ?_) (fun fu i hi1 hi2 => ?_) (by omega) (by omega)
  · rw [setIA_wr0]
    rfl
  · show pX7_stay_2 F (fu + 1) (setIA κ 56 (wr (κ.1 56) 0 (6) (fun i => nI i))) (nI (6)) = _
    rw [pX7_stay_2]
    simp (disch := omega) only [n_0, n_1, n_2, n_3, n_4, n_5, n_6, n_7, n_8, n_9, n_10, n_12, n_13, n_14, n_20, n_31, n_32, n_63, n_64, n_600, n_1024, n_4096, n_6157, n_add, n_mul, nm_def, Option.bind_some, Option.some.injEq, ck_in, ck_nz, ck_p, n_cl, n_lt, n_le, n_eq, n_div, n_rem, if_pos, if_neg, if_true, if_false, eq_self, n_192, n_256, n_20000, m1_n0, m1_np, m1_n0p, m1_lt0, m1_lt0p, mi_setIA, mi_setI, ml_setIA, ml_setI, mr_setI, mr_setIA]
  · show pX7_stay_2 F (fu + 1) (setIA κ 56 (wr (κ.1 56) 0 i (fun i => nI i))) (nI i) = pX7_stay_2 F fu (setIA κ 56 (wr (κ.1 56) 0 (i + 1) (fun i => nI i))) (nI (i + 1))
    rw [pX7_stay_2]
    simp (disch := omega) only [n_0, n_1, n_2, n_3, n_4, n_5, n_6, n_7, n_8, n_9, n_10, n_12, n_13, n_14, n_20, n_31, n_32, n_63, n_64, n_600, n_1024, n_4096, n_6157, n_add, n_mul, nm_def, Option.bind_some, Option.some.injEq, ck_in, ck_nz, ck_p, n_cl, n_lt, n_le, n_eq, n_div, n_rem, if_pos, if_neg, if_true, if_false, eq_self, n_192, n_256, n_20000, m1_n0, m1_np, m1_n0p, m1_lt0, m1_lt0p, mi_setIA, mi_setI, ml_setIA, ml_setI, mr_setI, mr_setIA]
    rw [setI_wr_up (v := fun i => nI i) hi1 rfl]
theorem Pm_rn (hp : p < Gn G) (hq : q < Gn G) : Pm (Gn G) (rn p q) (rn p q) := ⟨fun i hi => rn_lt hp hq hi, fun i hi => ⟨rn_lt hp hq hi, rn_rn i, rn_rn i⟩⟩
theorem sX7_swapKeeps (hG : XG κ 1 G) (hw : WF G) (hF : 6000 < F) (hp : p < Gn G) (hq : q < Gn G) (hpq : p ≠ q) : ∃ κ1, agr (fun k => k = 56 ∨ k = 57) κ κ1 ∧ pX7_swapKeeps F κ (nI p) (nI q) = some (nI (fitB G (rn p q) && keepA G (rn p q)).toNat, κ1) := by
  have hp6 := hw_lt hw hp
  have hq6 := hw_lt hw hq
  obtain ⟨s, es⟩ : ∃ s, s = setI (setI (setIA κ 56 (wr (κ.1 56) 0 6 (fun i => nI i))) 56 p (nI q)) 56 q (nI p) := ⟨_, rfl⟩
  have hs : agr (fun k => k = 56 ∨ k = 57) κ s := by rw [es]; exact agr_trans (agr_setIA (Or.inl rfl)) (agr_trans (agr_setI (Or.inl rfl)) (agr_setI (Or.inl rfl)))
  have hI : IM s G (rn p q) := fun i hi => by
    have hi6 := hw_lt hw hi
    unfold rn
    rw [es, mi_setI]
    by_cases z1 : i = q
    · rw [if_pos ⟨rfl, z1⟩, if_neg (by omega), if_pos z1]
    · rw [if_neg (fun w => z1 w.2), mi_setI]
      by_cases z2 : i = p
      · rw [if_pos ⟨rfl, z2⟩, if_pos z2]
      · rw [if_neg (fun w => z2 w.2), if_neg z2, if_neg z1, mi_setIA, if_pos rfl, wr_in (Nat.zero_le _) hi6]
  have hG2 := hG.agr hs (by omega) (by omega) (by omega) (by omega)
  have hP := Pm_rn hp hq
  unfold pX7_swapKeeps pX7_swapKeeps_36 pX7_swapKeeps_37
  simp (disch := omega) only [n_0, n_1, n_2, n_3, n_4, n_5, n_6, n_7, n_8, n_9, n_10, n_12, n_13, n_14, n_20, n_31, n_32, n_63, n_64, n_600, n_1024, n_4096, n_6157, n_add, n_mul, nm_def, Option.bind_some, Option.some.injEq, ck_in, ck_nz, ck_p, n_cl, n_lt, n_le, n_eq, n_div, n_rem, if_pos, if_neg, if_true, if_false, eq_self, n_192, n_256, n_20000, m1_n0, m1_np, m1_n0p, m1_lt0, m1_lt0p, mi_setIA, mi_setI, ml_setIA, ml_setI, mr_setI, mr_setIA, sX7_stay κ (show 100 < F by omega), ← es, sX7_fits hG2 hw (show 100 < F by omega) hI hP.1]
  cases hf : fitB G (rn p q)
  · refine ⟨s, hs, ?_⟩
    simp (disch := omega) only [n_0, n_1, n_2, n_3, n_4, n_5, n_6, n_7, n_8, n_9, n_10, n_12, n_13, n_14, n_20, n_31, n_32, n_63, n_64, n_600, n_1024, n_4096, n_6157, n_add, n_mul, nm_def, Option.bind_some, Option.some.injEq, ck_in, ck_nz, ck_p, n_cl, n_lt, n_le, n_eq, n_div, n_rem, if_pos, if_neg, if_true, if_false, eq_self, n_192, n_256, n_20000, m1_n0, m1_np, m1_n0p, m1_lt0, m1_lt0p, mi_setIA, mi_setI, ml_setIA, ml_setI, mr_setI, mr_setIA, Bool.toNat_false]
    rfl
  · obtain ⟨κ1, a1, a2⟩ := sX7_keepsAll (F := F) hG2 hw hF hI hf hP
    refine ⟨κ1, agr_trans hs (agr_mono a1 (fun k hk => Or.inr hk)), ?_⟩
    simp (disch := omega) only [n_0, n_1, n_2, n_3, n_4, n_5, n_6, n_7, n_8, n_9, n_10, n_12, n_13, n_14, n_20, n_31, n_32, n_63, n_64, n_600, n_1024, n_4096, n_6157, n_add, n_mul, nm_def, Option.bind_some, Option.some.injEq, ck_in, ck_nz, ck_p, n_cl, n_lt, n_le, n_eq, n_div, n_rem, if_pos, if_neg, if_true, if_false, eq_self, n_192, n_256, n_20000, m1_n0, m1_np, m1_n0p, m1_lt0, m1_lt0p, mi_setIA, mi_setI, ml_setIA, ml_setI, mr_setI, mr_setIA, Bool.toNat_true, a2, Bool.true_and]
    cases keepA G (rn p q) <;> rfl
end RNX2
section RNY
variable {ρ ρ1 : Mem} {G : Gm} {F p q : Nat} {π ψ : Nat → Nat}
def IM9 (ρ : Mem) (G : Gm) (π : Nat → Nat) : Prop := ∀ p, p < Gn G → mi ρ 9 p = nI (π p)
theorem IM9.agr {S : Nat → Prop} (h : IM9 ρ G π) (ha : agr S ρ ρ1) (h0 : ¬ S 9) : IM9 ρ1 G π := fun p hp => (agr_mi ha h0 p).trans (h p hp)
theorem rX_isRenumbering (h : RG ρ 1 G) (hw : WF G) (hF : 100 < F) (hI : IM9 ρ G π) (hP : ∀ i, i < Gn G → π i < Gn G) : pX11_isRenumbering F ρ = some (nI (fitB G π).toNat) := by
  have hn := hw.n6
  unfold pX11_isRenumbering
  have key := lp_all (fun fu i => pX11_isRenumbering_2 F ρ fu (nI i)) (fun p => decide (Gh G p = Gh G (π p)) && alb (fun q => decide (sees G p q = sees G (π p) (π q))) (Gn G)) (Gn G) (some 1) (some 0) (fun fu => by
    show pX11_isRenumbering_2 F ρ (fu + 1) (nI (Gn G)) = _
    rw [pX11_isRenumbering_2, rX_players h]
    simp (disch := omega) only [n_0, n_1, n_2, n_3, n_4, n_5, n_6, n_7, n_8, n_9, n_10, n_12, n_13, n_14, n_20, n_31, n_32, n_63, n_64, n_600, n_1024, n_4096, n_6157, n_add, n_mul, nm_def, Option.bind_some, Option.some.injEq, ck_in, ck_nz, ck_p, n_cl, n_lt, n_le, n_eq, n_div, n_rem, if_pos, if_neg, if_true, if_false, eq_self, n_192, n_256, n_20000, m1_n0, m1_np, m1_n0p, m1_lt0, m1_lt0p, mi_setIA, mi_setI, ml_setIA, ml_setI, mr_setI, mr_setIA]) (fun fu p hp => by
    show pX11_isRenumbering_2 F ρ (fu + 1) (nI p) = if _ then pX11_isRenumbering_2 F ρ fu (nI (p + 1)) else _
    have hp6 := hw_lt hw hp
    have hpp := hP p hp
    have hpp6 := hw_lt hw hpp
    have h3 := hI p hp
    have h4 := hw.h4 hp
    have h5 := hw.h4 hpp
    have in1 := lp_all (fun fu2 q => pX11_isRenumbering_32 F ρ (pX11_isRenumbering_2 F ρ fu) (nI p) fu2 (nI q)) (fun q => decide (sees G p q = sees G (π p) (π q))) (Gn G) (pX11_isRenumbering_2 F ρ fu (nI (p + 1))) (some 0) (fun fu2 => by
      show pX11_isRenumbering_32 F ρ (pX11_isRenumbering_2 F ρ fu) (nI p) (fu2 + 1) (nI (Gn G)) = _
      rw [pX11_isRenumbering_32, rX_players h]
      simp (disch := omega) only [n_0, n_1, n_2, n_3, n_4, n_5, n_6, n_7, n_8, n_9, n_10, n_12, n_13, n_14, n_20, n_31, n_32, n_63, n_64, n_600, n_1024, n_4096, n_6157, n_add, n_mul, nm_def, Option.bind_some, Option.some.injEq, ck_in, ck_nz, ck_p, n_cl, n_lt, n_le, n_eq, n_div, n_rem, if_pos, if_neg, if_true, if_false, eq_self, n_192, n_256, n_20000, m1_n0, m1_np, m1_n0p, m1_lt0, m1_lt0p, mi_setIA, mi_setI, ml_setIA, ml_setI, mr_setI, mr_setIA]) (fun fu2 q hq => by
      show pX11_isRenumbering_32 F ρ (pX11_isRenumbering_2 F ρ fu) (nI p) (fu2 + 1) (nI q) = if _ then pX11_isRenumbering_32 F ρ (pX11_isRenumbering_2 F ρ fu) (nI p) fu2 (nI (q + 1)) else _
      have hq6 := hw_lt hw hq
      have hqq6 := hw_lt hw (hP q hq)
      rw [pX11_isRenumbering_32, rX_players h]
      simp (disch := omega) only [n_0, n_1, n_2, n_3, n_4, n_5, n_6, n_7, n_8, n_9, n_10, n_12, n_13, n_14, n_20, n_31, n_32, n_63, n_64, n_600, n_1024, n_4096, n_6157, n_add, n_mul, nm_def, Option.bind_some, Option.some.injEq, ck_in, ck_nz, ck_p, n_cl, n_lt, n_le, n_eq, n_div, n_rem, if_pos, if_neg, if_true, if_false, eq_self, n_192, n_256, n_20000, m1_n0, m1_np, m1_n0p, m1_lt0, m1_lt0p, mi_setIA, mi_setI, ml_setIA, ml_setI, mr_setI, mr_setIA, rX_sees h hw hp (show q < 32 by omega), h3, hI q hq, rX_sees h hw hpp (show π q < 32 by omega), b2n]
      by_cases z : sees G p q = sees G (π p) (π q)
      · simp [z]
      · simp [z]) F (by omega)
    rw [pX11_isRenumbering_2, rX_players h]
    simp (disch := omega) only [n_0, n_1, n_2, n_3, n_4, n_5, n_6, n_7, n_8, n_9, n_10, n_12, n_13, n_14, n_20, n_31, n_32, n_63, n_64, n_600, n_1024, n_4096, n_6157, n_add, n_mul, nm_def, Option.bind_some, Option.some.injEq, ck_in, ck_nz, ck_p, n_cl, n_lt, n_le, n_eq, n_div, n_rem, if_pos, if_neg, if_true, if_false, eq_self, n_192, n_256, n_20000, m1_n0, m1_np, m1_n0p, m1_lt0, m1_lt0p, mi_setIA, mi_setI, ml_setIA, ml_setI, mr_setI, mr_setIA, rX_hats h hw hp, h3, rX_hats h hw hpp]
    by_cases z : Gh G p = Gh G (π p)
    · rw [if_pos z, decide_eq_true z, Bool.true_and]
      exact in1
    · rw [if_neg z, decide_eq_false z]
      rfl) F (by omega)
  refine key.trans ?_
  show (if fitB G π = true then _ else _) = _
  cases fitB G π <;> rfl
def r579 (k : Nat) : Prop := k = 5 ∨ k = 7 ∨ k = 10
/-- one colouring -/
theorem rX_isKeeping_17 {k2 : Mem → Int32 → Option (Int32 × Mem)} {x : Nat} {v : Int32} (h : RG ρ 1 G) (hw : WF G) (hF : 100 < F) (hI : IM9 ρ G π) (hfit : fitB G π = true) (hP : Pm (Gn G) π ψ) (hL : LC5 ρ G (fun q => col G q x)) : ∃ ρ1, agr r579 ρ ρ1 ∧ pX11_isKeeping_17 F k2 v F ρ 0 = if alb (fun p => decide (Gt G (π p) (sO G (π p) (fun r => col G (ψ r) x)) = Gt G p (sOf G p x))) (Gn G) then k2 ρ1 (v + 1) else some (0, ρ1) := by
  have hn := hw.n6
  refine lp_inv (fun fu (s : Mem) i => pX11_isKeeping_17 F k2 v fu s (nI i)) (fun s i => agr (fun k => k = 7) ρ s ∧ ∀ p, p < i → mi s 7 p = nI (Gt G p (sOf G p x))) (Gn G) (fun y => ∃ ρ1, agr r579 ρ ρ1 ∧ y = if alb (fun p => decide (Gt G (π p) (sO G (π p) (fun r => col G (ψ r) x)) = Gt G p (sOf G p x))) (Gn G) then k2 ρ1 (v + 1) else some (0, ρ1)) (fun fu s hI2 => ?_) (fun fu s i hi hI2 => ?_) F ρ 0 (Nat.zero_le _) (by omega) ⟨agr_rfl, fun p hp => absurd hp (Nat.not_lt_zero _)⟩
  · obtain ⟨b1, b2⟩ := hI2
    have e0 := rX_players (h.agr b1 (by omega))
    show ∃ ρ1, _ ∧ pX11_isKeeping_17 F k2 v (fu + 1) s (nI (Gn G)) = _
    rw [pX11_isKeeping_17, e0]
    simp (disch := omega) only [n_0, n_1, n_2, n_3, n_4, n_5, n_6, n_7, n_8, n_9, n_10, n_12, n_13, n_14, n_20, n_31, n_32, n_63, n_64, n_600, n_1024, n_4096, n_6157, n_add, n_mul, nm_def, Option.bind_some, Option.some.injEq, ck_in, ck_nz, ck_p, n_cl, n_lt, n_le, n_eq, n_div, n_rem, if_pos, if_neg, if_true, if_false, eq_self, n_192, n_256, n_20000, m1_n0, m1_np, m1_n0p, m1_lt0, m1_lt0p, mi_setIA, mi_setI, ml_setIA, ml_setI, mr_setI, mr_setIA]
    refine lp_inv (fun fu (s2 : Mem) i => pX11_isKeeping_49 F k2 v fu s2 (nI i)) (fun s2 i => agr (fun k => k = 10) s s2 ∧ ∀ j, j < i → mi s2 10 (π j) = nI (col G j x)) (Gn G) (fun y => ∃ ρ1, agr r579 ρ ρ1 ∧ y = if alb (fun p => decide (Gt G (π p) (sO G (π p) (fun r => col G (ψ r) x)) = Gt G p (sOf G p x))) (Gn G) then k2 ρ1 (v + 1) else some (0, ρ1)) (fun fu s2 hI3 => ?_) (fun fu s2 i hi hI3 => ?_) F s 0 (Nat.zero_le _) (by omega) ⟨agr_rfl, fun p hp => absurd hp (Nat.not_lt_zero _)⟩
    · obtain ⟨c1, c2⟩ := hI3
      have e1 : pX11_players s2 = some (nI (Gn G)) := rX_players ((h.agr b1 (by omega)).agr c1 (by omega))
      show ∃ ρ1, _ ∧ pX11_isKeeping_49 F k2 v (fu + 1) s2 (nI (Gn G)) = _
      rw [pX11_isKeeping_49, e1]
      simp (disch := omega) only [n_0, n_1, n_2, n_3, n_4, n_5, n_6, n_7, n_8, n_9, n_10, n_12, n_13, n_14, n_20, n_31, n_32, n_63, n_64, n_600, n_1024, n_4096, n_6157, n_add, n_mul, nm_def, Option.bind_some, Option.some.injEq, ck_in, ck_nz, ck_p, n_cl, n_lt, n_le, n_eq, n_div, n_rem, if_pos, if_neg, if_true, if_false, eq_self, n_192, n_256, n_20000, m1_n0, m1_np, m1_n0p, m1_lt0, m1_lt0p, mi_setIA, mi_setI, ml_setIA, ml_setI, mr_setI, mr_setIA]
      refine lp_inv (fun fu (s3 : Mem) i => pX11_isKeeping_82 F k2 v fu s3 (nI i)) (fun s3 i => agr (fun k => k = 5) s2 s3 ∧ ∀ j, j < i → mi s3 5 j = mi s2 10 j) (Gn G) (fun y => ∃ ρ1, agr r579 ρ ρ1 ∧ y = if alb (fun p => decide (Gt G (π p) (sO G (π p) (fun r => col G (ψ r) x)) = Gt G p (sOf G p x))) (Gn G) then k2 ρ1 (v + 1) else some (0, ρ1)) (fun fu s3 hI4 => ?_) (fun fu s3 i hi hI4 => ?_) F s2 0 (Nat.zero_le _) (by omega) ⟨agr_rfl, fun p hp => absurd hp (Nat.not_lt_zero _)⟩
      · obtain ⟨d1, d2⟩ := hI4
        have q3 : agr r579 ρ s3 := agr_trans (agr_mono b1 (fun k hk => Or.inr (Or.inl hk))) (agr_trans (agr_mono c1 (fun k hk => Or.inr (Or.inr hk))) (agr_mono d1 (fun k hk => Or.inl hk)))
        have hR3 := h.agr q3 (by unfold r579; omega)
        have hI9 := hI.agr q3 (by unfold r579; omega)
        have hL3 : LC5 s3 G (fun r => col G (ψ r) x) := fun r hr => by
          rw [d2 r hr]
          have := c2 (ψ r) (hP.2 r hr).1
          rw [(hP.2 r hr).2.2] at this
          exact this
        refine ⟨s3, q3, ?_⟩
        show pX11_isKeeping_82 F k2 v (fu + 1) s3 (nI (Gn G)) = _
        rw [pX11_isKeeping_82, rX_players hR3]
        simp (disch := omega) only [n_0, n_1, n_2, n_3, n_4, n_5, n_6, n_7, n_8, n_9, n_10, n_12, n_13, n_14, n_20, n_31, n_32, n_63, n_64, n_600, n_1024, n_4096, n_6157, n_add, n_mul, nm_def, Option.bind_some, Option.some.injEq, ck_in, ck_nz, ck_p, n_cl, n_lt, n_le, n_eq, n_div, n_rem, if_pos, if_neg, if_true, if_false, eq_self, n_192, n_256, n_20000, m1_n0, m1_np, m1_n0p, m1_lt0, m1_lt0p, mi_setIA, mi_setI, ml_setIA, ml_setI, mr_setI, mr_setIA]
        exact lp_all (fun fu i => pX11_isKeeping_110 F k2 s3 v fu (nI i)) (fun p => decide (Gt G (π p) (sO G (π p) (fun r => col G (ψ r) x)) = Gt G p (sOf G p x))) (Gn G) _ _ (fun fu => by
          show pX11_isKeeping_110 F k2 s3 v (fu + 1) (nI (Gn G)) = _
          rw [pX11_isKeeping_110, rX_players hR3]
          simp (disch := omega) only [n_0, n_1, n_2, n_3, n_4, n_5, n_6, n_7, n_8, n_9, n_10, n_12, n_13, n_14, n_20, n_31, n_32, n_63, n_64, n_600, n_1024, n_4096, n_6157, n_add, n_mul, nm_def, Option.bind_some, Option.some.injEq, ck_in, ck_nz, ck_p, n_cl, n_lt, n_le, n_eq, n_div, n_rem, if_pos, if_neg, if_true, if_false, eq_self, n_192, n_256, n_20000, m1_n0, m1_np, m1_n0p, m1_lt0, m1_lt0p, mi_setIA, mi_setI, ml_setIA, ml_setI, mr_setI, mr_setIA]) (fun fu p hp => by
          show pX11_isKeeping_110 F k2 s3 v (fu + 1) (nI p) = if _ then pX11_isKeeping_110 F k2 s3 v fu (nI (p + 1)) else _
          have hp6 := hw_lt hw hp
          have hpp := hP.1 p hp
          have g1 := rX_situationOf (F := F) hR3 hw (by omega) hpp hL3
          have hlt : sO G (π p) (fun r => col G (ψ r) x) < sit G (π p) := sO_lt hw (fun r hr => by
            have h2 := fitB_h hfit (hP.2 r hr).1
            rw [(hP.2 r hr).2.2] at h2
            rw [← h2]
            exact col_lt hw (hP.2 r hr).1)
          have g2 := rX_entry hR3 hw hpp hlt
          have g3 : mi s3 7 p = nI (Gt G p (sOf G p x)) := by
            rw [agr_mi d1 (by omega), agr_mi c1 (by omega)]
            exact b2 p hp
          have g4 := hw.t hpp hlt
          have g5 := hw.t hp (sOf_lt (x := x) hw)
          have g6 := hw.h4 hp
          have g7 := hw.h4 hpp
          rw [pX11_isKeeping_110, rX_players hR3]
          simp (disch := omega) only [n_0, n_1, n_2, n_3, n_4, n_5, n_6, n_7, n_8, n_9, n_10, n_12, n_13, n_14, n_20, n_31, n_32, n_63, n_64, n_600, n_1024, n_4096, n_6157, n_add, n_mul, nm_def, Option.bind_some, Option.some.injEq, ck_in, ck_nz, ck_p, n_cl, n_lt, n_le, n_eq, n_div, n_rem, if_pos, if_neg, if_true, if_false, eq_self, n_192, n_256, n_20000, m1_n0, m1_np, m1_n0p, m1_lt0, m1_lt0p, mi_setIA, mi_setI, ml_setIA, ml_setI, mr_setI, mr_setIA, hI9 p hp, g1, g2, g3]
          by_cases z : Gt G (π p) (sO G (π p) (fun r => col G (ψ r) x)) = Gt G p (sOf G p x)
          · simp [z]
          · simp [z]) F (by omega)
      · obtain ⟨d1, d2⟩ := hI4
        have e2 : pX11_players s3 = some (nI (Gn G)) := rX_players (((h.agr b1 (by omega)).agr c1 (by omega)).agr d1 (by omega))
        have e3 : mi s3 10 i = mi s2 10 i := agr_mi d1 (by omega) i
        refine ⟨setI s3 5 i (mi s2 10 i), ⟨agr_trans d1 (agr_setI rfl), fun j hj => ?_⟩, ?_⟩
        · rw [mi_setI]
          by_cases z : j = i
          · rw [if_pos ⟨rfl, z⟩, z]
          · rw [if_neg (fun w => z w.2)]
            exact d2 j (by omega)
        · show pX11_isKeeping_82 F k2 v (fu + 1) s3 (nI i) = _
          rw [pX11_isKeeping_82, e2]
          simp (disch := omega) only [n_0, n_1, n_2, n_3, n_4, n_5, n_6, n_7, n_8, n_9, n_10, n_12, n_13, n_14, n_20, n_31, n_32, n_63, n_64, n_600, n_1024, n_4096, n_6157, n_add, n_mul, nm_def, Option.bind_some, Option.some.injEq, ck_in, ck_nz, ck_p, n_cl, n_lt, n_le, n_eq, n_div, n_rem, if_pos, if_neg, if_true, if_false, eq_self, n_192, n_256, n_20000, m1_n0, m1_np, m1_n0p, m1_lt0, m1_lt0p, mi_setIA, mi_setI, ml_setIA, ml_setI, mr_setI, mr_setIA, e3]
    · obtain ⟨c1, c2⟩ := hI3
      have q2 : agr r579 ρ s2 := agr_trans (agr_mono b1 (fun k hk => Or.inr (Or.inl hk))) (agr_mono c1 (fun k hk => Or.inr (Or.inr hk)))
      have e1 : pX11_players s2 = some (nI (Gn G)) := rX_players (h.agr q2 (by unfold r579; omega))
      have e2 := hI.agr q2 (by unfold r579; omega) i hi
      have e3 : mi s2 5 i = nI (col G i x) := by
        rw [agr_mi c1 (by omega), agr_mi b1 (by omega)]
        exact hL i hi
      have hi6 : i < 6 := by omega
      have hpi := hw_lt hw (hP.1 i hi)
      refine ⟨setI s2 10 (π i) (nI (col G i x)), ⟨agr_trans c1 (agr_setI rfl), fun j hj => ?_⟩, ?_⟩
      · rw [mi_setI]
        by_cases z : π j = π i
        · have : j = i := by
            have h1 := (hP.2 j (by omega)).2.1
            rw [z, (hP.2 i hi).2.1] at h1
            exact h1.symm
          rw [if_pos ⟨rfl, z⟩, this]
        · rw [if_neg (fun w => z w.2)]
          exact c2 j (by
            have : j ≠ i := fun w => z (by rw [w])
            omega)
      · show pX11_isKeeping_49 F k2 v (fu + 1) s2 (nI i) = _
        rw [pX11_isKeeping_49, e1]
        simp (disch := omega) only [n_0, n_1, n_2, n_3, n_4, n_5, n_6, n_7, n_8, n_9, n_10, n_12, n_13, n_14, n_20, n_31, n_32, n_63, n_64, n_600, n_1024, n_4096, n_6157, n_add, n_mul, nm_def, Option.bind_some, Option.some.injEq, ck_in, ck_nz, ck_p, n_cl, n_lt, n_le, n_eq, n_div, n_rem, if_pos, if_neg, if_true, if_false, eq_self, n_192, n_256, n_20000, m1_n0, m1_np, m1_n0p, m1_lt0, m1_lt0p, mi_setIA, mi_setI, ml_setIA, ml_setI, mr_setI, mr_setIA, e2, e3]
  · obtain ⟨b1, b2⟩ := hI2
    have hR2 := h.agr b1 (by omega)
    have hL2 : LC5 s G (fun q => col G q x) := fun q hq => (agr_mi b1 (by omega) q).trans (hL q hq)
    have hi6 : i < 6 := by omega
    refine ⟨setI s 7 i (nI (Gt G i (sOf G i x))), ⟨agr_trans b1 (agr_setI rfl), fun j hj => ?_⟩, ?_⟩
    · rw [mi_setI]
      by_cases z : j = i
      · rw [if_pos ⟨rfl, z⟩, z]
      · rw [if_neg (fun w => z w.2)]
        exact b2 j (by omega)
    · show pX11_isKeeping_17 F k2 v (fu + 1) s (nI i) = _
      have g1 := rX_situationOf (F := F) hR2 hw (by omega) hi hL2
      rw [sO_col] at g1
      have g2 := rX_entry hR2 hw hi (sOf_lt (x := x) hw)
      rw [pX11_isKeeping_17, rX_players hR2]
      simp (disch := omega) only [n_0, n_1, n_2, n_3, n_4, n_5, n_6, n_7, n_8, n_9, n_10, n_12, n_13, n_14, n_20, n_31, n_32, n_63, n_64, n_600, n_1024, n_4096, n_6157, n_add, n_mul, nm_def, Option.bind_some, Option.some.injEq, ck_in, ck_nz, ck_p, n_cl, n_lt, n_le, n_eq, n_div, n_rem, if_pos, if_neg, if_true, if_false, eq_self, n_192, n_256, n_20000, m1_n0, m1_np, m1_n0p, m1_lt0, m1_lt0p, mi_setIA, mi_setI, ml_setIA, ml_setI, mr_setI, mr_setIA, g1, g2]
theorem rX_isKeeping (h : RG ρ 1 G) (hw : WF G) (hF : 5000 < F) (hI : IM9 ρ G π) (hfit : fitB G π = true) (hP : Pm (Gn G) π ψ) : ∃ ρ1, agr r579 ρ ρ1 ∧ pX11_isKeeping F ρ = some (nI (keepA G π).toNat, ρ1) := by
  have hcl := ncol_le hw
  rw [keep_eq hw hfit hP]
  unfold pX11_isKeeping
  obtain ⟨ρ1, a1, a2⟩ := lp_allS (fun fu (s : Mem) i => pX11_isKeeping_2 F fu s (nI i)) (fun s => agr r579 ρ s) (fun x => alb (fun p => decide (Gt G (π p) (sO G (π p) (fun r => col G (ψ r) x)) = Gt G p (sOf G p x))) (Gn G)) (ncol G) (fun s => some ((1 : Int32), s)) (fun s => some ((0 : Int32), s)) (fun fu s hS => by
    have hR := h.agr hS (by unfold r579; omega)
    show pX11_isKeeping_2 F (fu + 1) s (nI (ncol G)) = _
    rw [pX11_isKeeping_2, rX_colourings hR hw (by omega)]
    simp (disch := omega) only [n_0, n_1, n_2, n_3, n_4, n_5, n_6, n_7, n_8, n_9, n_10, n_12, n_13, n_14, n_20, n_31, n_32, n_63, n_64, n_600, n_1024, n_4096, n_6157, n_add, n_mul, nm_def, Option.bind_some, Option.some.injEq, ck_in, ck_nz, ck_p, n_cl, n_lt, n_le, n_eq, n_div, n_rem, if_pos, if_neg, if_true, if_false, eq_self, n_192, n_256, n_20000, m1_n0, m1_np, m1_n0p, m1_lt0, m1_lt0p, mi_setIA, mi_setI, ml_setIA, ml_setI, mr_setI, mr_setIA]) (fun fu s i hi hS => by
    have hR := h.agr hS (by unfold r579; omega)
    have e1 := rX_lays (x := i) hR hw (show 100 < F by omega) (by omega)
    have b0 : agr r579 s (setIA s 5 (wr (s.1 5) 0 (Gn G) (fun p => nI (col G p i)))) := agr_setIA (Or.inl rfl)
    have hR2 := hR.agr b0 (by unfold r579; omega)
    obtain ⟨s1, b1, b2⟩ := rX_isKeeping_17 (F := F) (k2 := pX11_isKeeping_2 F fu) (v := nI i) hR2 hw (by omega) ((hI.agr hS (by unfold r579; omega)).agr b0 (by unfold r579; omega)) hfit hP (LC5_lays s i)
    refine ⟨s1, agr_trans hS (agr_trans b0 b1), ?_⟩
    show pX11_isKeeping_2 F (fu + 1) s (nI i) = if _ then pX11_isKeeping_2 F fu s1 (nI (i + 1)) else _
    rw [pX11_isKeeping_2, rX_colourings hR hw (by omega)]
    simp (disch := omega) only [n_0, n_1, n_2, n_3, n_4, n_5, n_6, n_7, n_8, n_9, n_10, n_12, n_13, n_14, n_20, n_31, n_32, n_63, n_64, n_600, n_1024, n_4096, n_6157, n_add, n_mul, nm_def, Option.bind_some, Option.some.injEq, ck_in, ck_nz, ck_p, n_cl, n_lt, n_le, n_eq, n_div, n_rem, if_pos, if_neg, if_true, if_false, eq_self, n_192, n_256, n_20000, m1_n0, m1_np, m1_n0p, m1_lt0, m1_lt0p, mi_setIA, mi_setI, ml_setIA, ml_setI, mr_setI, mr_setIA, e1]
    rw [← n_add i 1]
    exact b2) F ρ (by omega) agr_rfl
  refine ⟨ρ1, a1, Eq.trans a2 ?_⟩
  show (if keepR G π ψ = true then _ else _) = _
  cases keepR G π ψ <;> rfl
theorem rX_alike_17 (h : RG ρ 1 G) (hw : WF G) (hF : 5000 < F) (hp : p < Gn G) (hq : q < Gn G) : ∃ ρ1, agr (fun k => k = 9 ∨ r579 k) ρ ρ1 ∧ pX11_alike_17 F (nI p) (nI q) F ρ 0 = some (nI (fitB G (rn p q) && keepA G (rn p q)).toNat, ρ1) := by
  have hn := hw.n6
  have hp6 := hw_lt hw hp
  have hq6 := hw_lt hw hq
  have hP := Pm_rn hp hq
  refine lp_inv (fun fu (s : Mem) i => pX11_alike_17 F (nI p) (nI q) fu s (nI i)) (fun s i => agr (fun k => k = 9) ρ s ∧ ∀ j, j < i → mi s 9 j = nI (rn p q j)) (Gn G) (fun y => ∃ ρ1, agr (fun k => k = 9 ∨ r579 k) ρ ρ1 ∧ y = some (nI (fitB G (rn p q) && keepA G (rn p q)).toNat, ρ1)) (fun fu s hI2 => ?_) (fun fu s i hi hI2 => ?_) F ρ 0 (Nat.zero_le _) (by omega) ⟨agr_rfl, fun p hp => absurd hp (Nat.not_lt_zero _)⟩
  · obtain ⟨b1, b2⟩ := hI2
    have hR := h.agr b1 (by omega)
    have hI : IM9 s G (rn p q) := b2
    show ∃ ρ1, _ ∧ pX11_alike_17 F (nI p) (nI q) (fu + 1) s (nI (Gn G)) = _
    rw [pX11_alike_17, rX_players hR]
    unfold pX11_alike_74 pX11_alike_75
    simp (disch := omega) only [n_0, n_1, n_2, n_3, n_4, n_5, n_6, n_7, n_8, n_9, n_10, n_12, n_13, n_14, n_20, n_31, n_32, n_63, n_64, n_600, n_1024, n_4096, n_6157, n_add, n_mul, nm_def, Option.bind_some, Option.some.injEq, ck_in, ck_nz, ck_p, n_cl, n_lt, n_le, n_eq, n_div, n_rem, if_pos, if_neg, if_true, if_false, eq_self, n_192, n_256, n_20000, m1_n0, m1_np, m1_n0p, m1_lt0, m1_lt0p, mi_setIA, mi_setI, ml_setIA, ml_setI, mr_setI, mr_setIA, rX_isRenumbering hR hw (show 100 < F by omega) hI hP.1]
    cases hf : fitB G (rn p q)
    · refine ⟨s, agr_mono b1 (fun k hk => Or.inl hk), ?_⟩
      simp (disch := omega) only [n_0, n_1, n_2, n_3, n_4, n_5, n_6, n_7, n_8, n_9, n_10, n_12, n_13, n_14, n_20, n_31, n_32, n_63, n_64, n_600, n_1024, n_4096, n_6157, n_add, n_mul, nm_def, Option.bind_some, Option.some.injEq, ck_in, ck_nz, ck_p, n_cl, n_lt, n_le, n_eq, n_div, n_rem, if_pos, if_neg, if_true, if_false, eq_self, n_192, n_256, n_20000, m1_n0, m1_np, m1_n0p, m1_lt0, m1_lt0p, mi_setIA, mi_setI, ml_setIA, ml_setI, mr_setI, mr_setIA, Bool.toNat_false]
      rfl
    · obtain ⟨ρ1, a1, a2⟩ := rX_isKeeping (F := F) hR hw hF hI hf hP
      refine ⟨ρ1, agr_trans (agr_mono b1 (fun k hk => Or.inl hk)) (agr_mono a1 (fun k hk => Or.inr hk)), ?_⟩
      simp (disch := omega) only [n_0, n_1, n_2, n_3, n_4, n_5, n_6, n_7, n_8, n_9, n_10, n_12, n_13, n_14, n_20, n_31, n_32, n_63, n_64, n_600, n_1024, n_4096, n_6157, n_add, n_mul, nm_def, Option.bind_some, Option.some.injEq, ck_in, ck_nz, ck_p, n_cl, n_lt, n_le, n_eq, n_div, n_rem, if_pos, if_neg, if_true, if_false, eq_self, n_192, n_256, n_20000, m1_n0, m1_np, m1_n0p, m1_lt0, m1_lt0p, mi_setIA, mi_setI, ml_setIA, ml_setI, mr_setI, mr_setIA, Bool.toNat_true, a2, Bool.true_and]
      cases keepA G (rn p q) <;> rfl
  · obtain ⟨b1, b2⟩ := hI2
    have hR := h.agr b1 (by omega)
    have hi6 : i < 6 := by omega
    refine ⟨setI s 9 i (nI (rn p q i)), ⟨agr_trans b1 (agr_setI rfl), fun j hj => ?_⟩, ?_⟩
    · rw [mi_setI]
      by_cases z : j = i
      · rw [if_pos ⟨rfl, z⟩, z]
      · rw [if_neg (fun w => z w.2)]
        exact b2 j (by omega)
    · show pX11_alike_17 F (nI p) (nI q) (fu + 1) s (nI i) = _
      rw [pX11_alike_17, rX_players hR]
      unfold pX11_alike_49 rn
      by_cases z1 : i = p
      · simp (disch := omega) only [n_0, n_1, n_2, n_3, n_4, n_5, n_6, n_7, n_8, n_9, n_10, n_12, n_13, n_14, n_20, n_31, n_32, n_63, n_64, n_600, n_1024, n_4096, n_6157, n_add, n_mul, nm_def, Option.bind_some, Option.some.injEq, ck_in, ck_nz, ck_p, n_cl, n_lt, n_le, n_eq, n_div, n_rem, if_pos, if_neg, if_true, if_false, eq_self, n_192, n_256, n_20000, m1_n0, m1_np, m1_n0p, m1_lt0, m1_lt0p, mi_setIA, mi_setI, ml_setIA, ml_setI, mr_setI, mr_setIA, z1]
      · by_cases z2 : i = q
        · rw [if_neg z1, if_pos z2]
          have z3 : ¬ q = p := fun w => z1 (z2.trans w)
          simp (disch := omega) only [n_0, n_1, n_2, n_3, n_4, n_5, n_6, n_7, n_8, n_9, n_10, n_12, n_13, n_14, n_20, n_31, n_32, n_63, n_64, n_600, n_1024, n_4096, n_6157, n_add, n_mul, nm_def, Option.bind_some, Option.some.injEq, ck_in, ck_nz, ck_p, n_cl, n_lt, n_le, n_eq, n_div, n_rem, if_pos, if_neg, if_true, if_false, eq_self, n_192, n_256, n_20000, m1_n0, m1_np, m1_n0p, m1_lt0, m1_lt0p, mi_setIA, mi_setI, ml_setIA, ml_setI, mr_setI, mr_setIA, z2, z3]
        · simp (disch := omega) only [n_0, n_1, n_2, n_3, n_4, n_5, n_6, n_7, n_8, n_9, n_10, n_12, n_13, n_14, n_20, n_31, n_32, n_63, n_64, n_600, n_1024, n_4096, n_6157, n_add, n_mul, nm_def, Option.bind_some, Option.some.injEq, ck_in, ck_nz, ck_p, n_cl, n_lt, n_le, n_eq, n_div, n_rem, if_pos, if_neg, if_true, if_false, eq_self, n_192, n_256, n_20000, m1_n0, m1_np, m1_n0p, m1_lt0, m1_lt0p, mi_setIA, mi_setI, ml_setIA, ml_setI, mr_setI, mr_setIA, z1, z2]
end RNY
section CG
variable {κ ρ : Mem} {G : Gm} {H : Nat → Gm} {m F p q : Nat}
theorem c_alike (h : IV G H m κ ρ) (hF : 50000 < F) (a b : Int32) : Res (pX10_alike F κ a b) (pX11_alike F ρ a b) := by
  have hw := h.W
  have hn := hw.n6
  unfold pX10_alike pX11_alike pX10_alike_35
  rw [x_pairTrouble h.A hw, rX_whyPair h.R hw]
  by_cases c1 : ag a < Gn G ∧ ag b < Gn G
  · obtain ⟨p, hp, rfl, e1⟩ := ply hw c1.1
    obtain ⟨q, hq, rfl, e2⟩ := ply hw c1.2
    have ep : prT G (nI p) (nI q) = if p = q then 4 else 0 := by
      unfold prT
      rw [if_pos c1, e1, e2]
    rw [ep]
    by_cases c3 : p = q
    · rw [if_pos c3]
      simp only [x_give, x_refuse, rX_refuse, rX_is0, rX_is1, rX_is2, rX_is3, rX_is4, rX_is5, rX_is7, nBt, nBf, o10, Bool.not_true, Bool.not_false, if_true, if_false, eq_self, Option.bind_some, show (nI 4 = (0 : Int32)) = False from by decide, show nI 4 = 4 from rfl]
      exact res_no h agr_rfl agr_rfl
    · rw [if_neg c3]
      obtain ⟨κ1, a1, a2⟩ := sX7_swapKeeps (F := F) h.A.1 hw (by omega) hp hq c3
      obtain ⟨ρ1, b1, b2⟩ := rX_alike_17 (F := F) (R0 h (k := 0)) hw (by omega) hp hq
      simp only [x_give, x_refuse, rX_refuse, rX_is0, rX_is1, rX_is2, rX_is3, rX_is4, rX_is5, rX_is7, nBt, nBf, o10, Bool.not_true, Bool.not_false, if_true, if_false, eq_self, Option.bind_some, show (nI 0 = (0 : Int32)) = True from eq_true rfl, show nI 0 = 0 from rfl, a2, b2]
      have k1 : agr scX κ κ1 := agr_mono a1 (fun k hk => by unfold scX; omega)
      have k2 : agr scR (st0 ρ 0) ρ1 := agr_mono b1 (fun k hk => by unfold scR; unfold r579 at hk; omega)
      cases (fitB G (rn p q) && keepA G (rn p q))
      · simp only [x_give, x_refuse, rX_refuse, rX_is0, rX_is1, rX_is2, rX_is3, rX_is4, rX_is5, rX_is7, nBt, nBf, o10, Bool.not_true, Bool.not_false, if_true, if_false, eq_self, Option.bind_some]
        exact res_ok h k1 k2
      · simp only [x_give, x_refuse, rX_refuse, rX_is0, rX_is1, rX_is2, rX_is3, rX_is4, rX_is5, rX_is7, nBt, nBf, o10, Bool.not_true, Bool.not_false, if_true, if_false, eq_self, Option.bind_some]
        exact res_ok h k1 k2
  · have ep : prT G a b = 2 := if_neg c1
    rw [ep]
    simp only [x_give, x_refuse, rX_refuse, rX_is0, rX_is1, rX_is2, rX_is3, rX_is4, rX_is5, rX_is7, nBt, nBf, o10, Bool.not_true, Bool.not_false, if_true, if_false, eq_self, Option.bind_some, show (nI 2 = (0 : Int32)) = False from by decide, show nI 2 = 2 from rfl]
    exact res_no h agr_rfl agr_rfl
end CG
