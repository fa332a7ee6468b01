/-! THE REFERENCE: what is asked of who is right -/
theorem predI_le {a b : Nat} (ha : a < 2147483648) (hb : b < 2147483648) : (predI a ≤ predI b) = (a ≤ b) := by
  apply propext
  have e0 : (predI 0).toInt = -1 := by decide
  have e1 : ∀ k, k + 1 < 2147483648 → (predI (k + 1)).toInt = (k : Int) := fun k hk => by
    rw [predI_s, nI_toInt (by omega)]
  rw [Int32.le_iff_toInt_le]
  cases a with
  | zero =>
    cases b with
    | zero => simp
    | succ b => rw [e0, e1 b hb]; omega
  | succ a =>
    cases b with
    | zero => rw [e0, e1 a ha]; omega
    | succ b => rw [e1 a ha, e1 b hb]; omega
theorem predI_lt0 {a : Nat} (ha : a < 2147483648) : (predI a < nI 0) = (a = 0) := by
  cases a with
  | zero => rw [m1_lt0]; simp
  | succ a => rw [predI_s, n_neg (by omega)]; simp
theorem predI_m1 {a : Nat} (ha : a < 2147483648) : (predI a = (-1 : Int32)) = (a = 0) := by
  cases a with
  | zero => simp [predI]
  | succ a => rw [predI_s, n_nem1 (by omega)]; simp
theorem nI_ne_p0 {a : Nat} (ha : a < 2147483648) : (nI a = predI 0) = False := n_nem1 ha
section R4
variable {ρ : Mem} {G : Gm} {F p q x c : Nat}
theorem rB_lost1 (h : RG ρ 1 G) (hw : WF G) (hF : 5000 < F) (hr : RR ρ G) : pX11_lost_27 F ρ (-1) F 0 0 = some (nI (lst G), ρ) := by
  have hc := ncol_le hw
  unfold lst
  refine lp_upE F (fun fu i => pX11_lost_27 F ρ (-1) fu (nI (cnt (fun x => decide (rgt G x = 0)) i)) (nI i)) (0) (ncol G) _ _ rfl (fun fu => ?_) (fun fu i hi1 hi2 => ?_) (by omega) (by omega)
  · show pX11_lost_27 F ρ (-1) (fu + 1) (nI (cnt (fun x => decide (rgt G x = 0)) (ncol G))) (nI (ncol G)) = _
    rw [pX11_lost_27, rX_colourings h hw (by omega)]
    unfold pX11_lost_77
    simp (disch := omega) only [n_0, n_1, n_2, n_3, n_4, n_5, n_6, n_7, n_8, n_9, n_10, n_12, n_13, n_14, n_20, n_31, n_32, n_63, n_64, n_600, n_1024, n_4096, n_6157, n_add, n_mul, nm_def, Option.bind_some, Option.some.injEq, ck_in, ck_nz, ck_p, n_cl, n_lt, n_le, n_eq, n_div, n_rem, if_pos, if_neg, if_true, if_false, eq_self, n_192, n_256, n_20000, m1_n0, m1_np, m1_n0p, m1_lt0, m1_lt0p, mi_setIA, mi_setI, ml_setIA, ml_setI, mr_setI, mr_setIA]
  · show pX11_lost_27 F ρ (-1) (fu + 1) (nI (cnt (fun x => decide (rgt G x = 0)) i)) (nI i) = pX11_lost_27 F ρ (-1) fu (nI (cnt (fun x => decide (rgt G x = 0)) (i + 1))) (nI (i + 1))
    have e1 := hr i hi2
    have e2 := rgt_lt (x := i) hw
    have e3 := cnt_le (fun x => decide (rgt G x = 0)) i
    rw [pX11_lost_27, rX_colourings h hw (by omega)]
    unfold pX11_lost_57
    simp (disch := omega) only [n_0, n_1, n_2, n_3, n_4, n_5, n_6, n_7, n_8, n_9, n_10, n_12, n_13, n_14, n_20, n_31, n_32, n_63, n_64, n_600, n_1024, n_4096, n_6157, n_add, n_mul, nm_def, Option.bind_some, Option.some.injEq, ck_in, ck_nz, ck_p, n_cl, n_lt, n_le, n_eq, n_div, n_rem, if_pos, if_neg, if_true, if_false, eq_self, n_192, n_256, n_20000, m1_n0, m1_np, m1_n0p, m1_lt0, m1_lt0p, mi_setIA, mi_setI, ml_setIA, ml_setI, mr_setI, mr_setIA, e1, cnt_s, nI_ne_p0]
    by_cases z : rgt G i = 0
    · simp [z]
    · simp [z]
theorem rB_lost2 {k : Nat} (h : RG ρ 1 G) (hw : WF G) (hF : 5000 < F) (hr : RR ρ G) (hk : k < 2147483648) : pX11_lost_27 F ρ (nI k) F 0 0 = if fnd (lstK G k) (ncol G) < ncol G then some (nI (fnd (lstK G k) (ncol G)), ρ) else some (-1, setI ρ 0 0 5) := by
  have hc := ncol_le hw
  refine lp_fst F (fun fu i => pX11_lost_27 F ρ (nI k) fu (nI (cnt (fun x => decide (rgt G x = 0)) i)) (nI i)) (lstK G k) (ncol G) (fun i => some (nI i, ρ)) _ _ rfl (fun fu => ?_) (fun fu i hi => ?_) (by omega)
  · show pX11_lost_27 F ρ (nI k) (fu + 1) _ (nI (ncol G)) = _
    rw [pX11_lost_27, rX_colourings h hw (by omega), rX_refuse]
    unfold pX11_lost_77
    simp (disch := omega) only [n_0, n_1, n_2, n_3, n_4, n_5, n_6, n_7, n_8, n_9, n_10, n_12, n_13, n_14, n_20, n_31, n_32, n_63, n_64, n_600, n_1024, n_4096, n_6157, n_add, n_mul, nm_def, Option.bind_some, Option.some.injEq, ck_in, ck_nz, ck_p, n_cl, n_lt, n_le, n_eq, n_div, n_rem, if_pos, if_neg, if_true, if_false, eq_self, n_192, n_256, n_20000, m1_n0, m1_np, m1_n0p, m1_lt0, m1_lt0p, mi_setIA, mi_setI, ml_setIA, ml_setI, mr_setI, mr_setIA, nI_ne_p0]
  · show pX11_lost_27 F ρ (nI k) (fu + 1) _ (nI i) = if lstK G k i then _ else pX11_lost_27 F ρ (nI k) fu (nI (cnt (fun x => decide (rgt G x = 0)) (i + 1))) (nI (i + 1))
    have e1 := hr i hi
    have e2 := rgt_lt (x := i) hw
    have e3 := cnt_le (fun x => decide (rgt G x = 0)) i
    rw [pX11_lost_27, rX_colourings h hw (by omega)]
    unfold pX11_lost_57 lstK
    simp (disch := omega) only [n_0, n_1, n_2, n_3, n_4, n_5, n_6, n_7, n_8, n_9, n_10, n_12, n_13, n_14, n_20, n_31, n_32, n_63, n_64, n_600, n_1024, n_4096, n_6157, n_add, n_mul, nm_def, Option.bind_some, Option.some.injEq, ck_in, ck_nz, ck_p, n_cl, n_lt, n_le, n_eq, n_div, n_rem, if_pos, if_neg, if_true, if_false, eq_self, n_192, n_256, n_20000, m1_n0, m1_np, m1_n0p, m1_lt0, m1_lt0p, mi_setIA, mi_setI, ml_setIA, ml_setI, mr_setI, mr_setIA, e1]
    by_cases z : rgt G i = 0
    · by_cases z2 : cnt (fun x => decide (rgt G x = 0)) i = k
      · simp [z, z2]
      · simp [z, z2, cnt_s]
    · simp [z, cnt_s]
theorem rB_rightOf {m m2 : Nat} (h : RG ρ 1 G) (hw : WF G) (hF : 5000 < F) (hm : m < 64) (hm2 : m2 < 64) : ∃ ρ1, agr r56 ρ ρ1 ∧ pX11_rightOf F ρ (nI m) (nI m2) = some (nI (cnt (fun x => decide (m ≤ pc (rgt G x)) && decide (pc (rgt G x) ≤ m2)) (ncol G)), ρ1) := by
  obtain ⟨ρ1, a1, hr, a3⟩ := rX_laysRight h hw hF
  have hR : RG ρ1 1 G := h.agr a1 (by unfold r56; omega)
  have hc := ncol_le hw
  refine ⟨ρ1, a1, ?_⟩
  unfold pX11_rightOf
  rw [a3, Option.bind_some]
  refine lp_upE F (fun fu i => pX11_rightOf_9 F ρ1 (nI m) (nI m2) fu (nI (cnt (fun x => decide (m ≤ pc (rgt G x)) && decide (pc (rgt G x) ≤ m2)) i)) (nI i)) (0) (ncol G) _ _ rfl (fun fu => ?_) (fun fu i hi1 hi2 => ?_) (by omega) (by omega)
  · show pX11_rightOf_9 F ρ1 (nI m) (nI m2) (fu + 1) (nI (cnt (fun x => decide (m ≤ pc (rgt G x)) && decide (pc (rgt G x) ≤ m2)) (ncol G))) (nI (ncol G)) = _
    rw [pX11_rightOf_9, rX_colourings hR hw (by omega)]
    simp (disch := omega) only [n_0, n_1, n_2, n_3, n_4, n_5, n_6, n_7, n_8, n_9, n_10, n_12, n_13, n_14, n_20, n_31, n_32, n_63, n_64, n_600, n_1024, n_4096, n_6157, n_add, n_mul, nm_def, Option.bind_some, Option.some.injEq, ck_in, ck_nz, ck_p, n_cl, n_lt, n_le, n_eq, n_div, n_rem, if_pos, if_neg, if_true, if_false, eq_self, n_192, n_256, n_20000, m1_n0, m1_np, m1_n0p, m1_lt0, m1_lt0p, mi_setIA, mi_setI, ml_setIA, ml_setI, mr_setI, mr_setIA]
  · show pX11_rightOf_9 F ρ1 (nI m) (nI m2) (fu + 1) (nI (cnt (fun x => decide (m ≤ pc (rgt G x)) && decide (pc (rgt G x) ≤ m2)) i)) (nI i) = pX11_rightOf_9 F ρ1 (nI m) (nI m2) fu (nI (cnt (fun x => decide (m ≤ pc (rgt G x)) && decide (pc (rgt G x) ≤ m2)) (i + 1))) (nI (i + 1))
    have e1 := hr i hi2
    have e2 := rgt_lt (x := i) hw
    have e3 := pc_le (rgt G i)
    rw [pX11_rightOf_9, rX_colourings hR hw (by omega)]
    unfold pX11_rightOf_45
    simp (disch := omega) only [n_0, n_1, n_2, n_3, n_4, n_5, n_6, n_7, n_8, n_9, n_10, n_12, n_13, n_14, n_20, n_31, n_32, n_63, n_64, n_600, n_1024, n_4096, n_6157, n_add, n_mul, nm_def, Option.bind_some, Option.some.injEq, ck_in, ck_nz, ck_p, n_cl, n_lt, n_le, n_eq, n_div, n_rem, if_pos, if_neg, if_true, if_false, eq_self, n_192, n_256, n_20000, m1_n0, m1_np, m1_n0p, m1_lt0, m1_lt0p, mi_setIA, mi_setI, ml_setIA, ml_setI, mr_setI, mr_setIA, e1, rX_ones ρ1, cnt_s]
    rw [rX_inK ρ1 _ (show m < 2147483648 by omega) (show m2 < 2147483648 by omega), ag_nI (by omega), Option.bind_some]
    by_cases z : m ≤ pc (rgt G i)
    · by_cases z2 : pc (rgt G i) ≤ m2
      · simp [z, z2, n_eq]
      · simp [z, z2]
    · simp [z]
theorem rB_alone (h : RG ρ 1 G) (hw : WF G) (hF : 5000 < F) (hr : RR ρ G) (hp : p < Gn G) : pX11_alone_30 F ρ (nI p) F 0 0 = some (nI (cnt (fun x => decide (rgt G x = 2 ^ p)) (ncol G)), ρ) := by
  have hc := ncol_le hw
  have hp6 := hw_lt hw hp
  have h64 : 2 ^ p ≤ 64 := pow_le_64 (by omega)
  refine lp_upE F (fun fu i => pX11_alone_30 F ρ (nI p) fu (nI (cnt (fun x => decide (rgt G x = 2 ^ p)) i)) (nI i)) (0) (ncol G) _ _ rfl (fun fu => ?_) (fun fu i hi1 hi2 => ?_) (by omega) (by omega)
  · show pX11_alone_30 F ρ (nI p) (fu + 1) (nI (cnt (fun x => decide (rgt G x = 2 ^ p)) (ncol G))) (nI (ncol G)) = _
    rw [pX11_alone_30, rX_colourings h hw (by omega)]
    simp (disch := omega) only [n_0, n_1, n_2, n_3, n_4, n_5, n_6, n_7, n_8, n_9, n_10, n_12, n_13, n_14, n_20, n_31, n_32, n_63, n_64, n_600, n_1024, n_4096, n_6157, n_add, n_mul, nm_def, Option.bind_some, Option.some.injEq, ck_in, ck_nz, ck_p, n_cl, n_lt, n_le, n_eq, n_div, n_rem, if_pos, if_neg, if_true, if_false, eq_self, n_192, n_256, n_20000, m1_n0, m1_np, m1_n0p, m1_lt0, m1_lt0p, mi_setIA, mi_setI, ml_setIA, ml_setI, mr_setI, mr_setIA]
  · show pX11_alone_30 F ρ (nI p) (fu + 1) (nI (cnt (fun x => decide (rgt G x = 2 ^ p)) i)) (nI i) = pX11_alone_30 F ρ (nI p) fu (nI (cnt (fun x => decide (rgt G x = 2 ^ p)) (i + 1))) (nI (i + 1))
    have e1 := hr i hi2
    have e2 := rgt_lt (x := i) hw
    rw [pX11_alone_30, rX_colourings h hw (by omega)]
    unfold pX11_alone_56
    simp (disch := omega) only [n_0, n_1, n_2, n_3, n_4, n_5, n_6, n_7, n_8, n_9, n_10, n_12, n_13, n_14, n_20, n_31, n_32, n_63, n_64, n_600, n_1024, n_4096, n_6157, n_add, n_mul, nm_def, Option.bind_some, Option.some.injEq, ck_in, ck_nz, ck_p, n_cl, n_lt, n_le, n_eq, n_div, n_rem, if_pos, if_neg, if_true, if_false, eq_self, n_192, n_256, n_20000, m1_n0, m1_np, m1_n0p, m1_lt0, m1_lt0p, mi_setIA, mi_setI, ml_setIA, ml_setI, mr_setI, mr_setIA, e1, cnt_s, n_shl1]
    by_cases z : rgt G i = 2 ^ p
    · simp [z]
    · simp [z]
theorem rB_both (h : RG ρ 1 G) (hw : WF G) (hF : 5000 < F) (hr : RR ρ G) (hp : p < 6) (hq : q < 6) : pX11_both_24 F ρ (nI p) (nI q) F 0 0 = some (nI (cnt (fun x => (rgt G x).testBit p && (rgt G x).testBit q) (ncol G)), ρ) := by
  have hc := ncol_le hw
  refine lp_upE F (fun fu i => pX11_both_24 F ρ (nI p) (nI q) fu (nI (cnt (fun x => (rgt G x).testBit p && (rgt G x).testBit q) i)) (nI i)) (0) (ncol G) _ _ rfl (fun fu => ?_) (fun fu i hi1 hi2 => ?_) (by omega) (by omega)
  · show pX11_both_24 F ρ (nI p) (nI q) (fu + 1) (nI (cnt (fun x => (rgt G x).testBit p && (rgt G x).testBit q) (ncol G))) (nI (ncol G)) = _
    rw [pX11_both_24, rX_colourings h hw (by omega)]
    simp (disch := omega) only [n_0, n_1, n_2, n_3, n_4, n_5, n_6, n_7, n_8, n_9, n_10, n_12, n_13, n_14, n_20, n_31, n_32, n_63, n_64, n_600, n_1024, n_4096, n_6157, n_add, n_mul, nm_def, Option.bind_some, Option.some.injEq, ck_in, ck_nz, ck_p, n_cl, n_lt, n_le, n_eq, n_div, n_rem, if_pos, if_neg, if_true, if_false, eq_self, n_192, n_256, n_20000, m1_n0, m1_np, m1_n0p, m1_lt0, m1_lt0p, mi_setIA, mi_setI, ml_setIA, ml_setI, mr_setI, mr_setIA]
  · show pX11_both_24 F ρ (nI p) (nI q) (fu + 1) (nI (cnt (fun x => (rgt G x).testBit p && (rgt G x).testBit q) i)) (nI i) = pX11_both_24 F ρ (nI p) (nI q) fu (nI (cnt (fun x => (rgt G x).testBit p && (rgt G x).testBit q) (i + 1))) (nI (i + 1))
    have e1 := hr i hi2
    have e2 := rgt_lt (x := i) hw
    rw [pX11_both_24, rX_colourings h hw (by omega)]
    unfold pX11_both_66 pX11_both_67
    simp (disch := omega) only [n_0, n_1, n_2, n_3, n_4, n_5, n_6, n_7, n_8, n_9, n_10, n_12, n_13, n_14, n_20, n_31, n_32, n_63, n_64, n_600, n_1024, n_4096, n_6157, n_add, n_mul, nm_def, Option.bind_some, Option.some.injEq, ck_in, ck_nz, ck_p, n_cl, n_lt, n_le, n_eq, n_div, n_rem, if_pos, if_neg, if_true, if_false, eq_self, n_192, n_256, n_20000, m1_n0, m1_np, m1_n0p, m1_lt0, m1_lt0p, mi_setIA, mi_setI, ml_setIA, ml_setI, mr_setI, mr_setIA, e1, cnt_s, rX_has]
    cases (rgt G i).testBit p
    · simp only [Bool.false_and, Bool.toNat_false, Nat.add_zero, if_true]
    · cases (rgt G i).testBit q
      · simp (disch := omega) only [n_0, n_1, n_2, n_3, n_4, n_5, n_6, n_7, n_8, n_9, n_10, n_12, n_13, n_14, n_20, n_31, n_32, n_63, n_64, n_600, n_1024, n_4096, n_6157, n_add, n_mul, nm_def, Option.bind_some, Option.some.injEq, ck_in, ck_nz, ck_p, n_cl, n_lt, n_le, n_eq, n_div, n_rem, if_pos, if_neg, if_true, if_false, eq_self, n_192, n_256, n_20000, m1_n0, m1_np, m1_n0p, m1_lt0, m1_lt0p, mi_setIA, mi_setI, ml_setIA, ml_setI, mr_setI, mr_setIA, Bool.true_and, Bool.toNat_true, Bool.toNat_false]
      · simp (disch := omega) only [n_0, n_1, n_2, n_3, n_4, n_5, n_6, n_7, n_8, n_9, n_10, n_12, n_13, n_14, n_20, n_31, n_32, n_63, n_64, n_600, n_1024, n_4096, n_6157, n_add, n_mul, nm_def, Option.bind_some, Option.some.injEq, ck_in, ck_nz, ck_p, n_cl, n_lt, n_le, n_eq, n_div, n_rem, if_pos, if_neg, if_true, if_false, eq_self, n_192, n_256, n_20000, m1_n0, m1_np, m1_n0p, m1_lt0, m1_lt0p, mi_setIA, mi_setI, ml_setIA, ml_setI, mr_setI, mr_setIA, Bool.true_and, Bool.toNat_true]
theorem both_set : ∀ w, w < 64 → ∀ p, p < 6 → ∀ q, q < 6 → decide (w &&& (2 ^ p ||| 2 ^ q) = 2 ^ p ||| 2 ^ q) = (w.testBit p && w.testBit q) := by decide +kernel
theorem rB_together {u : Nat} (h : RG ρ 1 G) (hw : WF G) (hF : 5000 < F) (hr : RR ρ G) (hu : u < 2147483648) : pX11_together_30 F ρ (nI u) F 0 0 = some (nI (cnt (fun x => decide (rgt G x &&& u = u)) (ncol G)), ρ) := by
  have hc := ncol_le hw
  refine lp_upE F (fun fu i => pX11_together_30 F ρ (nI u) fu (nI (cnt (fun x => decide (rgt G x &&& u = u)) i)) (nI i)) (0) (ncol G) _ _ rfl (fun fu => ?_) (fun fu i hi1 hi2 => ?_) (by omega) (by omega)
  · show pX11_together_30 F ρ (nI u) (fu + 1) (nI (cnt (fun x => decide (rgt G x &&& u = u)) (ncol G))) (nI (ncol G)) = _
    rw [pX11_together_30, rX_colourings h hw (by omega)]
    simp (disch := omega) only [n_0, n_1, n_2, n_3, n_4, n_5, n_6, n_7, n_8, n_9, n_10, n_12, n_13, n_14, n_20, n_31, n_32, n_63, n_64, n_600, n_1024, n_4096, n_6157, n_add, n_mul, nm_def, Option.bind_some, Option.some.injEq, ck_in, ck_nz, ck_p, n_cl, n_lt, n_le, n_eq, n_div, n_rem, if_pos, if_neg, if_true, if_false, eq_self, n_192, n_256, n_20000, m1_n0, m1_np, m1_n0p, m1_lt0, m1_lt0p, mi_setIA, mi_setI, ml_setIA, ml_setI, mr_setI, mr_setIA]
  · show pX11_together_30 F ρ (nI u) (fu + 1) (nI (cnt (fun x => decide (rgt G x &&& u = u)) i)) (nI i) = pX11_together_30 F ρ (nI u) fu (nI (cnt (fun x => decide (rgt G x &&& u = u)) (i + 1))) (nI (i + 1))
    have e1 := hr i hi2
    have hb : rgt G i &&& u ≤ u := Nat.and_le_right
    rw [pX11_together_30, rX_colourings h hw (by omega)]
    unfold pX11_together_56
    simp (disch := omega) only [n_0, n_1, n_2, n_3, n_4, n_5, n_6, n_7, n_8, n_9, n_10, n_12, n_13, n_14, n_20, n_31, n_32, n_63, n_64, n_600, n_1024, n_4096, n_6157, n_add, n_mul, nm_def, Option.bind_some, Option.some.injEq, ck_in, ck_nz, ck_p, n_cl, n_lt, n_le, n_eq, n_div, n_rem, if_pos, if_neg, if_true, if_false, eq_self, n_192, n_256, n_20000, m1_n0, m1_np, m1_n0p, m1_lt0, m1_lt0p, mi_setIA, mi_setI, ml_setIA, ml_setI, mr_setI, mr_setIA, e1, cnt_s, n_and]
    by_cases z : rgt G i &&& u = u
    · simp [z]
    · simp [z]
/-- the greatest crowd, as it is found going along: where first, how often -/
def crw (f : Nat → Nat) : Nat → Nat × Nat
  | 0 => (0, 0)
  | i + 1 => (if f (crw f i).1 < f i then i else (crw f i).1, if f (crw f i).1 < f i then 1 else if f i = f (crw f i).1 then (crw f i).2 + 1 else (crw f i).2)
theorem crw_le (f : Nat → Nat) : ∀ i, (crw f i).1 ≤ i - 1 ∧ (crw f i).2 ≤ i
  | 0 => ⟨Nat.le_refl _, Nat.le_refl _⟩
  | i + 1 => by
    have := crw_le f i
    rw [crw]
    constructor
    · show (if f (crw f i).1 < f i then i else (crw f i).1) ≤ _
      split <;> omega
    · show (if f (crw f i).1 < f i then 1 else if f i = f (crw f i).1 then (crw f i).2 + 1 else (crw f i).2) ≤ _
      split
      · omega
      · split <;> omega
theorem crw_ok (f : Nat → Nat) : ∀ i, 0 < i → f (crw f i).1 = mx f i ∧ (crw f i).1 = fnd (fun x => decide (f x = mx f i)) i ∧ (crw f i).2 = cnt (fun x => decide (f x = mx f i)) i
  | 0, h => by omega
  | i + 1, _ => by
    rcases Nat.eq_zero_or_pos i with z | z
    · subst z
      have e : mx f 1 = f 0 := by
        rw [mx, mx]; split <;> omega
      rw [crw, crw, if_neg (Nat.lt_irrefl _), if_neg (Nat.lt_irrefl _), if_pos rfl, e]
      simp [fnd, cnt]
    · obtain ⟨h1, h2, h3⟩ := crw_ok f i z
      have hge : ∀ j, j < i → f j ≤ mx f i := fun j hj => mx_ge f hj
      rw [crw, h1]
      by_cases c : mx f i < f i
      · have e : mx f (i + 1) = f i := by rw [mx, if_pos c]
        rw [if_pos c, if_pos c, e]
        refine ⟨rfl, ?_, ?_⟩
        · show i = _
          rw [fnd_eq (i := i) (by simp) (fun j hj => by have := hge j hj; simp; omega) (Nat.lt_succ_self i)]
        · show 1 = _
          rw [cnt_s, cnt_zero (fun j hj => by have := hge j hj; simp; omega)]
          simp
      · have e : mx f (i + 1) = mx f i := by rw [mx, if_neg c]
        rw [if_neg c, if_neg c, e]
        refine ⟨h1, ?_, ?_⟩
        · show (crw f i).1 = _
          have hl : (crw f i).1 < i := by have := (crw_le f i).1; omega
          rw [fnd, ← h2, if_pos hl]
        · show (if f i = mx f i then (crw f i).2 + 1 else (crw f i).2) = _
          rw [cnt_s, ← h3]
          by_cases d : f i = mx f i
          · simp [d]
          · simp [d]
theorem rB_crowd {w : Nat} (h : RG ρ 1 G) (hw : WF G) (hF : 5000 < F) (hr : RR ρ G) (h0 : Gn G ≠ 0) (hw2 : w ≤ 2) : pX11_crowd_48 F ρ (nI w) F 0 0 0 = some (nI (if w = 0 then pc (rgt G (crw (fun x => pc (rgt G x)) (ncol G)).1) else if w = 1 then (crw (fun x => pc (rgt G x)) (ncol G)).1 else (crw (fun x => pc (rgt G x)) (ncol G)).2), ρ) := by
  have hc := ncol_le hw
  have hc0 := ncol_pos hw h0
  have hcr := crw_le (fun x => pc (rgt G x))
  refine lp_upE F (fun fu i => pX11_crowd_48 F ρ (nI w) fu (nI (crw (fun x => pc (rgt G x)) i).1) (nI (crw (fun x => pc (rgt G x)) i).2) (nI i)) (0) (ncol G) _ _ rfl (fun fu => ?_) (fun fu i hi1 hi2 => ?_) (by omega) (by omega)
  · show pX11_crowd_48 F ρ (nI w) (fu + 1) (nI (crw (fun x => pc (rgt G x)) (ncol G)).1) (nI (crw (fun x => pc (rgt G x)) (ncol G)).2) (nI (ncol G)) = _
    have e0 := hcr (ncol G)
    have e1 := hr (crw (fun x => pc (rgt G x)) (ncol G)).1 (by omega)
    have e2 := rgt_lt (x := (crw (fun x => pc (rgt G x)) (ncol G)).1) hw
    rw [pX11_crowd_48, rX_colourings h hw (by omega)]
    unfold pX11_crowd_152
    simp (disch := omega) only [n_0, n_1, n_2, n_3, n_4, n_5, n_6, n_7, n_8, n_9, n_10, n_12, n_13, n_14, n_20, n_31, n_32, n_63, n_64, n_600, n_1024, n_4096, n_6157, n_add, n_mul, nm_def, Option.bind_some, Option.some.injEq, ck_in, ck_nz, ck_p, n_cl, n_lt, n_le, n_eq, n_div, n_rem, if_pos, if_neg, if_true, if_false, eq_self, n_192, n_256, n_20000, m1_n0, m1_np, m1_n0p, m1_lt0, m1_lt0p, mi_setIA, mi_setI, ml_setIA, ml_setI, mr_setI, mr_setIA, e1, rX_ones ρ]
    by_cases z : w = 0
    · simp only [z, if_true]
    · by_cases z2 : w = 1
      · simp [z2]
      · simp [z, z2]
  · show pX11_crowd_48 F ρ (nI w) (fu + 1) (nI (crw (fun x => pc (rgt G x)) i).1) (nI (crw (fun x => pc (rgt G x)) i).2) (nI i) = pX11_crowd_48 F ρ (nI w) fu (nI (crw (fun x => pc (rgt G x)) (i + 1)).1) (nI (crw (fun x => pc (rgt G x)) (i + 1)).2) (nI (i + 1))
    have e0 := hcr i
    have e1 := hr i hi2
    have e2 := hr (crw (fun x => pc (rgt G x)) i).1 (by omega)
    have e3 := rgt_lt (x := i) hw
    have e4 := rgt_lt (x := (crw (fun x => pc (rgt G x)) i).1) hw
    have e5 := pc_le (rgt G i)
    have e6 := pc_le (rgt G (crw (fun x => pc (rgt G x)) i).1)
    rw [pX11_crowd_48, rX_colourings h hw (by omega)]
    unfold pX11_crowd_105 pX11_crowd_119
    simp (disch := omega) only [n_0, n_1, n_2, n_3, n_4, n_5, n_6, n_7, n_8, n_9, n_10, n_12, n_13, n_14, n_20, n_31, n_32, n_63, n_64, n_600, n_1024, n_4096, n_6157, n_add, n_mul, nm_def, Option.bind_some, Option.some.injEq, ck_in, ck_nz, ck_p, n_cl, n_lt, n_le, n_eq, n_div, n_rem, if_pos, if_neg, if_true, if_false, eq_self, n_192, n_256, n_20000, m1_n0, m1_np, m1_n0p, m1_lt0, m1_lt0p, mi_setIA, mi_setI, ml_setIA, ml_setI, mr_setI, mr_setIA, e1, e2, rX_ones ρ, crw]
    by_cases z : pc (rgt G i) ≤ pc (rgt G (crw (fun x => pc (rgt G x)) i).1)
    · have z3 : ¬ pc (rgt G (crw (fun x => pc (rgt G x)) i).1) < pc (rgt G i) := by omega
      by_cases z2 : pc (rgt G i) = pc (rgt G (crw (fun x => pc (rgt G x)) i).1)
      · simp only [z, z2, z3, if_true, if_false, Nat.le_refl, Nat.lt_irrefl]
      · simp only [z, z2, z3, if_true, if_false]
    · have z3 : pc (rgt G (crw (fun x => pc (rgt G x)) i).1) < pc (rgt G i) := by omega
      simp only [z, z3, if_true, if_false]
end R4
