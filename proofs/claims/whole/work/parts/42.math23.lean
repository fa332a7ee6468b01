/-! NETWORKS: what both sides find by their loops -/
theorem ex10 (P : Nat → Bool) (n : Nat) : (if fnd P n < n then some (nI 0) else some (nI 1) : Option Int32) = some (nI (!exb P n).toNat) := by
  rw [exb_fnd]
  by_cases c : fnd P n < n
  · rw [if_pos c, decide_eq_true c]; rfl
  · rw [if_neg c, decide_eq_false c]; rfl
/-- the greatest by some measure, looked for from below -/
def grt (f : Nat → Nat) (P : Nat → Bool) : Nat → Nat
  | 0 => 0
  | i + 1 => if 1 ≤ i ∧ f (grt f P i) < f i ∧ P i = true then i else grt f P i
theorem grt_le (f : Nat → Nat) (P : Nat → Bool) : ∀ i, grt f P i ≤ i - 1
  | 0 => Nat.le_refl _
  | i + 1 => by
    have := grt_le f P i
    rw [grt]; split <;> omega
section NL
variable {κ ρ : Mem} {G : Gm} {F p q u r : Nat}
def bli (G : Gm) (u : Nat) : Bool := !exb (fun p => u.testBit p && !decide (Gs G p &&& u = 0)) (Gn G)
def clq (G : Gm) (u : Nat) : Bool := !exb (fun p => u.testBit p && !decide ((Gs G p ||| 2 ^ p) &&& u = u)) (Gn G)
def twl (G : Gm) (u : Nat) : Nat := sm (fun p => if u.testBit p then 12 / Gh G p else 0) (Gn G)
theorem twl_le (u : Nat) (hw : WF G) : twl G u ≤ 72 := by
  have hn := hw.n6
  have h1 : twl G u ≤ sm (fun _ => 12) (Gn G) := sm_le (fun i hi => by
    split
    · exact Nat.div_le_self _ _
    · omega)
  rw [sm_const] at h1
  have h2 : Gn G * 12 ≤ 6 * 12 := Nat.mul_le_mul_right 12 hn
  omega
theorem sX4_every (h : AR κ G) (hw : WF G) : pX4_everybody κ = some (nI (2 ^ Gn G - 1)) := by
  have hn := hw.n6
  have h1 := Nat.two_pow_pos (Gn G)
  unfold pX4_everybody
  rw [h.n]
  simp (disch := omega) only [n_0, n_1, n_2, n_3, n_4, n_5, n_6, n_7, n_8, n_9, n_10, n_12, n_13, n_14, n_20, n_31, n_32, n_63, n_64, n_600, n_1024, n_4096, n_6157, n_add, n_mul, nm_def, Option.bind_some, Option.some.injEq, ck_in, ck_nz, ck_p, n_cl, n_lt, n_le, n_eq, n_div, n_rem, if_pos, if_neg, if_true, if_false, eq_self, n_192, n_256, n_20000, m1_n0, m1_np, m1_n0p, m1_lt0, m1_lt0p, mi_setIA, mi_setI, ml_setIA, ml_setI, mr_setI, mr_setIA, n_shl1, n_sub]
theorem bit01 (b : Bool) : (nI b.toNat = nI 1) = (b = true) := by cases b <;> simp [n_eq]
theorem sX4_blind1 (h : AR κ G) (hw : WF G) (hF : 100 < F) (hu : u < 64) : pX4_seesNoneOfItself F κ (nI u) = some (nI (bli G u).toNat) := by
  have hn := hw.n6
  unfold bli
  rw [← ex10]
  unfold pX4_seesNoneOfItself
  refine lp_fst F (fun fu i => pX4_seesNoneOfItself_2 F κ (nI u) fu (nI i)) (fun p => u.testBit p && !decide (Gs G p &&& u = 0)) (Gn G) (fun i => some (nI 0)) _ _ rfl (fun fu => ?_) (fun fu i hi => ?_) (by omega)
  · show pX4_seesNoneOfItself_2 F κ (nI u) (fu + 1) (nI (Gn G)) = _
    rw [pX4_seesNoneOfItself_2, h.n]
    simp (disch := omega) only [n_0, n_1, n_2, n_3, n_4, n_5, n_6, n_7, n_8, n_9, n_10, n_12, n_13, n_14, n_20, n_31, n_32, n_63, n_64, n_600, n_1024, n_4096, n_6157, n_add, n_mul, nm_def, Option.bind_some, Option.some.injEq, ck_in, ck_nz, ck_p, n_cl, n_lt, n_le, n_eq, n_div, n_rem, if_pos, if_neg, if_true, if_false, eq_self, n_192, n_256, n_20000, m1_n0, m1_np, m1_n0p, m1_lt0, m1_lt0p, mi_setIA, mi_setI, ml_setIA, ml_setI, mr_setI, mr_setIA]
  · show pX4_seesNoneOfItself_2 F κ (nI u) (fu + 1) (nI i) = if u.testBit i && !decide (Gs G i &&& u = 0) then some (nI 0) else pX4_seesNoneOfItself_2 F κ (nI u) fu (nI (i + 1))
    have hb : Gs G i &&& u ≤ u := Nat.and_le_right
    rw [pX4_seesNoneOfItself_2, h.n]
    unfold pX4_seesNoneOfItself_38
    simp (disch := omega) only [n_0, n_1, n_2, n_3, n_4, n_5, n_6, n_7, n_8, n_9, n_10, n_12, n_13, n_14, n_20, n_31, n_32, n_63, n_64, n_600, n_1024, n_4096, n_6157, n_add, n_mul, nm_def, Option.bind_some, Option.some.injEq, ck_in, ck_nz, ck_p, n_cl, n_lt, n_le, n_eq, n_div, n_rem, if_pos, if_neg, if_true, if_false, eq_self, n_192, n_256, n_20000, m1_n0, m1_np, m1_n0p, m1_lt0, m1_lt0p, mi_setIA, mi_setI, ml_setIA, ml_setI, mr_setI, mr_setIA, n_hasbit, h.s hi]
    simp (disch := omega) only [n_and, n_eq]
    cases u.testBit i
    · simp
    · by_cases c : Gs G i &&& u = 0
      · simp [c]
      · simp [c]
theorem sX4_clique1 (h : AR κ G) (hw : WF G) (hF : 100 < F) (hu : u < 64) : pX4_isClique F κ (nI u) = some (nI (clq G u).toNat) := by
  have hn := hw.n6
  unfold clq
  rw [← ex10]
  unfold pX4_isClique
  refine lp_fst F (fun fu i => pX4_isClique_2 F κ (nI u) fu (nI i)) (fun p => u.testBit p && !decide ((Gs G p ||| 2 ^ p) &&& u = u)) (Gn G) (fun i => some (nI 0)) _ _ rfl (fun fu => ?_) (fun fu i hi => ?_) (by omega)
  · show pX4_isClique_2 F κ (nI u) (fu + 1) (nI (Gn G)) = _
    rw [pX4_isClique_2, h.n]
    simp (disch := omega) only [n_0, n_1, n_2, n_3, n_4, n_5, n_6, n_7, n_8, n_9, n_10, n_12, n_13, n_14, n_20, n_31, n_32, n_63, n_64, n_600, n_1024, n_4096, n_6157, n_add, n_mul, nm_def, Option.bind_some, Option.some.injEq, ck_in, ck_nz, ck_p, n_cl, n_lt, n_le, n_eq, n_div, n_rem, if_pos, if_neg, if_true, if_false, eq_self, n_192, n_256, n_20000, m1_n0, m1_np, m1_n0p, m1_lt0, m1_lt0p, mi_setIA, mi_setI, ml_setIA, ml_setI, mr_setI, mr_setIA]
  · show pX4_isClique_2 F κ (nI u) (fu + 1) (nI i) = if u.testBit i && !decide ((Gs G i ||| 2 ^ i) &&& u = u) then some (nI 0) else pX4_isClique_2 F κ (nI u) fu (nI (i + 1))
    have hb : (Gs G i ||| 2 ^ i) &&& u ≤ u := Nat.and_le_right
    rw [pX4_isClique_2, h.n]
    unfold pX4_isClique_43
    simp (disch := omega) only [n_0, n_1, n_2, n_3, n_4, n_5, n_6, n_7, n_8, n_9, n_10, n_12, n_13, n_14, n_20, n_31, n_32, n_63, n_64, n_600, n_1024, n_4096, n_6157, n_add, n_mul, nm_def, Option.bind_some, Option.some.injEq, ck_in, ck_nz, ck_p, n_cl, n_lt, n_le, n_eq, n_div, n_rem, if_pos, if_neg, if_true, if_false, eq_self, n_192, n_256, n_20000, m1_n0, m1_np, m1_n0p, m1_lt0, m1_lt0p, mi_setIA, mi_setI, ml_setIA, ml_setI, mr_setI, mr_setIA, n_hasbit, h.s hi, n_shl1, n_or]
    simp (disch := omega) only [n_and, n_eq]
    cases u.testBit i
    · simp
    · by_cases c : (Gs G i ||| 2 ^ i) &&& u = u
      · simp [c]
      · simp [c]
theorem sX4_twelfths (h : AR κ G) (hw : WF G) (hF : 100 < F) (hu : u < 64) : pX4_twelfths F κ (nI u) = some (nI (twl G u)) := by
  have hn := hw.n6
  unfold pX4_twelfths twl
  refine lp_upE F (fun fu i => pX4_twelfths_4 F κ (nI u) fu (nI (sm (fun p => if u.testBit p then 12 / Gh G p else 0) i)) (nI i)) (0) (Gn G) _ _ rfl (fun fu => ?_) (fun fu i hi1 hi2 => ?_) (by omega) (by omega)
  · show pX4_twelfths_4 F κ (nI u) (fu + 1) (nI (sm (fun p => if u.testBit p then 12 / Gh G p else 0) (Gn G))) (nI (Gn G)) = _
    rw [pX4_twelfths_4, h.n]
    simp (disch := omega) only [n_0, n_1, n_2, n_3, n_4, n_5, n_6, n_7, n_8, n_9, n_10, n_12, n_13, n_14, n_20, n_31, n_32, n_63, n_64, n_600, n_1024, n_4096, n_6157, n_add, n_mul, nm_def, Option.bind_some, Option.some.injEq, ck_in, ck_nz, ck_p, n_cl, n_lt, n_le, n_eq, n_div, n_rem, if_pos, if_neg, if_true, if_false, eq_self, n_192, n_256, n_20000, m1_n0, m1_np, m1_n0p, m1_lt0, m1_lt0p, mi_setIA, mi_setI, ml_setIA, ml_setI, mr_setI, mr_setIA]
  · show pX4_twelfths_4 F κ (nI u) (fu + 1) (nI (sm (fun p => if u.testBit p then 12 / Gh G p else 0) i)) (nI i) = pX4_twelfths_4 F κ (nI u) fu (nI (sm (fun p => if u.testBit p then 12 / Gh G p else 0) (i + 1))) (nI (i + 1))
    have h1 := hw.h1 hi2
    have h4 := hw.h4 hi2
    rw [pX4_twelfths_4, h.n]
    unfold pX4_twelfths_39
    simp (disch := omega) only [n_0, n_1, n_2, n_3, n_4, n_5, n_6, n_7, n_8, n_9, n_10, n_12, n_13, n_14, n_20, n_31, n_32, n_63, n_64, n_600, n_1024, n_4096, n_6157, n_add, n_mul, nm_def, Option.bind_some, Option.some.injEq, ck_in, ck_nz, ck_p, n_cl, n_lt, n_le, n_eq, n_div, n_rem, if_pos, if_neg, if_true, if_false, eq_self, n_192, n_256, n_20000, m1_n0, m1_np, m1_n0p, m1_lt0, m1_lt0p, mi_setIA, mi_setI, ml_setIA, ml_setI, mr_setI, mr_setIA, n_hasbit, h.h hi2, sm]
    cases u.testBit i
    · simp
    · simp
theorem sX4_blindG (h : AR κ G) (hw : WF G) (hF : 100 < F) : pX4_greatestBlindSet F κ = some (nI (grt pc (bli G) (2 ^ Gn G))) := by
  have hn := hw.n6
  have h64 := pow_le_64 hn
  have hpos := Nat.two_pow_pos (Gn G)
  unfold pX4_greatestBlindSet
  refine lp_upE F (fun fu i => pX4_greatestBlindSet_4 F κ fu (nI (grt pc (bli G) i)) (nI i)) (1) (2 ^ Gn G) _ _ rfl (fun fu => ?_) (fun fu i hi1 hi2 => ?_) (by omega) (by omega)
  · show pX4_greatestBlindSet_4 F κ (fu + 1) (nI (grt pc (bli G) (2 ^ Gn G))) (nI (2 ^ Gn G)) = _
    rw [pX4_greatestBlindSet_4, sX4_every h hw]
    have : ¬ 2 ^ Gn G ≤ 2 ^ Gn G - 1 := by omega
    simp (disch := omega) only [n_0, n_1, n_2, n_3, n_4, n_5, n_6, n_7, n_8, n_9, n_10, n_12, n_13, n_14, n_20, n_31, n_32, n_63, n_64, n_600, n_1024, n_4096, n_6157, n_add, n_mul, nm_def, Option.bind_some, Option.some.injEq, ck_in, ck_nz, ck_p, n_cl, n_lt, n_le, n_eq, n_div, n_rem, if_pos, if_neg, if_true, if_false, eq_self, n_192, n_256, n_20000, m1_n0, m1_np, m1_n0p, m1_lt0, m1_lt0p, mi_setIA, mi_setI, ml_setIA, ml_setI, mr_setI, mr_setIA, this]
  · show pX4_greatestBlindSet_4 F κ (fu + 1) (nI (grt pc (bli G) i)) (nI i) = pX4_greatestBlindSet_4 F κ fu (nI (grt pc (bli G) (i + 1))) (nI (i + 1))
    have h1 := grt_le pc (bli G) i
    have h2 := pc_le i
    have h3 := pc_le (grt pc (bli G) i)
    have h4 : i ≤ 2 ^ Gn G - 1 := by omega
    rw [pX4_greatestBlindSet_4, sX4_every h hw, sJ_bitCount κ (show i < 64 by omega), sJ_bitCount κ (show grt pc (bli G) i < 64 by omega), sX4_blind1 h hw hF (show i < 64 by omega), grt]
    unfold pX4_greatestBlindSet_33
    simp (disch := omega) only [n_0, n_1, n_2, n_3, n_4, n_5, n_6, n_7, n_8, n_9, n_10, n_12, n_13, n_14, n_20, n_31, n_32, n_63, n_64, n_600, n_1024, n_4096, n_6157, n_add, n_mul, nm_def, Option.bind_some, Option.some.injEq, ck_in, ck_nz, ck_p, n_cl, n_lt, n_le, n_eq, n_div, n_rem, if_pos, if_neg, if_true, if_false, eq_self, n_192, n_256, n_20000, m1_n0, m1_np, m1_n0p, m1_lt0, m1_lt0p, mi_setIA, mi_setI, ml_setIA, ml_setI, mr_setI, mr_setIA, h4, hi1, true_and]
    by_cases c : pc i ≤ pc (grt pc (bli G) i)
    · have c2 : ¬ pc (grt pc (bli G) i) < pc i := by omega
      simp [c, c2]
    · have c2 : pc (grt pc (bli G) i) < pc i := by omega
      cases bli G i
      · simp [c]
      · simp [c, c2, n_eq]
theorem sX4_cliqueG (h : AR κ G) (hw : WF G) (hF : 100 < F) : pX4_greatestClique F κ = some (nI (grt pc (clq G) (2 ^ Gn G))) := by
  have hn := hw.n6
  have h64 := pow_le_64 hn
  have hpos := Nat.two_pow_pos (Gn G)
  unfold pX4_greatestClique
  refine lp_upE F (fun fu i => pX4_greatestClique_4 F κ fu (nI (grt pc (clq G) i)) (nI i)) (1) (2 ^ Gn G) _ _ rfl (fun fu => ?_) (fun fu i hi1 hi2 => ?_) (by omega) (by omega)
  · show pX4_greatestClique_4 F κ (fu + 1) (nI (grt pc (clq G) (2 ^ Gn G))) (nI (2 ^ Gn G)) = _
    rw [pX4_greatestClique_4, sX4_every h hw]
    have : ¬ 2 ^ Gn G ≤ 2 ^ Gn G - 1 := by omega
    simp (disch := omega) only [n_0, n_1, n_2, n_3, n_4, n_5, n_6, n_7, n_8, n_9, n_10, n_12, n_13, n_14, n_20, n_31, n_32, n_63, n_64, n_600, n_1024, n_4096, n_6157, n_add, n_mul, nm_def, Option.bind_some, Option.some.injEq, ck_in, ck_nz, ck_p, n_cl, n_lt, n_le, n_eq, n_div, n_rem, if_pos, if_neg, if_true, if_false, eq_self, n_192, n_256, n_20000, m1_n0, m1_np, m1_n0p, m1_lt0, m1_lt0p, mi_setIA, mi_setI, ml_setIA, ml_setI, mr_setI, mr_setIA, this]
  · show pX4_greatestClique_4 F κ (fu + 1) (nI (grt pc (clq G) i)) (nI i) = pX4_greatestClique_4 F κ fu (nI (grt pc (clq G) (i + 1))) (nI (i + 1))
    have h1 := grt_le pc (clq G) i
    have h2 := pc_le i
    have h3 := pc_le (grt pc (clq G) i)
    have h4 : i ≤ 2 ^ Gn G - 1 := by omega
    rw [pX4_greatestClique_4, sX4_every h hw, sJ_bitCount κ (show i < 64 by omega), sJ_bitCount κ (show grt pc (clq G) i < 64 by omega), sX4_clique1 h hw hF (show i < 64 by omega), grt]
    unfold pX4_greatestClique_33
    simp (disch := omega) only [n_0, n_1, n_2, n_3, n_4, n_5, n_6, n_7, n_8, n_9, n_10, n_12, n_13, n_14, n_20, n_31, n_32, n_63, n_64, n_600, n_1024, n_4096, n_6157, n_add, n_mul, nm_def, Option.bind_some, Option.some.injEq, ck_in, ck_nz, ck_p, n_cl, n_lt, n_le, n_eq, n_div, n_rem, if_pos, if_neg, if_true, if_false, eq_self, n_192, n_256, n_20000, m1_n0, m1_np, m1_n0p, m1_lt0, m1_lt0p, mi_setIA, mi_setI, ml_setIA, ml_setI, mr_setI, mr_setIA, h4, hi1, true_and]
    by_cases c : pc i ≤ pc (grt pc (clq G) i)
    · have c2 : ¬ pc (grt pc (clq G) i) < pc i := by omega
      simp [c, c2]
    · have c2 : pc (grt pc (clq G) i) < pc i := by omega
      cases clq G i
      · simp [c]
      · simp [c, c2, n_eq]
theorem sX4_strongG (h : AR κ G) (hw : WF G) (hF : 100 < F) : pX4_strongestClique F κ = some (nI (grt (twl G) (clq G) (2 ^ Gn G))) := by
  have hn := hw.n6
  have h64 := pow_le_64 hn
  have hpos := Nat.two_pow_pos (Gn G)
  unfold pX4_strongestClique
  refine lp_upE F (fun fu i => pX4_strongestClique_4 F κ fu (nI (grt (twl G) (clq G) i)) (nI i)) (1) (2 ^ Gn G) _ _ rfl (fun fu => ?_) (fun fu i hi1 hi2 => ?_) (by omega) (by omega)
  · show pX4_strongestClique_4 F κ (fu + 1) (nI (grt (twl G) (clq G) (2 ^ Gn G))) (nI (2 ^ Gn G)) = _
    rw [pX4_strongestClique_4, sX4_every h hw]
    have : ¬ 2 ^ Gn G ≤ 2 ^ Gn G - 1 := by omega
    simp (disch := omega) only [n_0, n_1, n_2, n_3, n_4, n_5, n_6, n_7, n_8, n_9, n_10, n_12, n_13, n_14, n_20, n_31, n_32, n_63, n_64, n_600, n_1024, n_4096, n_6157, n_add, n_mul, nm_def, Option.bind_some, Option.some.injEq, ck_in, ck_nz, ck_p, n_cl, n_lt, n_le, n_eq, n_div, n_rem, if_pos, if_neg, if_true, if_false, eq_self, n_192, n_256, n_20000, m1_n0, m1_np, m1_n0p, m1_lt0, m1_lt0p, mi_setIA, mi_setI, ml_setIA, ml_setI, mr_setI, mr_setIA, this]
  · show pX4_strongestClique_4 F κ (fu + 1) (nI (grt (twl G) (clq G) i)) (nI i) = pX4_strongestClique_4 F κ fu (nI (grt (twl G) (clq G) (i + 1))) (nI (i + 1))
    have h1 := grt_le (twl G) (clq G) i
    have h2 := twl_le i hw
    have h3 := twl_le (grt (twl G) (clq G) i) hw
    have h4 : i ≤ 2 ^ Gn G - 1 := by omega
    rw [pX4_strongestClique_4, sX4_every h hw, sX4_twelfths h hw hF (show i < 64 by omega), sX4_twelfths h hw hF (show grt (twl G) (clq G) i < 64 by omega), sX4_clique1 h hw hF (show i < 64 by omega), grt]
    unfold pX4_strongestClique_35
    simp (disch := omega) only [n_0, n_1, n_2, n_3, n_4, n_5, n_6, n_7, n_8, n_9, n_10, n_12, n_13, n_14, n_20, n_31, n_32, n_63, n_64, n_600, n_1024, n_4096, n_6157, n_add, n_mul, nm_def, Option.bind_some, Option.some.injEq, ck_in, ck_nz, ck_p, n_cl, n_lt, n_le, n_eq, n_div, n_rem, if_pos, if_neg, if_true, if_false, eq_self, n_192, n_256, n_20000, m1_n0, m1_np, m1_n0p, m1_lt0, m1_lt0p, mi_setIA, mi_setI, ml_setIA, ml_setI, mr_setI, mr_setIA, h4, hi1, true_and]
    by_cases c : twl G i ≤ twl G (grt (twl G) (clq G) i)
    · have c2 : ¬ twl G (grt (twl G) (clq G) i) < twl G i := by omega
      simp [c, c2]
    · have c2 : twl G (grt (twl G) (clq G) i) < twl G i := by omega
      cases clq G i
      · simp [c]
      · simp [c, c2, n_eq]
def sur (G : Gm) (u : Nat) : Bool := decide (1 ≤ u) && (decide (12 ≤ twl G u) && clq G u)
theorem sX4_sure (h : AR κ G) (hw : WF G) (hF : 100 < F) : pX4_sureCliques F κ = some (nI (cnt (sur G) (2 ^ Gn G))) := by
  have hn := hw.n6
  have h64 := pow_le_64 hn
  have hpos := Nat.two_pow_pos (Gn G)
  unfold pX4_sureCliques
  refine lp_upE F (fun fu i => pX4_sureCliques_4 F κ fu (nI (cnt (sur G) i)) (nI i)) (1) (2 ^ Gn G) _ _ rfl (fun fu => ?_) (fun fu i hi1 hi2 => ?_) (by omega) (by omega)
  · show pX4_sureCliques_4 F κ (fu + 1) (nI (cnt (sur G) (2 ^ Gn G))) (nI (2 ^ Gn G)) = _
    rw [pX4_sureCliques_4, sX4_every h hw]
    have : ¬ 2 ^ Gn G ≤ 2 ^ Gn G - 1 := by omega
    simp (disch := omega) only [n_0, n_1, n_2, n_3, n_4, n_5, n_6, n_7, n_8, n_9, n_10, n_12, n_13, n_14, n_20, n_31, n_32, n_63, n_64, n_600, n_1024, n_4096, n_6157, n_add, n_mul, nm_def, Option.bind_some, Option.some.injEq, ck_in, ck_nz, ck_p, n_cl, n_lt, n_le, n_eq, n_div, n_rem, if_pos, if_neg, if_true, if_false, eq_self, n_192, n_256, n_20000, m1_n0, m1_np, m1_n0p, m1_lt0, m1_lt0p, mi_setIA, mi_setI, ml_setIA, ml_setI, mr_setI, mr_setIA, this]
  · show pX4_sureCliques_4 F κ (fu + 1) (nI (cnt (sur G) i)) (nI i) = pX4_sureCliques_4 F κ fu (nI (cnt (sur G) (i + 1))) (nI (i + 1))
    have h2 := twl_le i hw
    have h4 : i ≤ 2 ^ Gn G - 1 := by omega
    rw [pX4_sureCliques_4, sX4_every h hw, sX4_twelfths h hw hF (show i < 64 by omega), sX4_clique1 h hw hF (show i < 64 by omega), cnt_s]
    unfold pX4_sureCliques_33 sur
    simp (disch := omega) only [n_0, n_1, n_2, n_3, n_4, n_5, n_6, n_7, n_8, n_9, n_10, n_12, n_13, n_14, n_20, n_31, n_32, n_63, n_64, n_600, n_1024, n_4096, n_6157, n_add, n_mul, nm_def, Option.bind_some, Option.some.injEq, ck_in, ck_nz, ck_p, n_cl, n_lt, n_le, n_eq, n_div, n_rem, if_pos, if_neg, if_true, if_false, eq_self, n_192, n_256, n_20000, m1_n0, m1_np, m1_n0p, m1_lt0, m1_lt0p, mi_setIA, mi_setI, ml_setIA, ml_setI, mr_setI, mr_setIA, h4, hi1, decide_true, Bool.true_and]
    by_cases c : twl G i < 12
    · have c2 : ¬ 12 ≤ twl G i := by omega
      simp [c, c2]
    · have c2 : 12 ≤ twl G i := by omega
      cases clq G i
      · simp [c, c2]
      · simp [c, c2, n_eq]
-- the reference
theorem rX_isBlind (h : RG ρ 1 G) (hw : WF G) (hF : 100 < F) (hu : u < 64) : pX11_isBlind F ρ (nI u) = some (nI (bli G u).toNat) := by
  have hn := hw.n6
  unfold bli
  rw [← ex10]
  unfold pX11_isBlind
  refine lp_fst F (fun fu i => pX11_isBlind_2 F ρ (nI u) fu (nI i)) (fun p => u.testBit p && !decide (Gs G p &&& u = 0)) (Gn G) (fun i => some (nI 0)) _ _ rfl (fun fu => ?_) (fun fu i hi => ?_) (by omega)
  · show pX11_isBlind_2 F ρ (nI u) (fu + 1) (nI (Gn G)) = _
    rw [pX11_isBlind_2, rX_players h]
    simp (disch := omega) only [n_0, n_1, n_2, n_3, n_4, n_5, n_6, n_7, n_8, n_9, n_10, n_12, n_13, n_14, n_20, n_31, n_32, n_63, n_64, n_600, n_1024, n_4096, n_6157, n_add, n_mul, nm_def, Option.bind_some, Option.some.injEq, ck_in, ck_nz, ck_p, n_cl, n_lt, n_le, n_eq, n_div, n_rem, if_pos, if_neg, if_true, if_false, eq_self, n_192, n_256, n_20000, m1_n0, m1_np, m1_n0p, m1_lt0, m1_lt0p, mi_setIA, mi_setI, ml_setIA, ml_setI, mr_setI, mr_setIA]
  · show pX11_isBlind_2 F ρ (nI u) (fu + 1) (nI i) = if u.testBit i && !decide (Gs G i &&& u = 0) then some (nI 0) else pX11_isBlind_2 F ρ (nI u) fu (nI (i + 1))
    have hb : Gs G i &&& u ≤ u := Nat.and_le_right
    rw [pX11_isBlind_2, rX_players h]
    unfold pX11_isBlind_34
    simp (disch := omega) only [n_0, n_1, n_2, n_3, n_4, n_5, n_6, n_7, n_8, n_9, n_10, n_12, n_13, n_14, n_20, n_31, n_32, n_63, n_64, n_600, n_1024, n_4096, n_6157, n_add, n_mul, nm_def, Option.bind_some, Option.some.injEq, ck_in, ck_nz, ck_p, n_cl, n_lt, n_le, n_eq, n_div, n_rem, if_pos, if_neg, if_true, if_false, eq_self, n_192, n_256, n_20000, m1_n0, m1_np, m1_n0p, m1_lt0, m1_lt0p, mi_setIA, mi_setI, ml_setIA, ml_setI, mr_setI, mr_setIA, rX_has, h.s hi, n_and]
    cases u.testBit i
    · simp
    · by_cases c : Gs G i &&& u = 0
      · simp [c, n_eq]
      · simp [c, n_eq]
theorem clq_m1 : ∀ s, s < 64 → ∀ p, p < 6 → ∀ u, u < 64 → decide ((nI s ||| nI (2 ^ p)) ||| (nI u ^^^ predI 0) = predI 0) = decide ((s ||| 2 ^ p) &&& u = u) := by decide +kernel
theorem rX_isClique (h : RG ρ 1 G) (hw : WF G) (hF : 100 < F) (hu : u < 64) : pX11_isClique F ρ (nI u) = some (nI (clq G u).toNat) := by
  have hn := hw.n6
  unfold clq
  rw [← ex10]
  unfold pX11_isClique
  refine lp_fst F (fun fu i => pX11_isClique_2 F ρ (nI u) fu (nI i)) (fun p => u.testBit p && !decide ((Gs G p ||| 2 ^ p) &&& u = u)) (Gn G) (fun i => some (nI 0)) _ _ rfl (fun fu => ?_) (fun fu i hi => ?_) (by omega)
  · show pX11_isClique_2 F ρ (nI u) (fu + 1) (nI (Gn G)) = _
    rw [pX11_isClique_2, rX_players h]
    simp (disch := omega) only [n_0, n_1, n_2, n_3, n_4, n_5, n_6, n_7, n_8, n_9, n_10, n_12, n_13, n_14, n_20, n_31, n_32, n_63, n_64, n_600, n_1024, n_4096, n_6157, n_add, n_mul, nm_def, Option.bind_some, Option.some.injEq, ck_in, ck_nz, ck_p, n_cl, n_lt, n_le, n_eq, n_div, n_rem, if_pos, if_neg, if_true, if_false, eq_self, n_192, n_256, n_20000, m1_n0, m1_np, m1_n0p, m1_lt0, m1_lt0p, mi_setIA, mi_setI, ml_setIA, ml_setI, mr_setI, mr_setIA]
  · show pX11_isClique_2 F ρ (nI u) (fu + 1) (nI i) = if u.testBit i && !decide ((Gs G i ||| 2 ^ i) &&& u = u) then some (nI 0) else pX11_isClique_2 F ρ (nI u) fu (nI (i + 1))
    have e := decide_eq_decide.mp (clq_m1 (Gs G i) (hw.s64 hi) i (hw_lt hw hi) u hu)
    have e2 : ((nI (Gs G i) ||| nI (2 ^ i)) ||| (nI u ^^^ predI 0) = predI 0) = ((Gs G i ||| 2 ^ i) &&& u = u) := propext e
    rw [pX11_isClique_2, rX_players h]
    unfold pX11_isClique_41
    simp (disch := omega) only [n_7, n_1, n_add, ck_in, n_cl, n_31, n_shl1, h.s hi, m1_n0, e2, n_lt, Option.bind_some, rX_has, if_pos, hi]
    cases u.testBit i
    · simp [n_0, n_add]
    · by_cases c : (Gs G i ||| 2 ^ i) &&& u = u
      · simp [c, n_0, n_eq, n_add]
      · simp [c, n_0, n_eq]
theorem rX_twelfths (h : RG ρ 1 G) (hw : WF G) (hF : 100 < F) (hu : u < 64) : pX11_twelfths F ρ (nI u) = some (nI (twl G u)) := by
  have hn := hw.n6
  unfold pX11_twelfths twl
  refine lp_upE F (fun fu i => pX11_twelfths_4 F ρ (nI u) fu (nI (sm (fun p => if u.testBit p then 12 / Gh G p else 0) i)) (nI i)) (0) (Gn G) _ _ rfl (fun fu => ?_) (fun fu i hi1 hi2 => ?_) (by omega) (by omega)
  · show pX11_twelfths_4 F ρ (nI u) (fu + 1) (nI (sm (fun p => if u.testBit p then 12 / Gh G p else 0) (Gn G))) (nI (Gn G)) = _
    rw [pX11_twelfths_4, rX_players h]
    simp (disch := omega) only [n_0, n_1, n_2, n_3, n_4, n_5, n_6, n_7, n_8, n_9, n_10, n_12, n_13, n_14, n_20, n_31, n_32, n_63, n_64, n_600, n_1024, n_4096, n_6157, n_add, n_mul, nm_def, Option.bind_some, Option.some.injEq, ck_in, ck_nz, ck_p, n_cl, n_lt, n_le, n_eq, n_div, n_rem, if_pos, if_neg, if_true, if_false, eq_self, n_192, n_256, n_20000, m1_n0, m1_np, m1_n0p, m1_lt0, m1_lt0p, mi_setIA, mi_setI, ml_setIA, ml_setI, mr_setI, mr_setIA]
  · show pX11_twelfths_4 F ρ (nI u) (fu + 1) (nI (sm (fun p => if u.testBit p then 12 / Gh G p else 0) i)) (nI i) = pX11_twelfths_4 F ρ (nI u) fu (nI (sm (fun p => if u.testBit p then 12 / Gh G p else 0) (i + 1))) (nI (i + 1))
    have h1 := hw.h1 hi2
    have h4 := hw.h4 hi2
    rw [pX11_twelfths_4, rX_players h, rX_hats h hw hi2]
    unfold pX11_twelfths_33
    simp (disch := omega) only [n_0, n_1, n_2, n_3, n_4, n_5, n_6, n_7, n_8, n_9, n_10, n_12, n_13, n_14, n_20, n_31, n_32, n_63, n_64, n_600, n_1024, n_4096, n_6157, n_add, n_mul, nm_def, Option.bind_some, Option.some.injEq, ck_in, ck_nz, ck_p, n_cl, n_lt, n_le, n_eq, n_div, n_rem, if_pos, if_neg, if_true, if_false, eq_self, n_192, n_256, n_20000, m1_n0, m1_np, m1_n0p, m1_lt0, m1_lt0p, mi_setIA, mi_setI, ml_setIA, ml_setI, mr_setI, mr_setIA, rX_has, sm]
    cases u.testBit i
    · simp
    · simp [n_eq]
theorem rB_blind (h : RG ρ 1 G) (hw : WF G) (hF : 200 < F) : pX11_blind_25 F ρ F 0 1 = some (nI (grt pc (bli G) (2 ^ Gn G)), ρ) := by
  have hn := hw.n6
  have h64 := pow_le_64 hn
  have hpos := Nat.two_pow_pos (Gn G)
  refine lp_upE F (fun fu i => pX11_blind_25 F ρ fu (nI (grt pc (bli G) i)) (nI i)) (1) (2 ^ Gn G) _ _ rfl (fun fu => ?_) (fun fu i hi1 hi2 => ?_) (by omega) (by omega)
  · show pX11_blind_25 F ρ (fu + 1) (nI (grt pc (bli G) (2 ^ Gn G))) (nI (2 ^ Gn G)) = _
    rw [pX11_blind_25, rX_all h hw]
    have : ¬ 2 ^ Gn G ≤ 2 ^ Gn G - 1 := by omega
    simp (disch := omega) only [n_0, n_1, n_2, n_3, n_4, n_5, n_6, n_7, n_8, n_9, n_10, n_12, n_13, n_14, n_20, n_31, n_32, n_63, n_64, n_600, n_1024, n_4096, n_6157, n_add, n_mul, nm_def, Option.bind_some, Option.some.injEq, ck_in, ck_nz, ck_p, n_cl, n_lt, n_le, n_eq, n_div, n_rem, if_pos, if_neg, if_true, if_false, eq_self, n_192, n_256, n_20000, m1_n0, m1_np, m1_n0p, m1_lt0, m1_lt0p, mi_setIA, mi_setI, ml_setIA, ml_setI, mr_setI, mr_setIA, this]
  · show pX11_blind_25 F ρ (fu + 1) (nI (grt pc (bli G) i)) (nI i) = pX11_blind_25 F ρ fu (nI (grt pc (bli G) (i + 1))) (nI (i + 1))
    have h1 := grt_le pc (bli G) i
    have h2 := pc_le i
    have h3 := pc_le (grt pc (bli G) i)
    have h4 : i ≤ 2 ^ Gn G - 1 := by omega
    rw [pX11_blind_25, rX_all h hw, rX_ones ρ (by omega) (show i < 2147483648 by omega), rX_ones ρ (by omega) (show grt pc (bli G) i < 2147483648 by omega), rX_isBlind h hw (by omega) (show i < 64 by omega), grt]
    unfold pX11_blind_56 pX11_blind_57
    simp (disch := omega) only [n_0, n_1, n_2, n_3, n_4, n_5, n_6, n_7, n_8, n_9, n_10, n_12, n_13, n_14, n_20, n_31, n_32, n_63, n_64, n_600, n_1024, n_4096, n_6157, n_add, n_mul, nm_def, Option.bind_some, Option.some.injEq, ck_in, ck_nz, ck_p, n_cl, n_lt, n_le, n_eq, n_div, n_rem, if_pos, if_neg, if_true, if_false, eq_self, n_192, n_256, n_20000, m1_n0, m1_np, m1_n0p, m1_lt0, m1_lt0p, mi_setIA, mi_setI, ml_setIA, ml_setI, mr_setI, mr_setIA, h4, hi1, true_and]
    by_cases c : pc i ≤ pc (grt pc (bli G) i)
    · have c2 : ¬ pc (grt pc (bli G) i) < pc i := by omega
      simp [c, c2]
    · have c2 : pc (grt pc (bli G) i) < pc i := by omega
      cases bli G i
      · simp [c]
      · simp [c, c2, n_eq]
theorem rB_clique (h : RG ρ 1 G) (hw : WF G) (hF : 200 < F) : pX11_clique_25 F ρ F 0 1 = some (nI (grt pc (clq G) (2 ^ Gn G)), ρ) := by
  have hn := hw.n6
  have h64 := pow_le_64 hn
  have hpos := Nat.two_pow_pos (Gn G)
  refine lp_upE F (fun fu i => pX11_clique_25 F ρ fu (nI (grt pc (clq G) i)) (nI i)) (1) (2 ^ Gn G) _ _ rfl (fun fu => ?_) (fun fu i hi1 hi2 => ?_) (by omega) (by omega)
  · show pX11_clique_25 F ρ (fu + 1) (nI (grt pc (clq G) (2 ^ Gn G))) (nI (2 ^ Gn G)) = _
    rw [pX11_clique_25, rX_all h hw]
    have : ¬ 2 ^ Gn G ≤ 2 ^ Gn G - 1 := by omega
    simp (disch := omega) only [n_0, n_1, n_2, n_3, n_4, n_5, n_6, n_7, n_8, n_9, n_10, n_12, n_13, n_14, n_20, n_31, n_32, n_63, n_64, n_600, n_1024, n_4096, n_6157, n_add, n_mul, nm_def, Option.bind_some, Option.some.injEq, ck_in, ck_nz, ck_p, n_cl, n_lt, n_le, n_eq, n_div, n_rem, if_pos, if_neg, if_true, if_false, eq_self, n_192, n_256, n_20000, m1_n0, m1_np, m1_n0p, m1_lt0, m1_lt0p, mi_setIA, mi_setI, ml_setIA, ml_setI, mr_setI, mr_setIA, this]
  · show pX11_clique_25 F ρ (fu + 1) (nI (grt pc (clq G) i)) (nI i) = pX11_clique_25 F ρ fu (nI (grt pc (clq G) (i + 1))) (nI (i + 1))
    have h1 := grt_le pc (clq G) i
    have h2 := pc_le i
    have h3 := pc_le (grt pc (clq G) i)
    have h4 : i ≤ 2 ^ Gn G - 1 := by omega
    rw [pX11_clique_25, rX_all h hw, rX_ones ρ (by omega) (show i < 2147483648 by omega), rX_ones ρ (by omega) (show grt pc (clq G) i < 2147483648 by omega), rX_isClique h hw (by omega) (show i < 64 by omega), grt]
    unfold pX11_clique_56 pX11_clique_57
    simp (disch := omega) only [n_0, n_1, n_2, n_3, n_4, n_5, n_6, n_7, n_8, n_9, n_10, n_12, n_13, n_14, n_20, n_31, n_32, n_63, n_64, n_600, n_1024, n_4096, n_6157, n_add, n_mul, nm_def, Option.bind_some, Option.some.injEq, ck_in, ck_nz, ck_p, n_cl, n_lt, n_le, n_eq, n_div, n_rem, if_pos, if_neg, if_true, if_false, eq_self, n_192, n_256, n_20000, m1_n0, m1_np, m1_n0p, m1_lt0, m1_lt0p, mi_setIA, mi_setI, ml_setIA, ml_setI, mr_setI, mr_setIA, h4, hi1, true_and]
    by_cases c : pc i ≤ pc (grt pc (clq G) i)
    · have c2 : ¬ pc (grt pc (clq G) i) < pc i := by omega
      simp [c, c2]
    · have c2 : pc (grt pc (clq G) i) < pc i := by omega
      cases clq G i
      · simp [c]
      · simp [c, c2, n_eq]
theorem rB_strong (h : RG ρ 1 G) (hw : WF G) (hF : 200 < F) : pX11_strongest_25 F ρ F 0 1 = some (nI (grt (twl G) (clq G) (2 ^ Gn G)), ρ) := by
  have hn := hw.n6
  have h64 := pow_le_64 hn
  have hpos := Nat.two_pow_pos (Gn G)
  refine lp_upE F (fun fu i => pX11_strongest_25 F ρ fu (nI (grt (twl G) (clq G) i)) (nI i)) (1) (2 ^ Gn G) _ _ rfl (fun fu => ?_) (fun fu i hi1 hi2 => ?_) (by omega) (by omega)
  · show pX11_strongest_25 F ρ (fu + 1) (nI (grt (twl G) (clq G) (2 ^ Gn G))) (nI (2 ^ Gn G)) = _
    rw [pX11_strongest_25, rX_all h hw]
    have : ¬ 2 ^ Gn G ≤ 2 ^ Gn G - 1 := by omega
    simp (disch := omega) only [n_0, n_1, n_2, n_3, n_4, n_5, n_6, n_7, n_8, n_9, n_10, n_12, n_13, n_14, n_20, n_31, n_32, n_63, n_64, n_600, n_1024, n_4096, n_6157, n_add, n_mul, nm_def, Option.bind_some, Option.some.injEq, ck_in, ck_nz, ck_p, n_cl, n_lt, n_le, n_eq, n_div, n_rem, if_pos, if_neg, if_true, if_false, eq_self, n_192, n_256, n_20000, m1_n0, m1_np, m1_n0p, m1_lt0, m1_lt0p, mi_setIA, mi_setI, ml_setIA, ml_setI, mr_setI, mr_setIA, this]
  · show pX11_strongest_25 F ρ (fu + 1) (nI (grt (twl G) (clq G) i)) (nI i) = pX11_strongest_25 F ρ fu (nI (grt (twl G) (clq G) (i + 1))) (nI (i + 1))
    have h1 := grt_le (twl G) (clq G) i
    have h2 := twl_le i hw
    have h3 := twl_le (grt (twl G) (clq G) i) hw
    have h4 : i ≤ 2 ^ Gn G - 1 := by omega
    rw [pX11_strongest_25, rX_all h hw, rX_twelfths h hw (by omega) (show i < 64 by omega), rX_twelfths h hw (by omega) (show grt (twl G) (clq G) i < 64 by omega), rX_isClique h hw (by omega) (show i < 64 by omega), grt]
    unfold pX11_strongest_58 pX11_strongest_59
    simp (disch := omega) only [n_0, n_1, n_2, n_3, n_4, n_5, n_6, n_7, n_8, n_9, n_10, n_12, n_13, n_14, n_20, n_31, n_32, n_63, n_64, n_600, n_1024, n_4096, n_6157, n_add, n_mul, nm_def, Option.bind_some, Option.some.injEq, ck_in, ck_nz, ck_p, n_cl, n_lt, n_le, n_eq, n_div, n_rem, if_pos, if_neg, if_true, if_false, eq_self, n_192, n_256, n_20000, m1_n0, m1_np, m1_n0p, m1_lt0, m1_lt0p, mi_setIA, mi_setI, ml_setIA, ml_setI, mr_setI, mr_setIA, h4, hi1, true_and]
    by_cases c : twl G i ≤ twl G (grt (twl G) (clq G) i)
    · have c2 : ¬ twl G (grt (twl G) (clq G) i) < twl G i := by omega
      simp [c, c2]
    · have c2 : twl G (grt (twl G) (clq G) i) < twl G i := by omega
      cases clq G i
      · simp [c]
      · simp [c, c2, n_eq]
theorem rB_sure (h : RG ρ 1 G) (hw : WF G) (hF : 200 < F) : pX11_sure_10 F ρ F 0 1 = some (nI (cnt (sur G) (2 ^ Gn G)), ρ) := by
  have hn := hw.n6
  have h64 := pow_le_64 hn
  have hpos := Nat.two_pow_pos (Gn G)
  refine lp_upE F (fun fu i => pX11_sure_10 F ρ fu (nI (cnt (sur G) i)) (nI i)) (1) (2 ^ Gn G) _ _ rfl (fun fu => ?_) (fun fu i hi1 hi2 => ?_) (by omega) (by omega)
  · show pX11_sure_10 F ρ (fu + 1) (nI (cnt (sur G) (2 ^ Gn G))) (nI (2 ^ Gn G)) = _
    rw [pX11_sure_10, rX_all h hw]
    have : ¬ 2 ^ Gn G ≤ 2 ^ Gn G - 1 := by omega
    simp (disch := omega) only [n_0, n_1, n_2, n_3, n_4, n_5, n_6, n_7, n_8, n_9, n_10, n_12, n_13, n_14, n_20, n_31, n_32, n_63, n_64, n_600, n_1024, n_4096, n_6157, n_add, n_mul, nm_def, Option.bind_some, Option.some.injEq, ck_in, ck_nz, ck_p, n_cl, n_lt, n_le, n_eq, n_div, n_rem, if_pos, if_neg, if_true, if_false, eq_self, n_192, n_256, n_20000, m1_n0, m1_np, m1_n0p, m1_lt0, m1_lt0p, mi_setIA, mi_setI, ml_setIA, ml_setI, mr_setI, mr_setIA, this]
  · show pX11_sure_10 F ρ (fu + 1) (nI (cnt (sur G) i)) (nI i) = pX11_sure_10 F ρ fu (nI (cnt (sur G) (i + 1))) (nI (i + 1))
    have h2 := twl_le i hw
    have h4 : i ≤ 2 ^ Gn G - 1 := by omega
    rw [pX11_sure_10, rX_all h hw, rX_twelfths h hw (by omega) (show i < 64 by omega), rX_isClique h hw (by omega) (show i < 64 by omega), cnt_s]
    unfold pX11_sure_41 pX11_sure_42 sur
    simp (disch := omega) only [n_0, n_1, n_2, n_3, n_4, n_5, n_6, n_7, n_8, n_9, n_10, n_12, n_13, n_14, n_20, n_31, n_32, n_63, n_64, n_600, n_1024, n_4096, n_6157, n_add, n_mul, nm_def, Option.bind_some, Option.some.injEq, ck_in, ck_nz, ck_p, n_cl, n_lt, n_le, n_eq, n_div, n_rem, if_pos, if_neg, if_true, if_false, eq_self, n_192, n_256, n_20000, m1_n0, m1_np, m1_n0p, m1_lt0, m1_lt0p, mi_setIA, mi_setI, ml_setIA, ml_setI, mr_setI, mr_setIA, h4, hi1, decide_true, Bool.true_and]
    by_cases c : twl G i < 12
    · have c2 : ¬ 12 ≤ twl G i := by omega
      simp [c, c2]
    · have c2 : 12 ≤ twl G i := by omega
      cases clq G i
      · simp [c, c2]
      · simp [c, c2, n_eq]
end NL
