/-! NETWORKS: rings, hubs, shapes of the class -/
def tz (u : Nat) : Nat := fnd (fun i => u.testBit i) 6
theorem tz0 : ∀ u, u < 64 → u ≠ 0 → pJ6_numberOfTrailingZeros_0f7a4 mem0 (nI u) = some (nI (tz u)) := by decide +kernel
theorem sJ_tz {u : Nat} (κ : Mem) (h : u < 64) (h0 : u ≠ 0) : pJ6_numberOfTrailingZeros_0f7a4 κ (nI u) = some (nI (tz u)) := tz0 u h h0
theorem tz_ok : ∀ u, u < 64 → u ≠ 0 → u.testBit (tz u) = true ∧ tz u < 6 := by decide +kernel
section NR
variable {κ ρ : Mem} {G : Gm} {F p q u r : Nat}
def rnP (G : Gm) (u p : Nat) : Bool := u.testBit p && !decide (pc (lkd G p &&& u) = 2)
def rng (G : Gm) (u : Nat) : Bool := decide (3 ≤ pc u) && (!exb (rnP G u) (Gn G) && decide (lwT G u (tz u) = u))
theorem bit_lt {n i : Nat} (hu : u < 2 ^ n) (hb : u.testBit i = true) : i < n := by
  rcases Nat.lt_or_ge i n with z | z
  · exact z
  · have := Nat.testBit_lt_two_pow (Nat.lt_of_lt_of_le hu (Nat.pow_le_pow_right (by decide) z))
    rw [this] at hb; cases hb
theorem lwT_64 (hw : WF G) (hp : p < Gn G) : lwT G u p < 64 := (itr_ok (T := fun r => lwI G u r (Gn G)) (fun r hr => lwI_ok hw hr _ (Nat.le_refl _)) (Gn G) (2 ^ p) (two_lt64 (hw_lt hw hp))).1
theorem pc_z : pc 0 = 0 := by decide
theorem sX4_isRing (h : AR κ G) (hw : WF G) (hF : 100 < F) (hu : u < 2 ^ Gn G) : pX4_isRing F κ (nI u) = some (nI (rng G u).toNat) := by
  have hn := hw.n6
  have h64 := pow_le_64 hn
  have hpu := pc_le u
  unfold pX4_isRing
  rw [sJ_bitCount κ (by omega)]
  simp (disch := omega) only [n_0, n_1, n_2, n_3, n_4, n_5, n_6, n_7, n_8, n_9, n_10, n_12, n_13, n_14, n_20, n_31, n_32, n_63, n_64, n_600, n_1024, n_4096, n_6157, n_add, n_mul, nm_def, Option.bind_some, Option.some.injEq, ck_in, ck_nz, ck_p, n_cl, n_lt, n_le, n_eq, n_div, n_rem, if_pos, if_neg, if_true, if_false, eq_self, n_192, n_256, n_20000, m1_n0, m1_np, m1_n0p, m1_lt0, m1_lt0p, mi_setIA, mi_setI, ml_setIA, ml_setI, mr_setI, mr_setIA]
  unfold rng
  by_cases c : pc u < 3
  · have c2 : ¬ 3 ≤ pc u := by omega
    rw [if_pos c, decide_eq_false c2]
    rfl
  · have c2 : 3 ≤ pc u := by omega
    have hu0 : u ≠ 0 := fun z => by rw [z, pc_z] at c2; omega
    obtain ⟨t1, t2⟩ := tz_ok u (by omega) hu0
    have t3 := bit_lt hu t1
    have hl := lwT_64 (u := u) hw t3
    rw [if_neg c, decide_eq_true c2, Bool.true_and]
    have key : pX4_isRing_12 F κ (nI u) F (nI 0) = if fnd (rnP G u) (Gn G) < Gn G then some (nI 0) else some (nI (decide (lwT G u (tz u) = u)).toNat) := by
      refine lp_fst F (fun fu i => pX4_isRing_12 F κ (nI u) fu (nI i)) (rnP G u) (Gn G) (fun i => some (nI 0)) _ _ rfl (fun fu => ?_) (fun fu i hi => ?_) (by omega)
      · show pX4_isRing_12 F κ (nI u) (fu + 1) (nI (Gn G)) = _
        rw [pX4_isRing_12, h.n, sJ_tz κ (by omega) hu0]
        unfold pX4_isRing_82
        simp (disch := omega) only [n_0, n_1, n_2, n_3, n_4, n_5, n_6, n_7, n_8, n_9, n_10, n_12, n_13, n_14, n_20, n_31, n_32, n_63, n_64, n_600, n_1024, n_4096, n_6157, n_add, n_mul, nm_def, Option.bind_some, Option.some.injEq, ck_in, ck_nz, ck_p, n_cl, n_lt, n_le, n_eq, n_div, n_rem, if_pos, if_neg, if_true, if_false, eq_self, n_192, n_256, n_20000, m1_n0, m1_np, m1_n0p, m1_lt0, m1_lt0p, mi_setIA, mi_setI, ml_setIA, ml_setI, mr_setI, mr_setIA, sX4_linkedWith h hw hF t3 (show u < 64 by omega)]
        by_cases d : lwT G u (tz u) = u
        · simp [d]; rfl
        · simp [d]; rfl
      · show pX4_isRing_12 F κ (nI u) (fu + 1) (nI i) = if rnP G u i then some (nI 0) else pX4_isRing_12 F κ (nI u) fu (nI (i + 1))
        have h3 := lkd_64 hw hi
        have h4 := pc_le (lkd G i &&& u)
        have h5 := sJ_bitCount κ (and_lt64 (b := u) h3)
        rw [pX4_isRing_12, h.n]
        unfold pX4_isRing_37 pX4_isRing_58 rnP
        simp (disch := omega) only [n_0, n_1, n_2, n_3, n_4, n_5, n_6, n_7, n_8, n_9, n_10, n_12, n_13, n_14, n_20, n_31, n_32, n_63, n_64, n_600, n_1024, n_4096, n_6157, n_add, n_mul, nm_def, Option.bind_some, Option.some.injEq, ck_in, ck_nz, ck_p, n_cl, n_lt, n_le, n_eq, n_div, n_rem, if_pos, if_neg, if_true, if_false, eq_self, n_192, n_256, n_20000, m1_n0, m1_np, m1_n0p, m1_lt0, m1_lt0p, mi_setIA, mi_setI, ml_setIA, ml_setI, mr_setI, mr_setIA, n_hasbit, sX4_linked h hw hF hi]
        simp (disch := omega) only [n_and, h5, Option.bind_some, n_eq]
        cases u.testBit i
        · simp
        · by_cases d : pc (lkd G i &&& u) = 2
          · simp [d]
          · simp [d]
    rw [key, exb_fnd]
    by_cases d : fnd (rnP G u) (Gn G) < Gn G
    · rw [if_pos d, decide_eq_true d]; rfl
    · rw [if_neg d, decide_eq_false d]; rfl
def hbP (G : Gm) (p : Nat) : Bool := decide (lkd G p = clr (2 ^ Gn G - 1) p) && rng G (clr (2 ^ Gn G - 1) p)
/-- the hub; as many as there are players, if there is none -/
def hub (G : Gm) : Nat := if mtl G then fnd (hbP G) (Gn G) else Gn G
theorem clr_n (hw : WF G) (hp : p < Gn G) : clr (2 ^ Gn G - 1) p < 2 ^ Gn G := by
  have := Nat.two_pow_pos (Gn G)
  exact Nat.lt_of_le_of_lt (Nat.and_le_left) (by omega)
theorem sX4_firstHub (h : AR κ G) (hw : WF G) (hF : 100 < F) : pX4_firstHub F κ = if hub G < Gn G then some (nI (hub G)) else some (predI 0) := by
  have hn := hw.n6
  have h64 := pow_le_64 hn
  have hpos := Nat.two_pow_pos (Gn G)
  unfold pX4_firstHub hub
  rw [sX4_isMutual h hw hF]
  cases c : mtl G
  · simp (disch := omega) only [n_0, n_1, n_2, n_3, n_4, n_5, n_6, n_7, n_8, n_9, n_10, n_12, n_13, n_14, n_20, n_31, n_32, n_63, n_64, n_600, n_1024, n_4096, n_6157, n_add, n_mul, nm_def, Option.bind_some, Option.some.injEq, ck_in, ck_nz, ck_p, n_cl, n_lt, n_le, n_eq, n_div, n_rem, if_pos, if_neg, if_true, if_false, eq_self, n_192, n_256, n_20000, m1_n0, m1_np, m1_n0p, m1_lt0, m1_lt0p, mi_setIA, mi_setI, ml_setIA, ml_setI, mr_setI, mr_setIA, Bool.toNat_false, Nat.lt_irrefl, Bool.false_eq_true]
  · simp (disch := omega) only [n_0, n_1, n_2, n_3, n_4, n_5, n_6, n_7, n_8, n_9, n_10, n_12, n_13, n_14, n_20, n_31, n_32, n_63, n_64, n_600, n_1024, n_4096, n_6157, n_add, n_mul, nm_def, Option.bind_some, Option.some.injEq, ck_in, ck_nz, ck_p, n_cl, n_lt, n_le, n_eq, n_div, n_rem, if_pos, if_neg, if_true, if_false, eq_self, n_192, n_256, n_20000, m1_n0, m1_np, m1_n0p, m1_lt0, m1_lt0p, mi_setIA, mi_setI, ml_setIA, ml_setI, mr_setI, mr_setIA, Bool.toNat_true]
    refine lp_fst F (fun fu i => pX4_firstHub_11 F κ fu (nI i)) (hbP G) (Gn G) (fun i => some (nI i)) _ _ rfl (fun fu => ?_) (fun fu i hi => ?_) (by omega)
    · show pX4_firstHub_11 F κ (fu + 1) (nI (Gn G)) = _
      rw [pX4_firstHub_11, h.n]
      simp (disch := omega) only [n_0, n_1, n_2, n_3, n_4, n_5, n_6, n_7, n_8, n_9, n_10, n_12, n_13, n_14, n_20, n_31, n_32, n_63, n_64, n_600, n_1024, n_4096, n_6157, n_add, n_mul, nm_def, Option.bind_some, Option.some.injEq, ck_in, ck_nz, ck_p, n_cl, n_lt, n_le, n_eq, n_div, n_rem, if_pos, if_neg, if_true, if_false, eq_self, n_192, n_256, n_20000, m1_n0, m1_np, m1_n0p, m1_lt0, m1_lt0p, mi_setIA, mi_setI, ml_setIA, ml_setI, mr_setI, mr_setIA]
    · show pX4_firstHub_11 F κ (fu + 1) (nI i) = if hbP G i then some (nI i) else pX4_firstHub_11 F κ fu (nI (i + 1))
      have h3 := lkd_64 hw hi
      have hcn := clr_n hw hi
      rw [pX4_firstHub_11, h.n, sX4_every h hw]
      unfold pX4_firstHub_52 hbP
      simp (disch := omega) only [n_0, n_1, n_2, n_3, n_4, n_5, n_6, n_7, n_8, n_9, n_10, n_12, n_13, n_14, n_20, n_31, n_32, n_63, n_64, n_600, n_1024, n_4096, n_6157, n_add, n_mul, nm_def, Option.bind_some, Option.some.injEq, ck_in, ck_nz, ck_p, n_cl, n_lt, n_le, n_eq, n_div, n_rem, if_pos, if_neg, if_true, if_false, eq_self, n_192, n_256, n_20000, m1_n0, m1_np, m1_n0p, m1_lt0, m1_lt0p, mi_setIA, mi_setI, ml_setIA, ml_setI, mr_setI, mr_setIA, n_shl1, n_clr2, sX4_linked h hw hF hi, sX4_isRing h hw hF hcn]
      by_cases d : lkd G i = clr (2 ^ Gn G - 1) i
      · cases rng G (clr (2 ^ Gn G - 1) i)
        · simp [d]
        · simp [d, n_eq]
      · simp [d]
def tre (G : Gm) : Bool := mtl G && (decide (lwT G (2 ^ Gn G - 1) 0 = 2 ^ Gn G - 1) && decide (lks G = Gn G - 1))
theorem sX4_isTree (h : AR κ G) (hw : WF G) (hF : 100 < F) (h0 : Gn G ≠ 0) : pX4_isTree F κ = some (nI (tre G).toNat) := by
  have hn := hw.n6
  have h64 := pow_le_64 hn
  have hpos := Nat.two_pow_pos (Gn G)
  have hl := lwT_64 (u := 2 ^ Gn G - 1) (p := 0) hw (by omega)
  have hk := lks_le hw
  unfold pX4_isTree pX4_isTree_21 pX4_isTree_53 pX4_isTree_54 tre
  have e1 := sX4_linkedWith (F := F) (p := 0) (u := 2 ^ Gn G - 1) h hw hF (by omega) (by omega)
  rw [sX4_every h hw, sX4_isMutual h hw hF, sX4_links h hw hF, h.n]
  simp (disch := omega) only [n_0, n_1, n_2, n_3, n_4, n_5, n_6, n_7, n_8, n_9, n_10, n_12, n_13, n_14, n_20, n_31, n_32, n_63, n_64, n_600, n_1024, n_4096, n_6157, n_add, n_mul, nm_def, Option.bind_some, Option.some.injEq, ck_in, ck_nz, ck_p, n_cl, n_lt, n_le, n_eq, n_div, n_rem, if_pos, if_neg, if_true, if_false, eq_self, n_192, n_256, n_20000, m1_n0, m1_np, m1_n0p, m1_lt0, m1_lt0p, mi_setIA, mi_setI, ml_setIA, ml_setI, mr_setI, mr_setIA, e1, n_sub]
  cases mtl G
  · simp
    rfl
  · by_cases c : lwT G (2 ^ Gn G - 1) 0 = 2 ^ Gn G - 1
    · by_cases d : lks G = Gn G - 1
      · simp [c, d, n_eq]
        rfl
      · simp [c, d, n_eq]
        rfl
    · simp [c]
      rfl
def shp (G : Gm) : Nat := if 4 ≤ Gn G ∧ clq G (2 ^ Gn G - 1) = true then 4 else if hub G < Gn G then 3 else if mtl G = true ∧ rng G (2 ^ Gn G - 1) = true then 2 else if tre G = true then 1 else 0
theorem sX4_kind (h : AR κ G) (hw : WF G) (hF : 100 < F) (h0 : Gn G ≠ 0) : pX4_kind F κ = some (nI (shp G)) := by
  have hn := hw.n6
  have h64 := pow_le_64 hn
  have hpos := Nat.two_pow_pos (Gn G)
  have e54 : pX4_kind_54 F κ = some (nI (if tre G = true then 1 else 0)) := by
    unfold pX4_kind_54 pX4_kind_66
    rw [sX4_isTree h hw hF h0]
    cases tre G <;> rfl
  have e24 : pX4_kind_24 F κ = some (nI (if hub G < Gn G then 3 else if mtl G = true ∧ rng G (2 ^ Gn G - 1) = true then 2 else if tre G = true then 1 else 0)) := by
    unfold pX4_kind_24
    rw [sX4_firstHub h hw hF, sX4_isMutual h hw hF, sX4_every h hw, e54]
    by_cases c : hub G < Gn G
    · rw [if_pos c, if_pos c]
      simp (disch := omega) only [n_0, n_1, n_2, n_3, n_4, n_5, n_6, n_7, n_8, n_9, n_10, n_12, n_13, n_14, n_20, n_31, n_32, n_63, n_64, n_600, n_1024, n_4096, n_6157, n_add, n_mul, nm_def, Option.bind_some, Option.some.injEq, ck_in, ck_nz, ck_p, n_cl, n_lt, n_le, n_eq, n_div, n_rem, if_pos, if_neg, if_true, if_false, eq_self, n_192, n_256, n_20000, m1_n0, m1_np, m1_n0p, m1_lt0, m1_lt0p, mi_setIA, mi_setI, ml_setIA, ml_setI, mr_setI, mr_setIA, nI_ne_p0]
    · rw [if_neg c, if_neg c]
      simp (disch := omega) only [n_0, n_1, n_2, n_3, n_4, n_5, n_6, n_7, n_8, n_9, n_10, n_12, n_13, n_14, n_20, n_31, n_32, n_63, n_64, n_600, n_1024, n_4096, n_6157, n_add, n_mul, nm_def, Option.bind_some, Option.some.injEq, ck_in, ck_nz, ck_p, n_cl, n_lt, n_le, n_eq, n_div, n_rem, if_pos, if_neg, if_true, if_false, eq_self, n_192, n_256, n_20000, m1_n0, m1_np, m1_n0p, m1_lt0, m1_lt0p, mi_setIA, mi_setI, ml_setIA, ml_setI, mr_setI, mr_setIA, sX4_isRing h hw hF (show 2 ^ Gn G - 1 < 2 ^ Gn G by omega)]
      cases mtl G
      · simp
      · cases rng G (2 ^ Gn G - 1)
        · simp [n_eq]
        · simp [n_eq]
  unfold pX4_kind shp
  rw [sX4_every h hw, e24, h.n]
  simp (disch := omega) only [n_0, n_1, n_2, n_3, n_4, n_5, n_6, n_7, n_8, n_9, n_10, n_12, n_13, n_14, n_20, n_31, n_32, n_63, n_64, n_600, n_1024, n_4096, n_6157, n_add, n_mul, nm_def, Option.bind_some, Option.some.injEq, ck_in, ck_nz, ck_p, n_cl, n_lt, n_le, n_eq, n_div, n_rem, if_pos, if_neg, if_true, if_false, eq_self, n_192, n_256, n_20000, m1_n0, m1_np, m1_n0p, m1_lt0, m1_lt0p, mi_setIA, mi_setI, ml_setIA, ml_setI, mr_setI, mr_setIA, sX4_clique1 h hw hF (show 2 ^ Gn G - 1 < 64 by omega)]
  by_cases c : Gn G < 4
  · have c2 : ¬ (4 ≤ Gn G ∧ clq G (2 ^ Gn G - 1) = true) := by omega
    rw [if_pos c, if_neg c2]
  · have c2 : 4 ≤ Gn G := by omega
    rw [if_neg c]
    cases clq G (2 ^ Gn G - 1)
    · simp
    · simp [c2, n_eq]
end NR
