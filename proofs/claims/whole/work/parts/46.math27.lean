/-! CALLS: networks and bounds -/
section CN
variable {κ ρ : Mem} {G : Gm} {H : Nat → Gm} {m F p q u : Nat} {a b : Int32}
theorem ag_c {a : Int32} {k : Nat} (h : ag a ≤ k) (hk : k < 2147483648) : ∃ w, w ≤ k ∧ a = nI w := ⟨ag a, h, ag_eq (n := k + 1) (by omega) (by omega)⟩
theorem R0 (h : IV G H m κ ρ) {k : Int32} : RG (st0 ρ k) 1 G := RG_st0 h.R (by decide)
theorem rB_many {w : Nat} (h : RG ρ 1 G) (hw : WF G) (hF : 200 < F) (hm : mi ρ 0 6 = nI m) (hw5 : w ≤ 5) : pX11_many_30 F ρ (nI w) F 0 0 = some (nI (if w = 0 then Gn G else if w = 1 then ncol G else if w = 2 then sgt G else if w = 3 then lks G else if w = 4 then m else (mtl G).toNat), ρ) := by
  have hn := hw.n6
  refine lp_upE F (fun fu i => pX11_many_30 F ρ (nI w) fu (nI (sm (fun p => pc (Gs G p)) i)) (nI i)) (0) (Gn G) _ _ rfl (fun fu => ?_) (fun fu i hi1 hi2 => ?_) (by omega) (by omega)
  · show pX11_many_30 F ρ (nI w) (fu + 1) (nI (sm (fun p => pc (Gs G p)) (Gn G))) (nI (Gn G)) = _
    rw [pX11_many_30, rX_players h, rX_colourings h hw (by omega), rX_links h hw (by omega), rX_isMutual h hw (by omega), hm]
    unfold pX11_many_130
    simp (disch := omega) only [n_0, n_1, n_2, n_3, n_4, n_5, n_6, n_7, n_8, n_9, n_10, n_12, n_13, n_14, n_20, n_31, n_32, n_63, n_64, n_600, n_1024, n_4096, n_6157, n_add, n_mul, nm_def, Option.bind_some, Option.some.injEq, ck_in, ck_nz, ck_p, n_cl, n_lt, n_le, n_eq, n_div, n_rem, if_pos, if_neg, if_true, if_false, eq_self, n_192, n_256, n_20000, m1_n0, m1_np, m1_n0p, m1_lt0, m1_lt0p, mi_setIA, mi_setI, ml_setIA, ml_setI, mr_setI, mr_setIA]
    have hwc : w = 0 ∨ w = 1 ∨ w = 2 ∨ w = 3 ∨ w = 4 ∨ w = 5 := by omega
    rcases hwc with rfl | rfl | rfl | rfl | rfl | rfl
    · rfl
    · rfl
    · rfl
    · rfl
    · rfl
    · cases mtl G <;> rfl
  · show pX11_many_30 F ρ (nI w) (fu + 1) (nI (sm (fun p => pc (Gs G p)) i)) (nI i) = pX11_many_30 F ρ (nI w) fu (nI (sm (fun p => pc (Gs G p)) (i + 1))) (nI (i + 1))
    have hs := hw.s64 hi2
    rw [pX11_many_30, rX_players h]
    simp (disch := omega) only [n_0, n_1, n_2, n_3, n_4, n_5, n_6, n_7, n_8, n_9, n_10, n_12, n_13, n_14, n_20, n_31, n_32, n_63, n_64, n_600, n_1024, n_4096, n_6157, n_add, n_mul, nm_def, Option.bind_some, Option.some.injEq, ck_in, ck_nz, ck_p, n_cl, n_lt, n_le, n_eq, n_div, n_rem, if_pos, if_neg, if_true, if_false, eq_self, n_192, n_256, n_20000, m1_n0, m1_np, m1_n0p, m1_lt0, m1_lt0p, mi_setIA, mi_setI, ml_setIA, ml_setI, mr_setI, mr_setIA, h.s hi2, rX_ones ρ, sm]
theorem sw5 {α : Type} {a : Int32} {x0 x1 x2 x3 x4 x5 xd : α} : (if a = 0 then x0 else if a = 1 then x1 else if a = 2 then x2 else if a = 3 then x3 else if a = 4 then x4 else if a = 5 then x5 else xd) = if ag a ≤ 5 then (if ag a = 0 then x0 else if ag a = 1 then x1 else if ag a = 2 then x2 else if ag a = 3 then x3 else if ag a = 4 then x4 else x5) else xd := by
  rcases ag_cases a with ⟨h1, h2⟩ | ⟨k, h1, h2, h3⟩
  · have hne : ∀ c : Nat, c < 10 → a ≠ nI c := fun c hc z => by
      subst z
      rw [n_0, n_neg (by omega)] at h1
      exact h1
    have e0 : a ≠ 0 := hne 0 (by decide)
    have e1 : a ≠ 1 := hne 1 (by decide)
    have e2 : a ≠ 2 := hne 2 (by decide)
    have e3 : a ≠ 3 := hne 3 (by decide)
    have e4 : a ≠ 4 := hne 4 (by decide)
    have e5 : a ≠ 5 := hne 5 (by decide)
    rw [if_neg e0, if_neg e1, if_neg e2, if_neg e3, if_neg e4, if_neg e5, if_neg (by omega)]
  · subst h2
    rw [h3]
    simp (disch := omega) only [n_0, n_1, n_2, n_3, n_4, n_5, n_eq]
    by_cases c : k ≤ 5
    · have hc : k = 0 ∨ k = 1 ∨ k = 2 ∨ k = 3 ∨ k = 4 ∨ k = 5 := by omega
      rcases hc with rfl | rfl | rfl | rfl | rfl | rfl
      · rfl
      · rfl
      · rfl
      · rfl
      · rfl
      · rfl
    · rw [if_neg c, if_neg (by omega), if_neg (by omega), if_neg (by omega), if_neg (by omega), if_neg (by omega), if_neg (by omega)]
theorem c_many (h : IV G H m κ ρ) (hF : 50000 < F) (a : Int32) : Res (pX10_many F κ a) (pX11_many F ρ a) := by
  have hw := h.W
  unfold pX10_many pX11_many pX11_many_18 pX10_many_116
  rw [sw5, rX_inc ρ a (hi := 5) (by decide) (by decide)]
  by_cases d : ag a ≤ 5
  · obtain ⟨w, hw5, rfl⟩ := ag_c d (by decide)
    have e0 : mi (st0 ρ 0) 0 6 = nI m := by
      have := h.2.1.2.2.1
      unfold st0
      rw [mi_setI, if_neg (by omega), mi_setI, if_neg (by omega)]
      exact this
    have e1 := rB_many (F := F) (m := m) (w := w) (R0 h (k := 0)) hw (by omega) e0 hw5
    rw [if_pos d, decide_eq_true d, h.A.n, h.A.c, sX4_sights h.A hw (by omega), sX4_links h.A hw (by omega), h.2.1.2.1.2, sX4_isMutual h.A hw (by omega), ag_nI (by omega)]
    simp only [x_give, x_refuse, rX_refuse, rX_is0, rX_is1, rX_is2, rX_is3, rX_is4, rX_is5, rX_is7, nBt, nBf, o10, Bool.not_true, Bool.not_false, if_true, if_false, eq_self, Option.bind_some, e1]
    have hwc : w = 0 ∨ w = 1 ∨ w = 2 ∨ w = 3 ∨ w = 4 ∨ w = 5 := by omega
    rcases hwc with rfl | rfl | rfl | rfl | rfl | rfl
    · exact res_ok h agr_rfl agr_rfl
    · exact res_ok h agr_rfl agr_rfl
    · exact res_ok h agr_rfl agr_rfl
    · exact res_ok h agr_rfl agr_rfl
    · exact res_ok h agr_rfl agr_rfl
    · cases mtl G
      · exact res_ok h agr_rfl agr_rfl
      · exact res_ok h agr_rfl agr_rfl
  · rw [if_neg d, decide_eq_false d]
    simp only [x_give, x_refuse, rX_refuse, rX_is0, rX_is1, rX_is2, rX_is3, rX_is4, rX_is5, rX_is7, nBt, nBf, o10, Bool.not_true, Bool.not_false, if_true, if_false, eq_self, Option.bind_some]
    exact res_no h agr_rfl agr_rfl
theorem c_player (h : IV G H m κ ρ) (hF : 50000 < F) (a b : Int32) : Res (pX10_player F κ a b) (pX11_player F ρ a b) := by
  have hw := h.W
  have hn := hw.n6
  unfold pX10_player pX11_player pX10_player_9 pX11_player_74
  rw [gd (c := 3) (k := 3) rfl (by decide), rX_inc ρ b (hi := 3) (by decide) (by decide), x_noPlayer h.A hw, rX_isPlayer h.R hw]
  simp only [Option.bind_some, why_eq]
  by_cases d : ag b ≤ 3
  · rw [if_pos d, decide_eq_true d]
    by_cases c : ag a < Gn G
    · obtain ⟨p, hp, rfl, -⟩ := ply hw c
      obtain ⟨w, hw2, rfl⟩ := ag_c d (by decide)
      have hp6 := hw_lt hw hp
      have hR : RG (st0 ρ (nI 0)) 1 G := R0 h
      rw [decide_eq_true c, if_pos rfl, if_pos rfl, show pX11_is ρ (nI 0) = some (1, st0 ρ (nI 0)) from rfl]
      simp (disch := omega) only [n_0, n_1, n_2, n_3, n_4, n_5, n_6, n_7, n_8, n_9, n_10, n_12, n_13, n_14, n_20, n_31, n_32, n_63, n_64, n_600, n_1024, n_4096, n_6157, n_add, n_mul, nm_def, Option.bind_some, Option.some.injEq, ck_in, ck_nz, ck_p, n_cl, n_lt, n_le, n_eq, n_div, n_rem, if_pos, if_neg, if_true, if_false, eq_self, n_192, n_256, n_20000, m1_n0, m1_np, m1_n0p, m1_lt0, m1_lt0p, mi_setIA, mi_setI, ml_setIA, ml_setI, mr_setI, mr_setIA, x_give, x_refuse, h.A.h hp, h.A.s hp, sX2_seenBy h.A.1 hw (show 10 < F by omega) (show p < 32 by omega), sX2_situations h.A.1 hw (show 10 < F by omega) hp, rX_hats hR hw hp, hR.s hp, rX_seenBy hR hw (show 100 < F by omega) (show p < 32 by omega), rX_situations hR hw (show 100 < F by omega) hp, Bool.not_true, Bool.toNat_false]
      have hwc : w = 0 ∨ w = 1 ∨ w = 2 ∨ w = 3 := by omega
      rcases hwc with rfl | rfl | rfl | rfl
      · exact res_ok h agr_rfl agr_rfl
      · exact res_ok h agr_rfl agr_rfl
      · exact res_ok h agr_rfl agr_rfl
      · exact res_ok h agr_rfl agr_rfl
    · rw [decide_eq_false c]
      simp only [x_give, x_refuse, rX_refuse, rX_is0, rX_is1, rX_is2, rX_is3, rX_is4, rX_is5, rX_is7, nBt, nBf, o10, Bool.not_true, Bool.not_false, if_true, if_false, eq_self, Option.bind_some, if_false, reduceIte, Bool.false_eq_true, show nI 2 = 2 from rfl]
      exact res_no h agr_rfl agr_rfl
  · rw [if_neg d, decide_eq_false d]
    simp only [x_give, x_refuse, rX_refuse, rX_is0, rX_is1, rX_is2, rX_is3, rX_is4, rX_is5, rX_is7, nBt, nBf, o10, Bool.not_true, Bool.not_false, if_true, if_false, eq_self, Option.bind_some, if_false, reduceIte, Bool.false_eq_true, show nI 1 = 1 from rfl]
    exact res_no h agr_rfl agr_rfl
theorem c_acyclic (h : IV G H m κ ρ) (hF : 50000 < F) : Res (pX10_acyclic F κ) (pX11_acyclic F ρ) := by
  have hw := h.W
  unfold pX10_acyclic pX11_acyclic pX10_acyclic_16 pX11_acyclic_19 pX11_acyclic_20
  rw [sX4_isAcyclic h.A hw (by omega)]
  simp only [x_give, x_refuse, rX_refuse, rX_is0, rX_is1, rX_is2, rX_is3, rX_is4, rX_is5, rX_is7, nBt, nBf, o10, Bool.not_true, Bool.not_false, if_true, if_false, eq_self, Option.bind_some, rX_isAcyclic (R0 h (k := 0)) hw (show 100 < F by omega)]
  cases acy G
  · simp only [x_give, x_refuse, rX_refuse, rX_is0, rX_is1, rX_is2, rX_is3, rX_is4, rX_is5, rX_is7, nBt, nBf, o10, Bool.not_true, Bool.not_false, if_true, if_false, eq_self, Option.bind_some]
    exact res_ok h agr_rfl agr_rfl
  · simp only [x_give, x_refuse, rX_refuse, rX_is0, rX_is1, rX_is2, rX_is3, rX_is4, rX_is5, rX_is7, nBt, nBf, o10, Bool.not_true, Bool.not_false, if_true, if_false, eq_self, Option.bind_some]
    exact res_ok h agr_rfl agr_rfl
theorem h1_le (hw : WF G) {k : Nat} (hk : k ≤ Gn G) : pw (fun p => Gh G p - 1) 0 k ≤ 4096 :=
  Nat.le_trans (pw_le (c := 4) (fun i _ h2 => by have := hw.h4 (p := i) (by omega); show Gh G i - 1 ≤ 4; omega)) (Nat.le_trans (Nat.pow_le_pow_right (by decide) (by have := hw.n6; omega : k ≤ 6)) (by decide))
theorem c_always (h : IV G H m κ ρ) (hF : 50000 < F) : Res (pX10_always F κ) (pX11_always F ρ) := by
  have hw := h.W
  have hn := hw.n6
  have e1 : pX10_always_30 F κ F 1 0 = some (nI (pw (fun p => Gh G p - 1) 0 (Gn G)), setI κ 0 12 0) := by
    refine lp_upE F (fun fu i => pX10_always_30 F κ fu (nI (pw (fun p => Gh G p - 1) 0 i)) (nI i)) (0) (Gn G) _ _ rfl (fun fu => ?_) (fun fu i hi1 hi2 => ?_) (by omega) (by omega)
    · show pX10_always_30 F κ (fu + 1) (nI (pw (fun p => Gh G p - 1) 0 (Gn G))) (nI (Gn G)) = _
      rw [pX10_always_30, h.A.n, x_give]
      simp (disch := omega) only [n_0, n_1, n_2, n_3, n_4, n_5, n_6, n_7, n_8, n_9, n_10, n_12, n_13, n_14, n_20, n_31, n_32, n_63, n_64, n_600, n_1024, n_4096, n_6157, n_add, n_mul, nm_def, Option.bind_some, Option.some.injEq, ck_in, ck_nz, ck_p, n_cl, n_lt, n_le, n_eq, n_div, n_rem, if_pos, if_neg, if_true, if_false, eq_self, n_192, n_256, n_20000, m1_n0, m1_np, m1_n0p, m1_lt0, m1_lt0p, mi_setIA, mi_setI, ml_setIA, ml_setI, mr_setI, mr_setIA]
    · show pX10_always_30 F κ (fu + 1) (nI (pw (fun p => Gh G p - 1) 0 i)) (nI i) = pX10_always_30 F κ fu (nI (pw (fun p => Gh G p - 1) 0 (i + 1))) (nI (i + 1))
      have h1 := hw.h1 hi2
      rw [pX10_always_30, h.A.n]
      simp (disch := omega) only [n_0, n_1, n_2, n_3, n_4, n_5, n_6, n_7, n_8, n_9, n_10, n_12, n_13, n_14, n_20, n_31, n_32, n_63, n_64, n_600, n_1024, n_4096, n_6157, n_add, n_mul, nm_def, Option.bind_some, Option.some.injEq, ck_in, ck_nz, ck_p, n_cl, n_lt, n_le, n_eq, n_div, n_rem, if_pos, if_neg, if_true, if_false, eq_self, n_192, n_256, n_20000, m1_n0, m1_np, m1_n0p, m1_lt0, m1_lt0p, mi_setIA, mi_setI, ml_setIA, ml_setI, mr_setI, mr_setIA, h.A.h hi2, n_sub, pw, Nat.zero_add]
  have e2 : ∀ ρ1, RG ρ1 1 G → pX11_always_32 F ρ1 F 1 0 = some (nI (pw (fun p => Gh G p - 1) 0 (Gn G)), ρ1) := fun ρ1 hR => by
    refine lp_upE F (fun fu i => pX11_always_32 F ρ1 fu (nI (pw (fun p => Gh G p - 1) 0 i)) (nI i)) (0) (Gn G) _ _ rfl (fun fu => ?_) (fun fu i hi1 hi2 => ?_) (by omega) (by omega)
    · show pX11_always_32 F ρ1 (fu + 1) (nI (pw (fun p => Gh G p - 1) 0 (Gn G))) (nI (Gn G)) = _
      rw [pX11_always_32, rX_players hR]
      simp (disch := omega) only [n_0, n_1, n_2, n_3, n_4, n_5, n_6, n_7, n_8, n_9, n_10, n_12, n_13, n_14, n_20, n_31, n_32, n_63, n_64, n_600, n_1024, n_4096, n_6157, n_add, n_mul, nm_def, Option.bind_some, Option.some.injEq, ck_in, ck_nz, ck_p, n_cl, n_lt, n_le, n_eq, n_div, n_rem, if_pos, if_neg, if_true, if_false, eq_self, n_192, n_256, n_20000, m1_n0, m1_np, m1_n0p, m1_lt0, m1_lt0p, mi_setIA, mi_setI, ml_setIA, ml_setI, mr_setI, mr_setIA]
    · show pX11_always_32 F ρ1 (fu + 1) (nI (pw (fun p => Gh G p - 1) 0 i)) (nI i) = pX11_always_32 F ρ1 fu (nI (pw (fun p => Gh G p - 1) 0 (i + 1))) (nI (i + 1))
      have h1 := hw.h1 hi2
      rw [pX11_always_32, rX_players hR, rX_hats hR hw hi2]
      simp (disch := omega) only [n_0, n_1, n_2, n_3, n_4, n_5, n_6, n_7, n_8, n_9, n_10, n_12, n_13, n_14, n_20, n_31, n_32, n_63, n_64, n_600, n_1024, n_4096, n_6157, n_add, n_mul, nm_def, Option.bind_some, Option.some.injEq, ck_in, ck_nz, ck_p, n_cl, n_lt, n_le, n_eq, n_div, n_rem, if_pos, if_neg, if_true, if_false, eq_self, n_192, n_256, n_20000, m1_n0, m1_np, m1_n0p, m1_lt0, m1_lt0p, mi_setIA, mi_setI, ml_setIA, ml_setI, mr_setI, mr_setIA, n_sub, pw, Nat.zero_add]
  unfold pX10_always pX11_always pX10_always_20 pX11_always_15 pX11_always_20
  rw [rX_players h.R, sX4_isAcyclic h.A hw (by omega), rX_isAcyclic h.R hw (by omega)]
  simp only [x_players0 h.A hw]
  by_cases z : Gn G = 0
  · rw [if_pos z, z]
    simp only [x_give, x_refuse, rX_refuse, rX_is0, rX_is1, rX_is2, rX_is3, rX_is4, rX_is5, rX_is7, nBt, nBf, o10, Bool.not_true, Bool.not_false, if_true, if_false, eq_self, Option.bind_some, show (nI 0 = (0 : Int32)) = True from eq_true rfl]
    exact res_no h agr_rfl agr_rfl
  · have z2 : ¬ nI (Gn G) = 0 := nI_nz (by omega) z
    rw [if_neg z, Option.bind_some, Option.bind_some, if_neg z2]
    cases acy G
    · simp only [x_give, x_refuse, rX_refuse, rX_is0, rX_is1, rX_is2, rX_is3, rX_is4, rX_is5, rX_is7, nBt, nBf, o10, Bool.not_true, Bool.not_false, if_true, if_false, eq_self, Option.bind_some]
      exact res_no h agr_rfl agr_rfl
    · simp only [x_give, x_refuse, rX_refuse, rX_is0, rX_is1, rX_is2, rX_is3, rX_is4, rX_is5, rX_is7, nBt, nBf, o10, Bool.not_true, Bool.not_false, if_true, if_false, eq_self, Option.bind_some, e1, e2 _ (R0 h (k := 0))]
      exact res_ok h agr_rfl agr_rfl
theorem c_blind (h : IV G H m κ ρ) (hF : 50000 < F) : Res (pX10_blind F κ) (pX11_blind F ρ) := by
  have hw := h.W
  have hn := hw.n6
  unfold pX10_blind pX11_blind pX11_blind_13 pX10_blind_29
  rw [rX_players h.R]
  simp only [x_players0 h.A hw]
  by_cases z : Gn G = 0
  · rw [if_pos z, z]
    simp only [x_give, x_refuse, rX_refuse, rX_is0, rX_is1, rX_is2, rX_is3, rX_is4, rX_is5, rX_is7, nBt, nBf, o10, Bool.not_true, Bool.not_false, if_true, if_false, eq_self, Option.bind_some, show (nI 0 = (0 : Int32)) = True from eq_true rfl]
    exact res_no h agr_rfl agr_rfl
  · have z2 : ¬ nI (Gn G) = 0 := nI_nz (by omega) z
    rw [if_neg z, Option.bind_some, if_neg z2]
    simp only [x_give, x_refuse, rX_refuse, rX_is0, rX_is1, rX_is2, rX_is3, rX_is4, rX_is5, rX_is7, nBt, nBf, o10, Bool.not_true, Bool.not_false, if_true, if_false, eq_self, Option.bind_some, sX4_blindG h.A hw (show 100 < F by omega), rB_blind (R0 h (k := 0)) hw (show 200 < F by omega)]
    exact res_ok h agr_rfl agr_rfl
theorem c_clique (h : IV G H m κ ρ) (hF : 50000 < F) : Res (pX10_clique F κ) (pX11_clique F ρ) := by
  have hw := h.W
  have hn := hw.n6
  unfold pX10_clique pX11_clique pX11_clique_13 pX10_clique_29
  rw [rX_players h.R]
  simp only [x_players0 h.A hw]
  by_cases z : Gn G = 0
  · rw [if_pos z, z]
    simp only [x_give, x_refuse, rX_refuse, rX_is0, rX_is1, rX_is2, rX_is3, rX_is4, rX_is5, rX_is7, nBt, nBf, o10, Bool.not_true, Bool.not_false, if_true, if_false, eq_self, Option.bind_some, show (nI 0 = (0 : Int32)) = True from eq_true rfl]
    exact res_no h agr_rfl agr_rfl
  · have z2 : ¬ nI (Gn G) = 0 := nI_nz (by omega) z
    rw [if_neg z, Option.bind_some, if_neg z2]
    simp only [x_give, x_refuse, rX_refuse, rX_is0, rX_is1, rX_is2, rX_is3, rX_is4, rX_is5, rX_is7, nBt, nBf, o10, Bool.not_true, Bool.not_false, if_true, if_false, eq_self, Option.bind_some, sX4_cliqueG h.A hw (show 100 < F by omega), rB_clique (R0 h (k := 0)) hw (show 200 < F by omega)]
    exact res_ok h agr_rfl agr_rfl
theorem c_strongest (h : IV G H m κ ρ) (hF : 50000 < F) : Res (pX10_strongest F κ) (pX11_strongest F ρ) := by
  have hw := h.W
  have hn := hw.n6
  unfold pX10_strongest pX11_strongest pX11_strongest_13 pX10_strongest_29
  rw [rX_players h.R]
  simp only [x_players0 h.A hw]
  by_cases z : Gn G = 0
  · rw [if_pos z, z]
    simp only [x_give, x_refuse, rX_refuse, rX_is0, rX_is1, rX_is2, rX_is3, rX_is4, rX_is5, rX_is7, nBt, nBf, o10, Bool.not_true, Bool.not_false, if_true, if_false, eq_self, Option.bind_some, show (nI 0 = (0 : Int32)) = True from eq_true rfl]
    exact res_no h agr_rfl agr_rfl
  · have z2 : ¬ nI (Gn G) = 0 := nI_nz (by omega) z
    rw [if_neg z, Option.bind_some, if_neg z2]
    simp only [x_give, x_refuse, rX_refuse, rX_is0, rX_is1, rX_is2, rX_is3, rX_is4, rX_is5, rX_is7, nBt, nBf, o10, Bool.not_true, Bool.not_false, if_true, if_false, eq_self, Option.bind_some, sX4_strongG h.A hw (show 100 < F by omega), rB_strong (R0 h (k := 0)) hw (show 200 < F by omega)]
    exact res_ok h agr_rfl agr_rfl
theorem c_sure (h : IV G H m κ ρ) (hF : 50000 < F) : Res (pX10_sure F κ) (pX11_sure F ρ) := by
  have hw := h.W
  unfold pX10_sure pX11_sure
  simp only [x_give, x_refuse, rX_refuse, rX_is0, rX_is1, rX_is2, rX_is3, rX_is4, rX_is5, rX_is7, nBt, nBf, o10, Bool.not_true, Bool.not_false, if_true, if_false, eq_self, Option.bind_some, sX4_sure h.A hw (show 100 < F by omega), rB_sure (R0 h (k := 0)) hw (show 200 < F by omega)]
  exact res_ok h agr_rfl agr_rfl
theorem c_far (h : IV G H m κ ρ) (hF : 50000 < F) (a b : Int32) : Res (pX10_far F κ a b) (pX11_far F ρ a b) := by
  have hw := h.W
  have hn := hw.n6
  unfold pX10_far pX11_far pX11_far_21 pX11_far_22 pX10_far_16 pX10_far_50
  rw [x_noPlayer h.A hw, rX_isPlayer h.R hw, x_noPlayer h.A hw, rX_isPlayer h.R hw]
  by_cases c : ag a < Gn G
  · by_cases d : ag b < Gn G
    · obtain ⟨p, hp, rfl, -⟩ := ply hw c
      obtain ⟨q, hq, rfl, -⟩ := ply hw d
      have hp6 := hw_lt hw hp
      have hq6 := hw_lt hw hq
      obtain ⟨f1, f2⟩ := far_fnd (q := q) hw hp
      have e1 : (1 : Int32) <<< (nI p &&& 31) = nI (2 ^ p) := n_shl1 (by omega)
      have e2 := rB_far (F := F) (R0 h (k := 0)) hw (by omega) hp hq
      rw [decide_eq_true c, decide_eq_true d]
      simp only [x_give, x_refuse, rX_refuse, rX_is0, rX_is1, rX_is2, rX_is3, rX_is4, rX_is5, rX_is7, nBt, nBf, o10, Bool.not_true, Bool.not_false, if_true, if_false, eq_self, Option.bind_some, sX4_stepsTo h.A hw (show 100 < F by omega) hp (show q < 32 by omega), nm_def, e1, e2]
      by_cases z : fnd (fun k => (rch G p k).testBit q) (Gn G) < Gn G
      · rw [if_pos z, if_pos (f1.mpr z), f2 z]
        simp only [x_give, x_refuse, rX_refuse, rX_is0, rX_is1, rX_is2, rX_is3, rX_is4, rX_is5, rX_is7, nBt, nBf, o10, Bool.not_true, Bool.not_false, if_true, if_false, eq_self, Option.bind_some, show (nI (fnd (fun k => (rch G p k).testBit q) (Gn G)) = (-1 : Int32)) = False from n_nem1 (by omega)]
        exact res_ok h agr_rfl agr_rfl
      · rw [if_neg z, if_neg (fun y => z (f1.mp y))]
        simp only [x_give, x_refuse, rX_refuse, rX_is0, rX_is1, rX_is2, rX_is3, rX_is4, rX_is5, rX_is7, nBt, nBf, o10, Bool.not_true, Bool.not_false, if_true, if_false, eq_self, Option.bind_some, show (predI 0 = (-1 : Int32)) = True from eq_true rfl]
        exact res_re h agr_rfl agr_rfl
    · rw [decide_eq_true c, decide_eq_false d]
      simp only [x_give, x_refuse, rX_refuse, rX_is0, rX_is1, rX_is2, rX_is3, rX_is4, rX_is5, rX_is7, nBt, nBf, o10, Bool.not_true, Bool.not_false, if_true, if_false, eq_self, Option.bind_some]
      exact res_no h agr_rfl agr_rfl
  · rw [decide_eq_false c]
    simp only [x_give, x_refuse, rX_refuse, rX_is0, rX_is1, rX_is2, rX_is3, rX_is4, rX_is5, rX_is7, nBt, nBf, o10, Bool.not_true, Bool.not_false, if_true, if_false, eq_self, Option.bind_some]
    exact res_no h agr_rfl agr_rfl
theorem c_shape (h : IV G H m κ ρ) (hF : 50000 < F) : Res (pX10_shape F κ) (pX11_shape F ρ) := by
  have hw := h.W
  have hn := hw.n6
  unfold pX10_shape pX11_shape pX11_shape_13 pX10_shape_29
  rw [rX_players h.R]
  simp only [x_players0 h.A hw]
  by_cases z : Gn G = 0
  · rw [if_pos z, z]
    simp only [x_give, x_refuse, rX_refuse, rX_is0, rX_is1, rX_is2, rX_is3, rX_is4, rX_is5, rX_is7, nBt, nBf, o10, Bool.not_true, Bool.not_false, if_true, if_false, eq_self, Option.bind_some, show (nI 0 = (0 : Int32)) = True from eq_true rfl]
    exact res_no h agr_rfl agr_rfl
  · have z2 : ¬ nI (Gn G) = 0 := nI_nz (by omega) z
    rw [if_neg z, Option.bind_some, if_neg z2]
    simp only [x_give, x_refuse, rX_refuse, rX_is0, rX_is1, rX_is2, rX_is3, rX_is4, rX_is5, rX_is7, nBt, nBf, o10, Bool.not_true, Bool.not_false, if_true, if_false, eq_self, Option.bind_some, sX4_kind h.A hw (show 100 < F by omega) z]
    rw [rB_shape (R0 h (k := 0)) hw (show 100 < F by omega) z]
    exact res_ok h agr_rfl agr_rfl
theorem c_hub (h : IV G H m κ ρ) (hF : 50000 < F) : Res (pX10_hub F κ) (pX11_hub F ρ) := by
  have hw := h.W
  have hn := hw.n6
  unfold pX10_hub pX11_hub pX10_hub_26 pX11_hub_28
  simp only [x_give, x_refuse, rX_refuse, rX_is0, rX_is1, rX_is2, rX_is3, rX_is4, rX_is5, rX_is7, nBt, nBf, o10, Bool.not_true, Bool.not_false, if_true, if_false, eq_self, Option.bind_some, sX4_firstHub h.A hw (show 100 < F by omega), rX_hubOf (R0 h (k := 0)) hw (show 100 < F by omega)]
  by_cases z : hub G < Gn G
  · rw [if_pos z]
    simp only [x_give, x_refuse, rX_refuse, rX_is0, rX_is1, rX_is2, rX_is3, rX_is4, rX_is5, rX_is7, nBt, nBf, o10, Bool.not_true, Bool.not_false, if_true, if_false, eq_self, Option.bind_some, show (nI (hub G) = (-1 : Int32)) = False from n_nem1 (by omega), show (nI (hub G) < (0 : Int32)) = False from n_neg (by omega)]
    exact res_ok h agr_rfl agr_rfl
  · rw [if_neg z]
    simp only [x_give, x_refuse, rX_refuse, rX_is0, rX_is1, rX_is2, rX_is3, rX_is4, rX_is5, rX_is7, nBt, nBf, o10, Bool.not_true, Bool.not_false, if_true, if_false, eq_self, Option.bind_some, show (predI 0 = (-1 : Int32)) = True from eq_true rfl, show (predI 0 < (0 : Int32)) = True from m1_lt0]
    exact res_re h agr_rfl agr_rfl
theorem c_part (h : IV G H m κ ρ) (hF : 50000 < F) (a : Int32) : Res (pX10_part F κ a) (pX11_part F ρ a) := by
  have hw := h.W
  have hn := hw.n6
  have h64 := pow_le_64 hn
  have hpos := Nat.two_pow_pos (Gn G)
  unfold pX10_part pX11_part pX11_part_14 pX10_part_35 pX11_part_33
  rw [x_noPlayer h.A hw, rX_isPlayer h.R hw]
  by_cases c : ag a < Gn G
  · obtain ⟨p, hp, rfl, -⟩ := ply hw c
    rw [decide_eq_true c]
    simp only [x_give, x_refuse, rX_refuse, rX_is0, rX_is1, rX_is2, rX_is3, rX_is4, rX_is5, rX_is7, nBt, nBf, o10, Bool.not_true, Bool.not_false, if_true, if_false, eq_self, Option.bind_some, sX4_every h.A hw, sX4_linkedWith h.A hw (show 100 < F by omega) hp (show 2 ^ Gn G - 1 < 64 by omega), rX_all (R0 h (k := 0)) hw, rX_along (R0 h (k := 0)) hw (show 100 < F by omega) hp (show 2 ^ Gn G - 1 < 64 by omega)]
    exact res_ok h agr_rfl agr_rfl
  · rw [decide_eq_false c]
    simp only [x_give, x_refuse, rX_refuse, rX_is0, rX_is1, rX_is2, rX_is3, rX_is4, rX_is5, rX_is7, nBt, nBf, o10, Bool.not_true, Bool.not_false, if_true, if_false, eq_self, Option.bind_some]
    exact res_no h agr_rfl agr_rfl
/-- greatest common divisors with 12 -/
def gcX (F t : Nat) : Option Int32 := pX10_commonDivisor F mem0 (nI t) 12
theorem cd_ok : ∀ t, t < 73 → (pX10_commonDivisor_4 0 mem0 (nI t) 12 30 1 2 = some (nI (Nat.gcd t 12)) ∧ pX11_common_4 0 mem0 30 (nI t) 12 = some (nI (Nat.gcd t 12))) := by decide +kernel
theorem cdX_F {F1 F2 : Nat} {κ1 κ2 : Mem} {v0 v1 : Int32} : ∀ (k fu : Nat) (v2 v3 r : Int32), pX10_commonDivisor_4 F1 κ1 v0 v1 k v2 v3 = some r → k ≤ fu → pX10_commonDivisor_4 F2 κ2 v0 v1 fu v2 v3 = some r := by
  intro k
  induction k with
  | zero => intro fu v2 v3 r h; cases h
  | succ k ih =>
    intro fu v2 v3 r h hf
    cases fu with
    | zero => omega
    | succ fu =>
      rw [pX10_commonDivisor_4] at h ⊢
      unfold pX10_commonDivisor_23 at h ⊢
      by_cases c1 : v3 ≤ v1
      · rw [if_pos c1] at h ⊢
        unfold ckZ at h ⊢
        by_cases c2 : v3 = 0
        · rw [if_pos c2] at h; cases h
        · rw [if_neg c2] at h ⊢
          by_cases c3 : v0 - v0 / v3 * v3 = 0
          · rw [if_pos c3] at h ⊢
            rw [if_neg c2] at h ⊢
            by_cases c4 : v1 - v1 / v3 * v3 = 0
            · rw [if_pos c4] at h ⊢
              exact ih fu _ _ r h (by omega)
            · rw [if_neg c4] at h ⊢
              exact ih fu _ _ r h (by omega)
          · rw [if_neg c3] at h ⊢
            exact ih fu _ _ r h (by omega)
      · rw [if_neg c1] at h ⊢
        exact h
theorem cdM_F {F1 F2 : Nat} {κ1 κ2 : Mem} : ∀ (k fu : Nat) (v2 v3 r : Int32), pX11_common_4 F1 κ1 k v2 v3 = some r → k ≤ fu → pX11_common_4 F2 κ2 fu v2 v3 = some r := by
  intro k
  induction k with
  | zero => intro fu v2 v3 r h; cases h
  | succ k ih =>
    intro fu v2 v3 r h hf
    cases fu with
    | zero => omega
    | succ fu =>
      rw [pX11_common_4] at h ⊢
      by_cases c1 : v3 = 0
      · rw [if_pos c1] at h ⊢
        exact h
      · rw [if_neg c1] at h ⊢
        unfold ckZ at h ⊢
        rw [if_neg c1] at h ⊢
        exact ih fu _ _ r h (by omega)
theorem gcd12 : ∀ t, t < 73 → 1 ≤ Nat.gcd t 12 ∧ Nat.gcd t 12 ≤ 12 := by decide +kernel
theorem c_share (h : IV G H m κ ρ) (hF : 50000 < F) (a b : Int32) : Res (pX10_share F κ a b) (pX11_share F ρ a b) := by
  have hw := h.W
  have hn := hw.n6
  have h64 := pow_le_64 hn
  unfold pX10_share pX11_share pX10_share_9 pX10_share_57 pX11_share_41
  rw [gd (c := 1) (k := 1) rfl (by decide), rX_inc ρ b (hi := 1) (by decide) (by decide), x_noSet h.A hw, rX_isSet h.R hw]
  simp only [Option.bind_some, why_eq]
  by_cases d : ag b ≤ 1
  · rw [if_pos d, decide_eq_true d]
    cases hc : isSt G a
    · simp only [x_give, x_refuse, rX_refuse, rX_is0, rX_is1, rX_is2, rX_is3, rX_is4, rX_is5, rX_is7, nBt, nBf, o10, Bool.not_true, Bool.not_false, if_true, if_false, eq_self, Option.bind_some, if_false, reduceIte, Bool.false_eq_true, show nI 2 = 2 from rfl]
      exact res_no h agr_rfl agr_rfl
    · obtain ⟨u, hu1, hu2, rfl⟩ := isSt_t hw hc
      have ht := twl_le u hw
      obtain ⟨g1, g2⟩ := gcd12 (twl G u) (by omega)
      have e1 : pX10_commonDivisor F κ (nI (twl G u)) 12 = some (nI (Nat.gcd (twl G u) 12)) := cdX_F 30 F 1 2 _ (cd_ok _ (by omega)).1 (by omega)
      have e2 : pX11_common F (st0 ρ 0) (nI (twl G u)) 12 = some (nI (Nat.gcd (twl G u) 12)) := cdM_F 30 F _ 12 _ (cd_ok _ (by omega)).2 (by omega)
      have e3 : ∀ x : Option (Int32 × Mem), ckZ (nI (Nat.gcd (twl G u) 12)) x = x := fun x => ck_nz (by omega) (by omega)
      simp only [x_give, x_refuse, rX_refuse, rX_is0, rX_is1, rX_is2, rX_is3, rX_is4, rX_is5, rX_is7, nBt, nBf, o10, Bool.not_true, Bool.not_false, if_true, if_false, eq_self, Option.bind_some, reduceIte, show nI 0 = 0 from rfl, sX4_twelfths h.A hw (show 100 < F by omega) (show u < 64 by omega), rX_twelfths (R0 h (k := 0)) hw (show 100 < F by omega) (show u < 64 by omega), e1, e2, e3]
      by_cases w0 : b = 0
      · rw [if_pos w0, if_pos w0]
        exact res_ok h agr_rfl agr_rfl
      · rw [if_neg w0, if_neg w0]
        exact res_ok h agr_rfl agr_rfl
  · rw [if_neg d, decide_eq_false d]
    simp only [x_give, x_refuse, rX_refuse, rX_is0, rX_is1, rX_is2, rX_is3, rX_is4, rX_is5, rX_is7, nBt, nBf, o10, Bool.not_true, Bool.not_false, if_true, if_false, eq_self, Option.bind_some, if_false, reduceIte, Bool.false_eq_true, show nI 1 = 1 from rfl]
    exact res_no h agr_rfl agr_rfl
/-- lost at the least: an int that may be below 0 on the way -/
def lsS (G : Gm) (k : Nat) : Nat := sm (fun p => ncol G / Gh G p) k
theorem c_least (h : IV G H m κ ρ) (hF : 50000 < F) : Res (pX10_least F κ) (pX11_least F ρ) := by
  have hw := h.W
  have hn := hw.n6
  have hc := ncol_le hw
  have e1 : pX10_least_10 F κ F (nI (ncol G)) 0 = some (if 0 < nI (ncol G) - nI (lsS G (Gn G)) then nI (ncol G) - nI (lsS G (Gn G)) else 0, setI κ 0 12 0) := by
    refine lp_upE F (fun fu i => pX10_least_10 F κ fu (nI (ncol G) - nI (lsS G i)) (nI i)) (0) (Gn G) _ _ ?_ (fun fu => ?_) (fun fu i hi1 hi2 => ?_) (by omega) (by omega)
    · show pX10_least_10 F κ F (nI (ncol G)) 0 = pX10_least_10 F κ F (nI (ncol G) - nI 0) (nI 0)
      rw [n_sub (Nat.zero_le _), Nat.sub_zero]
      rfl
    · show pX10_least_10 F κ (fu + 1) (nI (ncol G) - nI (lsS G (Gn G))) (nI (Gn G)) = _
      rw [pX10_least_10, h.A.n, x_give]
      simp (disch := omega) only [n_0, n_1, n_2, n_3, n_4, n_5, n_6, n_7, n_8, n_9, n_10, n_12, n_13, n_14, n_20, n_31, n_32, n_63, n_64, n_600, n_1024, n_4096, n_6157, n_add, n_mul, nm_def, Option.bind_some, Option.some.injEq, ck_in, ck_nz, ck_p, n_cl, n_lt, n_le, n_eq, n_div, n_rem, if_pos, if_neg, if_true, if_false, eq_self, n_192, n_256, n_20000, m1_n0, m1_np, m1_n0p, m1_lt0, m1_lt0p, mi_setIA, mi_setI, ml_setIA, ml_setI, mr_setI, mr_setIA]
    · show pX10_least_10 F κ (fu + 1) (nI (ncol G) - nI (lsS G i)) (nI i) = pX10_least_10 F κ fu (nI (ncol G) - nI (lsS G (i + 1))) (nI (i + 1))
      have h1 := hw.h1 hi2
      have h4 := hw.h4 hi2
      have es : nI (ncol G) - nI (lsS G i) - nI (ncol G / Gh G i) = nI (ncol G) - nI (lsS G (i + 1)) := by
        unfold lsS
        rw [sm, ← n_add, Int32.sub_sub]
      rw [pX10_least_10, h.A.n]
      simp (disch := omega) only [n_0, n_1, n_2, n_3, n_4, n_5, n_6, n_7, n_8, n_9, n_10, n_12, n_13, n_14, n_20, n_31, n_32, n_63, n_64, n_600, n_1024, n_4096, n_6157, n_add, n_mul, nm_def, Option.bind_some, Option.some.injEq, ck_in, ck_nz, ck_p, n_cl, n_lt, n_le, n_eq, n_div, n_rem, if_pos, if_neg, if_true, if_false, eq_self, n_192, n_256, n_20000, m1_n0, m1_np, m1_n0p, m1_lt0, m1_lt0p, mi_setIA, mi_setI, ml_setIA, ml_setI, mr_setI, mr_setIA, h.A.h hi2, h.A.c, es]
  have e2 : ∀ ρ1, RG ρ1 1 G → pX11_least_13 F ρ1 F (nI (ncol G)) 0 = some (if nI (ncol G) - nI (lsS G (Gn G)) ≤ 0 then 0 else nI (ncol G) - nI (lsS G (Gn G)), ρ1) := fun ρ1 hR => by
    refine lp_upE F (fun fu i => pX11_least_13 F ρ1 fu (nI (ncol G) - nI (lsS G i)) (nI i)) (0) (Gn G) _ _ ?_ (fun fu => ?_) (fun fu i hi1 hi2 => ?_) (by omega) (by omega)
    · show pX11_least_13 F ρ1 F (nI (ncol G)) 0 = pX11_least_13 F ρ1 F (nI (ncol G) - nI 0) (nI 0)
      rw [n_sub (Nat.zero_le _), Nat.sub_zero]
      rfl
    · show pX11_least_13 F ρ1 (fu + 1) (nI (ncol G) - nI (lsS G (Gn G))) (nI (Gn G)) = _
      rw [pX11_least_13, rX_players hR]
      unfold pX11_least_49
      simp (disch := omega) only [n_0, n_1, n_2, n_3, n_4, n_5, n_6, n_7, n_8, n_9, n_10, n_12, n_13, n_14, n_20, n_31, n_32, n_63, n_64, n_600, n_1024, n_4096, n_6157, n_add, n_mul, nm_def, Option.bind_some, Option.some.injEq, ck_in, ck_nz, ck_p, n_cl, n_lt, n_le, n_eq, n_div, n_rem, if_pos, if_neg, if_true, if_false, eq_self, n_192, n_256, n_20000, m1_n0, m1_np, m1_n0p, m1_lt0, m1_lt0p, mi_setIA, mi_setI, ml_setIA, ml_setI, mr_setI, mr_setIA]
      by_cases c : nI (ncol G) - nI (lsS G (Gn G)) ≤ nI 0
      · simp [c]
      · simp [c]
    · show pX11_least_13 F ρ1 (fu + 1) (nI (ncol G) - nI (lsS G i)) (nI i) = pX11_least_13 F ρ1 fu (nI (ncol G) - nI (lsS G (i + 1))) (nI (i + 1))
      have h1 := hw.h1 hi2
      have h4 := hw.h4 hi2
      have es : nI (ncol G) - nI (lsS G i) - nI (ncol G / Gh G i) = nI (ncol G) - nI (lsS G (i + 1)) := by
        unfold lsS
        rw [sm, ← n_add, Int32.sub_sub]
      rw [pX11_least_13, rX_players hR, rX_hats hR hw hi2, rX_colourings hR hw (by omega)]
      simp (disch := omega) only [n_0, n_1, n_2, n_3, n_4, n_5, n_6, n_7, n_8, n_9, n_10, n_12, n_13, n_14, n_20, n_31, n_32, n_63, n_64, n_600, n_1024, n_4096, n_6157, n_add, n_mul, nm_def, Option.bind_some, Option.some.injEq, ck_in, ck_nz, ck_p, n_cl, n_lt, n_le, n_eq, n_div, n_rem, if_pos, if_neg, if_true, if_false, eq_self, n_192, n_256, n_20000, m1_n0, m1_np, m1_n0p, m1_lt0, m1_lt0p, mi_setIA, mi_setI, ml_setIA, ml_setI, mr_setI, mr_setIA, es]
  have e3 : (if nI (ncol G) - nI (lsS G (Gn G)) ≤ 0 then (0 : Int32) else nI (ncol G) - nI (lsS G (Gn G))) = (if 0 < nI (ncol G) - nI (lsS G (Gn G)) then nI (ncol G) - nI (lsS G (Gn G)) else 0) := by
    generalize nI (ncol G) - nI (lsS G (Gn G)) = x
    by_cases c : x ≤ 0
    · rw [if_pos c, if_neg]
      intro z
      rw [Int32.le_iff_toInt_le] at c
      rw [Int32.lt_iff_toInt_lt] at z
      omega
    · rw [if_neg c, if_pos]
      rw [Int32.le_iff_toInt_le] at c
      rw [Int32.lt_iff_toInt_lt]
      omega
  unfold pX10_least pX11_least
  rw [nm_def, h.A.c, e1]
  simp only [x_give, x_refuse, rX_refuse, rX_is0, rX_is1, rX_is2, rX_is3, rX_is4, rX_is5, rX_is7, nBt, nBf, o10, Bool.not_true, Bool.not_false, if_true, if_false, eq_self, Option.bind_some, rX_colourings (R0 h (k := 0)) hw (show 100 < F by omega), e2 _ (R0 h (k := 0)), e3]
  exact res_ok h agr_rfl agr_rfl
end CN
