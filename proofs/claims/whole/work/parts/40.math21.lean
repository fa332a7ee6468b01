/-! CALLS: colourings, further -/
section C3
variable {κ ρ : Mem} {G : Gm} {H : Nat → Gm} {m F p q x : Nat} {a b : Int32}
theorem c_right (h : IV G H m κ ρ) (hF : 50000 < F) (a : Int32) : Res (pX10_right κ a) (pX11_right F ρ a) := by
  have hw := h.W
  have hn := ncol_le hw
  unfold pX10_right pX11_right pX11_right_14 pX10_right_29
  rw [x_noColouring h.A hw, rX_isColouring h.R hw (by omega)]
  by_cases d : ag a < ncol G
  · obtain ⟨x, hx, rfl⟩ := plc d (by omega)
    have hR := RG_st0 (k := 0) h.R (by decide)
    obtain ⟨s1, a1, a2, a3⟩ := rX_laysE (x := x) hR hw (show 100 < F by omega) (by omega)
    have e1 := rX_rightNow (F := F) (RG5 hR a1) hw (by omega) a2 (fun q hq => col_lt hw hq)
    rw [rgC_col] at e1
    have e3 : ∀ y : Option (Int32 × Mem), ckI (nI x) 4096 y = y := fun y => ck_in (by omega) (by decide)
    have e4 : (nI x).toNatClampNeg = x := n_cl (by omega)
    rw [decide_eq_true d]
    simp only [x_give, x_refuse, rX_refuse, rX_is0, rX_is1, rX_is2, rX_is3, rX_is4, rX_is5, rX_is7, nBt, nBf, o10, Bool.not_true, Bool.not_false, if_true, if_false, eq_self, Option.bind_some, a3, e1, e3, e4, h.J.r hx]
    exact res_ok h agr_rfl (agr5 a1)
  · rw [decide_eq_false d]
    simp only [x_give, x_refuse, rX_refuse, rX_is0, rX_is1, rX_is2, rX_is3, rX_is4, rX_is5, rX_is7, nBt, nBf, o10, Bool.not_true, Bool.not_false, if_true, if_false, eq_self, Option.bind_some]
    exact res_no h agr_rfl agr_rfl
theorem c_lost (h : IV G H m κ ρ) (hF : 50000 < F) (a : Int32) : Res (pX10_lost F κ a) (pX11_lost F ρ a) := by
  have hw := h.W
  unfold pX10_lost pX11_lost pX11_lost_11 pX10_lost_55
  by_cases c : a < -1
  · rw [if_pos c, if_pos c]
    simp only [x_give, x_refuse, rX_refuse, rX_is0, rX_is1, rX_is2, rX_is3, rX_is4, rX_is5, rX_is7, nBt, nBf, o10, Bool.not_true, Bool.not_false, if_true, if_false, eq_self, Option.bind_some]
    exact res_no h agr_rfl agr_rfl
  · rw [if_neg c, if_neg c]
    obtain ⟨ρ1, a1, hr, a3⟩ := rX_laysRight (F := F) (RG_st0 (k := 0) h.R (by decide)) hw (by omega)
    have hR1 : RG ρ1 1 G := (RG_st0 (k := 0) h.R (by decide)).agr a1 (by unfold r56; omega)
    by_cases d : a = -1
    · subst d
      simp only [x_give, x_refuse, rX_refuse, rX_is0, rX_is1, rX_is2, rX_is3, rX_is4, rX_is5, rX_is7, nBt, nBf, o10, Bool.not_true, Bool.not_false, if_true, if_false, eq_self, Option.bind_some, a3, sX1_lostInAll h.J, rB_lost1 hR1 hw (show 5000 < F by omega) hr]
      exact res_ok h agr_rfl (agr56 a1)
    · rcases ag_cases a with ⟨h1, -⟩ | ⟨k, h1, rfl, -⟩
      · exfalso
        have e1 : (-1 : Int32).toInt = -1 := by decide
        have e2 : (0 : Int32).toInt = 0 := by decide
        rw [Int32.lt_iff_toInt_lt, e2] at h1
        rw [Int32.lt_iff_toInt_lt, e1] at c
        exact d (Int32.toInt_inj.mp (by rw [e1]; omega))
      · rw [if_neg d]
        simp only [x_give, x_refuse, rX_refuse, rX_is0, rX_is1, rX_is2, rX_is3, rX_is4, rX_is5, rX_is7, nBt, nBf, o10, Bool.not_true, Bool.not_false, if_true, if_false, eq_self, Option.bind_some, a3, rB_lost2 hR1 hw (show 5000 < F by omega) hr h1, sX1_lostAt h.A h.J hw (show 5000 < F by omega) h1]
        by_cases e : fnd (lstK G k) (ncol G) < ncol G
        · have hn := ncol_le hw
          rw [if_pos e, if_pos e]
          simp only [x_give, x_refuse, rX_refuse, rX_is0, rX_is1, rX_is2, rX_is3, rX_is4, rX_is5, rX_is7, nBt, nBf, o10, Bool.not_true, Bool.not_false, if_true, if_false, eq_self, Option.bind_some, show (nI (fnd (lstK G k) (ncol G)) = (-1 : Int32)) = False from n_nem1 (by omega)]
          exact res_ok h agr_rfl (agr56 a1)
        · rw [if_neg e, if_neg e]
          simp only [x_give, x_refuse, rX_refuse, rX_is0, rX_is1, rX_is2, rX_is3, rX_is4, rX_is5, rX_is7, nBt, nBf, o10, Bool.not_true, Bool.not_false, if_true, if_false, eq_self, Option.bind_some, show (predI 0 = (-1 : Int32)) = True from eq_true rfl]
          exact res_re h agr_rfl (agr56 a1)
theorem c_exact (h : IV G H m κ ρ) (hF : 50000 < F) (a : Int32) : Res (pX10_exact F κ a) (pX11_exact F ρ a) := by
  have hw := h.W
  unfold pX10_exact pX11_exact pX11_exact_18 pX10_exact_29 pX11_exact_34
  rw [x_noRightCount, rX_inc ρ a (hi := 6) (by decide) (by decide)]
  by_cases d : ag a ≤ 6
  · obtain ⟨k, hk, rfl⟩ := plc (n := 7) (a := a) (by omega) (by decide)
    obtain ⟨ρ1, a1, a2⟩ := rB_rightOf (F := F) (RG_st0 (k := 0) h.R (by decide)) hw (by omega) (show k < 64 by omega) (show k < 64 by omega)
    rw [decide_eq_true d]
    simp only [x_give, x_refuse, rX_refuse, rX_is0, rX_is1, rX_is2, rX_is3, rX_is4, rX_is5, rX_is7, nBt, nBf, o10, Bool.not_true, Bool.not_false, if_true, if_false, eq_self, Option.bind_some, a2, sX1_withRight h.J hw (show 100 < F by omega) (show k < 64 by omega) (show k < 64 by omega)]
    exact res_ok h agr_rfl (agr56 a1)
  · rw [decide_eq_false d]
    simp only [x_give, x_refuse, rX_refuse, rX_is0, rX_is1, rX_is2, rX_is3, rX_is4, rX_is5, rX_is7, nBt, nBf, o10, Bool.not_true, Bool.not_false, if_true, if_false, eq_self, Option.bind_some]
    exact res_no h agr_rfl agr_rfl
theorem c_atLeast (h : IV G H m κ ρ) (hF : 50000 < F) (a : Int32) : Res (pX10_atLeast F κ a) (pX11_atLeast F ρ a) := by
  have hw := h.W
  unfold pX10_atLeast pX11_atLeast pX11_atLeast_18 pX10_atLeast_30 pX11_atLeast_35
  rw [x_noRightCount, rX_inc ρ a (hi := 6) (by decide) (by decide)]
  by_cases d : ag a ≤ 6
  · obtain ⟨k, hk, rfl⟩ := plc (n := 7) (a := a) (by omega) (by decide)
    obtain ⟨ρ1, a1, a2⟩ := rB_rightOf (F := F) (RG_st0 (k := 0) h.R (by decide)) hw (by omega) (show k < 64 by omega) (show 6 < 64 by omega)
    have e2 := sX1_withRight (F := F) h.J hw (by omega) (show k < 64 by omega) (show 6 < 64 by omega)
    rw [decide_eq_true d, n_6]
    simp only [x_give, x_refuse, rX_refuse, rX_is0, rX_is1, rX_is2, rX_is3, rX_is4, rX_is5, rX_is7, nBt, nBf, o10, Bool.not_true, Bool.not_false, if_true, if_false, eq_self, Option.bind_some, a2, e2]
    exact res_ok h agr_rfl (agr56 a1)
  · rw [decide_eq_false d]
    simp only [x_give, x_refuse, rX_refuse, rX_is0, rX_is1, rX_is2, rX_is3, rX_is4, rX_is5, rX_is7, nBt, nBf, o10, Bool.not_true, Bool.not_false, if_true, if_false, eq_self, Option.bind_some]
    exact res_no h agr_rfl agr_rfl
theorem c_alone (h : IV G H m κ ρ) (hF : 50000 < F) (a : Int32) : Res (pX10_alone κ a) (pX11_alone F ρ a) := by
  have hw := h.W
  unfold pX10_alone pX11_alone pX11_alone_14 pX10_alone_31
  rw [x_noPlayer h.A hw, rX_isPlayer h.R hw]
  by_cases c : ag a < Gn G
  · obtain ⟨p, hp, rfl, -⟩ := ply hw c
    have hp6 := hw_lt hw hp
    have h64 : 2 ^ p < 64 := Nat.lt_of_lt_of_le (Nat.pow_lt_pow_right (by decide) hp6) (Nat.le_refl _)
    obtain ⟨ρ1, a1, hr, a3⟩ := rX_laysRight (F := F) (RG_st0 (k := 0) h.R (by decide)) hw (by omega)
    have hR1 : RG ρ1 1 G := (RG_st0 (k := 0) h.R (by decide)).agr a1 (by unfold r56; omega)
    rw [decide_eq_true c, n_1, n_31, n_shl1 (by omega)]
    have e3 : ∀ y : Option (Int32 × Mem), ckI (nI (2 ^ p)) 64 y = y := fun y => ck_in h64 (by decide)
    have e4 : (nI (2 ^ p)).toNatClampNeg = 2 ^ p := n_cl (by omega)
    simp only [x_give, x_refuse, rX_refuse, rX_is0, rX_is1, rX_is2, rX_is3, rX_is4, rX_is5, rX_is7, nBt, nBf, o10, Bool.not_true, Bool.not_false, if_true, if_false, eq_self, Option.bind_some, a3, e3, e4, h.J.b h64, rB_alone hR1 hw (show 5000 < F by omega) hr hp]
    exact res_ok h agr_rfl (agr56 a1)
  · rw [decide_eq_false c]
    simp only [x_give, x_refuse, rX_refuse, rX_is0, rX_is1, rX_is2, rX_is3, rX_is4, rX_is5, rX_is7, nBt, nBf, o10, Bool.not_true, Bool.not_false, if_true, if_false, eq_self, Option.bind_some]
    exact res_no h agr_rfl agr_rfl
theorem c_both (h : IV G H m κ ρ) (hF : 50000 < F) (a b : Int32) : Res (pX10_both F κ a b) (pX11_both F ρ a b) := by
  have hw := h.W
  unfold pX10_both pX11_both
  rw [x_pairTrouble h.A hw, rX_whyPair h.R hw]
  by_cases c : prT G a b = 0
  · obtain ⟨p, q, hp, hq, hpq, rfl, rfl⟩ := prT_t hw c
    have hp6 := hw_lt hw hp
    have hq6 := hw_lt hw hq
    obtain ⟨ρ1, a1, hr, a3⟩ := rX_laysRight (F := F) (RG_st0 (k := 0) h.R (by decide)) hw (by omega)
    have hR1 : RG ρ1 1 G := (RG_st0 (k := 0) h.R (by decide)).agr a1 (by unfold r56; omega)
    have h64 : 2 ^ p ||| 2 ^ q < 64 := n_setb (2 ^ p) (Nat.lt_of_lt_of_le (Nat.pow_lt_pow_right (by decide) hp6) (Nat.le_refl _)) q hq6
    have e1 := rB_both (F := F) hR1 hw (by omega) hr hp6 hq6
    rw [cnt_congr (g := fun x => decide (rgt G x &&& (2 ^ p ||| 2 ^ q) = 2 ^ p ||| 2 ^ q)) (fun x _ => (both_set _ (rgt_lt hw) p hp6 q hq6).symm)] at e1
    have e2 := sX1_allRightOf (F := F) (u := 2 ^ p ||| 2 ^ q) h.J hw (by omega) (by omega)
    rw [c, show nI 0 = 0 from rfl, n_1, n_31, n_shl1 (show p < 31 by omega), n_shl1 (show q < 31 by omega), n_or]
    simp only [← n_1]
    simp only [x_give, x_refuse, rX_refuse, rX_is0, rX_is1, rX_is2, rX_is3, rX_is4, rX_is5, rX_is7, nBt, nBf, o10, Bool.not_true, Bool.not_false, if_true, if_false, eq_self, Option.bind_some, a3, e1, e2]
    exact res_ok h agr_rfl (agr56 a1)
  · have hne := nI_nz (show prT G a b < 2147483648 from prT_lt) c
    rw [Option.bind_some, Option.bind_some, if_neg hne, rX_isk ρ hne]
    simp only [x_give, x_refuse, rX_refuse, rX_is0, rX_is1, rX_is2, rX_is3, rX_is4, rX_is5, rX_is7, nBt, nBf, o10, Bool.not_true, Bool.not_false, if_true, if_false, eq_self, Option.bind_some]
    exact res_no h agr_rfl agr_rfl
theorem c_without (h : IV G H m κ ρ) (hF : 50000 < F) (a : Int32) : Res (pX10_without F κ a) (pX11_without F ρ a) := by
  have hw := h.W
  have h64 := pow_le_64 hw.n6
  unfold pX10_without pX11_without pX11_without_14 pX10_without_28
  rw [x_noSet h.A hw, rX_isSet h.R hw]
  cases hc : isSt G a
  · simp only [x_give, x_refuse, rX_refuse, rX_is0, rX_is1, rX_is2, rX_is3, rX_is4, rX_is5, rX_is7, nBt, nBf, o10, Bool.not_true, Bool.not_false, if_true, if_false, eq_self, Option.bind_some]
    exact res_no h agr_rfl agr_rfl
  · obtain ⟨u, hu1, hu2, rfl⟩ := isSt_t hw hc
    obtain ⟨ρ1, a1, hr, a3⟩ := rX_laysRight (F := F) (RG_st0 (k := 0) h.R (by decide)) hw (by omega)
    have hR1 : RG ρ1 1 G := (RG_st0 (k := 0) h.R (by decide)).agr a1 (by unfold r56; omega)
    simp only [x_give, x_refuse, rX_refuse, rX_is0, rX_is1, rX_is2, rX_is3, rX_is4, rX_is5, rX_is7, nBt, nBf, o10, Bool.not_true, Bool.not_false, if_true, if_false, eq_self, Option.bind_some, a3, rX_lostBy hR1 hw (show 5000 < F by omega) hr (show u < 2147483648 by omega), sX1_noneRightOf h.J hw (show 100 < F by omega) (show u < 2147483648 by omega)]
    exact res_ok h agr_rfl (agr56 a1)
theorem c_together (h : IV G H m κ ρ) (hF : 50000 < F) (a : Int32) : Res (pX10_together F κ a) (pX11_together F ρ a) := by
  have hw := h.W
  have h64 := pow_le_64 hw.n6
  unfold pX10_together pX11_together pX11_together_14 pX10_together_28
  rw [x_noSet h.A hw, rX_isSet h.R hw]
  cases hc : isSt G a
  · simp only [x_give, x_refuse, rX_refuse, rX_is0, rX_is1, rX_is2, rX_is3, rX_is4, rX_is5, rX_is7, nBt, nBf, o10, Bool.not_true, Bool.not_false, if_true, if_false, eq_self, Option.bind_some]
    exact res_no h agr_rfl agr_rfl
  · obtain ⟨u, hu1, hu2, rfl⟩ := isSt_t hw hc
    obtain ⟨ρ1, a1, hr, a3⟩ := rX_laysRight (F := F) (RG_st0 (k := 0) h.R (by decide)) hw (by omega)
    have hR1 : RG ρ1 1 G := (RG_st0 (k := 0) h.R (by decide)).agr a1 (by unfold r56; omega)
    simp only [x_give, x_refuse, rX_refuse, rX_is0, rX_is1, rX_is2, rX_is3, rX_is4, rX_is5, rX_is7, nBt, nBf, o10, Bool.not_true, Bool.not_false, if_true, if_false, eq_self, Option.bind_some, a3, rB_together hR1 hw (show 5000 < F by omega) hr (show u < 2147483648 by omega), sX1_allRightOf h.J hw (show 100 < F by omega) (show u < 2147483648 by omega)]
    exact res_ok h agr_rfl (agr56 a1)
theorem predI_e0 {a : Nat} (ha : a < 2147483648) : (predI a = predI 0) = (a = 0) := predI_m1 ha
theorem x_players0 (h : AR κ G) (hw : WF G) : (mi κ 1 0 = 0) = (Gn G = 0) := by
  have hn := hw.n6
  rw [h.n, n_0, n_eq (by omega) (by decide)]
theorem c_crowd (h : IV G H m κ ρ) (hF : 50000 < F) (a : Int32) : Res (pX10_crowd F κ a) (pX11_crowd F ρ a) := by
  have hw := h.W
  have hn := hw.n6
  unfold pX10_crowd pX11_crowd pX11_crowd_29 pX10_crowd_9 pX10_crowd_75
  rw [gd (c := 2) (k := 2) rfl (by decide), rX_inc ρ a (hi := 2) (by decide) (by decide), rX_players h.R]
  simp only [x_players0 h.A hw]
  by_cases d : ag a ≤ 2
  · obtain ⟨w, hw2, rfl⟩ := plc (n := 3) (a := a) (by omega) (by decide)
    rw [if_pos d, decide_eq_true d]
    by_cases z : Gn G = 0
    · rw [if_pos z, z]
      simp only [x_give, x_refuse, rX_refuse, rX_is0, rX_is1, rX_is2, rX_is3, rX_is4, rX_is5, rX_is7, nBt, nBf, o10, Bool.not_true, Bool.not_false, if_true, if_false, eq_self, Option.bind_some, show (nI 0 = (0 : Int32)) = True from eq_true rfl]
      exact res_no h agr_rfl agr_rfl
    · have z2 : ¬ nI (Gn G) = 0 := nI_nz (by omega) z
      obtain ⟨ρ1, a1, hr, a3⟩ := rX_laysRight (F := F) (RG_st0 (k := 0) h.R (by decide)) hw (by omega)
      have hR1 : RG ρ1 1 G := (RG_st0 (k := 0) h.R (by decide)).agr a1 (by unfold r56; omega)
      have e1 := rB_crowd (F := F) (w := w) hR1 hw (by omega) hr z (by omega)
      have hc := ncol_le hw
      have hc0 := ncol_pos hw z
      obtain ⟨k1, k2, k3⟩ := crw_ok (fun x => pc (rgt G x)) (ncol G) hc0
      have k4 := (crw_le (fun x => pc (rgt G x)) (ncol G)).1
      have em : mostR G = mx (fun x => pc (rgt G x)) (ncol G) := rfl
      have k1' : pc (rgt G (crw (fun x => pc (rgt G x)) (ncol G)).1) = mostR G := k1
      have k5 : mostR G ≤ 6 := by rw [← k1']; exact pc_le _
      rw [k1', k2, k3, ← em] at e1
      have e2 := sX1_firstWithRight (F := F) (m := mostR G) h.A h.J hw (by omega) (by omega)
      have k6 : fnd (fun x => decide (pc (rgt G x) = mostR G)) (ncol G) < ncol G := by
        have : (crw (fun x => pc (rgt G x)) (ncol G)).1 = fnd (fun x => decide (pc (rgt G x) = mostR G)) (ncol G) := k2
        omega
      rw [if_pos k6] at e2
      have e3 := sX1_withRight (F := F) (m := mostR G) (m2 := mostR G) h.J hw (by omega) (by omega) (by omega)
      rw [cnt_congr (g := fun x => decide (pc (rgt G x) = mostR G)) (fun x _ => by
        rw [← Bool.decide_and]
        exact decide_eq_decide.mpr (by omega))] at e3
      rw [if_neg z, Option.bind_some, if_neg (show ¬ nI true.toNat = 0 by decide), Option.bind_some, if_neg z2]
      simp only [x_give, x_refuse, rX_refuse, rX_is0, rX_is1, rX_is2, rX_is3, rX_is4, rX_is5, rX_is7, nBt, nBf, o10, Bool.not_true, Bool.not_false, if_true, if_false, eq_self, Option.bind_some, a3, e1, sX1_mostRight h.J hw (show 100 < F by omega), e2, e3]
      simp (disch := omega) only [n_0, n_1, n_eq]
      by_cases w0 : w = 0
      · rw [if_pos w0, if_pos w0]
        exact res_ok h agr_rfl (agr56 a1)
      · rw [if_neg w0, if_neg w0]
        by_cases w1 : w = 1
        · rw [if_pos w1, if_pos w1]
          exact res_ok h agr_rfl (agr56 a1)
        · rw [if_neg w1, if_neg w1]
          exact res_ok h agr_rfl (agr56 a1)
  · rw [if_neg d, decide_eq_false d]
    simp only [x_give, x_refuse, rX_refuse, rX_is0, rX_is1, rX_is2, rX_is3, rX_is4, rX_is5, rX_is7, nBt, nBf, o10, Bool.not_true, Bool.not_false, if_true, if_false, eq_self, Option.bind_some]
    exact res_no h agr_rfl agr_rfl
theorem c_twice (h : IV G H m κ ρ) (hF : 50000 < F) : Res (pX10_twice F κ) (pX11_twice F ρ) := by
  have hw := h.W
  obtain ⟨ρ1, a1, a2⟩ := rB_twice (F := F) (RG_st0 (k := 0) h.R (by decide)) hw (by omega)
  rw [cnt_congr (g := fun x => decide (rgt G x = 0) && !exb (secR G x) (Gn G)) (fun x _ => tw1_eq hw x)] at a2
  unfold pX10_twice pX11_twice
  simp only [x_give, x_refuse, rX_refuse, rX_is0, rX_is1, rX_is2, rX_is3, rX_is4, rX_is5, rX_is7, nBt, nBf, o10, Bool.not_true, Bool.not_false, if_true, if_false, eq_self, Option.bind_some, a2, sX1_lostOfTwo h.A h.J hw (show 5000 < F by omega)]
  exact res_ok h agr_rfl (agr5 a1)
theorem c_blinded (h : IV G H m κ ρ) (hF : 50000 < F) (a b : Int32) : Res (pX10_blinded F κ a b) (pX11_blinded F ρ a b) := by
  have hw := h.W
  unfold pX10_blinded pX11_blinded pX10_blinded_32 pX11_blinded_23
  rw [x_sightTrouble h.A hw, rX_whySight h.R hw]
  by_cases c : siT G a b = 0
  · obtain ⟨p, q, hp, hq, hpq, hs, rfl, rfl⟩ := siT_t hw c
    obtain ⟨ρ1, a1, a2⟩ := rX_lostBlinded (F := F) (RG_st0 (k := 0) h.R (by decide)) hw (by omega) hp hs
    rw [c, show nI 0 = 0 from rfl]
    simp only [x_give, x_refuse, rX_refuse, rX_is0, rX_is1, rX_is2, rX_is3, rX_is4, rX_is5, rX_is7, nBt, nBf, o10, Bool.not_true, Bool.not_false, if_true, if_false, eq_self, Option.bind_some, sX1_lostUnseen h.A h.J hw (show 5000 < F by omega) hp hs, a2]
    exact res_ok h agr_rfl (agr5 a1)
  · have hne := nI_nz siT_lt c
    rw [Option.bind_some, Option.bind_some, if_neg hne, rX_isk ρ hne]
    simp only [x_give, x_refuse, rX_refuse, rX_is0, rX_is1, rX_is2, rX_is3, rX_is4, rX_is5, rX_is7, nBt, nBf, o10, Bool.not_true, Bool.not_false, if_true, if_false, eq_self, Option.bind_some]
    exact res_no h agr_rfl agr_rfl
theorem xB_weakest_in {w : Int32} {k7 : Int32 → Int32 → Int32 → Option (Int32 × Mem)} {st : Nat × Nat} (h : AR κ G) (hj : JD κ G) (hw : WF G) (hF : 5000 < F) (hp : p < Gn G) (hs : st.1 ≤ 100 ∧ st.2 ≤ 4097) : pX10_weakest_22 F k7 κ w (nI p) F (predI st.1) (predI st.2) 0 = k7 (predI (wkI G p st (Gn G)).1) (predI (wkI G p st (Gn G)).2) (nI (p + 1)) := by
  have hn := hw.n6
  have hp6 := hw_lt hw hp
  refine lp_upE F (fun fu i => pX10_weakest_22 F k7 κ w (nI p) fu (predI (wkI G p st i).1) (predI (wkI G p st i).2) (nI i)) (0) (Gn G) _ _ rfl (fun fu => ?_) (fun fu i hi1 hi2 => ?_) (by omega) (by omega)
  · show pX10_weakest_22 F k7 κ w (nI p) (fu + 1) (predI (wkI G p st (Gn G)).1) (predI (wkI G p st (Gn G)).2) (nI (Gn G)) = _
    rw [pX10_weakest_22, h.n]
    simp (disch := omega) only [n_0, n_1, n_2, n_3, n_4, n_5, n_6, n_7, n_8, n_9, n_10, n_12, n_13, n_14, n_20, n_31, n_32, n_63, n_64, n_600, n_1024, n_4096, n_6157, n_add, n_mul, nm_def, Option.bind_some, Option.some.injEq, ck_in, ck_nz, ck_p, n_cl, n_lt, n_le, n_eq, n_div, n_rem, if_pos, if_neg, if_true, if_false, eq_self, n_192, n_256, n_20000, m1_n0, m1_np, m1_n0p, m1_lt0, m1_lt0p, mi_setIA, mi_setI, ml_setIA, ml_setI, mr_setI, mr_setIA]
  · show pX10_weakest_22 F k7 κ w (nI p) (fu + 1) (predI (wkI G p st i).1) (predI (wkI G p st i).2) (nI i) = pX10_weakest_22 F k7 κ w (nI p) fu (predI (wkI G p st (i + 1)).1) (predI (wkI G p st (i + 1)).2) (nI (i + 1))
    have hle := wkI_le hw hs hp6 i (by omega)
    have hcl := cnt_n hw (lstU G p i)
    rw [pX10_weakest_22, h.n, sX2_watches h.1 hw hp (by omega), wkI]
    unfold pX10_weakest_63 pX10_weakest_83
    cases hsee : sees G p i
    · simp (disch := omega) only [n_0, n_1, n_2, n_3, n_4, n_5, n_6, n_7, n_8, n_9, n_10, n_12, n_13, n_14, n_20, n_31, n_32, n_63, n_64, n_600, n_1024, n_4096, n_6157, n_add, n_mul, nm_def, Option.bind_some, Option.some.injEq, ck_in, ck_nz, ck_p, n_cl, n_lt, n_le, n_eq, n_div, n_rem, if_pos, if_neg, if_true, if_false, eq_self, n_192, n_256, n_20000, m1_n0, m1_np, m1_n0p, m1_lt0, m1_lt0p, mi_setIA, mi_setI, ml_setIA, ml_setI, mr_setI, mr_setIA, Bool.toNat_false, Nat.zero_le, predI_le]
      simp
    · simp (disch := omega) only [n_0, n_1, n_2, n_3, n_4, n_5, n_6, n_7, n_8, n_9, n_10, n_12, n_13, n_14, n_20, n_31, n_32, n_63, n_64, n_600, n_1024, n_4096, n_6157, n_add, n_mul, nm_def, Option.bind_some, Option.some.injEq, ck_in, ck_nz, ck_p, n_cl, n_lt, n_le, n_eq, n_div, n_rem, if_pos, if_neg, if_true, if_false, eq_self, n_192, n_256, n_20000, m1_n0, m1_np, m1_n0p, m1_lt0, m1_lt0p, mi_setIA, mi_setI, ml_setIA, ml_setI, mr_setI, mr_setIA, Bool.toNat_true, sX1_lostUnseen h hj hw hF hp hsee, n_le_p, true_and]
      by_cases c : cnt (lstU G p i) (ncol G) + 1 ≤ (wkI G p st i).2
      · rw [if_pos c, if_neg (by omega)]
      · rw [if_neg c, if_pos (by omega)]
        rfl
theorem xB_weakest_out {w : Int32} (h : AR κ G) (hj : JD κ G) (hw : WF G) (hF : 5000 < F) : pX10_weakest_7 F κ w F (-1) (-1) 0 = if (wkO G (Gn G)).1 = 0 then some (-1, setI κ 0 12 5) else some (if w = 0 then predI (wkO G (Gn G)).1 else predI (wkO G (Gn G)).2, setI κ 0 12 0) := by
  have hn := hw.n6
  refine lp_upE F (fun fu i => pX10_weakest_7 F κ w fu (predI (wkO G i).1) (predI (wkO G i).2) (nI i)) (0) (Gn G) _ _ rfl (fun fu => ?_) (fun fu i hi1 hi2 => ?_) (by omega) (by omega)
  · show pX10_weakest_7 F κ w (fu + 1) (predI (wkO G (Gn G)).1) (predI (wkO G (Gn G)).2) (nI (Gn G)) = _
    have hle := wkO_le hw (Gn G) (Nat.le_refl _)
    rw [pX10_weakest_7, h.n, x_refuse]
    unfold pX10_weakest_116
    simp (disch := omega) only [n_0, n_1, n_2, n_3, n_4, n_5, n_6, n_7, n_8, n_9, n_10, n_12, n_13, n_14, n_20, n_31, n_32, n_63, n_64, n_600, n_1024, n_4096, n_6157, n_add, n_mul, nm_def, Option.bind_some, Option.some.injEq, ck_in, ck_nz, ck_p, n_cl, n_lt, n_le, n_eq, n_div, n_rem, if_pos, if_neg, if_true, if_false, eq_self, n_192, n_256, n_20000, m1_n0, m1_np, m1_n0p, m1_lt0, m1_lt0p, mi_setIA, mi_setI, ml_setIA, ml_setI, mr_setI, mr_setIA, x_give, predI_e0]
    by_cases c : (wkO G (Gn G)).1 = 0
    · rw [if_pos c, if_pos c]
    · rw [if_neg c, if_neg c]
      by_cases d : w = nI 0
      · simp [d]
      · simp [d]
  · show pX10_weakest_7 F κ w (fu + 1) (predI (wkO G i).1) (predI (wkO G i).2) (nI i) = pX10_weakest_7 F κ w fu (predI (wkO G (i + 1)).1) (predI (wkO G (i + 1)).2) (nI (i + 1))
    have hle := wkO_le hw i (by omega)
    rw [pX10_weakest_7, h.n]
    simp (disch := omega) only [n_0, n_1, n_2, n_3, n_4, n_5, n_6, n_7, n_8, n_9, n_10, n_12, n_13, n_14, n_20, n_31, n_32, n_63, n_64, n_600, n_1024, n_4096, n_6157, n_add, n_mul, nm_def, Option.bind_some, Option.some.injEq, ck_in, ck_nz, ck_p, n_cl, n_lt, n_le, n_eq, n_div, n_rem, if_pos, if_neg, if_true, if_false, eq_self, n_192, n_256, n_20000, m1_n0, m1_np, m1_n0p, m1_lt0, m1_lt0p, mi_setIA, mi_setI, ml_setIA, ml_setI, mr_setI, mr_setIA]
    exact xB_weakest_in h hj hw hF hi2 hle
theorem c_weakest (h : IV G H m κ ρ) (hF : 50000 < F) (a : Int32) : Res (pX10_weakest F κ a) (pX11_weakest F ρ a) := by
  have hw := h.W
  obtain ⟨ρ1, a1, a2⟩ := rX_weakest_out (F := F) (w := a) (RG_st0 (k := 0) h.R (by decide)) hw (by omega)
  unfold pX10_weakest pX11_weakest
  simp only [x_give, x_refuse, rX_refuse, rX_is0, rX_is1, rX_is2, rX_is3, rX_is4, rX_is5, rX_is7, nBt, nBf, o10, Bool.not_true, Bool.not_false, if_true, if_false, eq_self, Option.bind_some, xB_weakest_out h.A h.J hw (show 5000 < F by omega), a2]
  by_cases c : (wkO G (Gn G)).1 = 0
  · rw [if_pos c, if_pos c]
    exact res_re h agr_rfl (agr5 a1)
  · rw [if_neg c, if_neg c]
    exact res_ok h agr_rfl (agr5 a1)
theorem c_needed (h : IV G H m κ ρ) (hF : 50000 < F) : Res (pX10_needed F κ) (pX11_needed F ρ) := by
  have hw := h.W
  have hn := hw.n6
  have h64 := pow_le_64 hn
  unfold pX10_needed pX11_needed pX11_needed_13 pX10_needed_29
  rw [rX_players h.R]
  simp only [x_players0 h.A hw]
  by_cases z : Gn G = 0
  · rw [if_pos z, z]
    simp only [x_give, x_refuse, rX_refuse, rX_is0, rX_is1, rX_is2, rX_is3, rX_is4, rX_is5, rX_is7, nBt, nBf, o10, Bool.not_true, Bool.not_false, if_true, if_false, eq_self, Option.bind_some, show (nI 0 = (0 : Int32)) = True from eq_true rfl]
    exact res_no h agr_rfl agr_rfl
  · have z2 : ¬ nI (Gn G) = 0 := nI_nz (by omega) z
    obtain ⟨ρ1, a1, hr, a3⟩ := rX_lostNow (F := F) (RG_st0 (k := 0) h.R (by decide)) hw (by omega)
    have hR1 : RG ρ1 1 G := (RG_st0 (k := 0) h.R (by decide)).agr a1 (by unfold r56; omega)
    rw [if_neg z, Option.bind_some, if_neg z2]
    simp only [x_give, x_refuse, rX_refuse, rX_is0, rX_is1, rX_is2, rX_is3, rX_is4, rX_is5, rX_is7, nBt, nBf, o10, Bool.not_true, Bool.not_false, if_true, if_false, eq_self, Option.bind_some, a3, rX_all hR1 hw, rB_needed (all := 2 ^ Gn G - 1) hR1 hw (show 5000 < F by omega) hr (show 2 ^ Gn G - 1 < 64 by omega), sX1_fewestNeeded h.A h.J hw (show 5000 < F by omega) z, fw_eq hw z]
    exact res_ok h agr_rfl (agr56 a1)
theorem c_known (h : IV G H m κ ρ) (hF : 50000 < F) (a b : Int32) : Res (pX10_known F κ a b) (pX11_known F ρ a b) := by
  have hw := h.W
  unfold pX10_known pX11_known pX11_known_15 pX10_known_30
  rw [x_noColour h.A hw, rX_isColour h.R hw]
  cases hc : isC G a b
  · simp only [x_give, x_refuse, rX_refuse, rX_is0, rX_is1, rX_is2, rX_is3, rX_is4, rX_is5, rX_is7, nBt, nBf, o10, Bool.not_true, Bool.not_false, if_true, if_false, eq_self, Option.bind_some]
    exact res_no h agr_rfl agr_rfl
  · obtain ⟨p, c, hp, hc, rfl, rfl⟩ := isC_t hw hc
    have h4 := hw.h4 hp
    obtain ⟨ρ1, a1, hr, a3⟩ := rX_laysRight (F := F) (RG_st0 (k := 0) h.R (by decide)) hw (by omega)
    have hR1 : RG ρ1 1 G := (RG_st0 (k := 0) h.R (by decide)).agr a1 (by unfold r56; omega)
    obtain ⟨ρ2, b1, b2⟩ := rB_known (F := F) hR1 hw (by omega) hr hp (show c < 2147483648 by omega)
    simp only [x_give, x_refuse, rX_refuse, rX_is0, rX_is1, rX_is2, rX_is3, rX_is4, rX_is5, rX_is7, nBt, nBf, o10, Bool.not_true, Bool.not_false, if_true, if_false, eq_self, Option.bind_some, a3, b2, sX1_lostWith h.A h.J hw (show 5000 < F by omega) hp (show c < 2147483648 by omega)]
    exact res_ok h agr_rfl (agr_trans (agr56 a1) (agr5 b1))
theorem nrL_unl (G : Gm) (y : Nat) : ∀ k, (nrL G y k).2 ≠ 0 → (nrL G y k).1 = unl G y ((nrL G y k).2 - 1)
  | 0, h => absurd rfl h
  | k + 1, h => by
    rw [nrL] at h ⊢
    split
    · rfl
    · rename_i c
      rw [if_neg c] at h
      exact nrL_unl G y k h
theorem c_nearest (h : IV G H m κ ρ) (hF : 50000 < F) (a b : Int32) : Res (pX10_nearest F κ a b) (pX11_nearest F ρ a b) := by
  have hw := h.W
  have hn := ncol_le hw
  unfold pX10_nearest pX11_nearest pX10_nearest_9 pX10_nearest_67
  rw [gd (c := 1) (k := 1) rfl (by decide), rX_inc ρ b (hi := 1) (by decide) (by decide), x_noColouring h.A hw, rX_isColouring h.R hw (by omega)]
  simp only [Option.bind_some, why_eq]
  by_cases d : ag b ≤ 1
  · rw [if_pos d, decide_eq_true d]
    by_cases c : ag a < ncol G
    · obtain ⟨x, hx, rfl⟩ := plc c (by omega)
      obtain ⟨w, hw2, rfl⟩ := plc (n := 2) (a := b) (by omega) (by decide)
      obtain ⟨ρ1, a1, hr, a3⟩ := rX_laysRight (F := F) (RG_st0 (k := 0) h.R (by decide)) hw (by omega)
      have hR1 : RG ρ1 1 G := (RG_st0 (k := 0) h.R (by decide)).agr a1 (by unfold r56; omega)
      obtain ⟨ρ2, b1, b2, b3⟩ := rX_laysE (x := x) hR1 hw (show 100 < F by omega) (by omega)
      obtain ⟨ρ3, c1, c2⟩ := rB_nearest (F := F) (y := x) (w := nI w) (RG5 hR1 b1) hw (by omega) (RR5 hr b1) b2
      have hle := nrL_le G x (ncol G)
      have hlast : agr scR (st0 ρ 0) ρ3 := agr_trans (agr_trans (agr56 a1) (agr5 b1)) (agr_mono c1 (fun k hk => by unfold scR; omega))
      rw [decide_eq_true c, if_pos rfl, if_pos rfl, show nI 0 = 0 from rfl]
      simp only [x_give, x_refuse, rX_refuse, rX_is0, rX_is1, rX_is2, rX_is3, rX_is4, rX_is5, rX_is7, nBt, nBf, o10, Bool.not_true, Bool.not_false, if_true, if_false, eq_self, Option.bind_some, a3, b3, c2, sX1_nearestLost h.A h.J hw (show 5000 < F by omega) (show x < 2147483648 by omega)]
      simp (disch := omega) only [predI_m1]
      by_cases z : (nrL G x (ncol G)).2 = 0
      · rw [if_pos z, if_pos z]
        exact res_re h agr_rfl hlast
      · rw [if_neg z, if_neg z]
        have e1 : predI (nrL G x (ncol G)).2 = nI ((nrL G x (ncol G)).2 - 1) := by
          cases h9 : (nrL G x (ncol G)).2 with
          | zero => exact absurd h9 z
          | succ k => rfl
        rw [e1, nrL_unl G x (ncol G) z]
        by_cases w0 : nI w = 0
        · rw [if_pos w0, if_pos w0]
          simp only [x_give, x_refuse, rX_refuse, rX_is0, rX_is1, rX_is2, rX_is3, rX_is4, rX_is5, rX_is7, nBt, nBf, o10, Bool.not_true, Bool.not_false, if_true, if_false, eq_self, Option.bind_some, sX1_unlike h.A hw (show 5000 < F by omega) (show x < 2147483648 by omega) (show (nrL G x (ncol G)).2 - 1 < 2147483648 by omega)]
          exact res_ok h agr_rfl hlast
        · rw [if_neg w0, if_neg w0]
          exact res_ok h agr_rfl hlast
    · rw [decide_eq_false c]
      simp only [x_give, x_refuse, rX_refuse, rX_is0, rX_is1, rX_is2, rX_is3, rX_is4, rX_is5, rX_is7, nBt, nBf, o10, Bool.not_true, Bool.not_false, if_true, if_false, eq_self, Option.bind_some, if_false, reduceIte, Bool.false_eq_true, show nI 2 = 2 from rfl]
      exact res_no h agr_rfl agr_rfl
  · rw [if_neg d, decide_eq_false d]
    simp only [x_give, x_refuse, rX_refuse, rX_is0, rX_is1, rX_is2, rX_is3, rX_is4, rX_is5, rX_is7, nBt, nBf, o10, Bool.not_true, Bool.not_false, if_true, if_false, eq_self, Option.bind_some, if_false, reduceIte, Bool.false_eq_true, show nI 1 = 1 from rfl]
    exact res_no h agr_rfl agr_rfl
end C3
