/-! CALLS: tables and colourings -/
section C1
variable {κ ρ : Mem} {G : Gm} {H : Nat → Gm} {m F p q x : Nat} {a b : Int32}
theorem ply (hw : WF G) {a : Int32} (h : ag a < Gn G) : ∃ p, p < Gn G ∧ a = nI p ∧ ag a = p := ⟨ag a, h, ag_eq h (by have := hw.n6; omega), rfl⟩
theorem plc {n : Nat} {a : Int32} (h : ag a < n) (hn : n ≤ 2147483648) : ∃ x, x < n ∧ a = nI x := ⟨ag a, h, ag_eq h hn⟩
theorem isS_t (hw : WF G) (h : isS G a b = true) : ∃ p s, p < Gn G ∧ s < sit G p ∧ a = nI p ∧ b = nI s := by
  obtain ⟨c1, c2⟩ := of_decide_eq_true h
  have := sit_le hw c1
  exact ⟨ag a, ag b, c1, c2, ag_eq c1 (by have := hw.n6; omega), ag_eq c2 (by omega)⟩
theorem isC_t (hw : WF G) (h : isC G a b = true) : ∃ p c, p < Gn G ∧ c < Gh G p ∧ a = nI p ∧ b = nI c := by
  obtain ⟨c1, c2⟩ := of_decide_eq_true h
  have := hw.h4 c1
  exact ⟨ag a, ag b, c1, c2, ag_eq c1 (by have := hw.n6; omega), ag_eq c2 (by omega)⟩
theorem prT_t (hw : WF G) (h : prT G a b = 0) : ∃ p q, p < Gn G ∧ q < Gn G ∧ p ≠ q ∧ a = nI p ∧ b = nI q := by
  obtain ⟨c1, c2, c3⟩ := prT_0 h
  have := hw.n6
  exact ⟨ag a, ag b, c1, c2, c3, ag_eq c1 (by omega), ag_eq c2 (by omega)⟩
theorem siT_t (hw : WF G) (h : siT G a b = 0) : ∃ p q, p < Gn G ∧ q < Gn G ∧ p ≠ q ∧ sees G p q = true ∧ a = nI p ∧ b = nI q := by
  unfold siT at h
  by_cases c : prT G a b = 0
  · rw [if_pos c] at h
    obtain ⟨c1, c2, c3⟩ := prT_0 c
    have := hw.n6
    refine ⟨ag a, ag b, c1, c2, c3, ?_, ag_eq c1 (by omega), ag_eq c2 (by omega)⟩
    cases d : sees G (ag a) (ag b)
    · rw [d] at h; exact absurd h (by decide)
    · rfl
  · rw [if_neg c] at h; exact absurd h c
theorem siT_lt : siT G a b < 2147483648 := by
  have := prT_lt (G := G) (a := a) (b := b)
  unfold siT; split
  · split <;> omega
  · exact this
theorem isSt_t (hw : WF G) (h : isSt G a = true) : ∃ u, 1 ≤ u ∧ u < 2 ^ Gn G ∧ a = nI u := by
  obtain ⟨c1, c2⟩ := of_decide_eq_true h
  have := pow_le_64 hw.n6
  exact ⟨ag a, c1, c2, ag_eq c2 (by omega)⟩
theorem nI_nz {k : Nat} (hk : k < 2147483648) (h : k ≠ 0) : ¬ nI k = 0 := by
  rw [n_0, n_eq hk (by decide)]; exact h
theorem why_eq (ρ : Mem) (b1 b2 : Bool) : pX11_why ρ (nI b1.toNat) (nI b2.toNat) = some (nI (if b1 then (if b2 then 0 else 2) else 1)) := by cases b1 <;> cases b2 <;> rfl
theorem c_status (h : IV G H m κ ρ) : ∃ r ρ1, pX10_status κ = some r ∧ pX11_status ρ = some (r, ρ1) ∧ IV G H m κ ρ1 := by
  refine ⟨mi κ 0 12, setI ρ 0 1 0, rfl, ?_, h.fr agX_rfl (agR_0 (by omega)) ?_⟩
  · rw [h.2.2.2]; rfl
  · rw [mi_setI, if_neg (by omega)]; exact h.2.2.2
theorem c_fault (h : IV G H m κ ρ) (a : Int32) : ∃ r ρ1, pX10_fault κ a = some r ∧ pX11_fault ρ a = some (r, ρ1) ∧ IV G H m κ ρ1 := by
  refine ⟨if a = 0 then mi κ 0 13 else if a = 1 then mi κ 0 14 else -1, setI ρ 0 1 0, ?_, ?_, h.fr agX_rfl (agR_0 (by omega)) ?_⟩
  · unfold pX10_fault pX10_fault_22
    by_cases c : a = 0
    · rw [if_pos c, if_pos c]
    · rw [if_neg c, if_neg c]
      by_cases d : a = 1
      · rw [if_pos d, if_pos d]
      · rw [if_neg d, if_neg d]
  · have f1 : mi κ 0 13 = mi (setI ρ 0 1 0) 0 23 := by rw [mi_setI, if_neg (by omega)]; exact h.2.2.1.2.2.1.1
    have f2 : mi κ 0 14 = mi (setI ρ 0 1 0) 0 24 := by rw [mi_setI, if_neg (by omega)]; exact h.2.2.1.2.2.1.2
    unfold pX11_fault pX11_fault_29
    rw [nm_def, f1, f2]
    by_cases c : a = 0
    · rw [if_pos c, if_pos c]
    · rw [if_neg c, if_neg c]
      by_cases d : a = 1
      · rw [if_pos d, if_pos d]
      · rw [if_neg d, if_neg d]
  · rw [mi_setI, if_neg (by omega)]; exact h.2.2.2
theorem c_guess (h : IV G H m κ ρ) (hF : 50000 < F) (a b : Int32) : Res (pX10_guess F κ a b) (pX11_guess F ρ a b) := by
  have hw := h.W
  unfold pX10_guess pX11_guess pX11_guess_15 pX10_guess_30 pX11_guess_31
  rw [x_noSituation h.A hw (by omega), rX_isSituation h.R hw (by omega)]
  cases hc : isS G a b
  · simp only [x_give, x_refuse, rX_refuse, rX_is0, rX_is1, rX_is2, rX_is3, rX_is4, rX_is5, rX_is7, nBt, nBf, o10, Bool.not_true, Bool.not_false, if_true, if_false, eq_self, Option.bind_some]
    exact res_no h agr_rfl agr_rfl
  · obtain ⟨p, s, hp, hs, rfl, rfl⟩ := isS_t hw hc
    have hs2 := sit_le hw hp
    have e1 := sX2_told κ 1 (hw_lt hw hp) (show s < 1024 by omega)
    rw [h.A.1.t hp hs] at e1
    simp only [x_give, x_refuse, rX_refuse, rX_is0, rX_is1, rX_is2, rX_is3, rX_is4, rX_is5, rX_is7, nBt, nBf, o10, Bool.not_true, Bool.not_false, if_true, if_false, eq_self, Option.bind_some, e1, rX_entry (RG_st0 (k := 0) h.R (by decide)) hw hp hs]
    exact res_ok h agr_rfl agr_rfl
theorem c_situation (h : IV G H m κ ρ) (hF : 50000 < F) (a b : Int32) : Res (pX10_situation κ a b) (pX11_situation F ρ a b) := by
  have hw := h.W
  have hn := ncol_le hw
  unfold pX10_situation pX11_situation pX11_situation_21 pX11_situation_22 pX10_situation_16
  rw [x_noPlayer h.A hw, rX_isPlayer h.R hw, x_noColouring h.A hw, rX_isColouring h.R hw (by omega)]
  by_cases c : ag a < Gn G
  · by_cases d : ag b < ncol G
    · obtain ⟨p, hp, rfl, -⟩ := ply hw c
      obtain ⟨x, hx, rfl⟩ := plc d (by omega)
      have hR := RG_st0 (k := 0) h.R (by decide)
      obtain ⟨s1, a1, a2, a3⟩ := rX_laysE (x := x) hR hw (show 100 < F by omega) (by omega)
      have e2 := rX_situationOf (F := F) (RG5 hR a1) hw (by omega) hp a2
      rw [sO_col] at e2
      rw [decide_eq_true c, decide_eq_true d]
      simp only [x_give, x_refuse, rX_refuse, rX_is0, rX_is1, rX_is2, rX_is3, rX_is4, rX_is5, rX_is7, nBt, nBf, o10, Bool.not_true, Bool.not_false, if_true, if_false, eq_self, Option.bind_some, sX1_situationOf h.A hw hp hx, a3, e2]
      exact res_ok h agr_rfl (agr_mono a1 (fun k hk => by unfold scR; omega))
    · rw [decide_eq_true c, decide_eq_false d]
      simp only [x_give, x_refuse, rX_refuse, rX_is0, rX_is1, rX_is2, rX_is3, rX_is4, rX_is5, rX_is7, nBt, nBf, o10, Bool.not_true, Bool.not_false, if_true, if_false, eq_self, Option.bind_some]
      exact res_no h agr_rfl agr_rfl
  · rw [decide_eq_false c]
    simp only [x_give, x_refuse, rX_refuse, rX_is0, rX_is1, rX_is2, rX_is3, rX_is4, rX_is5, rX_is7, nBt, nBf, o10, Bool.not_true, Bool.not_false, if_true, if_false, eq_self, Option.bind_some]
    exact res_no h agr_rfl agr_rfl
theorem c_colour (h : IV G H m κ ρ) (hF : 50000 < F) (a b : Int32) : Res (pX10_colour κ a b) (pX11_colour F ρ a b) := by
  have hw := h.W
  have hn := ncol_le hw
  unfold pX10_colour pX11_colour pX11_colour_21 pX11_colour_22 pX10_colour_16
  rw [x_noPlayer h.A hw, rX_isPlayer h.R hw, x_noColouring h.A hw, rX_isColouring h.R hw (by omega)]
  by_cases c : ag a < Gn G
  · by_cases d : ag b < ncol G
    · obtain ⟨p, hp, rfl, -⟩ := ply hw c
      obtain ⟨x, hx, rfl⟩ := plc d (by omega)
      have hp6 := hw_lt hw hp
      have hR := RG_st0 (k := 0) h.R (by decide)
      obtain ⟨s1, a1, a2, a3⟩ := rX_laysE (x := x) hR hw (show 100 < F by omega) (by omega)
      have e2 := a2 p hp
      have e3 : ∀ y : Option (Int32 × Mem), ckI (nI p) 6 y = y := fun y => ck_in hp6 (by decide)
      have e4 : (nI p).toNatClampNeg = p := n_cl (by omega)
      rw [decide_eq_true c, decide_eq_true d]
      simp only [x_give, x_refuse, rX_refuse, rX_is0, rX_is1, rX_is2, rX_is3, rX_is4, rX_is5, rX_is7, nBt, nBf, o10, Bool.not_true, Bool.not_false, if_true, if_false, eq_self, Option.bind_some, sX1_colourOf h.A hw hp (show x < 2147483648 by omega), a3, e3, e4, e2]
      exact res_ok h agr_rfl (agr_mono a1 (fun k hk => by unfold scR; omega))
    · rw [decide_eq_true c, decide_eq_false d]
      simp only [x_give, x_refuse, rX_refuse, rX_is0, rX_is1, rX_is2, rX_is3, rX_is4, rX_is5, rX_is7, nBt, nBf, o10, Bool.not_true, Bool.not_false, if_true, if_false, eq_self, Option.bind_some]
      exact res_no h agr_rfl agr_rfl
  · rw [decide_eq_false c]
    simp only [x_give, x_refuse, rX_refuse, rX_is0, rX_is1, rX_is2, rX_is3, rX_is4, rX_is5, rX_is7, nBt, nBf, o10, Bool.not_true, Bool.not_false, if_true, if_false, eq_self, Option.bind_some]
    exact res_no h agr_rfl agr_rfl
theorem c_often (h : IV G H m κ ρ) (hF : 50000 < F) (a b : Int32) : Res (pX10_often F κ a b) (pX11_often F ρ a b) := by
  have hw := h.W
  unfold pX10_often pX11_often pX11_often_15 pX10_often_30
  rw [x_noColour h.A hw, rX_isColour h.R hw]
  cases hc : isC G a b
  · simp only [x_give, x_refuse, rX_refuse, rX_is0, rX_is1, rX_is2, rX_is3, rX_is4, rX_is5, rX_is7, nBt, nBf, o10, Bool.not_true, Bool.not_false, if_true, if_false, eq_self, Option.bind_some]
    exact res_no h agr_rfl agr_rfl
  · obtain ⟨p, c, hp, hc, rfl, rfl⟩ := isC_t hw hc
    have h4 := hw.h4 hp
    simp only [x_give, x_refuse, rX_refuse, rX_is0, rX_is1, rX_is2, rX_is3, rX_is4, rX_is5, rX_is7, nBt, nBf, o10, Bool.not_true, Bool.not_false, if_true, if_false, eq_self, Option.bind_some, sX2_timesTold h.A.1 hw (show 2000 < F by omega) hp (show c < 2147483648 by omega), rB_often (RG_st0 (k := 0) h.R (by decide)) hw (show 5000 < F by omega) hp (show c < 2147483648 by omega)]
    exact res_ok h agr_rfl agr_rfl
theorem agr5 {s : Mem} (h : agr (fun k => k = 5) ρ s) : agr scR ρ s := agr_mono h (fun k hk => by unfold scR; omega)
theorem agr56 {s : Mem} (h : agr r56 ρ s) : agr scR ρ s := agr_mono h (fun k hk => by unfold scR; unfold r56 at hk; omega)
theorem c_heeds (h : IV G H m κ ρ) (hF : 50000 < F) (a b : Int32) : Res (pX10_heeds F κ a b) (pX11_heeds F ρ a b) := by
  have hw := h.W
  unfold pX10_heeds pX11_heeds pX10_heeds_35 pX11_heeds_31
  rw [x_sightTrouble h.A hw, rX_whySight h.R hw]
  by_cases c : siT G a b = 0
  · obtain ⟨p, q, hp, hq, hpq, hs, rfl, rfl⟩ := siT_t hw c
    obtain ⟨ρ1, a1, a2⟩ := rX_isHeeding (F := F) (RG_st0 (k := 0) h.R (by decide)) hw (by omega) hp hs
    have hl := cnt_le (swy G p q) (sit G p)
    have hl2 := sit_le hw hp
    rw [c, show nI 0 = 0 from rfl]
    simp only [x_give, x_refuse, rX_refuse, rX_is0, rX_is1, rX_is2, rX_is3, rX_is4, rX_is5, rX_is7, nBt, nBf, o10, Bool.not_true, Bool.not_false, if_true, if_false, eq_self, Option.bind_some, sX2_swayed h.A.1 hw (show 2000 < F by omega) hp hs, a2]
    simp (disch := omega) only [n_0, n_le, hed_swy hw hp hs]
    by_cases d : 0 < cnt (swy G p q) (sit G p)
    · rw [if_neg (by omega), decide_eq_true d]
      simp only [Bool.toNat_true, n_0, n_eq, Option.bind_some]
      exact res_ok h agr_rfl (agr5 a1)
    · rw [if_pos (by omega), decide_eq_false d]
      exact res_ok h agr_rfl (agr5 a1)
  · have hne := nI_nz siT_lt c
    rw [Option.bind_some, Option.bind_some, if_neg hne, rX_isk ρ hne]
    simp only [x_give, x_refuse, rX_refuse, rX_is0, rX_is1, rX_is2, rX_is3, rX_is4, rX_is5, rX_is7, nBt, nBf, o10, Bool.not_true, Bool.not_false, if_true, if_false, eq_self, Option.bind_some]
    exact res_no h agr_rfl agr_rfl
end C1
