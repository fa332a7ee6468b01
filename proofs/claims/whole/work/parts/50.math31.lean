/-! CALLS: set, take, better, shuffle, undo, search -/
section CA
variable {κ κ1 ρ ρ1 : Mem} {G G2 : Gm} {H : Nat → Gm} {m F p q : Nat} {a b c : Int32} {t : Nat → Nat → Nat}
def setT (G : Gm) (p s c : Nat) : Gm := withT G (fun q σ => if q = p ∧ σ = s then c else Gt G q σ)
theorem WF_setT (hw : WF G) {s c : Nat} (hc : c < Gh G p) : WF (setT G p s c) := WF_withT hw (fun q hq σ hs => by
  by_cases e : q = p ∧ σ = s
  · rw [if_pos e, e.1]; exact hc
  · rw [if_neg e]; exact hw.t hq hs)
theorem c_set (h : IV G H m κ ρ) (hF : 50000 < F) (a b c : Int32) : Res (pX10_set F κ a b c) (pX11_set F ρ a b c) := by
  have hw := h.W
  unfold pX10_set pX11_set pX11_set_19 pX11_set_38 pX10_set_18
  rw [x_noSituation h.A hw (by omega), rX_isSituation h.R hw (by omega), x_noColour h.A hw, rX_isColour h.R hw]
  cases hc : isS G a b
  · simp only [x_give, x_refuse, rX_refuse, rX_is0, rX_is1, rX_is2, rX_is3, rX_is4, rX_is5, rX_is7, nBt, nBf, o10, Bool.not_true, Bool.not_false, if_true, if_false, eq_self, Option.bind_some]
    exact res_no h agr_rfl agr_rfl
  · cases hd : isC G a c
    · simp only [x_give, x_refuse, rX_refuse, rX_is0, rX_is1, rX_is2, rX_is3, rX_is4, rX_is5, rX_is7, nBt, nBf, o10, Bool.not_true, Bool.not_false, if_true, if_false, eq_self, Option.bind_some]
      exact res_no h agr_rfl agr_rfl
    · obtain ⟨p, s, hp, hs, rfl, rfl⟩ := isS_t hw hc
      obtain ⟨p2, c0, hp2, hc0, hpe, rfl⟩ := isC_t hw hd
      have hpp : p2 = p := by
        have := hw_lt hw hp
        have := hw_lt hw hp2
        exact ((n_eq (a := p) (b := p2) (by omega) (by omega)).mp hpe).symm
      subst hpp
      have hp6 := hw_lt hw hp
      have hs2 := sit_le hw hp
      have h4 := hw.h4 hp
      have ht := hw.t hp hs
      have e1 := sX2_told κ 1 hp6 (show s < 1024 by omega)
      rw [h.A.1.t hp hs] at e1
      simp only [x_give, x_refuse, rX_refuse, rX_is0, rX_is1, rX_is2, rX_is3, rX_is4, rX_is5, rX_is7, nBt, nBf, o10, Bool.not_true, Bool.not_false, if_true, if_false, eq_self, Option.bind_some, e1, rX_entry h.R hw hp hs]
      by_cases z : Gt G p2 s = c0
      · subst z
        simp only [x_give, x_refuse, rX_refuse, rX_is0, rX_is1, rX_is2, rX_is3, rX_is4, rX_is5, rX_is7, nBt, nBf, o10, Bool.not_true, Bool.not_false, if_true, if_false, eq_self, Option.bind_some]
        exact res_no h agr_rfl agr_rfl
      · have zn : (nI (Gt G p2 s) = nI c0) = False := by rw [n_eq (by omega) (by omega)]; exact eq_false z
        simp only [zn, if_false]
        obtain ⟨κ1, a1, a2, a3⟩ := x_note h.2.1.2.1 h.m6 h.A.1 hw
        have hw2 := WF_setT (p := p2) (s := s) hw hc0
        have hA1 : AR κ1 G := h.A.agr hw a1 (fun k hk => by unfold hC at hk; omega)
        have a4 : agr (fun k => k = 4) κ1 (telK κ1 1 p2 s c0) := agr_telK rfl
        have hA2 : AR (telK κ1 1 p2 s c0) (setT G p2 s c0) := AR_T hA1 hw (XG_withT hA1.1 a4 (fun q hq σ hσ => by
          have := sit_le hw hq
          rw [tol_telK κ1 1 (by omega) (by omega) (by omega), hA1.1.t hq hσ])) a4 (fun k hk => Or.inl (by omega))
        obtain ⟨κ3, b1, b2, b3⟩ := x_keep (a2.fr a4 (fun k hk => by unfold hC; omega)) h.m6
        have hA3 : AR κ3 (setT G p2 s c0) := hA2.agr hw2 b1 (fun k hk => by omega)
        have ag3 : agr (fun k => k = 4 ∨ hC k ∨ k = 135) κ κ3 := agr_trans (agr_mono a1 (fun k hk => Or.inr (Or.inl hk))) (agr_trans (agr_mono a4 (fun k hk => Or.inl hk)) (agr_mono b1 (fun k hk => Or.inr (Or.inr hk))))
        obtain ⟨κ4, d1, d2, d3⟩ := sX1_judgeAgain (F := F) (a := rgt G) hA3 hw2 (by omega) hp (fun x hx => ⟨by rw [agr_mi ag3 (by unfold hC; omega)]; exact h.J.r hx, rgt_lt hw, fun i hi6 hi => by
          rw [rgt_bit hw, rgt_bit hw2]
          have e : isR (setT G p2 s c0) i x = isR G i x := by
            unfold isR
            have e2 : Gt (setT G p2 s c0) i (sOf (setT G p2 s c0) i x) = Gt G i (sOf G i x) := if_neg (fun y => hi y.1)
            rw [e2]
            rfl
          rw [e]
          rfl⟩)
        have hA4 : AR κ4 (setT G p2 s c0) := hA3.agr hw2 d1 (fun k hk => by unfold cS at hk; omega)
        -- the reference
        have hR0 := R0 h (k := 0)
        obtain ⟨ρ1, f1, f2, f3, f4⟩ := rX_remembers (F := F) hR0 hw (h.2.1.2.2.st) h.m6 h.HW (by omega)
        have hR1 : RG ρ1 1 G := RG_eq hR0 hw (fun i _ => congrFun (f4 1 (by decide) (by decide)) i)
        have hR2 : RG (setI ρ1 1 (13 + 1024 * p2 + s) (nI c0)) 1 (setT G p2 s c0) := RG_enter (RG_wT hR1) hw hp hs c0
        have k2 : agr (fun k => k = 1) ρ1 (setI ρ1 1 (13 + 1024 * p2 + s) (nI c0)) := agr_setI rfl
        obtain ⟨ρ3, g1, g2, g3⟩ := rX_lostNow (F := F) hR2 hw2 (by omega)
        simp only [x_give, x_refuse, rX_refuse, rX_is0, rX_is1, rX_is2, rX_is3, rX_is4, rX_is5, rX_is7, nBt, nBf, o10, Bool.not_true, Bool.not_false, if_true, if_false, eq_self, Option.bind_some, a3, sX2_tell κ1 1 hp6 (show s < 1024 by omega), b3, d3, sX1_lostInAll d2, f1, rX_enters ρ1 hp6 (show s < 1024 by omega), g3]
        refine act_ok (G2 := setT G p2 s c0) (H2 := hpush H m G) (m2 := hm1 m) h ⟨hw2, hA4, d2, hR2.agr g1 (by unfold r56; omega)⟩ ⟨hpush_WF hw h.HW h.m6, ?_, ?_⟩ ?_ ?_
        · obtain ⟨⟨nx, x1, x2, x3⟩, x4⟩ := b2
          refine ⟨⟨nx, x1, by rw [agr_mi d1 (by unfold cS; omega)]; exact x2, fun j hj => ?_⟩, by rw [agr_mi d1 (by unfold cS; omega)]; exact x4⟩
          have hb := hpl_in (nx := nx) (m := hm1 m) (j := j)
          exact (x3 j hj).agr d1 (by unfold cS; omega) (by unfold cS; omega) (by unfold cS; omega) (by unfold cS; omega)
        · exact (f2.kp (hpush_WF hw h.HW h.m6).2 k2 (by omega) (by omega)).kp (hpush_WF hw h.HW h.m6).2 g1 (by unfold r56; omega) (by unfold r56; omega)
        · exact kpX_trans (kpX_of ag3 (fun k hk => by unfold hC at hk; omega)) (kpX_of d1 (fun k hk => by unfold cS at hk; omega))
        · exact kpR_trans f3 (kpR_trans (kpR_of k2 (fun k hk => by omega)) (kpR_of g1 (fun k hk => by unfold r56 at hk; omega)))
end CA
