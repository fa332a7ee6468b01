/-! CALLS: take, better, shuffle, undo, search -/
section CA2
variable {κ κ1 ρ ρ1 : Mem} {G G2 : Gm} {H : Nat → Gm} {m F p q : Nat} {a b c : Int32} {t : Nat → Nat → Nat} {S : Nat → Prop}
theorem IHx.ag (h : IHx κ H m) (ha : agr S κ κ1) (hS : ∀ k, S k → ¬ hC k ∧ k ≠ 135) : IHx κ1 H m := by
  obtain ⟨⟨nx, x1, x2, x3⟩, x4⟩ := h
  have q : ∀ k, hC k ∨ k = 135 → ¬ S k := fun k hk z => by
    have := hS k z
    rcases hk with y | y
    · exact this.1 y
    · exact this.2 y
  refine ⟨⟨nx, x1, by rw [agr_mi ha (q 135 (Or.inr rfl))]; exact x2, fun j hj => ?_⟩, by rw [agr_mi ha (q 135 (Or.inr rfl))]; exact x4⟩
  have hb := hpl_in (nx := nx) (m := m) (j := j)
  exact (x3 j hj).agr ha (q _ (Or.inl (by unfold hC; omega))) (q _ (Or.inl (by unfold hC; omega))) (q _ (Or.inl (by unfold hC; omega))) (q _ (Or.inl (by unfold hC; omega)))
theorem JD.ag (h : JD κ G) (ha : agr S κ κ1) (h0 : ¬ S 50) (h1 : ¬ S 51) : JD κ1 G := ⟨fun x hx => by rw [agr_mi ha h0]; exact h.r hx, fun w hw => by rw [agr_mi ha h1]; exact h.b hw⟩
theorem RG4 (hR : RG ρ 1 G) (hw : WF G) (hF : 7000 < F) : ∃ ρ1, pX11_copies F 1 4 ρ = some ρ1 ∧ agr (fun k => k = 4) ρ ρ1 ∧ RG ρ1 1 G ∧ RG ρ1 4 G := by
  refine ⟨_, rX_copies (by decide) rfl rfl hF, agr_setIA rfl, hR.set (by decide), RG_copied hR hw⟩
theorem tkc_0 (hz : tkc G p = 0) : ∀ s, s < sit G p → bst G p s = Gt G p s := fun s hs => by
  by_cases c : Gt G p s = bst G p s
  · exact c.symm
  · have := cnt_pos (p := fun s => decide (Gt G p s ≠ bst G p s)) hs (by simp [c])
    unfold tkc at hz
    omega
theorem c_take (h : IV G H m κ ρ) (hF : 50000 < F) (a : Int32) : Res (pX10_take F κ a) (pX11_take F ρ a) := by
  have hw := h.W
  unfold pX10_take pX11_take pX11_take_14
  rw [x_noPlayer h.A hw, rX_isPlayer h.R hw]
  by_cases c : ag a < Gn G
  · obtain ⟨p, hp, rfl, -⟩ := ply hw c
    have hp6 := hw_lt hw hp
    have hsl := sit_le hw hp
    have htc : tkc G p ≤ sit G p := cnt_le _ _
    obtain ⟨κ1, a1, a2, a3⟩ := x_note h.2.1.2.1 h.m6 h.A.1 hw
    have hA1 : AR κ1 G := h.A.agr hw a1 (fun k hk => by unfold hC at hk; omega)
    have hJ1 : JD κ1 G := h.J.ag a1 (by unfold hC; omega) (by unfold hC; omega)
    obtain ⟨κ2, b1, b2, b3⟩ := sX1_weighBest (F := F) hA1 hJ1 hw (by omega) hp
    have hA2 := A5253 hA1 hw b1
    have hJ2 := J5253 hJ1 b1
    obtain ⟨κ3, d1, d2, d3, d4⟩ := sX1_takeBest (F := F) hA2 hJ2 hw (by omega) hp b2
    have hHN : HN κ3 H m G := (a2.fr b1 (fun k hk => by unfold hC; omega)).fr d1 (fun k hk => by unfold cS at hk; unfold hC; omega)
    have hx3 : kpX κ κ3 := kpX_trans (kpX_of a1 (fun k hk => by unfold hC at hk; omega)) (kpX_trans (kpX_of b1 (fun k hk => by omega)) (kpX_of d1 (fun k hk => by unfold cS at hk; omega)))
    obtain ⟨ρ1, f1, f2, f3, f4⟩ := RG4 (F := F) (R0 h (k := 0)) hw (by omega)
    obtain ⟨ρ2, g1, g2, g3⟩ := rX_takes (F := F) f3 hw (by omega) hp
    have hh2 : IHr ρ2 H m := ((h.2.1.2.2.st (k := 0)).kp h.HW f2 (by omega) (by omega)).kp h.HW g1 (by unfold r568; omega) (by unfold r568; omega)
    have k2 : kpR (st0 ρ 0) ρ2 := kpR_trans (kpR_of f2 (fun k hk => by omega)) (kpR_of g1 (fun k hk => by unfold r568 at hk; omega))
    have hw2 := WF_tk hw hp
    rw [decide_eq_true c]
    simp only [x_give, x_refuse, rX_refuse, rX_is0, rX_is1, rX_is2, rX_is3, rX_is4, rX_is5, rX_is7, nBt, nBf, o10, Bool.not_true, Bool.not_false, if_true, if_false, eq_self, Option.bind_some, a3, b3, d4, f1, g3]
    by_cases z : tkc G p = 0
    · have zn : (nI (tkc G p) = 0) = True := by rw [z]; exact eq_true rfl
      simp only [x_give, x_refuse, rX_refuse, rX_is0, rX_is1, rX_is2, rX_is3, rX_is4, rX_is5, rX_is7, nBt, nBf, o10, Bool.not_true, Bool.not_false, if_true, if_false, eq_self, Option.bind_some, zn]
      exact act_re (G2 := tk G p) (H2 := H) (m2 := m) h ⟨hw2, d2, d3, g2⟩ ⟨h.2.1.1, hHN.drop, hh2⟩ hx3 k2
    · have zn : (nI (tkc G p) = 0) = False := eq_false (nI_nz (by omega) z)
      obtain ⟨κ4, e1, e2, e3⟩ := x_keep hHN h.m6
      have hR4 : RG ρ2 4 G := f4.agr g1 (by unfold r568; omega)
      obtain ⟨ρ3, i1, i2, i3, i4⟩ := rX_isAct (F := F) g2 hw2 hR4 hw hh2 h.m6 h.HW (by omega)
      simp only [x_give, x_refuse, rX_refuse, rX_is0, rX_is1, rX_is2, rX_is3, rX_is4, rX_is5, rX_is7, nBt, nBf, o10, Bool.not_true, Bool.not_false, if_true, if_false, eq_self, Option.bind_some, zn, e3, i1]
      exact act_ok (G2 := tk G p) (H2 := hpush H m G) (m2 := hm1 m) h ⟨hw2, d2.agr hw2 e1 (fun k hk => by omega), d3.ag e1 (by omega) (by omega), i2⟩ ⟨hpush_WF hw h.HW h.m6, e2, i3⟩ (kpX_trans hx3 (kpX_of e1 (fun k hk => by omega))) (kpR_trans k2 i4)
  · rw [decide_eq_false c]
    simp only [x_give, x_refuse, rX_refuse, rX_is0, rX_is1, rX_is2, rX_is3, rX_is4, rX_is5, rX_is7, nBt, nBf, o10, Bool.not_true, Bool.not_false, if_true, if_false, eq_self, Option.bind_some]
    exact res_no h agr_rfl agr_rfl
theorem betG_took : ∀ (fu : Nat) (G : Gm) (took idle p : Nat) {r : Gm × Nat}, betG fu G took idle p = some r → took ≤ r.2 ∧ r.2 ≤ took + fu ∧ (r.2 = took → r.1 = G) := by
  intro fu
  induction fu with
  | zero => intro G took idle p r h; rw [betG] at h; cases h
  | succ fu ih =>
    intro G took idle p r h
    rw [betG] at h
    by_cases c : idle < Gn G
    · rw [if_pos c] at h
      by_cases c2 : lw G p < lst G
      · rw [if_pos c2] at h
        have := ih _ _ _ _ h
        exact ⟨by omega, by omega, fun z => by omega⟩
      · rw [if_neg c2] at h
        have := ih _ _ _ _ h
        exact ⟨this.1, by omega, this.2.2⟩
    · rw [if_neg c] at h
      cases h
      exact ⟨Nat.le_refl _, Nat.le_add_right _ _, fun _ => rfl⟩
theorem c_better (h : IV G H m κ ρ) (hF : 50000 < F) : Res (pX10_better F κ) (pX11_better F ρ) := by
  have hw := h.W
  unfold pX10_better pX11_better
  obtain ⟨r, hb, hwr⟩ := bet_some hw
  have hto := betG_took 30000 G 0 0 0 hb
  obtain ⟨κ1, a1, a2, a3⟩ := x_note h.2.1.2.1 h.m6 h.A.1 hw
  have hA1 : AR κ1 G := h.A.agr hw a1 (fun k hk => by unfold hC at hk; omega)
  have hJ1 : JD κ1 G := h.J.ag a1 (by unfold hC; omega) (by unfold hC; omega)
  obtain ⟨κ2, b1, b2, b3, b4, b5⟩ := sX1_improve (F := F) hA1 hJ1 hw (by omega) hb
  have hHN : HN κ2 H m G := a2.fr b1 (fun k hk => by unfold cT cS at hk; unfold hC; omega)
  have hx2 : kpX κ κ2 := kpX_trans (kpX_of a1 (fun k hk => by unfold hC at hk; omega)) (kpX_of b1 (fun k hk => by unfold cT cS at hk; omega))
  obtain ⟨ρ1, f1, f2, f3, f4⟩ := RG4 (F := F) (R0 h (k := 0)) hw (by omega)
  obtain ⟨ρ2, g1, g2, g3⟩ := rX_betters (F := F) f3 hw (by omega) hb
  have hh2 : IHr ρ2 H m := ((h.2.1.2.2.st (k := 0)).kp h.HW f2 (by omega) (by omega)).kp h.HW g1 (by unfold r1568 r568; omega) (by unfold r1568 r568; omega)
  have k2 : kpR (st0 ρ 0) ρ2 := kpR_trans (kpR_of f2 (fun k hk => by omega)) (kpR_of g1 (fun k hk => by unfold r1568 r568 at hk; omega))
  simp only [x_give, x_refuse, rX_refuse, rX_is0, rX_is1, rX_is2, rX_is3, rX_is4, rX_is5, rX_is7, nBt, nBf, o10, Bool.not_true, Bool.not_false, if_true, if_false, eq_self, Option.bind_some, a3, b5, f1, g3]
  by_cases z : r.2 = 0
  · have zn : (nI r.2 = 0) = True := by rw [z]; exact eq_true rfl
    simp only [x_give, x_refuse, rX_refuse, rX_is0, rX_is1, rX_is2, rX_is3, rX_is4, rX_is5, rX_is7, nBt, nBf, o10, Bool.not_true, Bool.not_false, if_true, if_false, eq_self, Option.bind_some, zn]
    exact act_re (G2 := r.1) (H2 := H) (m2 := m) h ⟨hwr, b2, b3, g2⟩ ⟨h.2.1.1, hHN.drop, hh2⟩ hx2 k2
  · have zn : (nI r.2 = 0) = False := eq_false (nI_nz (by omega) z)
    obtain ⟨κ4, e1, e2, e3⟩ := x_keep hHN h.m6
    have hR4 : RG ρ2 4 G := f4.agr g1 (by unfold r1568 r568; omega)
    obtain ⟨ρ3, i1, i2, i3, i4⟩ := rX_isAct (F := F) g2 hwr hR4 hw hh2 h.m6 h.HW (by omega)
    simp only [x_give, x_refuse, rX_refuse, rX_is0, rX_is1, rX_is2, rX_is3, rX_is4, rX_is5, rX_is7, nBt, nBf, o10, Bool.not_true, Bool.not_false, if_true, if_false, eq_self, Option.bind_some, zn, e3, i1]
    exact act_ok (G2 := r.1) (H2 := hpush H m G) (m2 := hm1 m) h ⟨hwr, b2.agr hwr e1 (fun k hk => by omega), b3.ag e1 (by omega) (by omega), i2⟩ ⟨hpush_WF hw h.HW h.m6, e2, i3⟩ (kpX_trans hx2 (kpX_of e1 (fun k hk => by omega))) (kpR_trans k2 i4)
theorem c_shuffle (h : IV G H m κ ρ) (hF : 50000 < F) (a : Int32) : Res (pX10_shuffle F κ a) (pX11_shuffle F ρ a) := by
  have hw := h.W
  have hn := hw.n6
  unfold pX10_shuffle pX11_shuffle pX11_shuffle_29
  rw [x_noSeed, rX_inc ρ a (hi := 999999999) (by decide) (by decide), rX_players h.R]
  simp only [x_players0 h.A hw]
  by_cases d : ag a ≤ 999999999
  · rw [decide_eq_true d]
    by_cases z : Gn G = 0
    · rw [if_pos z, z]
      simp only [x_give, x_refuse, rX_refuse, rX_is0, rX_is1, rX_is2, rX_is3, rX_is4, rX_is5, rX_is7, nBt, nBf, o10, Bool.not_true, Bool.not_false, if_true, if_false, eq_self, Option.bind_some, show (nI 0 = (0 : Int32)) = True from eq_true rfl]
      exact res_no h agr_rfl agr_rfl
    · have z2 : (nI (Gn G) = 0) = False := eq_false (nI_nz (by omega) z)
      rw [if_neg z]
      obtain ⟨κ1, a1, a2, a3⟩ := x_note h.2.1.2.1 h.m6 h.A.1 hw
      have hA1 : AR κ1 G := h.A.agr hw a1 (fun k hk => by unfold hC at hk; omega)
      obtain ⟨κ2, b1, b2, b3⟩ := sX2_draw (g := 1) (F := F) (x := a) hA1.1 hw (by omega)
      have hw2 := WF_drT hw a.toInt64
      have hA2 : AR κ2 (withT G (drT G a.toInt64)) := AR_T hA1 hw b2 b1 (fun k hk => Or.inl (by omega))
      obtain ⟨κ3, d1, d2, d3⟩ := x_keep (a2.fr b1 (fun k hk => by unfold hC; omega)) h.m6
      have hA3 := hA2.agr hw2 d1 (fun k hk => by omega)
      obtain ⟨κ4, e1, e2, e3⟩ := sX1_judgeAll (F := F) hA3 hw2 (by omega)
      have hA4 := hA3.agr hw2 e1 (fun k hk => by unfold cS at hk; omega)
      have hR0 := R0 h (k := 0)
      obtain ⟨ρ1, f1, f2, f3, f4⟩ := rX_remembers (F := F) hR0 hw (h.2.1.2.2.st) h.m6 h.HW (by omega)
      have hR1 : RG ρ1 1 G := RG_eq hR0 hw (fun i _ => congrFun (f4 1 (by decide) (by decide)) i)
      obtain ⟨ρ2, g1, g2, g3⟩ := rX_draws (F := F) (v := a) (RG_wT hR1) hw (by omega)
      obtain ⟨ρ3, i1, i2, i3⟩ := rX_lostNow (F := F) g2 hw2 (by omega)
      simp only [x_give, x_refuse, rX_refuse, rX_is0, rX_is1, rX_is2, rX_is3, rX_is4, rX_is5, rX_is7, nBt, nBf, o10, Bool.not_true, Bool.not_false, if_true, if_false, eq_self, Option.bind_some, z2, a3, b3, d3, e3, sX1_lostInAll e2, f1, g3, i3]
      refine act_ok (G2 := withT G (drT G a.toInt64)) (H2 := hpush H m G) (m2 := hm1 m) h ⟨hw2, hA4, e2, g2.agr i1 (by unfold r56; omega)⟩ ⟨hpush_WF hw h.HW h.m6, d2.ag e1 (fun k hk => by unfold cS at hk; unfold hC; omega), ?_⟩ ?_ ?_
      · exact (f2.kp (hpush_WF hw h.HW h.m6).2 g1 (by omega) (by omega)).kp (hpush_WF hw h.HW h.m6).2 i1 (by unfold r56; omega) (by unfold r56; omega)
      · exact kpX_trans (kpX_of a1 (fun k hk => by unfold hC at hk; omega)) (kpX_trans (kpX_of b1 (fun k hk => by omega)) (kpX_trans (kpX_of d1 (fun k hk => by omega)) (kpX_of e1 (fun k hk => by unfold cS at hk; omega))))
      · exact kpR_trans f3 (kpR_trans (kpR_of g1 (fun k hk => by omega)) (kpR_of i1 (fun k hk => by unfold r56 at hk; omega)))
  · rw [decide_eq_false d]
    simp only [x_give, x_refuse, rX_refuse, rX_is0, rX_is1, rX_is2, rX_is3, rX_is4, rX_is5, rX_is7, nBt, nBf, o10, Bool.not_true, Bool.not_false, if_true, if_false, eq_self, Option.bind_some]
    exact res_no h agr_rfl agr_rfl
theorem hpl_last {nx m : Nat} (hm : 0 < m) (hm6 : m ≤ 6) (hn : nx < 7) : hpl nx m (m - 1) = 13 + ((nx + 6) % 7) * 4 := by
  unfold hpl
  rw [show nx + 7 - m + (m - 1) = nx + 6 by omega]
theorem x_goBack (h : IHx κ H m) (h0 : 0 < m) (hm : m ≤ 6) (hw : WF (H (m - 1))) : ∃ κ1, agr (fun k => gC 1 k ∨ k = 135) κ κ1 ∧ IHx κ1 H (m - 1) ∧ XG κ1 1 (H (m - 1)) ∧ pX3_goBack 1 κ = some κ1 := by
  obtain ⟨⟨nx, h1, h2, h3⟩, h4⟩ := h
  have hl := h3 (m - 1) (by omega)
  rw [hpl_last h0 hm h1] at hl
  have hlt := Nat.mod_lt (nx + 6) (show 0 < 7 by decide)
  have b1 : agr (fun k => k = 135) κ (setI (setI κ 135 1 (nI ((nx + 6) % 7))) 135 2 (nI (m - 1))) := agr_trans (agr_setI rfl) (agr_setI rfl)
  have hl2 := hl.agr b1 (by omega) (by omega) (by omega) (by omega)
  obtain ⟨κ1, a1, a2, -, -, a3⟩ := sX2_copy (g := 1) (g1 := 13 + ((nx + 6) % 7) * 4) hl2 hw (Or.inl (by omega))
  refine ⟨κ1, agr_trans (agr_mono b1 (fun k hk => Or.inr hk)) (agr_mono a1 (fun k hk => Or.inl hk)), ?_, a2, ?_⟩
  · refine IHx.ag (κ := setI (setI κ 135 1 (nI ((nx + 6) % 7))) 135 2 (nI (m - 1))) ⟨⟨(nx + 6) % 7, hlt, ?_, fun j hj => ?_⟩, ?_⟩ a1 (fun k hk => by unfold gC at hk; unfold hC; omega)
    · rw [mi_setI, if_neg (by omega), mi_setI, if_pos ⟨rfl, rfl⟩]
    · have ep : hpl ((nx + 6) % 7) (m - 1) j = hpl nx m j := by unfold hpl; omega
      rw [ep]
      have hb := hpl_in (nx := nx) (m := m) (j := j)
      exact (h3 j (by omega)).agr b1 (by omega) (by omega) (by omega) (by omega)
    · rw [mi_setI, if_pos ⟨rfl, rfl⟩]
  · have e7 : ∀ x : Option Mem, ckZ 7 x = x := fun x => rfl
    have e8 : nx + 7 - 1 = nx + 6 := by omega
    have e9 : nx + 6 - (nx + 6) / 7 * 7 = (nx + 6) % 7 := by omega
    unfold pX3_goBack pX3_goBack_46
    rw [e7]
    simp (disch := omega) only [n_0, n_1, n_2, n_3, n_4, n_5, n_6, n_7, n_8, n_9, n_10, n_12, n_13, n_14, n_20, n_31, n_32, n_63, n_64, n_600, n_1024, n_4096, n_6157, n_add, n_mul, nm_def, Option.bind_some, Option.some.injEq, ck_in, ck_nz, ck_p, n_cl, n_lt, n_le, n_eq, n_div, n_rem, if_pos, if_neg, if_true, if_false, eq_self, n_192, n_256, n_20000, m1_n0, m1_np, m1_n0p, m1_lt0, m1_lt0p, mi_setIA, mi_setI, ml_setIA, ml_setI, mr_setI, mr_setIA, h2, h4, n_sub, e8, e9, and_self, a3]
theorem rX_undo_33 (h : mi ρ 0 6 = nI m) (hm : m < 6) (hF : 7000 < F) : pX11_undo_33 F F ρ 0 = some (nI m, setIA ρ 1 (wr (ρ.1 1) 0 6157 (fun y => ρ.1 3 (6157 * m + y)))) := by
  refine lp_upE F (fun fu i => pX11_undo_33 F fu (setIA ρ 1 (wr (ρ.1 1) 0 i (fun y => ρ.1 3 (6157 * m + y)))) (nI i)) (0) (6157) _ _ ?_ (fun fu => ?_) (fun fu i hi1 hi2 => ?_) (by omega) (by omega)
  · rw [setIA_wr0]; rfl
  · show pX11_undo_33 F (fu + 1) (setIA ρ 1 (wr (ρ.1 1) 0 (6157) (fun y => ρ.1 3 (6157 * m + y)))) (nI (6157)) = _
    rw [pX11_undo_33]
    simp (disch := omega) only [n_0, n_1, n_2, n_3, n_4, n_5, n_6, n_7, n_8, n_9, n_10, n_12, n_13, n_14, n_20, n_31, n_32, n_63, n_64, n_600, n_1024, n_4096, n_6157, n_add, n_mul, nm_def, Option.bind_some, Option.some.injEq, ck_in, ck_nz, ck_p, n_cl, n_lt, n_le, n_eq, n_div, n_rem, if_pos, if_neg, if_true, if_false, eq_self, n_192, n_256, n_20000, m1_n0, m1_np, m1_n0p, m1_lt0, m1_lt0p, mi_setIA, mi_setI, ml_setIA, ml_setI, mr_setI, mr_setIA, h]
  · show pX11_undo_33 F (fu + 1) (setIA ρ 1 (wr (ρ.1 1) 0 i (fun y => ρ.1 3 (6157 * m + y)))) (nI i) = pX11_undo_33 F fu (setIA ρ 1 (wr (ρ.1 1) 0 (i + 1) (fun y => ρ.1 3 (6157 * m + y)))) (nI (i + 1))
    rw [pX11_undo_33]
    simp (disch := omega) only [n_0, n_1, n_2, n_3, n_4, n_5, n_6, n_7, n_8, n_9, n_10, n_12, n_13, n_14, n_20, n_31, n_32, n_63, n_64, n_600, n_1024, n_4096, n_6157, n_add, n_mul, nm_def, Option.bind_some, Option.some.injEq, ck_in, ck_nz, ck_p, n_cl, n_lt, n_le, n_eq, n_div, n_rem, if_pos, if_neg, if_true, if_false, eq_self, n_192, n_256, n_20000, m1_n0, m1_np, m1_n0p, m1_lt0, m1_lt0p, mi_setIA, mi_setI, ml_setIA, ml_setI, mr_setI, mr_setIA, h]
    rw [show mi ρ 3 (6157 * m + i) = ρ.1 3 (6157 * m + i) from rfl, setI_wr_up (v := fun y => ρ.1 3 (6157 * m + y)) (Nat.zero_le _) rfl]
theorem c_undo (h : IV G H m κ ρ) (hF : 50000 < F) : Res (pX10_undo F κ) (pX11_undo F ρ) := by
  have hw := h.W
  have hm6 := h.m6
  have e1 : (mi κ 135 2 = 0) = (m = 0) := by rw [h.2.1.2.1.2, n_0, n_eq (by omega) (by decide)]
  have e2 : (mi ρ 0 6 = 0) = (m = 0) := by rw [h.2.1.2.2.1, n_0, n_eq (by omega) (by decide)]
  unfold pX10_undo pX11_undo pX11_undo_13
  simp only [e1, e2]
  by_cases z : m = 0
  · rw [if_pos z, if_pos z]
    simp only [x_give, x_refuse, rX_refuse, rX_is0, rX_is1, rX_is2, rX_is3, rX_is4, rX_is5, rX_is7, nBt, nBf, o10, Bool.not_true, Bool.not_false, if_true, if_false, eq_self, Option.bind_some]
    exact res_no h agr_rfl agr_rfl
  · rw [if_neg z, if_neg z]
    have hwH := h.HW (m - 1) (by omega)
    obtain ⟨κ1, a1, a2, a3, a4⟩ := x_goBack h.2.1.2.1 (by omega) hm6 hwH
    obtain ⟨κ2, b1, b2, b3, b4⟩ := sX1_arrange (F := F) a3 hwH (by omega)
    have hI2 := a2.ag b1 (fun k hk => by unfold cA at hk; unfold hC; omega)
    have hh := h.2.1.2.2.st (k := 0)
    have e6 : mi (st0 ρ 0) 0 6 - 1 = nI (m - 1) := by rw [hh.1, n_1, n_sub (by omega)]
    have e7 : mi (setI (st0 ρ 0) 0 6 (nI (m - 1))) 0 6 = nI (m - 1) := by rw [mi_setI, if_pos ⟨rfl, rfl⟩]
    have e8 := rX_undo_33 (F := F) e7 (by omega) (by omega)
    have k1 : agr (fun k => k = 1) (setI (st0 ρ 0) 0 6 (nI (m - 1))) (setIA (setI (st0 ρ 0) 0 6 (nI (m - 1))) 1 (wr ((setI (st0 ρ 0) 0 6 (nI (m - 1))).1 1) 0 6157 (fun y => (setI (st0 ρ 0) 0 6 (nI (m - 1))).1 3 (6157 * (m - 1) + y)))) := agr_setIA rfl
    simp only [x_give, x_refuse, rX_refuse, rX_is0, rX_is1, rX_is2, rX_is3, rX_is4, rX_is5, rX_is7, nBt, nBf, o10, Bool.not_true, Bool.not_false, if_true, if_false, eq_self, Option.bind_some, a4, b4, nm_def, e6, e8, hI2.2]
    refine act_ok (G2 := H (m - 1)) (H2 := H) (m2 := m - 1) h ⟨hwH, b2, b3, ?_⟩ ⟨⟨by omega, fun j hj => h.HW j (by omega)⟩, hI2, ?_, fun j hj => ?_⟩ ?_ ?_
    · refine RG_RP (hh.2 (m - 1) (by omega)) hwH (fun i hi => ?_)
      rw [mi_setIA, if_pos rfl, wr_in (Nat.zero_le _) hi]
      have : (setI (st0 ρ 0) 0 6 (nI (m - 1))).1 3 = (st0 ρ 0).1 3 := by simp [setI]
      rw [this]
      rfl
    · rw [agr_mi k1 (by omega)]; exact e7
    · refine RP_mv (hh.2 j (by omega)) (h.HW j (by omega)) (fun i hi => ?_)
      rw [agr_mi k1 (by omega), mi_setI, if_neg (by omega)]
    · exact kpX_trans (kpX_of a1 (fun k hk => by unfold gC at hk; omega)) (kpX_of b1 (fun k hk => by unfold cA at hk; omega))
    · have k3 := kpR_of k1 (fun k hk => by omega)
      have k4 : kpR (st0 ρ 0) (setI (st0 ρ 0) 0 6 (nI (m - 1))) := ⟨fun k hk => ⟨by simp [setI, show k ≠ 0 by omega], rfl, rfl⟩, fun i hi => by rw [mi_setI, if_neg (fun z => hi z.2)]⟩
      exact kpR_trans k4 k3
/-- searched: how few are lost, by which seed first -/
def dbt (G : Gm) (x : Int32) : Nat := match bet (withT G (drT G x.toInt64)) with
  | some r => lst r.1
  | none => 0
def srh (G : Gm) (s : Nat) : Nat → Nat × Nat
  | 0 => (4097, s)
  | k + 1 => if dbt G (nI (s + k)) < (srh G s k).1 then (dbt G (nI (s + k)), s + k) else srh G s k
theorem dbt_le (hw : WF G) (x : Int32) : dbt G x ≤ 4096 := by
  unfold dbt
  obtain ⟨r, h1, h2⟩ := bet_some (WF_drT hw x.toInt64)
  rw [h1]
  exact lst_le h2
theorem srh_le (hw : WF G) (s : Nat) : ∀ k, (srh G s k).1 ≤ 4097 ∧ (0 < k → (srh G s k).1 ≤ 4096) ∧ (srh G s k).2 ≤ s + k
  | 0 => ⟨Nat.le_refl _, fun h => by omega, Nat.le_refl _⟩
  | k + 1 => by
    have h1 := srh_le hw s k
    have h2 := dbt_le hw (nI (s + k))
    rw [srh]
    split
    · exact ⟨by show dbt G (nI (s + k)) ≤ 4097; omega, fun _ => h2, by show s + k ≤ s + (k + 1); omega⟩
    · rename_i c
      exact ⟨h1.1, fun _ => by omega, by omega⟩
theorem betG_w (hw : WF G) (x : Int32) : ∃ r t, bet (withT G (drT G x.toInt64)) = some r ∧ WF r.1 ∧ r.1 = withT G t ∧ dbt G x = lst r.1 := by
  obtain ⟨r, h1, h2⟩ := bet_some (WF_drT hw x.toInt64)
  obtain ⟨t, ht⟩ := betG_T 30000 _ 0 0 0 h1
  refine ⟨r, t, h1, h2, ht, ?_⟩
  unfold dbt
  rw [h1]
end CA2
