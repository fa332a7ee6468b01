/-! CALLS: search -/
section CS
variable {κ κ1 ρ ρ1 : Mem} {G G2 : Gm} {H : Nat → Gm} {m F p q : Nat} {a b c : Int32} {t : Nat → Nat → Nat} {S : Nat → Prop}
def sX5 (k : Nat) : Prop := k = 4 ∨ cS k
theorem xB_search {w : Int32} {s n : Nat} (h : AR κ G) (hw : WF G) (hF : 50000 < F) (hsp : XG κ 5 G) (hs : s < 2000000000) (hn : n ≤ 10) : ∃ κ1, agr (fun k => (1 ≤ k ∧ k ≤ 4) ∨ cS k) κ κ1 ∧ AR κ1 G ∧ JD κ1 G ∧ pX10_search_72 F (nI s) (nI n) w F κ 4097 (nI s) 0 = some (if w = 0 then nI (srh G s n).1 else nI (srh G s n).2, setI κ1 0 12 0) := by
  refine lp_inv (fun fu (k : Mem) i => pX10_search_72 F (nI s) (nI n) w fu k (nI (srh G s i).1) (nI (srh G s i).2) (nI i)) (fun k _ => agr sX5 κ k ∧ ∃ t, XG k 1 (withT G t) ∧ WF (withT G t)) n (fun r => ∃ κ1, agr (fun k => (1 ≤ k ∧ k ≤ 4) ∨ cS k) κ κ1 ∧ AR κ1 G ∧ JD κ1 G ∧ r = some (if w = 0 then nI (srh G s n).1 else nI (srh G s n).2, setI κ1 0 12 0)) (fun fu k hI => ?_) (fun fu k i hi hI => ?_) F κ 0 (Nat.zero_le _) (by omega) ⟨agr_rfl, Gt G, h.1, hw⟩
  · obtain ⟨b1, t, b2, hwt⟩ := hI
    have hsp2 : XG k 5 G := hsp.agr b1 (by unfold sX5 cS; omega) (by unfold sX5 cS; omega) (by unfold sX5 cS; omega) (by unfold sX5 cS; omega)
    obtain ⟨k1, a1, a2, -, -, a3⟩ := sX2_copy (g := 1) (g1 := 5) hsp2 hw (Or.inl (by omega))
    have q1 : agr (fun k => (1 ≤ k ∧ k ≤ 4) ∨ cS k) κ k1 := agr_trans (agr_mono b1 (fun k hk => by unfold sX5 at hk; rcases hk with z | z; left; omega; right; exact z)) (agr_mono a1 (fun k hk => by unfold gC at hk; left; omega))
    have hA1 : AR k1 G := AR_T (t := Gt G) h hw a2 q1 (fun k hk => by unfold cS at hk; omega)
    obtain ⟨k2, d1, d2, d3⟩ := sX1_judgeAll (F := F) hA1 hw (by omega)
    refine ⟨k2, agr_trans q1 (agr_mono d1 (fun k hk => Or.inr hk)), hA1.agr hw d1 (fun k hk => by unfold cS at hk; omega), d2, ?_⟩
    show pX10_search_72 F (nI s) (nI n) w (fu + 1) k _ _ (nI n) = _
    rw [pX10_search_72, a3]
    unfold pX10_search_167
    simp (disch := omega) only [n_0, n_1, n_2, n_3, n_4, n_5, n_6, n_7, n_8, n_9, n_10, n_12, n_13, n_14, n_20, n_31, n_32, n_63, n_64, n_600, n_1024, n_4096, n_6157, n_add, n_mul, nm_def, Option.bind_some, Option.some.injEq, ck_in, ck_nz, ck_p, n_cl, n_lt, n_le, n_eq, n_div, n_rem, if_pos, if_neg, if_true, if_false, eq_self, n_192, n_256, n_20000, m1_n0, m1_np, m1_n0p, m1_lt0, m1_lt0p, mi_setIA, mi_setI, ml_setIA, ml_setI, mr_setI, mr_setIA, d3, x_give]
    by_cases d : w = nI 0
    · simp [d]
    · simp [d]
  · obtain ⟨b1, t, b2, hwt⟩ := hI
    have hAk : AR k (withT G t) := AR_T h hw b2 b1 (fun k hk => by unfold sX5 cS at hk; omega)
    obtain ⟨r, t2, r1, r2, r3, r4⟩ := betG_w hw (nI (s + i))
    obtain ⟨k1, a1, a2, a3⟩ := sX2_draw (g := 1) (F := F) (x := nI (s + i)) b2 hwt (by omega)
    have a2 : XG k1 1 (withT G (drT G (nI (s + i)).toInt64)) := a2
    have hw1 := WF_drT hw (nI (s + i)).toInt64
    have hA1 : AR k1 (withT G (drT G (nI (s + i)).toInt64)) := AR_T hAk (G := withT G t) (t := drT G (nI (s + i)).toInt64) hwt a2 a1 (fun k hk => by omega)
    obtain ⟨k2, d1, d2, d3⟩ := sX1_judgeAll (F := F) hA1 hw1 (by omega)
    have hA2 := hA1.agr hw1 d1 (fun k hk => by unfold cS at hk; omega)
    obtain ⟨k3, e1, e2, e3, e4, e5⟩ := sX1_improve (F := F) hA2 d2 hw1 (by omega) r1
    refine ⟨k3, ⟨?_, t2, by rw [← r3]; exact e2.1, by rw [← r3]; exact r2⟩, ?_⟩
    · exact agr_trans b1 (agr_trans (agr_mono a1 (fun k hk => Or.inl hk)) (agr_trans (agr_mono d1 (fun k hk => Or.inr hk)) (agr_mono e1 (fun k hk => hk))))
    · have l1 := srh_le hw s i
      have l2 := dbt_le hw (nI (s + i))
      show pX10_search_72 F (nI s) (nI n) w (fu + 1) k _ _ (nI i) = pX10_search_72 F (nI s) (nI n) w fu k3 (nI (srh G s (i + 1)).1) (nI (srh G s (i + 1)).2) (nI (i + 1))
      rw [pX10_search_72, srh]
      unfold pX10_search_131
      simp (disch := omega) only [n_0, n_1, n_2, n_3, n_4, n_5, n_6, n_7, n_8, n_9, n_10, n_12, n_13, n_14, n_20, n_31, n_32, n_63, n_64, n_600, n_1024, n_4096, n_6157, n_add, n_mul, nm_def, Option.bind_some, Option.some.injEq, ck_in, ck_nz, ck_p, n_cl, n_lt, n_le, n_eq, n_div, n_rem, if_pos, if_neg, if_true, if_false, eq_self, n_192, n_256, n_20000, m1_n0, m1_np, m1_n0p, m1_lt0, m1_lt0p, mi_setIA, mi_setI, ml_setIA, ml_setI, mr_setI, mr_setIA, a3, d3, e5, sX1_lostInAll e3, ← r4]
      by_cases c : dbt G (nI (s + i)) < (srh G s i).1
      · rw [if_pos c, if_pos c]
      · rw [if_neg c, if_neg c]
theorem rB_search {w : Int32} {s n : Nat} (h : RG ρ 1 G) (h4 : RG ρ 4 G) (hw : WF G) (hF : 50000 < F) (hs : s < 2000000000) (hn : 1 ≤ n ∧ n ≤ 10) : ∃ ρ1, agr r1568 ρ ρ1 ∧ RG ρ1 1 G ∧ pX11_search_94 F (nI s) (nI n) w F ρ (-1) 4097 0 = some (if w = 0 then nI (srh G s n).1 else nI (srh G s n).2, ρ1) := by
  refine lp_inv (fun fu (k : Mem) i => pX11_search_94 F (nI s) (nI n) w fu k (if i = 0 then -1 else nI (srh G s i).2) (nI (srh G s i).1) (nI i)) (fun k _ => agr r1568 ρ k ∧ ∃ t, RG k 1 (withT G t) ∧ WF (withT G t)) n (fun r => ∃ ρ1, agr r1568 ρ ρ1 ∧ RG ρ1 1 G ∧ r = some (if w = 0 then nI (srh G s n).1 else nI (srh G s n).2, ρ1)) (fun fu k hI => ?_) (fun fu k i hi hI => ?_) F ρ 0 (Nat.zero_le _) (by omega) ⟨agr_rfl, Gt G, h, hw⟩
  · obtain ⟨b1, t, b2, hwt⟩ := hI
    have h42 : RG k 4 G := h4.agr b1 (by unfold r1568 r568; omega)
    refine ⟨_, agr_trans b1 (agr_setIA (Or.inl rfl)), RG_copied h42 hw, ?_⟩
    show pX11_search_94 F (nI s) (nI n) w (fu + 1) k (if n = 0 then -1 else nI (srh G s n).2) _ (nI n) = _
    rw [if_neg (show ¬ n = 0 by omega), pX11_search_94, rX_copies (by decide) rfl rfl (by omega)]
    unfold pX11_search_168
    simp (disch := omega) only [n_0, n_1, n_2, n_3, n_4, n_5, n_6, n_7, n_8, n_9, n_10, n_12, n_13, n_14, n_20, n_31, n_32, n_63, n_64, n_600, n_1024, n_4096, n_6157, n_add, n_mul, nm_def, Option.bind_some, Option.some.injEq, ck_in, ck_nz, ck_p, n_cl, n_lt, n_le, n_eq, n_div, n_rem, if_pos, if_neg, if_true, if_false, eq_self, n_192, n_256, n_20000, m1_n0, m1_np, m1_n0p, m1_lt0, m1_lt0p, mi_setIA, mi_setI, ml_setIA, ml_setI, mr_setI, mr_setIA]
    by_cases d : w = nI 0
    · simp [d]
    · simp [d]
  · obtain ⟨b1, t, b2, hwt⟩ := hI
    obtain ⟨r, t2, r1, r2, r3, r4⟩ := betG_w hw (nI (s + i))
    obtain ⟨k1, a1, a2, a3⟩ := rX_draws (F := F) (v := nI (s + i)) b2 hw (by omega)
    have hw1 := WF_drT hw (nI (s + i)).toInt64
    obtain ⟨k2, d1, d2, d3⟩ := rX_betters (F := F) a2 hw1 (by omega) r1
    obtain ⟨k3, e1, e2, e3⟩ := rX_lostNow (F := F) d2 r2 (by omega)
    have hR3 : RG k3 1 r.1 := d2.agr e1 (by unfold r56; omega)
    refine ⟨k3, ⟨?_, t2, by rw [← r3]; exact hR3, by rw [← r3]; exact r2⟩, ?_⟩
    · exact agr_trans b1 (agr_trans (agr_mono a1 (fun k hk => Or.inl hk)) (agr_trans d1 (agr_mono e1 (fun k hk => by unfold r56 at hk; unfold r1568 r568; omega))))
    · have l1 := srh_le hw s i
      have l2 := dbt_le hw (nI (s + i))
      show pX11_search_94 F (nI s) (nI n) w (fu + 1) k (if i = 0 then -1 else nI (srh G s i).2) (nI (srh G s i).1) (nI i) = pX11_search_94 F (nI s) (nI n) w fu k3 (if i + 1 = 0 then -1 else nI (srh G s (i + 1)).2) (nI (srh G s (i + 1)).1) (nI (i + 1))
      rw [if_neg (show ¬ i + 1 = 0 by omega), pX11_search_94, srh]
      generalize hgen : (if i = 0 then (-1 : Int32) else nI (srh G s i).2) = v5
      unfold pX11_search_139
      simp (disch := omega) only [n_0, n_1, n_2, n_3, n_4, n_5, n_6, n_7, n_8, n_9, n_10, n_12, n_13, n_14, n_20, n_31, n_32, n_63, n_64, n_600, n_1024, n_4096, n_6157, n_add, n_mul, nm_def, Option.bind_some, Option.some.injEq, ck_in, ck_nz, ck_p, n_cl, n_lt, n_le, n_eq, n_div, n_rem, if_pos, if_neg, if_true, if_false, eq_self, n_192, n_256, n_20000, m1_n0, m1_np, m1_n0p, m1_lt0, m1_lt0p, mi_setIA, mi_setI, ml_setIA, ml_setI, mr_setI, mr_setIA, a3, d3, e3, ← r4]
      by_cases c : dbt G (nI (s + i)) < (srh G s i).1
      · rw [if_pos c, if_pos c]
      · have hi0 : i ≠ 0 := fun z => by
          subst z
          exact c (show dbt G (nI (s + 0)) < 4097 by omega)
        rw [if_neg hi0] at hgen
        rw [if_neg c, if_neg c, ← hgen]
theorem c_search (h : IV G H m κ ρ) (hF : 50000 < F) (a b c : Int32) : Res (pX10_search F κ a b c) (pX11_search F ρ a b c) := by
  have hw := h.W
  have hn := hw.n6
  unfold pX10_search pX11_search pX11_search_38 pX11_search_39 pX11_search_63 pX10_search_28
  rw [x_noSeed, rX_inc ρ a (hi := 999999999) (by decide) (by decide), rX_inc ρ c (hi := 1) (by decide) (by decide), rX_players h.R, show (1 : Int64) = (nI 1).toInt64 from by decide, show (10 : Int64) = (nI 10).toInt64 from by decide, rX_inK ρ b (by decide) (by decide), gd (a := c) (c := 1) (k := 1) rfl (by decide)]
  simp only [x_players0 h.A hw]
  have hb : ∀ (α : Type) (x y : α), (if b < 1 then x else if b ≤ 10 then y else x) = if 1 ≤ ag b ∧ ag b ≤ 10 then y else x := fun α x y => by
    rcases ag_cases b with ⟨h1, h2⟩ | ⟨j, h1, h2, h3⟩
    · have : b < 1 := by
        rw [Int32.lt_iff_toInt_lt] at h1 ⊢
        have e0 : (0 : Int32).toInt = 0 := by decide
        have e1 : (1 : Int32).toInt = 1 := by decide
        omega
      rw [if_pos this, if_neg (by omega)]
    · subst h2
      rw [h3]
      simp (disch := omega) only [n_1, n_10, n_lt, n_le]
      by_cases c1 : j < 1
      · rw [if_pos c1, if_neg (by omega)]
      · rw [if_neg c1]
        by_cases c2 : j ≤ 10
        · rw [if_pos c2, if_pos (by omega)]
        · rw [if_neg c2, if_neg (by omega)]
  rw [hb]
  by_cases d : ag a ≤ 999999999
  · rw [decide_eq_true d]
    by_cases d2 : 1 ≤ ag b ∧ ag b ≤ 10
    · rw [if_pos d2, decide_eq_true d2]
      by_cases d3 : ag c ≤ 1
      · rw [if_pos d3, decide_eq_true d3]
        by_cases z : Gn G = 0
        · rw [if_pos z, z]
          simp only [x_give, x_refuse, rX_refuse, rX_is0, rX_is1, rX_is2, rX_is3, rX_is4, rX_is5, rX_is7, nBt, nBf, o10, Bool.not_true, Bool.not_false, if_true, if_false, eq_self, Option.bind_some, show (nI 0 = (0 : Int32)) = True from eq_true rfl]
          exact res_no h agr_rfl agr_rfl
        · have z2 : (nI (Gn G) = 0) = False := eq_false (nI_nz (by omega) z)
          rw [if_neg z]
          obtain ⟨s, hs, rfl⟩ := ag_c d (by decide)
          obtain ⟨n, hn1, rfl⟩ := ag_c d2.2 (by decide)
          rw [ag_nI (by omega)] at d2
          obtain ⟨k1, a1, a2, -, -, a3⟩ := sX2_copy (g := 5) (g1 := 1) h.A.1 hw (Or.inr (by omega))
          have hA1 := h.A.agr hw a1 (fun k hk => by unfold gC at hk; omega)
          obtain ⟨k2, b1, b2, b3, b4⟩ := xB_search (F := F) (w := c) (s := s) (n := n) hA1 hw hF a2 (by omega) (by omega)
          obtain ⟨ρ1, f1, f2, f3, f4⟩ := RG4 (F := F) (R0 h (k := 0)) hw (by omega)
          obtain ⟨ρ2, g1, g2, g3⟩ := rB_search (F := F) (w := c) (s := s) (n := n) f3 f4 hw hF (by omega) (by omega)
          simp only [x_give, x_refuse, rX_refuse, rX_is0, rX_is1, rX_is2, rX_is3, rX_is4, rX_is5, rX_is7, nBt, nBf, o10, Bool.not_true, Bool.not_false, if_true, if_false, eq_self, Option.bind_some, z2, a3, b4, f1, g3]
          refine act_ok (G2 := G) (H2 := H) (m2 := m) h ⟨hw, b2, b3, g2⟩ ⟨h.2.1.1, (h.2.1.2.1.ag a1 (fun k hk => by unfold gC at hk; unfold hC; omega)).ag b1 (fun k hk => by unfold cS at hk; unfold hC; omega), ?_⟩ ?_ ?_
          · exact ((h.2.1.2.2.st (k := 0)).kp h.HW f2 (by omega) (by omega)).kp h.HW g1 (by unfold r1568 r568; omega) (by unfold r1568 r568; omega)
          · exact kpX_trans (kpX_of a1 (fun k hk => by unfold gC at hk; omega)) (kpX_of b1 (fun k hk => by unfold cS at hk; omega))
          · exact kpR_trans (kpR_of f2 (fun k hk => by omega)) (kpR_of g1 (fun k hk => by unfold r1568 r568 at hk; omega))
      · rw [if_neg d3, decide_eq_false d3]
        simp only [x_give, x_refuse, rX_refuse, rX_is0, rX_is1, rX_is2, rX_is3, rX_is4, rX_is5, rX_is7, nBt, nBf, o10, Bool.not_true, Bool.not_false, if_true, if_false, eq_self, Option.bind_some]
        exact res_no h agr_rfl agr_rfl
    · rw [if_neg d2, decide_eq_false d2]
      simp only [x_give, x_refuse, rX_refuse, rX_is0, rX_is1, rX_is2, rX_is3, rX_is4, rX_is5, rX_is7, nBt, nBf, o10, Bool.not_true, Bool.not_false, if_true, if_false, eq_self, Option.bind_some]
      exact res_no h agr_rfl agr_rfl
  · rw [decide_eq_false d]
    simp only [x_give, x_refuse, rX_refuse, rX_is0, rX_is1, rX_is2, rX_is3, rX_is4, rX_is5, rX_is7, nBt, nBf, o10, Bool.not_true, Bool.not_false, if_true, if_false, eq_self, Option.bind_some]
    exact res_no h agr_rfl agr_rfl
end CS
