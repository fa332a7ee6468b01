/-! LOAD: the call -/
section LDC
variable {κ κ1 κ2 ρ ρ1 ρ2 : Mem} {b : Nat → Int32} {n k f pl F p q j v m i : Nat} {G G1 : Gm} {H : Nat → Gm} {x c w : Int32} {hm gm : Nat}
theorem XG_0x {g : Nat} (h : XG κ g G) (hg : g ≠ 0) : XG (setI κ 0 i x) g G := ⟨by rw [mi_setI, if_neg (by omega)]; exact h.1, fun p hp => by rw [mi_setI, if_neg (by omega)]; exact h.h hp, fun p hp => by rw [mi_setI, if_neg (by omega)]; exact h.s hp, fun p hp σ hs => by rw [tol_setI]; exact h.t hp hs⟩
theorem IG_0x (h : IG κ ρ G) : IG (setI κ 0 i x) ρ G := by
  obtain ⟨hw, hA, hJ, hR⟩ := h
  exact ⟨hw, ⟨XG_0x hA.1 (by decide), by rw [mi_setI, if_neg (by omega)]; exact hA.c, fun p hp => by rw [mi_setI, if_neg (by omega)]; exact hA.pl hp, fun p hp y hy => by rw [mi_setI, if_neg (by omega)]; exact hA.si hp hy⟩, ⟨fun y hy => by rw [mi_setI, if_neg (by omega)]; exact hJ.1 y hy, fun y hy => by rw [mi_setI, if_neg (by omega)]; exact hJ.2 y hy⟩, hR⟩
theorem IG_0r (h : IG κ ρ G) : IG κ (setI ρ 0 i x) G := ⟨h.1, h.2.1, h.2.2.1, RG_0 h.2.2.2 (by decide)⟩
theorem IHx_0 (h : IHx κ H m) : IHx (setI κ 0 i x) H m := by
  obtain ⟨⟨nx, h1, h2, h3⟩, h4⟩ := h
  exact ⟨⟨nx, h1, by rw [mi_setI, if_neg (by omega)]; exact h2, fun j hj => XG_0x (h3 j hj) (by have := hpl_in (nx := nx) (m := m) (j := j); omega)⟩, by rw [mi_setI, if_neg (by omega)]; exact h4⟩
theorem IHr_0 (h : IHr ρ H m) (hH : ∀ j, j < m → WF (H j)) (hi : i ≠ 6) : IHr (setI ρ 0 i x) H m := ⟨by rw [mi_setI, if_neg (by omega)]; exact h.1, fun j hj => RP_mv (h.2 j hj) (hH j hj) (fun y _ => by rw [mi_setI, if_neg (by omega)])⟩
theorem IH_0x (h : IH κ ρ H m) : IH (setI κ 0 i x) ρ H m := ⟨h.1, IHx_0 h.2.1, h.2.2⟩
theorem IH_0r (h : IH κ ρ H m) (hi : i ≠ 6) : IH κ (setI ρ 0 i x) H m := ⟨h.1, h.2.1, IHr_0 h.2.2 h.1.2 hi⟩
theorem IPr_mv (h : IPr κ ρ) (hx : ∀ k, 144 ≤ k → κ1.1 k = κ.1 k ∧ κ1.2.2 k = κ.2.2 k) (h19 : mi ρ1 0 19 = mi ρ 0 19) (h12 : ∀ i, mi ρ1 12 i = mi ρ 12 i) : IPr κ1 ρ1 := by
  obtain ⟨l, p1, p2, p3, p4, p5⟩ := h
  have e0 : mr κ1 144 0 = mr κ 144 0 := congrFun (hx 144 (by omega)).2 0
  have e2 : mr κ1 144 2 = mr κ 144 2 := congrFun (hx 144 (by omega)).2 2
  refine ⟨l, p1, (congrFun (hx 144 (by omega)).1 1).trans p2, h19.trans p3, by rw [e0, e2]; exact p4, fun i hi => ?_⟩
  rw [e0, h12]
  exact (congrFun (hx (mr κ 144 0) (by omega)).1 i).trans (p5 i hi)
theorem rL_55 (hF : 50000 < F) : pX11_load_55 F F ρ 0 = (pX11_reads F (setIA ρ 2 (wr (ρ.1 2) 0 6157 (fun _ => nI 0)))).bind fun t9 => pX11_load_79 F F t9 := by
  refine lp_upE F (fun fu i => pX11_load_55 F fu (setIA ρ 2 (wr (ρ.1 2) 0 i (fun _ => nI 0))) (nI i)) 0 6157 _ _ ?_ (fun fu => ?_) (fun fu i hi1 hi2 => ?_) (by omega) (by omega)
  · rw [setIA_wr0]
    rfl
  · show pX11_load_55 F (fu + 1) _ (nI 6157) = _
    rw [pX11_load_55, if_neg (show ¬ nI 6157 < 6157 by decide)]
  · show pX11_load_55 F (fu + 1) _ (nI i) = pX11_load_55 F fu _ (nI (i + 1))
    rw [pX11_load_55]
    simp (disch := omega) only [n_0, n_1, n_2, n_3, n_4, n_5, n_6, n_7, n_8, n_9, n_10, n_12, n_13, n_14, n_20, n_31, n_32, n_63, n_64, n_600, n_1024, n_4096, n_6157, n_add, n_mul, nm_def, Option.bind_some, Option.some.injEq, ck_in, ck_nz, ck_p, n_cl, n_lt, n_le, n_eq, n_div, n_rem, if_pos, if_neg, if_true, if_false, eq_self, n_192, n_256, n_20000, m1_n0, m1_np, m1_n0p, m1_lt0, m1_lt0p, mi_setIA, mi_setI, ml_setIA, ml_setI, mr_setI, mr_setIA]
    rw [setI_wr_up hi1 rfl]
theorem tl2_0 (k : Nat) : tl2 0 k = 0 := by
  unfold tl2
  rw [show (0 : Int64).toBitVec.toNat = 0 from rfl, Nat.zero_shiftRight]
theorem WF_g0 : WF g0 := WF_new (v := 0) (by decide)
theorem tkN_0 : 0 ≤ tkN b n := Nat.zero_le _
theorem c_load (h : IV G H m κ ρ) (hF : 50000 < F) (a : Int32) : Res (pX10_load F κ a) (pX11_load F ρ a) := by
  obtain ⟨n0, t1, t2, t3, t4⟩ := h.2.2.1.1
  have eG : ∀ {α : Type} (x y : α), (if a < 0 then x else if a ≤ mi κ 0 11 then y else x) = if ag a ≤ n0 then y else x := fun x y => by
    rw [t2]
    exact gd (c := nI n0) (k := n0) rfl (by omega)
  have eR : pX11_isIn ρ a.toInt64 0 (mi ρ 0 22).toInt64 = some (nI (decide (ag a ≤ n0)).toNat) := by
    rw [t3]
    exact rX_in0 ρ a (by omega)
  unfold pX10_load pX10_load_12 pX11_load pX11_load_20
  rw [eG, eR, Option.bind_some]
  by_cases c : ag a ≤ n0
  · obtain ⟨n, hn, rfl⟩ := plc (n := n0 + 1) (a := a) (by omega) (by omega)
    have hn6 : n ≤ 600 := by omega
    rw [if_pos c, decide_eq_true c, if_neg (show ¬ nI true.toNat = 0 by decide), rX_is0, Option.bind_some]
    dsimp only
    rw [if_neg (show ¬ (1 : Int32) = 0 by decide)]
    obtain ⟨b, eb⟩ : ∃ b : Nat → Int32, b = mi κ 137 := ⟨_, rfl⟩
    -- the class takes the text apart
    obtain ⟨κ2, eκ2⟩ : ∃ κ2, κ2 = setI κ 0 11 0 := ⟨_, rfl⟩
    have b2 : ∀ i, i < n → mi κ2 137 i = b i := fun i _ => by rw [eκ2, eb, mi_setI, if_neg (by omega)]
    obtain ⟨κ3, a1, a2, a3⟩ := sX8_split (F := F) b2 hn6 (by omega)
    obtain ⟨κ4, c1, c2, c3, c4, c5⟩ := sX2_clear (κ := κ3) (g := 9) (F := F) (v := 0) (by omega)
    obtain ⟨κ7, eκ7⟩ : ∃ κ7, κ7 = setI (setI (setI (setI (setI κ4 138 1 0) 138 2 (-1)) 138 4 0) 138 7 0) 138 8 0 := ⟨_, rfl⟩
    have a7 : agr (fun c => c = 138) κ4 κ7 := by rw [eκ7]; exact agr_trans (agr_trans (agr_trans (agr_trans (agr_setI rfl) (agr_setI rfl)) (agr_setI rfl)) (agr_setI rfl)) (agr_setI rfl)
    have m71 : mi κ7 138 1 = nI 0 := by rw [eκ7, mi_setI, if_neg (by omega), mi_setI, if_neg (by omega), mi_setI, if_neg (by omega), mi_setI, if_neg (by omega), mi_setI, if_pos ⟨rfl, rfl⟩]; rfl
    have m72 : mi κ7 138 2 = -1 := by rw [eκ7, mi_setI, if_neg (by omega), mi_setI, if_neg (by omega), mi_setI, if_neg (by omega), mi_setI, if_pos ⟨rfl, rfl⟩]
    have m74 : mi κ7 138 4 = nI 0 := by rw [eκ7, mi_setI, if_neg (by omega), mi_setI, if_neg (by omega), mi_setI, if_pos ⟨rfl, rfl⟩]; rfl
    have m77 : mi κ7 138 7 = nI 0 := by rw [eκ7, mi_setI, if_neg (by omega), mi_setI, if_pos ⟨rfl, rfl⟩]; rfl
    have m78 : mi κ7 138 8 = nI 0 := by rw [eκ7, mi_setI, if_pos ⟨rfl, rfl⟩]; rfl
    have aX : agr (fun c => (9 ≤ c ∧ c ≤ 12) ∨ (138 ≤ c ∧ c ≤ 143)) κ2 κ7 := agr_trans (agr_mono a1 (fun c hc => by omega)) (agr_trans (agr_mono c1 (fun c hc => by unfold gC at hc; omega)) (agr_mono a7 (fun c hc => by omega)))
    have hTK : TK κ7 b n := fun k hk => by
      obtain ⟨u1, u2, u3⟩ := a2 k hk
      have e : ∀ cl, 140 ≤ cl → cl ≤ 143 → ∀ i, mi κ7 cl i = mi κ3 cl i := fun cl h1 h2 i => (agr_mi a7 (by omega) i).trans (agr_mi c1 (by unfold gC; omega) i)
      exact ⟨(e 141 (by omega) (by omega) k).trans u1, (e 142 (by omega) (by omega) k).trans u2, fun z => (e 143 (by omega) (by omega) k).trans (u3 z)⟩
    have hGX : GX κ7 g0 := by
      refine ⟨(agr_mi a7 (by decide) 0).trans c2, fun p hp => ⟨(agr_mi a7 (by decide) p).trans (c3 p hp).1, (agr_mi a7 (by decide) p).trans (c3 p hp).2, fun σ hσ => ?_⟩⟩
      unfold tol
      rw [agr_ml a7 (by decide), c4 _ (by omega), tl2_0]
      rfl
    have eread : pX6_read F κ2 (nI n) = pX6_read_45 F F κ7 1 0 := by
      unfold pX6_read
      rw [a3, Option.bind_some, c5, Option.bind_some, nm_def, nm_def, nm_def, nm_def, nm_def, ← eκ7]
    -- the reference
    obtain ⟨ρ7, eρ7⟩ : ∃ ρ7, ρ7 = setI (setI (setI (setI (setI (st0 ρ 0) 0 31 (nI n)) 0 28 0) 0 25 0) 0 32 0) 0 33 0 := ⟨_, rfl⟩
    have n7 : ∀ i, i ≠ 31 → i ≠ 28 → i ≠ 25 → i ≠ 32 → i ≠ 33 → mi ρ7 0 i = mi (st0 ρ 0) 0 i := fun i h1 h2 h3 h4 h5 => by rw [eρ7, mi_setI, if_neg (fun z => h5 z.2), mi_setI, if_neg (fun z => h4 z.2), mi_setI, if_neg (fun z => h3 z.2), mi_setI, if_neg (fun z => h2 z.2), mi_setI, if_neg (fun z => h1 z.2)]
    have n7c : ∀ cl, cl ≠ 0 → ρ7.1 cl = ρ.1 cl ∧ ρ7.2.1 cl = ρ.2.1 cl ∧ ρ7.2.2 cl = ρ.2.2 cl := fun cl hc => by rw [eρ7]; exact ⟨by simp [setI, st0, hc], rfl, rfl⟩
    obtain ⟨ρ8, eρ8⟩ : ∃ ρ8, ρ8 = setIA ρ7 2 (wr (ρ7.1 2) 0 6157 (fun _ => nI 0)) := ⟨_, rfl⟩
    have n8 : ∀ i, mi ρ8 0 i = mi ρ7 0 i := fun i => by rw [eρ8, mi_setIA, if_neg (by decide)]
    have n82 : ∀ i, i < 6157 → mi ρ8 2 i = nI 0 := fun i hi => by rw [eρ8, mi_setIA, if_pos rfl, wr_in (Nat.zero_le _) hi]
    have n8c : ∀ cl, cl ≠ 0 → cl ≠ 2 → ρ8.1 cl = ρ.1 cl ∧ ρ8.2.1 cl = ρ.2.1 cl ∧ ρ8.2.2 cl = ρ.2.2 cl := fun cl h0 h2 => by
      obtain ⟨u1, u2, u3⟩ := n7c cl h0
      rw [eρ8]
      exact ⟨by simp only [setIA, if_neg h2]; exact u1, u2, u3⟩
    have z25 : mi ρ8 0 25 = nI 0 := by rw [n8, eρ7, mi_setI, if_neg (by omega), mi_setI, if_neg (by omega), mi_setI, if_pos ⟨rfl, rfl⟩]; rfl
    have z28 : mi ρ8 0 28 = nI 0 := by rw [n8, eρ7, mi_setI, if_neg (by omega), mi_setI, if_neg (by omega), mi_setI, if_neg (by omega), mi_setI, if_pos ⟨rfl, rfl⟩]; rfl
    have z31 : mi ρ8 0 31 = nI n := by rw [n8, eρ7, mi_setI, if_neg (by omega), mi_setI, if_neg (by omega), mi_setI, if_neg (by omega), mi_setI, if_neg (by omega), mi_setI, if_pos ⟨rfl, rfl⟩]
    have z32 : mi ρ8 0 32 = nI 0 := by rw [n8, eρ7, mi_setI, if_neg (by omega), mi_setI, if_pos ⟨rfl, rfl⟩]; rfl
    have z33 : mi ρ8 0 33 = nI 0 := by rw [n8, eρ7, mi_setI, if_pos ⟨rfl, rfl⟩]; rfl
    have hRT : RT ρ8 b n := ⟨z31, fun i hi => by
      have e : mi ρ8 13 i = mi ρ 13 i := congrFun (n8c 13 (by decide) (by decide)).1 i
      rw [e, eb]
      exact (t4 i (by omega)).symm⟩
    obtain ⟨ρ9, r1, r2, r3⟩ := rX_reads (F := F) (p := 0) hRT hn6 (by omega) (Nat.zero_le _) z28
    have hST : ST b n κ7 ρ9 := ⟨hn6, hTK, hRT.fr r1, fun i hi => by
      have e : ml ρ9 14 i = ml ρ 14 i := (congrFun (r1.1 14 (by decide)).2.1 i).trans (congrFun (n8c 14 (by decide) (by decide)).2.1 i)
      rw [e]
      exact h.2.2.1.2.2.2 i hi⟩
    have hAT : AT b n κ7 ρ9 0 := ⟨⟨Nat.zero_le _, m74, r2⟩, (r1.2 25 (by omega)).trans z25, m71, m72⟩
    have hGR : GR ρ9 g0 := by
      have e : ∀ i, i < 6157 → mi ρ9 2 i = nI 0 := fun i hi => (congrFun (r1.1 2 (by decide)).1 i).trans (n82 i hi)
      exact ⟨e 0 (by decide), fun p hp => ⟨fun z => absurd rfl z, e _ (by omega), fun σ hσ => e _ (by omega)⟩⟩
    have hGM : GM κ7 ρ9 g0 0 0 := ⟨hGX, hGR, ⟨WF_g0, fun _ => rfl, fun _ _ _ => rfl⟩, ⟨by decide, m77, (r1.2 32 (by omega)).trans z32⟩, ⟨by decide, m78, (r1.2 33 (by omega)).trans z33⟩⟩
    have hN := tN_le hST
    obtain ⟨κ8, ρ10, d1, d2, d3, d4⟩ := sL_lines (b := b) (n := n) (F := F) (by omega) (tkN b n) F F 0 0 κ7 ρ9 g0 0 0 (by omega) (by omega) (by omega) (Nat.le_refl _) hST hAT hGM
    have eref : (nm (setI (st0 ρ 0) 0 31 (nI n)) fun κ3 => nm (setI κ3 0 28 0) fun κ4 => nm (setI κ4 0 25 0) fun κ5 => nm (setI κ5 0 32 0) fun κ6 => nm (setI κ6 0 33 0) fun κ7 => pX11_load_55 F F κ7 0) = pX11_load_100 F ρ10 := by
      rw [nm_def, nm_def, nm_def, nm_def, nm_def, ← eρ7, rL_55 hF, ← eρ8, r3, Option.bind_some, d3]
    rw [nm_def, ← eκ2, eread, eref]
    -- what has changed
    have aK : agr (fun c => (9 ≤ c ∧ c ≤ 12) ∨ (138 ≤ c ∧ c ≤ 143)) κ2 κ8 := agr_trans aX (agr_mono d1 (fun c hc => by unfold fX at hc; omega))
    have aKS : agX κ2 κ8 := agX_of aK (fun c hc => by unfold scX; omega)
    have rC : ∀ cl, cl ≠ 0 → cl ≠ 2 → ρ10.1 cl = ρ.1 cl ∧ ρ10.2.1 cl = ρ.2.1 cl ∧ ρ10.2.2 cl = ρ.2.2 cl := fun cl h0 h2 => by
      obtain ⟨u1, u2, u3⟩ := d2.1 cl h0 h2
      obtain ⟨w1, w2, w3⟩ := r1.1 cl h0
      obtain ⟨y1, y2, y3⟩ := n8c cl h0 h2
      exact ⟨u1.trans (w1.trans y1), u2.trans (w2.trans y2), u3.trans (w3.trans y3)⟩
    have r0 : ∀ i, i < 25 → mi ρ10 0 i = mi (st0 ρ 0) 0 i := fun i hi => by rw [d2.2 i (by omega), r1.2 i (by omega), n8, n7 i (by omega) (by omega) (by omega) (by omega) (by omega)]
    have rA : agR (st0 ρ 0) ρ10 := ⟨fun cl h0 hs => by
      obtain ⟨u1, u2, u3⟩ := rC cl h0 (fun z => hs (Or.inl z))
      exact ⟨u1.trans (st0_c h0).symm, u2, u3⟩, fun i hi => r0 i (by omega)⟩
    have hIG : IG κ8 ρ10 G := (IG_0x (i := 11) (x := 0) h.1 : IG (setI κ 0 11 0) ρ G).fr (by rw [← eκ2]; exact aKS) (agR_trans agR_st0 rA)
    have hIH : IH κ8 ρ10 H m := (IH_0x (i := 11) (x := 0) h.2.1 : IH (setI κ 0 11 0) ρ H m).fr (by rw [← eκ2]; exact aKS) (agR_trans agR_st0 rA)
    have hW14 : IWd ρ10 := fun i hi => (congrFun (rC 14 (by decide) (by decide)).2.1 i).trans (h.2.2.1.2.2.2 i hi)
    have k11 : mi κ8 0 11 = 0 := by rw [agr_mi aK (by omega), eκ2, mi_setI, if_pos ⟨rfl, rfl⟩]
    have kP : ∀ cl, 144 ≤ cl → κ8.1 cl = κ.1 cl ∧ κ8.2.2 cl = κ.2.2 cl := fun cl hc => by
      obtain ⟨u1, -, u3⟩ := aK cl (by omega)
      refine ⟨u1.trans ?_, u3.trans ?_⟩
      · rw [eκ2]; simp only [setI, if_neg (show ¬ cl = 0 by omega)]
      · rw [eκ2]; rfl
    have q19 : mi ρ10 0 19 = mi ρ 0 19 := (r0 19 (by decide)).trans (st0_i (by decide) (by decide))
    have q12 : ∀ i, mi ρ10 12 i = mi ρ 12 i := fun i => congrFun (rC 12 (by decide) (by decide)).1 i
    have st10 : mi ρ10 0 0 = 0 := (r0 0 (by decide)).trans st0_0
    unfold pX11_load_100 pX11_load_129
    rcases d4 with ⟨x1, k1, G1, hm1, gm1, x2, x3⟩ | ⟨x1, f, pl, x2, x3, x4⟩
    · -- a game
      obtain ⟨-, f25, f1, f2⟩ := x2
      have hw1 := x3.2.2.1.1
      obtain ⟨κ9, eκ9⟩ : ∃ κ9, κ9 = setI (setI κ8 0 13 (nI 0)) 0 14 (-1) := ⟨_, rfl⟩
      have k9c : ∀ cl, cl ≠ 0 → κ9.1 cl = κ8.1 cl ∧ κ9.2.1 cl = κ8.2.1 cl ∧ κ9.2.2 cl = κ8.2.2 cl := fun cl hc => by rw [eκ9]; exact ⟨by simp [setI, hc], rfl, rfl⟩
      have hX9 : XG κ9 9 G1 := by rw [eκ9]; exact XG_0x (XG_0x (x3.1.xg hw1) (by decide)) (by decide)
      obtain ⟨κa, g1, g2, -, -, g5⟩ := sX2_copy (g := 1) (g1 := 9) hX9 hw1 (Or.inl (by decide))
      obtain ⟨κb, eκb⟩ : ∃ κb, κb = setI κa 135 2 0 := ⟨_, rfl⟩
      have ab : agr (fun c => c = 135) κa κb := by rw [eκb]; exact agr_setI rfl
      have hXb : XG κb 1 G1 := g2.agr ab (by decide) (by decide) (by decide) (by decide)
      obtain ⟨κc, i1, i2, i3, i4⟩ := sX1_arrange (F := F) hXb hw1 (by omega)
      have aG : agr (fun c => gC 1 c ∨ c = 135 ∨ cA c) κ9 κc := agr_trans (agr_mono g1 (fun c hc => Or.inl hc)) (agr_trans (agr_mono ab (fun c hc => Or.inr (Or.inl hc))) (agr_mono i1 (fun c hc => Or.inr (Or.inr hc))))
      have big : ∀ cl, cl = 0 ∨ 136 ≤ cl → ¬ (gC 1 cl ∨ cl = 135 ∨ cA cl) := fun cl hc z => by unfold gC cA at z; omega
      have m0 : ∀ i, mi κc 0 i = mi κ9 0 i := fun i => agr_mi aG (big 0 (Or.inl rfl)) i
      obtain ⟨ρ13, eρ13⟩ : ∃ ρ13, ρ13 = setI (setI (setI ρ10 0 22 0) 0 23 (nI 0)) 0 24 (-1) := ⟨_, rfl⟩
      have f13 : mi ρ13 0 25 = nI 0 := by rw [eρ13, mi_setI, if_neg (by omega), mi_setI, if_neg (by omega), mi_setI, if_neg (by omega)]; exact f25
      have e25 : mi (setI ρ10 0 22 0) 0 25 = nI 0 := by rw [mi_setI, if_neg (by omega)]; exact f25
      have e25b : mi (setI (setI ρ10 0 22 0) 0 23 (nI 0)) 0 25 = nI 0 := by rw [mi_setI, if_neg (by omega)]; exact e25
      have hR13 : RG ρ13 2 G1 := by rw [eρ13]; exact RG_0 (RG_0 (RG_0 (x3.2.1.rg hw1) (by decide)) (by decide)) (by decide)
      have ecp := rX_copies (r1 := 2) (r2 := 1) (F := F) (ρ := ρ13) (by decide) rfl rfl (by omega)
      obtain ⟨ρ15, eρ15⟩ : ∃ ρ15, ρ15 = setI (setIA ρ13 1 (wr (ρ13.1 1) 0 6157 (ρ13.1 2))) 0 6 0 := ⟨_, rfl⟩
      have hR15 : RG ρ15 1 G1 := by rw [eρ15]; exact RG_0 (RG_copied hR13 hw1) (by decide)
      have p15 : ∀ i, i ≠ 6 → i ≠ 22 → i ≠ 23 → i ≠ 24 → mi ρ15 0 i = mi ρ10 0 i := fun i h1 h2 h3 h4 => by rw [eρ15, mi_setI, if_neg (fun z => h1 z.2), mi_setIA, if_neg (by decide), eρ13, mi_setI, if_neg (fun z => h4 z.2), mi_setI, if_neg (fun z => h3 z.2), mi_setI, if_neg (fun z => h2 z.2)]
      have p15c : ∀ cl, cl ≠ 0 → cl ≠ 1 → ρ15.1 cl = ρ10.1 cl ∧ ρ15.2.1 cl = ρ10.2.1 cl ∧ ρ15.2.2 cl = ρ10.2.2 cl := fun cl h0 h1 => by rw [eρ15, eρ13]; exact ⟨by simp [setI, setIA, h0, h1], rfl, rfl⟩
      have ld : (if nI 0 = (0 : Int32) then (1 : Nat) else 0) = 1 := rfl
      rw [show pX6_read_45 F F κ7 1 0 = _ from x1, Option.bind_some]
      dsimp only
      rw [nm_def, f1, nm_def, show mi (setI κ8 0 13 (nI 0)) 138 2 = -1 by rw [mi_setI, if_neg (by omega)]; exact f2, ← eκ9, if_neg (show ¬ nI 1 = 0 by decide), g5, Option.bind_some]
      rw [nm_def, e25, nm_def, e25b, if_pos (show nI 0 ≤ 0 by decide), nm_def, ← eρ13, f13, if_pos (show nI 0 ≤ 0 by decide), ecp, Option.bind_some, nm_def, ← eρ15, rX_players hR15, Option.bind_some]
      unfold pX3_forget
      rw [nm_def, ← eκb, Option.bind_some, i4, Option.bind_some, i2.1.1]
      refine ⟨nI (Gn G1), setI κc 0 12 0, ρ15, ⟨G1, H, 0, ?_, ?_, ?_, ?_⟩, rfl, rfl⟩
      · exact IG_0x ⟨hw1, i2, i3, hR15⟩
      · obtain ⟨⟨nx, y1, y2, -⟩, -⟩ := hIH.2.1
        refine ⟨⟨Nat.zero_le _, fun j hj => absurd hj (Nat.not_lt_zero _)⟩, IHx_0 ⟨⟨nx, y1, ?_, fun j hj => absurd hj (Nat.not_lt_zero _)⟩, ?_⟩, ?_, fun j hj => absurd hj (Nat.not_lt_zero _)⟩
        · rw [agr_mi i1 (by unfold cA; omega), eκb, mi_setI, if_neg (by omega), agr_mi g1 (by unfold gC; omega)]
          exact (congrFun (k9c 135 (by decide)).1 1).trans y2
        · rw [agr_mi i1 (by unfold cA; omega), eκb, mi_setI, if_pos ⟨rfl, rfl⟩]
          rfl
        · rw [eρ15, mi_setI, if_pos ⟨rfl, rfl⟩]
          rfl
      · refine ⟨⟨0, Nat.zero_le _, ?_, ?_, fun i hi => absurd hi (Nat.not_lt_zero _)⟩, IPr_mv h.2.2.1.2.1 (fun cl hc => ?_) ((p15 19 (by decide) (by decide) (by decide) (by decide)).trans q19) (fun i => (congrFun (p15c 12 (by decide) (by decide)).1 i).trans (q12 i)), ⟨?_, ?_⟩, fun i hi => (congrFun (p15c 14 (by decide) (by decide)).2.1 i).trans (hW14 i hi)⟩
        · rw [mi_setI, if_neg (by omega), m0, eκ9, mi_setI, if_neg (by omega), mi_setI, if_neg (by omega), k11]; rfl
        · rw [eρ15, mi_setI, if_neg (by omega), mi_setIA, if_neg (by decide), eρ13, mi_setI, if_neg (by omega), mi_setI, if_neg (by omega), mi_setI, if_pos ⟨rfl, rfl⟩]; rfl
        · obtain ⟨u1, -, u3⟩ := aG cl (big cl (Or.inr (by omega)))
          obtain ⟨w1, -, w3⟩ := k9c cl (by omega)
          obtain ⟨y1, y3⟩ := kP cl hc
          refine ⟨?_, u3.trans (w3.trans y3)⟩
          have e : (setI κc 0 12 0).1 cl = κc.1 cl := by simp only [setI, if_neg (show ¬ cl = 0 by omega)]
          exact e.trans (u1.trans (w1.trans y1))
        · rw [mi_setI, if_neg (by omega), m0, eκ9, mi_setI, if_neg (by omega), mi_setI, if_pos ⟨rfl, rfl⟩, eρ15, mi_setI, if_neg (by omega), mi_setIA, if_neg (by decide), eρ13, mi_setI, if_neg (by omega), mi_setI, if_pos ⟨rfl, rfl⟩]
        · rw [mi_setI, if_neg (by omega), m0, eκ9, mi_setI, if_pos ⟨rfl, rfl⟩, eρ15, mi_setI, if_neg (by omega), mi_setIA, if_neg (by decide), eρ13, mi_setI, if_pos ⟨rfl, rfl⟩]
      · rw [mi_setI, if_pos ⟨rfl, rfl⟩, p15 0 (by decide) (by decide) (by decide) (by decide), st10]
    · -- a fault
      obtain ⟨y1, y2⟩ := x3
      obtain ⟨⟨y3, y4⟩, y5, y6⟩ := x4
      have f0 : ¬ (nI f ≤ (0 : Int32)) := by
        have e : (nI f ≤ (0 : Int32)) = (f ≤ 0) := n_le (a := f) (b := 0) (by omega) (by decide)
        rw [e]
        omega
      have e25 : mi (setI ρ10 0 22 0) 0 25 = nI f := by rw [mi_setI, if_neg (by omega)]; exact y5
      have e25b : mi (setI (setI ρ10 0 22 0) 0 23 (nI f)) 0 25 = nI f := by rw [mi_setI, if_neg (by omega)]; exact e25
      have e26b : mi (setI (setI ρ10 0 22 0) 0 23 (nI f)) 0 26 = nI pl := by rw [mi_setI, if_neg (by omega), mi_setI, if_neg (by omega)]; exact y6
      have e25c : mi (setI (setI (setI ρ10 0 22 0) 0 23 (nI f)) 0 24 (nI pl)) 0 25 = nI f := by rw [mi_setI, if_neg (by omega)]; exact e25b
      rw [show pX6_read_45 F F κ7 1 0 = _ from x1, Option.bind_some]
      dsimp only
      rw [nm_def, y1, nm_def, show mi (setI κ8 0 13 (nI f)) 138 2 = nI pl by rw [mi_setI, if_neg (by omega)]; exact y2, if_pos (show nI 0 = 0 from rfl), x_refuse, Option.bind_some]
      rw [nm_def, e25, nm_def, e25b, if_neg f0, e26b, nm_def, e25c, if_neg f0, rX_refuse, Option.bind_some]
      refine ⟨-1, setI (setI (setI κ8 0 13 (nI f)) 0 14 (nI pl)) 0 12 9, setI (setI (setI (setI ρ10 0 22 0) 0 23 (nI f)) 0 24 (nI pl)) 0 0 9, ⟨G, H, m, IG_0x (IG_0x (IG_0x (IG_0r (IG_0r (IG_0r (IG_0r hIG)))))), IH_0x (IH_0x (IH_0x (IH_0r (IH_0r (IH_0r (IH_0r hIH (by decide)) (by decide)) (by decide)) (by decide)))), ⟨⟨0, Nat.zero_le _, ?_, ?_, fun i hi => absurd hi (Nat.not_lt_zero _)⟩, IPr_mv h.2.2.1.2.1 (fun cl hc => ?_) ?_ (fun i => ?_), ⟨?_, ?_⟩, fun i hi => hW14 i hi⟩, ?_⟩, rfl, rfl⟩
      · rw [mi_setI, if_neg (by omega), mi_setI, if_neg (by omega), mi_setI, if_neg (by omega), k11]; rfl
      · rw [mi_setI, if_neg (by omega), mi_setI, if_neg (by omega), mi_setI, if_neg (by omega), mi_setI, if_pos ⟨rfl, rfl⟩]; rfl
      · obtain ⟨w1, w3⟩ := kP cl hc
        refine ⟨?_, w3⟩
        have e : (setI (setI (setI κ8 0 13 (nI f)) 0 14 (nI pl)) 0 12 9).1 cl = κ8.1 cl := by simp only [setI, if_neg (show ¬ cl = 0 by omega)]
        exact e.trans w1
      · rw [mi_setI, if_neg (by omega), mi_setI, if_neg (by omega), mi_setI, if_neg (by omega), mi_setI, if_neg (by omega)]; exact q19
      · rw [mi_setI, if_neg (by omega), mi_setI, if_neg (by omega), mi_setI, if_neg (by omega), mi_setI, if_neg (by omega)]; exact q12 i
      · rw [mi_setI, if_neg (by omega), mi_setI, if_neg (by omega), mi_setI, if_pos ⟨rfl, rfl⟩, mi_setI, if_neg (by omega), mi_setI, if_neg (by omega), mi_setI, if_pos ⟨rfl, rfl⟩]
      · rw [mi_setI, if_neg (by omega), mi_setI, if_pos ⟨rfl, rfl⟩, mi_setI, if_neg (by omega), mi_setI, if_pos ⟨rfl, rfl⟩]
      · rw [mi_setI, if_pos ⟨rfl, rfl⟩, mi_setI, if_pos ⟨rfl, rfl⟩]
  · rw [if_neg c, decide_eq_false c, if_pos (show nI false.toNat = 0 from rfl)]
    simp only [x_give, x_refuse, rX_refuse, rX_is0, rX_is1, rX_is2, rX_is3, rX_is4, rX_is5, rX_is7, nBt, nBf, o10, Bool.not_true, Bool.not_false, if_true, if_false, eq_self, Option.bind_some]
    exact res_no h agr_rfl agr_rfl
end LDC
