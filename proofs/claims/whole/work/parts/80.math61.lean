/-! ALL WAYS TO GUESS: the class goes through them, the call -/
section GTI
variable {κ κ1 ρ ρ1 : Mem} {G : Gm} {H : Nat → Gm} {S : Nat → Prop} {F p q c c2 W x i N w e m : Nat} {P P2 : Nat → Bool} {d d2 : Nat → Nat}
theorem fewC_le (G : Gm) (N w : Nat) : fewC G N w ≤ 4096 := (mnF_le _ _).1
theorem sX9_46 (hw : WF G) (hF : 50000 < F) (hW : W ≤ 64) (hn : ncol G ≤ 64 * W) (hNb : N = bs G (Gn G)) (hN : N ≤ 14) (hWy : nways G ≤ 20000) (hL : LW κ G N W (dig (fS G) N 0)) (hR : RBit κ 120 W (fun x => decide (x < ncol G))) (h8 : mi κ 59 8 = 0) (h9 : mi κ 59 9 = 4096) : ∃ κ1, agr SW κ κ1 ∧ mi κ1 59 8 = nI (wonC G N (nways G)) ∧ mi κ1 59 9 = nI (fewC G N (nways G)) ∧ pX9_goThrough_46 F (nI (nways G)) F κ 0 0 = some κ1 := by
  have hg := hw.n6
  have hfp : ∀ j, j < N → 0 < fS G j := fun j hj => fS_pos hw (by omega)
  have hf4 : ∀ j, j < N → fS G j ≤ 4 := fun j hj => fS_4 hw (by omega)
  have hWp : 0 < nways G := pw_pos (fun j _ h8 => Nat.pow_pos (hw.h1 (show j < Gn G by omega)))
  have hWS : nways G = pw (fS G) 0 N := by rw [nways_S, hNb]
  have hdg : ∀ w j, j < N → dig (fS G) N w j < fS G j := fun w j hj => dig_lt (hfp j hj)
  refine lp_inv (fun fu (s : Mem × Nat) i => pX9_goThrough_46 F (nI (nways G)) fu s.1 (nI s.2) (nI i)) (fun s w => agr SW κ s.1 ∧ s.2 ≤ N ∧ (w < nways G → LW s.1 G N W (dig (fS G) N w) ∧ ∀ j, j ≤ s.2 → RBit s.1 (120 + j) W (OP G (dig (fS G) N w) j)) ∧ mi s.1 59 8 = nI (wonC G N w) ∧ mi s.1 59 9 = nI (fewC G N w)) (nways G) (fun y => ∃ κ1, agr SW κ κ1 ∧ mi κ1 59 8 = nI (wonC G N (nways G)) ∧ mi κ1 59 9 = nI (fewC G N (nways G)) ∧ y = some κ1) (fun fu s hS => ?_) (fun fu s w hwl hS => ?_) F (κ, 0) 0 (Nat.zero_le _) (by omega) ⟨agr_rfl, Nat.zero_le _, fun _ => ⟨hL, fun j hj => ?_⟩, h8, h9⟩
  · obtain ⟨b1, b2, b3, b4, b5⟩ := hS
    refine ⟨s.1, b1, b4, b5, ?_⟩
    show pX9_goThrough_46 F (nI (nways G)) (fu + 1) s.1 (nI s.2) (nI (nways G)) = _
    rw [pX9_goThrough_46, i_lt (by omega) (by omega), if_neg (Nat.lt_irrefl _)]
  · obtain ⟨b1, b2, b3, b4, b5⟩ := hS
    obtain ⟨b6, b7⟩ := b3 hwl
    obtain ⟨s1, c1, c2, c3⟩ := sX9_54 (F := F) (k46 := pX9_goThrough_46 F (nI (nways G)) fu) (v1 := nI (nways G)) (v3 := nI w) (by omega) hW hN b6 hf4 (hdg w) b2 b7
    have hL1 : LW s1 G N W (dig (fS G) N w) := LW_agr b6 hN hf4 (agr_mono c1 (fun k hk => by omega))
    have c4 := sX9_stillOpen (F := F) (by omega) hW hN hL1.1.1 hL1.1.2 (c2 N (Nat.le_refl _))
    have hcnt : cnt (OP G (dig (fS G) N w) N) (64 * W) = lW G (dig (fS G) N w) := by
      have := OP_cnt (d := dig (fS G) N w) hw hn
      rw [← hNb] at this
      exact this
    rw [hcnt] at c4
    have hl : lW G (dig (fS G) N w) ≤ 4096 := lst_le (WF_tb hw (fun j hj => hdg w j (by omega)))
    have hfl := fewC_le G N w
    obtain ⟨s2, es2⟩ : ∃ s2, s2 = setI (setI s1 59 8 (nI (wonC G N (w + 1)))) 59 9 (nI (fewC G N (w + 1))) := ⟨_, rfl⟩
    have a2 : agr (fun k => k = 59) s1 s2 := by rw [es2]; exact agr_trans (agr_setI rfl) (agr_setI rfl)
    have m2 : ∀ i, i ≠ 8 → i ≠ 9 → mi s2 59 i = mi s1 59 i := fun i h1 h2 => by rw [es2, mi_setI, if_neg (fun z => h2 z.2), mi_setI, if_neg (fun z => h1 z.2)]
    have hL2 : LW s2 G N W (dig (fS G) N w) := ⟨⟨(m2 6 (by decide) (by decide)).trans hL1.1.1, (m2 7 (by decide) (by decide)).trans hL1.1.2⟩, fun j hj => (agr_mi a2 (by omega) j).trans (hL1.2.1 j hj), fun j hj => (agr_mi a2 (by omega) j).trans (hL1.2.2.1 j hj), fun j hj c hc => (hL1.2.2.2 j hj c hc).agr a2 (by omega)⟩
    obtain ⟨s3, e, d1, d2, d3, d4⟩ := sX9_pickNext (F := F) (by omega) hN hfp hf4 hL2
    refine ⟨(s3, e), ⟨agr_trans b1 (agr_trans (agr_mono c1 (fun k hk => by unfold SW; omega)) (agr_trans (agr_mono a2 (fun k hk => by unfold SW; omega)) (agr_mono d1 (fun k hk => by unfold SW; omega)))), d2, fun hl2 => ?_, ?_, ?_⟩, ?_⟩
    · obtain ⟨d5, d6⟩ := d3 (by rw [← hWS]; exact hl2)
      refine ⟨⟨⟨(agr_mi d1 (by omega) 6).trans hL2.1.1, (agr_mi d1 (by omega) 7).trans hL2.1.2⟩, fun j hj => (agr_mi d1 (by omega) j).trans (hL2.2.1 j hj), d5, fun j hj c hc => (hL2.2.2.2 j hj c hc).agr d1 (by omega)⟩, fun j hj => ?_⟩
      have hj2 : j ≤ e := hj
      exact (((c2 j (by omega)).agr a2 (by omega)).agr d1 (by omega)).congr (fun x _ => OP_congr (fun q hq => (d6 q (by omega)).symm))
    · show mi s3 59 8 = _
      rw [agr_mi d1 (by omega), es2, mi_setI, if_neg (by omega), mi_setI, if_pos ⟨rfl, rfl⟩]
    · show mi s3 59 9 = _
      rw [agr_mi d1 (by omega), es2, mi_setI, if_pos ⟨rfl, rfl⟩]
    · have ew : wonC G N (w + 1) = wonC G N w + if lW G (dig (fS G) N w) = 0 then 1 else 0 := rfl
      have ef : fewC G N (w + 1) = if lW G (dig (fS G) N w) < fewC G N w then lW G (dig (fS G) N w) else fewC G N w := rfl
      have e8 : mi s1 59 8 = nI (wonC G N w) := (agr_mi c1 (by omega) 8).trans b4
      have e9 : mi s1 59 9 = nI (fewC G N w) := (agr_mi c1 (by omega) 9).trans b5
      have zn : (nI (lW G (dig (fS G) N w)) = 0) = (lW G (dig (fS G) N w) = 0) := n_eq (a := lW G (dig (fS G) N w)) (b := 0) (by omega) (by decide)
      have ln : (nI (lW G (dig (fS G) N w)) < nI (fewC G N w)) = (lW G (dig (fS G) N w) < fewC G N w) := n_lt (by omega) (by omega)
      have fin : ∀ y0 y1 : Int32, y1 + y0 = nI (wonC G N (w + 1)) → pX9_goThrough_96 F (pX9_goThrough_46 F (nI (nways G)) fu) s1 (nI (nways G)) (nI w) (nI (lW G (dig (fS G) N w))) y0 y1 = pX9_goThrough_46 F (nI (nways G)) fu s3 (nI e) (nI (w + 1)) := fun y0 y1 hy => by
        unfold pX9_goThrough_96
        have k9 : mi (setI s1 59 8 (nI (wonC G N (w + 1)))) 59 9 = nI (fewC G N w) := by rw [mi_setI, if_neg (by omega)]; exact e9
        rw [hy]
        simp only [nm_def, k9, ln]
        rw [show (if lW G (dig (fS G) N w) < fewC G N w then nI (lW G (dig (fS G) N w)) else nI (fewC G N w)) = nI (fewC G N (w + 1)) by
          rw [ef]
          by_cases y : lW G (dig (fS G) N w) < fewC G N w
          · rw [if_pos y, if_pos y]
          · rw [if_neg y, if_neg y], ← es2, d4, Option.bind_some, show nI w + 1 = nI (w + 1) from n_add w 1]
      show pX9_goThrough_46 F (nI (nways G)) (fu + 1) s.1 (nI s.2) (nI w) = pX9_goThrough_46 F (nI (nways G)) fu s3 (nI e) (nI (w + 1))
      rw [pX9_goThrough_46, i_lt (by omega) (by omega), if_pos hwl, c3, c4, Option.bind_some, e8]
      simp only [zn]
      by_cases y : lW G (dig (fS G) N w) = 0
      · rw [if_pos y]
        refine fin _ _ ?_
        rw [if_pos y] at ew
        rw [ew]
        exact n_add _ 1
      · rw [if_neg y]
        refine fin _ _ ?_
        rw [if_neg y] at ew
        rw [ew]
        exact n_add _ 0
  · have hj0 : j = 0 := by
      have : j ≤ 0 := hj
      omega
    subst hj0
    refine hR.congr (fun x _ => ?_)
    unfold OP
    rw [exb, Bool.not_false, Bool.and_true]
theorem sX9_one (hA : AR κ G) (hw : WF G) (hF : 5000 < F) : pX9_someHasOneColour F κ = some (nI (exb (fun p => decide (Gh G p = 1)) (Gn G)).toNat) := by
  have hg := hw.n6
  unfold pX9_someHasOneColour
  rw [← ex01]
  refine lp_fst F (fun fu i => pX9_someHasOneColour_2 F κ fu (nI i)) (fun p => decide (Gh G p = 1)) (Gn G) (fun _ => some (nI 1)) (some (nI 0)) _ rfl (fun fu => ?_) (fun fu i hi => ?_) (by omega)
  · show pX9_someHasOneColour_2 F κ (fu + 1) (nI (Gn G)) = _
    rw [pX9_someHasOneColour_2, hA.n]
    simp (disch := omega) only [n_0, n_1, n_2, n_3, n_4, n_5, n_6, n_7, n_8, n_9, n_10, n_12, n_13, n_14, n_20, n_31, n_32, n_63, n_64, n_600, n_1024, n_4096, n_6157, n_add, n_mul, nm_def, Option.bind_some, Option.some.injEq, ck_in, ck_nz, ck_p, n_cl, n_lt, n_le, n_eq, n_div, n_rem, if_pos, if_neg, if_true, if_false, eq_self, n_192, n_256, n_20000, m1_n0, m1_np, m1_n0p, m1_lt0, m1_lt0p, mi_setIA, mi_setI, ml_setIA, ml_setI, mr_setI, mr_setIA]
  · show pX9_someHasOneColour_2 F κ (fu + 1) (nI i) = _
    have h4 := hw.h4 hi
    have e2 := hA.h hi
    rw [pX9_someHasOneColour_2, hA.n]
    simp (disch := omega) only [n_0, n_1, n_2, n_3, n_4, n_5, n_6, n_7, n_8, n_9, n_10, n_12, n_13, n_14, n_20, n_31, n_32, n_63, n_64, n_600, n_1024, n_4096, n_6157, n_add, n_mul, nm_def, Option.bind_some, Option.some.injEq, ck_in, ck_nz, ck_p, n_cl, n_lt, n_le, n_eq, n_div, n_rem, if_pos, if_neg, if_true, if_false, eq_self, n_192, n_256, n_20000, m1_n0, m1_np, m1_n0p, m1_lt0, m1_lt0p, mi_setIA, mi_setI, ml_setIA, ml_setI, mr_setI, mr_setIA, e2, decide_eq_true_eq]
theorem entries14 (hw : WF G) (h2 : ∀ p, p < Gn G → 2 ≤ Gh G p) (hWy : nways G ≤ 20000) : bs G (Gn G) ≤ 14 := by
  have key : ∀ n, n ≤ bs G (Gn G) → 2 ^ n ≤ pw (fS G) 0 n := by
    intro n
    induction n with
    | zero => intro _; exact Nat.le_refl _
    | succ n ih =>
      intro hn
      have h3 : 2 ≤ fS G n := by
        obtain ⟨p, s, h4, h5, h6⟩ := bs_onto (Gn G) (Nat.le_refl _) n (by omega)
        rw [h6, fS_eq h4 h5]
        exact h2 p h4
      rw [Nat.pow_succ, pw, Nat.zero_add]
      exact Nat.mul_le_mul (ih (by omega)) h3
  have h3 := key _ (Nat.le_refl _)
  rw [← nways_S] at h3
  rcases Nat.lt_or_ge 14 (bs G (Gn G)) with z | z
  · have h4 : 2 ^ 15 ≤ 2 ^ bs G (Gn G) := Nat.pow_le_pow_right (by decide) z
    have h5 : (2 : Nat) ^ 15 = 32768 := by decide
    omega
  · exact z
theorem wonR_C (hw : WF G) : wonR G (nways G) = wonC G (bs G (Gn G)) (nways G) := by
  unfold wonR wonC
  rw [nways_S]
  exact sum_LB (fS G) (bs G (Gn G)) (fun d => if lW G d = 0 then 1 else 0) (fun j hj => fS_pos hw hj) (fun d e hde => by
    show (if lW G d = 0 then 1 else 0) = if lW G e = 0 then 1 else 0
    rw [lW_co hw d e hde])
theorem fewR_C (hw : WF G) : fewR G (nways G) = fewC G (bs G (Gn G)) (nways G) := by
  unfold fewR fewC
  rw [nways_S]
  exact mnF_LB (fS G) (bs G (Gn G)) (lW G) (fun j hj => fS_pos hw hj) (fun d e hde => lW_co hw d e hde)
/-- one of one colour: nothing is ever lost -/
theorem lW_one (hw : WF G) {p : Nat} (hp : p < Gn G) (h1 : Gh G p = 1) (hd : ∀ j, j < bs G (Gn G) → d j < fS G j) : lW G d = 0 := by
  unfold lW lst
  refine cnt_zero (fun x hx => decide_eq_false (fun z => ?_))
  have hx2 : x < ncol G := hx
  unfold rgt at z
  have h2 := msk_z.mp z p hp
  have h3 : decide (d (bs G p + sOf G p x) = col G p x) = false := h2
  have h4 := hd _ (bs_lt hp (sOf_lt (x := x) hw))
  rw [fS_eq hp (sOf_lt hw), h1] at h4
  have h5 := col_lt (x := x) hw hp
  rw [h1] at h5
  rw [decide_eq_true (by omega)] at h3
  cases h3
theorem sm_1s {f : Nat → Nat} : ∀ {n : Nat}, (∀ i, i < n → f i = 1) → sm f n = n
  | 0, _ => rfl
  | n + 1, h => by rw [sm, sm_1s (fun i hi => h i (by omega)), h n (by omega)]
theorem wonR_one (hw : WF G) {p : Nat} (hp : p < Gn G) (h1 : Gh G p = 1) : wonR G (nways G) = nways G ∧ fewR G (nways G) = 0 := by
  have hl : ∀ w, lW G (dLE (fS G) w) = 0 := fun w => lW_one hw hp h1 (fun j hj => Nat.mod_lt _ (fS_pos hw hj))
  have hWp : 0 < nways G := pw_pos (fun j _ h8 => Nat.pow_pos (hw.h1 (show j < Gn G by omega)))
  refine ⟨sm_1s (fun w _ => by rw [hl w, if_pos rfl]), ?_⟩
  have h2 := (mnF_le (fun w => lW G (dLE (fS G) w)) (nways G)).2 0 hWp
  have h3 : fewR G (nways G) ≤ lW G (dLE (fS G) 0) := h2
  rw [hl] at h3
  omega
theorem sX9_goThrough (hA : AR κ G) (hw : WF G) (hF : 50000 < F) (hWy : nways G ≤ 20000) : ∃ κ1, agr SW κ κ1 ∧ mi κ1 59 8 = nI (wonR G (nways G)) ∧ mi κ1 59 9 = nI (fewR G (nways G)) ∧ pX9_goThrough F κ = some κ1 := by
  obtain ⟨v, hv, ev⟩ := sX2_waysToGuess (F := F) hA.1 hw (by omega)
  have hv2 : v = nways G := by
    rcases hv with ⟨_, h⟩ | ⟨h, _⟩
    · exact h
    · omega
  subst hv2
  unfold pX9_goThrough
  rw [ev, sX9_one hA hw (by omega)]
  cases hc : exb (fun p => decide (Gh G p = 1)) (Gn G)
  · have h2 : ∀ p, p < Gn G → 2 ≤ Gh G p := fun p hp => by
      have h1 := hw.h1 hp
      rcases Nat.lt_or_ge (Gh G p) 2 with z | z
      · have : exb (fun p => decide (Gh G p = 1)) (Gn G) = true := (exb_iff _ _).mpr ⟨p, hp, decide_eq_true (by omega)⟩
        rw [this] at hc
        cases hc
      · exact z
    have hN := entries14 hw h2 hWy
    have hnc := ncol_le hw
    obtain ⟨s0, es0⟩ : ∃ s0, s0 = setI (setI κ 59 8 0) 59 9 4096 := ⟨_, rfl⟩
    have a0 : agr SW κ s0 := by rw [es0]; exact agr_trans (agr_setI (Or.inl rfl)) (agr_setI (Or.inl rfl))
    have z8 : mi s0 59 8 = 0 := by rw [es0, mi_setI, if_neg (by omega), mi_setI, if_pos ⟨rfl, rfl⟩]
    have z9 : mi s0 59 9 = 4096 := by rw [es0, mi_setI, if_pos ⟨rfl, rfl⟩]
    obtain ⟨s1, b1, b2, b3, b4, b5, b6⟩ := sX9_layOut (F := F) (agSW a0 hA hw) hw (by omega) hN
    have hd0 : ∀ j, j < bs G (Gn G) → dig (fS G) (bs G (Gn G)) 0 j = 0 := fun j _ => by
      unfold dig
      rw [Nat.zero_div, Nat.zero_mod]
    obtain ⟨s2, c1, c2, c3, c4⟩ := sX9_46 (κ := s1) (W := (ncol G + 63) / 64) (N := bs G (Gn G)) (F := F) hw hF (by omega) (by omega) rfl hN hWy ⟨⟨b2.1, b2.2.1⟩, fun j hj => (b2.2.2 j hj).1, fun j hj => by rw [hd0 j hj]; exact (b2.2.2 j hj).2.1, fun j hj c hc => (b2.2.2 j hj).2.2 c hc⟩ b3 (b4.trans z8) (b5.trans z9)
    refine ⟨s2, agr_trans a0 (agr_trans b1 c1), by rw [wonR_C hw]; exact c2, by rw [fewR_C hw]; exact c3, ?_⟩
    rw [Option.bind_some, Option.bind_some, if_pos (show nI false.toNat = 0 from rfl), nm_def, nm_def, ← es0, b6, Option.bind_some, c4]
  · obtain ⟨p, hp, hp1⟩ := (exb_iff _ _).mp hc
    obtain ⟨g1, g2⟩ := wonR_one hw hp (of_decide_eq_true hp1)
    refine ⟨setI (setI κ 59 8 (nI (nways G))) 59 9 (nI 0), agr_trans (agr_setI (Or.inl rfl)) (agr_setI (Or.inl rfl)), by rw [g1, mi_setI, if_neg (by omega), mi_setI, if_pos ⟨rfl, rfl⟩], by rw [g2, mi_setI, if_pos ⟨rfl, rfl⟩], ?_⟩
    rw [Option.bind_some, Option.bind_some, if_neg (show ¬ nI true.toNat = 0 by decide)]
    rfl
theorem rX_ways_61 {v : Int32} (hF : 50000 < F) : pX11_ways_61 F v F ρ 13 = pX11_ways_95 F v F (setI (setI (setIA ρ 1 (wr (ρ.1 1) 13 6157 (fun _ => nI 0))) 0 11 0) 0 12 4096) 1 := by
  refine lp_upE F (fun fu i => pX11_ways_61 F v fu (setIA ρ 1 (wr (ρ.1 1) 13 i (fun _ => nI 0))) (nI i)) 13 6157 _ _ ?_ (fun fu => ?_) (fun fu i hi1 hi2 => ?_) (by omega) (by omega)
  · rw [setIA_wr0]
    rfl
  · show pX11_ways_61 F v (fu + 1) _ (nI 6157) = _
    rw [pX11_ways_61]
    simp (disch := omega) only [n_0, n_1, n_2, n_3, n_4, n_5, n_6, n_7, n_8, n_9, n_10, n_12, n_13, n_14, n_20, n_31, n_32, n_63, n_64, n_600, n_1024, n_4096, n_6157, n_add, n_mul, nm_def, Option.bind_some, Option.some.injEq, ck_in, ck_nz, ck_p, n_cl, n_lt, n_le, n_eq, n_div, n_rem, if_pos, if_neg, if_true, if_false, eq_self, n_192, n_256, n_20000, m1_n0, m1_np, m1_n0p, m1_lt0, m1_lt0p, mi_setIA, mi_setI, ml_setIA, ml_setI, mr_setI, mr_setIA]
  · show pX11_ways_61 F v (fu + 1) _ (nI i) = pX11_ways_61 F v fu _ (nI (i + 1))
    rw [pX11_ways_61]
    simp (disch := omega) only [n_0, n_1, n_2, n_3, n_4, n_5, n_6, n_7, n_8, n_9, n_10, n_12, n_13, n_14, n_20, n_31, n_32, n_63, n_64, n_600, n_1024, n_4096, n_6157, n_add, n_mul, nm_def, Option.bind_some, Option.some.injEq, ck_in, ck_nz, ck_p, n_cl, n_lt, n_le, n_eq, n_div, n_rem, if_pos, if_neg, if_true, if_false, eq_self, n_192, n_256, n_20000, m1_n0, m1_np, m1_n0p, m1_lt0, m1_lt0p, mi_setIA, mi_setI, ml_setIA, ml_setI, mr_setI, mr_setIA]
    rw [setI_wr_up hi1 rfl]
theorem c_ways (h : IV G H m κ ρ) (hF : 50000 < F) (a : Int32) : Res (pX10_ways F κ a) (pX11_ways F ρ a) := by
  have hw := h.W
  have hn := hw.n6
  obtain ⟨v, hv, ev⟩ := sX2_waysToGuess (F := F) h.A.1 hw (by omega)
  have er := rX_waysMany (F := F) h.R hw (by omega)
  unfold pX10_ways pX11_ways pX10_ways_9
  rw [gd (c := 2) (k := 2) rfl (by decide), rX_inc ρ a (hi := 2) (by decide) (by decide)]
  by_cases dd : ag a ≤ 2
  · obtain ⟨w, hw2, rfl⟩ := plc (n := 3) (a := a) (by omega) (by decide)
    rw [if_pos dd, decide_eq_true dd, ev, er]
    unfold pX11_ways_29 pX10_ways_80
    by_cases hy : nways G ≤ 20000
    · have hv2 : v = nways G := by
        rcases hv with ⟨_, h⟩ | ⟨h, _⟩
        · exact h
        · omega
      subst hv2
      rw [if_pos hy]
      have e1 : (nI (nways G) ≤ (20000 : Int32)) = (nways G ≤ 20000) := n_le (a := nways G) (b := 20000) (by omega) (by decide)
      have e2 : (nI (nways G) < (0 : Int32)) = False := n_neg (by omega)
      have e3 := rX_waysMany (F := F) (R0 h (k := 0)) hw (by omega)
      rw [if_pos hy] at e3
      have hRL : ∀ ρ1 : Mem, RG ρ1 1 G → agW (setIA (st0 ρ 0) 4 (wr ((st0 ρ 0).1 4) 0 6157 ((st0 ρ 0).1 1))) ρ1 → ∀ κ1 v2, agr SW κ κ1 → Res (some (v2, setI κ1 0 12 0)) (some (v2, ρ1)) := fun ρ1 g1 g2 κ1 v2 g3 => by
        have ka : ∀ k, k ≠ 0 → ¬ (k = 1 ∨ k = 4 ∨ k = 5 ∨ k = 6) → ρ1.1 k = ρ.1 k ∧ ρ1.2.1 k = ρ.2.1 k ∧ ρ1.2.2 k = ρ.2.2 k := fun k k0 k1 => by
          obtain ⟨j1, j2, j3⟩ := g2.1 k k0 (by omega)
          refine ⟨j1.trans ?_, j2, j3⟩
          show (setIA (st0 ρ 0) 4 _).1 k = _
          unfold setIA
          rw [show ((fun a => if a = 4 then wr ((st0 ρ 0).1 4) 0 6157 ((st0 ρ 0).1 1) else (st0 ρ 0).1 a, (st0 ρ 0).2) : Mem).1 k = (st0 ρ 0).1 k from if_neg (by omega)]
          exact st0_c k0
        have k0 : ∀ i, i ≠ 0 → i ≠ 1 → i ≠ 11 → i ≠ 12 → mi ρ1 0 i = mi ρ 0 i := fun i i0 i1 i2 i3 => by
          rw [g2.2 i i2 i3, mi_setIA, if_neg (by decide), st0_i i0 i1]
        have kx : kpX κ κ1 := kpX_of g3 (fun k hk => by unfold SW at hk; omega)
        have hz : IZ κ1 ρ1 := h.2.2.1.kp kx ⟨fun k hk => ka k (by omega) (by omega), fun i hi => k0 i (by omega) (by omega) (by omega) (by omega)⟩
        have hG : IG κ1 ρ1 G := ⟨hw, agSW g3 h.A hw, ⟨fun x hx => (agr_mi g3 (by unfold SW; omega) x).trans (h.J.1 x hx), fun w2 hw2 => (agr_mi g3 (by unfold SW; omega) w2).trans (h.J.2 w2 hw2)⟩, g1⟩
        have hH : IH κ1 ρ1 H m := ⟨h.2.1.1, h.2.1.2.1.ag g3 (fun k hk => by unfold SW at hk; unfold hC; omega), (k0 6 (by decide) (by decide) (by decide) (by decide)).trans h.2.1.2.2.1, fun j hj => RP_mv (h.2.1.2.2.2 j hj) (h.HW j hj) (fun i _ => congrFun (ka 3 (by decide) (by decide)).1 _)⟩
        refine ⟨v2, _, _, ⟨G, H, m, hG.fr (agX_0 (by omega)) agR_rfl, hH.fr (agX_0 (by omega)) agR_rfl, hz.fr (agX_0 (by omega)) agR_rfl, ?_⟩, rfl, rfl⟩
        rw [mi_setI, if_pos ⟨rfl, rfl⟩, g2.2 0 (by decide) (by decide), mi_setIA, if_neg (by decide), st0_0]
      simp only [x_give, x_refuse, rX_refuse, rX_is0, rX_is1, rX_is2, rX_is3, rX_is4, rX_is5, rX_is7, nBt, nBf, o10, Bool.not_true, Bool.not_false, if_true, if_false, eq_self, Option.bind_some, e1, if_pos hy, e2, if_false]
      rcases (show w = 0 ∨ w = 1 ∨ w = 2 by omega) with z | z | z
      · subst z
        rw [if_pos (show nI 0 = 0 from rfl), if_pos (show nI 0 = 0 from rfl), e3]
        exact res_ok h agr_rfl agr_rfl
      all_goals
        subst z
        obtain ⟨κ1, g1, g2, g3, g4⟩ := sX9_goThrough (F := F) h.A hw hF hy
        have hcp := rX_copies (r1 := 1) (r2 := 4) (ρ := st0 ρ 0) (F := F) (by decide) rfl rfl (by omega)
        obtain ⟨ρ0, eρ0⟩ : ∃ ρ0, ρ0 = setIA (st0 ρ 0) 4 (wr ((st0 ρ 0).1 4) 0 6157 ((st0 ρ 0).1 1)) := ⟨_, rfl⟩
        have q4 : RG ρ0 4 G := by rw [eρ0]; exact RG_copied (R0 h (k := 0)) hw
        have q1 : RG ρ0 1 G := by rw [eρ0]; exact (R0 h (k := 0)).agr (S := fun k => k = 4) (agr_setIA rfl) (by decide)
        obtain ⟨ρ2, eρ2⟩ : ∃ ρ2, ρ2 = setI (setI (setIA ρ0 1 (wr (ρ0.1 1) 13 6157 (fun _ => nI 0))) 0 11 0) 0 12 4096 := ⟨_, rfl⟩
        have aW : agW ρ0 ρ2 := by rw [eρ2]; exact agW_trans (agW_of (agr_setIA (Or.inl rfl))) (agW_trans (agW_0 (Or.inl rfl)) (agW_0 (Or.inr rfl)))
        have m1 : ∀ i, mi ρ2 1 i = wr (ρ0.1 1) 13 6157 (fun _ => nI 0) i := fun i => by rw [eρ2, mi_setI, if_neg (by omega), mi_setI, if_neg (by omega), mi_setIA, if_pos rfl]
        have q2 : RW ρ2 G 0 := by
          refine ⟨?_, fun p hp => ?_, fun p hp => ?_, fun p hp σ hσ => ?_⟩
          · rw [m1, wr_out (by omega)]; exact q1.1
          · have hp6 : p < Gn G := hp
            rw [m1, wr_out (by omega)]; exact q1.h hp
          · have hp6 : p < Gn G := hp
            rw [m1, wr_out (by omega)]; exact q1.s hp
          · have hp6 : p < Gn G := hp
            have hsl := sit_le hw hp
            have hσ2 : σ < sit G p := hσ
            rw [m1, wr_in (by omega) (by omega)]
            show nI 0 = nI (dLE (fS G) 0 (bs G p + σ))
            unfold dLE
            rw [Nat.zero_div, Nat.zero_mod]
        have q5 : RG ρ2 4 G := ⟨by rw [eρ2, mi_setI, if_neg (by omega), mi_setI, if_neg (by omega), mi_setIA, if_neg (by decide)]; exact q4.1, fun p hp => by rw [eρ2, mi_setI, if_neg (by omega), mi_setI, if_neg (by omega), mi_setIA, if_neg (by decide)]; exact q4.h hp, fun p hp => by rw [eρ2, mi_setI, if_neg (by omega), mi_setI, if_neg (by omega), mi_setIA, if_neg (by decide)]; exact q4.s hp, fun p hp σ hσ => by rw [eρ2, mi_setI, if_neg (by omega), mi_setI, if_neg (by omega), mi_setIA, if_neg (by decide)]; exact q4.t hp hσ⟩
        have w11 : mi ρ2 0 11 = 0 := by rw [eρ2, mi_setI, if_neg (by omega), mi_setI, if_pos ⟨rfl, rfl⟩]
        have w12 : mi ρ2 0 12 = 4096 := by rw [eρ2, mi_setI, if_pos ⟨rfl, rfl⟩]
      · obtain ⟨ρ1, j1, j2, j3⟩ := rX_ways_95 (F := F) (v := nI 1) q5 hw hF q2 hy w11 w12
        rw [if_neg (show ¬ nI 1 = 0 by decide), if_neg (show ¬ nI 1 = 0 by decide), g4, hcp, ← eρ0, Option.bind_some, Option.bind_some, rX_ways_61 hF, ← eρ2, j3, if_pos (show nI 1 = 1 from rfl), if_pos (show nI 1 = 1 from rfl), g2]
        exact hRL ρ1 j2 (by rw [← eρ0]; exact agW_trans aW j1) κ1 _ g1
      · obtain ⟨ρ1, j1, j2, j3⟩ := rX_ways_95 (F := F) (v := nI 2) q5 hw hF q2 hy w11 w12
        rw [if_neg (show ¬ nI 2 = 0 by decide), if_neg (show ¬ nI 2 = 0 by decide), g4, hcp, ← eρ0, Option.bind_some, Option.bind_some, rX_ways_61 hF, ← eρ2, j3, if_neg (show ¬ nI 2 = 1 by decide), if_neg (show ¬ nI 2 = 1 by decide), g3]
        exact hRL ρ1 j2 (by rw [← eρ0]; exact agW_trans aW j1) κ1 _ g1
    · have hv3 : 20000 < v ∧ v ≤ 80000 := by
        rcases hv with ⟨h, _⟩ | ⟨_, h⟩
        · omega
        · exact h
      have e1 : (nI v ≤ (20000 : Int32)) = (v ≤ 20000) := n_le (a := v) (b := 20000) (by omega) (by decide)
      have hv4 : ¬ v ≤ 20000 := by omega
      rw [if_neg hy]
      simp only [x_give, x_refuse, rX_refuse, rX_is0, rX_is1, rX_is2, rX_is3, rX_is4, rX_is5, rX_is7, nBt, nBf, o10, Bool.not_true, Bool.not_false, if_true, if_false, eq_self, Option.bind_some, e1, if_neg hv4]
      skip
      exact res_no h agr_rfl agr_rfl
  · rw [if_neg dd, decide_eq_false dd]
    unfold pX11_ways_29
    simp only [x_give, x_refuse, rX_refuse, rX_is0, rX_is1, rX_is2, rX_is3, rX_is4, rX_is5, rX_is7, nBt, nBf, o10, Bool.not_true, Bool.not_false, if_true, if_false, eq_self, Option.bind_some]
    exact res_no h agr_rfl agr_rfl
end GTI
