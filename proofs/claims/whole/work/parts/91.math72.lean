/-! LOAD: how one guesses, wholly; one line -/
section LDK
variable {κ κ1 κ2 ρ ρ1 ρ2 : Mem} {b : Nat → Int32} {n k f pl lo hi F p q j v bm r K i : Nat} {G G1 : Gm} {x c w v1 v2 : Int32} {hm gm : Nat} {g : Nat → Nat}
theorem or_ne (a p : Nat) : a ||| 2 ^ p ≠ 0 := fun z => by
  have h := congrArg (fun y => Nat.testBit y p) z
  have h2 : (a ||| 2 ^ p).testBit p = Nat.testBit 0 p := h
  rw [tb_or, decide_eq_true rfl, Bool.or_true, Nat.zero_testBit] at h2
  cases h2
/-- a guess is told -/
theorem sL_told (ha : AT b n κ ρ k) (hx : GX κ G) (hr : GR ρ G) (hw : WF G) (h0 : 0 < Gn G) (hp : p < 6) (hh : hm < 64) (hg : gm < 64) (h7 : mi κ 138 7 = nI hm) (h8 : mi κ 138 8 = nI (gm ||| 2 ^ p)) (r32 : mi ρ 0 32 = nI hm) (r33 : mi ρ 0 33 = nI gm) : AT b n κ (gMk ρ (nI p)) k ∧ GM κ (gMk ρ (nI p)) G hm (gm ||| 2 ^ p) := by
  have e : gMk ρ (nI p) = setI ρ 0 33 (nI (gm ||| 2 ^ p)) := by
    unfold gMk
    rw [r33, m_set (by omega)]
  rw [e]
  obtain ⟨⟨a1, a2, a3⟩, a4, a5, a6⟩ := ha
  refine ⟨⟨⟨a1, a2, CUR_mv a3 (fun i hi => by rw [mi_setI, if_neg (by omega)]) rfl⟩, by rw [mi_setI, if_neg (by omega)]; exact a4, a5, a6⟩, hx, hr.mv (fun i => by rw [mi_setI, if_neg (by omega)]), ⟨hw, fun z => by omega, fun z => absurd z (or_ne gm p)⟩, ⟨hh, h7, by rw [mi_setI, if_neg (by omega)]; exact r32⟩, ⟨n_setb gm hg p hp, h8, by rw [mi_setI, if_pos ⟨rfl, rfl⟩]⟩⟩
theorem sL_guess (hs : ST b n κ ρ) (hF : 6000 < F) (ha : AT b n κ ρ k) (hg : GM κ ρ G hm gm) (h1 : 1 ≤ Gn G) : OUT b n κ ρ (pX6_readGuess F κ) (yGuess F ρ) k := by
  obtain ⟨⟨hk, h4, hc⟩, h25, x1, x2⟩ := ha
  have hn := hg.p6
  have hP := tP_le (k := k) hs
  have hw := hg.2.2.1.1
  have m7 := hg.2.2.2.1
  have m8 := hg.2.2.2.2
  unfold pX6_readGuess yGuess
  rw [m8.2.2]
  by_cases c : tK b n k = 2 ∧ tV b n k < Gn G
  · obtain ⟨c1, c2⟩ := c
    obtain ⟨p, ep⟩ : ∃ p, p = tV b n k := ⟨_, rfl⟩
    have hp : p < Gn G := by omega
    have hp6 : p < 6 := by omega
    obtain ⟨κa, eκa⟩ : ∃ κa, κa = setI (setI κ 138 5 (nI p)) 138 4 (nI (k + 1)) := ⟨_, rfl⟩
    have ac : agr (fun c => c = 138 ∨ c = 139) κ κa := by rw [eκa]; exact agr_trans (agr_setI (Or.inl rfl)) (agr_setI (Or.inl rfl))
    have aa : agr fX κ κa := agr_mono ac (fun c hc => Or.inr hc)
    have ma : ∀ i, i ≠ 4 → i ≠ 5 → mi κa 138 i = mi κ 138 i := fun i i4 i5 => by rw [eκa, mi_setI, if_neg (fun z => i4 z.2), mi_setI, if_neg (fun z => i5 z.2)]
    have ma4 : mi κa 138 4 = nI (k + 1) := by rw [eκa, mi_setI, if_pos ⟨rfl, rfl⟩]
    have ma5 : mi κa 138 5 = nI p := by rw [eκa, mi_setI, if_neg (by omega), mi_setI, if_pos ⟨rfl, rfl⟩]
    have xp : pX6_readPlayer κ = some (nI 1, κa) := by rw [xL_player_t hs hk h4 hg.1.1 hn c1 c2, ← ep, eκa]
    rw [xp, Option.bind_some]
    dsimp only
    rw [if_neg (show ¬ nI 1 = 0 by decide), nm_def, ma5, ma 8 (by decide) (by decide), m8.2.1, m_has (by omega) (by omega), ma4]
    by_cases d : gm.testBit p = true
    · obtain ⟨κ1, a1, a2, a3⟩ := xL_fail (κ := κa) (hs.fr aa frR_rfl) hk 4
      obtain ⟨ρ1, b1, b2, b3⟩ := rL_player_f (F := F) hs hk hc h25 hg.2.1.1 h1 hn m8.1 (fun z => by rw [← ep, d] at z; cases z.2.2)
      rw [if_pos ⟨c1, c2⟩] at b2
      refine ⟨κ1, ρ1, agr_trans aa a1, b1.R, ?_, Or.inr ⟨?_, 4, tkP b n k, hP, a2, b2⟩⟩
      · rw [b3, Option.bind_some, rL_good_b b2]
        rfl
      · rw [if_pos d, show nI (k + 1) - 1 = nI k from n_sub (a := k + 1) (b := 1) (by omega), show (4 : Int32) = nI 4 from rfl, a3]
        rfl
    · have d2 : gm.testBit p = false := by simpa using d
      obtain ⟨ρ1, b1, b2, b3, b4, b5⟩ := rL_player_t (F := F) hs (by omega) hk hc h25 hg.2.1.1 hn c1 c2 m8.1 (by rw [← ep]; exact d2)
      rw [← ep] at b5
      obtain ⟨κ5, eκ5⟩ : ∃ κ5, κ5 = setI κa 138 8 (nI (gm ||| 2 ^ p)) := ⟨_, rfl⟩
      have ac5 : agr (fun c => c = 138 ∨ c = 139) κ κ5 := by rw [eκ5]; exact agr_trans ac (agr_setI (Or.inl rfl))
      have a5 : agr fX κ κ5 := agr_mono ac5 (fun c hc => Or.inr hc)
      have m5 : ∀ i, i ≠ 8 → mi κ5 138 i = mi κa 138 i := fun i i8 => by rw [eκ5, mi_setI, if_neg (fun z => i8 z.2)]
      have m58 : mi κ5 138 8 = nI (gm ||| 2 ^ p) := by rw [eκ5, mi_setI, if_pos ⟨rfl, rfl⟩]
      have h45 : mi κ5 138 4 = nI (k + 1) := (m5 4 (by decide)).trans ma4
      have hs1 : ST b n κ5 ρ1 := hs.fr a5 (frR_L b1)
      have hP1 := tP_le (k := k + 1) hs
      have hgx : GX κ5 G := hg.1.fr ac5
      have hgr : GR ρ1 G := hg.2.1.fr b1
      have ew := xL_word hs1 b3 h45
      have h10 : tK b n (k + 1) = 1 → tV b n (k + 1) ≤ 10 := fun z => by rw [tV_1 z]; exact wvX_le
      rw [if_neg d, m_set (by omega), nm_def, ← eκ5, ew, Option.bind_some, b5, Option.bind_some, rL_good_t b4, Option.bind_some, if_neg (show ¬ nI 1 = 0 by decide), rL_25 hs1 (by omega) b3 b2 b4, show (6 : Int32) = nI 6 from rfl, i_lt (by split <;> omega) (by decide)]
      by_cases e : tK b n (k + 1) = 1 ∧ 6 ≤ tV b n (k + 1)
      · obtain ⟨e1, e2⟩ := e
        obtain ⟨r, er⟩ : ∃ r, r = tV b n (k + 1) := ⟨_, rfl⟩
        have hr10 : r ≤ 10 := by rw [er]; exact h10 e1
        obtain ⟨κ9, eκ9⟩ : ∃ κ9, κ9 = setI κ5 138 4 (nI (k + 1 + 1)) := ⟨_, rfl⟩
        have ac9 : agr (fun c => c = 138 ∨ c = 139) κ5 κ9 := by rw [eκ9]; exact agr_setI (Or.inl rfl)
        have a9 : agr fX κ5 κ9 := agr_mono ac9 (fun c hc => Or.inr hc)
        have m9 : ∀ i, i ≠ 4 → mi κ9 138 i = mi κ5 138 i := fun i i4 => by rw [eκ9, mi_setI, if_neg (fun z => i4 z.2)]
        have h49 : mi κ9 138 4 = nI (k + 1 + 1) := by rw [eκ9, mi_setI, if_pos ⟨rfl, rfl⟩]
        obtain ⟨ρ2, j1, j2, j3, j4, j5⟩ := rL_goesOn (F := F) hs1 (by omega) b3 b2 b4 (by omega)
        have hs2 : ST b n κ9 ρ2 := hs1.fr a9 (frR_L j1)
        have hgx9 : GX κ9 G := hgx.fr ac9
        have hgr2 : GR ρ2 G := hgr.fr j1
        have hP2 := tP_le (k := k + 1 + 1) hs
        have hat9 : AT b n κ9 ρ2 (k + 1 + 1) := ⟨⟨j3, h49, j2⟩, j4, by rw [m9 1 (by decide), m5 1 (by decide), ma 1 (by decide) (by decide)]; exact x1, by rw [m9 2 (by decide), m5 2 (by decide), ma 2 (by decide) (by decide)]; exact x2⟩
        have q7 : mi κ9 138 7 = nI hm := by rw [m9 7 (by decide), m5 7 (by decide), ma 7 (by decide) (by decide)]; exact m7.2.1
        have q8 : mi κ9 138 8 = nI (gm ||| 2 ^ p) := by rw [m9 8 (by decide)]; exact m58
        have q32 : mi ρ2 0 32 = nI hm := (j1.2 32 (by omega)).trans ((b1.2 32 (by omega)).trans m7.2.2)
        have q33 : mi ρ2 0 33 = nI gm := (j1.2 33 (by omega)).trans ((b1.2 33 (by omega)).trans m8.2.2)
        have aF : agr fX κ κ9 := agr_trans a5 a9
        have rF : frR ρ ρ2 := frR_trans (frR_L b1) (frR_L j1)
        have e461 : mi κ5 138 4 + 1 = nI (k + 1 + 1) := by rw [h45]; exact n_add _ 1
        rw [if_pos (show tK b n (k + 1) = 1 ∧ 6 ≤ tV b n (k + 1) from ⟨e1, e2⟩), if_pos e1, ← er, if_neg (show ¬ r < 6 by omega), e461, nm_def, ← eκ9]
        unfold pX11_readsGuess_61
        rw [rL_must_t (by decide), Option.bind_some, show (10 : Int32) = nI 10 from rfl, show (9 : Int32) = nI 9 from rfl, i_eq (by omega) (by decide), i_eq (by omega) (by decide)]
        by_cases t10 : r = 10
        · have hsl := sit_le hw hp
          obtain ⟨κ1, ρ3, g1, g2, g3, g4⟩ := sL_entries (F := F) (by omega) hp6 (sit G p) F F 0 κ9 ρ2 G (k + 1 + 1) (sit G p) (Nat.zero_add _) rfl (by omega) (by omega) hs2 hat9 hgx9 hgr2 hw hp
          have xT : pX6_readTable F κ9 (nI p) = pX6_readTable_11 F (nI p) (nI (sit G p)) F κ9 (nI 0) := by
            unfold pX6_readTable
            rw [sX2_situations (hgx9.xg hw) hw (by omega) hp]
            rfl
          have rT : pX11_readsTable F ρ1 (nI p) = some ρ3 := by
            unfold pX11_readsTable
            rw [j5, Option.bind_some]
            exact g3
          rw [if_pos t10, if_pos (show r - 1 = 9 by omega), xT, rT, Option.bind_some, rL_204]
          rcases g4 with ⟨l1, k1, G1, l2, l3, l4, l5, l6, l7, l8⟩ | ⟨l1, f, pl, l2, l3, l4⟩
          · obtain ⟨t1, t2⟩ := sL_told l3 l4.1 l4.2 l5.1 l5.2 hp6 m7.1 m8.1 (l6.1.trans q7) (l6.2.trans q8) (l7.trans q32) (l8.trans q33)
            refine ⟨κ1, gMk ρ3 (nI p), agr_trans aF g1, frR_trans rF (frR_trans g2 frR_gMk), rfl, Or.inl ⟨?_, k1, G1, hm, gm ||| 2 ^ p, by omega, t1, t2⟩⟩
            rw [l1]
            rfl
          · refine ⟨κ1, gMk ρ3 (nI p), agr_trans aF g1, frR_trans rF (frR_trans g2 frR_gMk), rfl, Or.inr ⟨?_, f, pl, l2, l3, RB_gMk l4⟩⟩
            rw [l1]
            rfl
        · have hr69 : 6 ≤ r ∧ r ≤ 9 := by omega
          have h29 : mi ρ2 0 29 = nI (tK b n (k + 1 + 1)) := j2.2.2.1
          rw [if_neg t10, if_neg (show ¬ r - 1 = 9 by omega), j5, Option.bind_some, rL_29 h29 tK_5]
          by_cases o : okR b n G p r (k + 1 + 1)
          · have oK := o.1
            obtain ⟨V, eV⟩ : ∃ V, V = tV b n (k + 1 + 1) := ⟨_, rfl⟩
            obtain ⟨eV2, hV⟩ := tV_2 oK
            have h30 : mi ρ2 0 30 = nI V := by rw [eV, eV2]; exact j2.2.2.2.1 oK
            obtain ⟨κb, eκb⟩ : ∃ κb, κb = setI (setI κ9 138 5 (nI V)) 138 4 (nI (k + 1 + 1 + 1)) := ⟨_, rfl⟩
            have acb : agr (fun c => c = 138 ∨ c = 139) κ9 κb := by rw [eκb]; exact agr_trans (agr_setI (Or.inl rfl)) (agr_setI (Or.inl rfl))
            have mb : ∀ i, i ≠ 4 → i ≠ 5 → mi κb 138 i = mi κ9 138 i := fun i i4 i5 => by rw [eκb, mi_setI, if_neg (fun z => i4 z.2), mi_setI, if_neg (fun z => i5 z.2)]
            have mb4 : mi κb 138 4 = nI (k + 1 + 1 + 1) := by rw [eκb, mi_setI, if_pos ⟨rfl, rfl⟩]
            have mb5 : mi κb 138 5 = nI V := by rw [eκb, mi_setI, if_neg (by omega), mi_setI, if_pos ⟨rfl, rfl⟩]
            have xo : pX6_readOfRule κ9 (nI p) (nI r) = some (nI 1, κb) := by rw [xL_ofRule_t hs2 j3 h49 hgx9 hw hp hr69 o, ← eV, eκb]
            obtain ⟨κc, g1, g2, g3⟩ := xL_tell (F := F) (r := r) (K := V) (hgx9.fr acb) hw hF hp hr69 mb5 (by omega)
            obtain ⟨ρ3, i1, i2, i3⟩ := rL_fills (F := F) (r := r) (K := V) hgr2 hw hF hp hr69 (by omega) (fun z => by
              rcases o.2 with y | y | y
              · omega
              · omega
              · rw [eV]; exact y.2.2)
            have f3 : frR ρ2 ρ3 := ⟨fun k2 h0 h2 => i1 k2 h2, fun i _ => agr_mi i1 (by decide) i⟩
            have hc3 : CUR ρ3 b n (tkP b n (k + 1 + 1)) := CUR_mv j2 (fun i _ => agr_mi i1 (by decide) i) (agr_ml i1 (by decide) 34)
            have s3 : ST b n κ9 ρ3 := hs2.fr agr_rfl f3
            obtain ⟨ρ4, l1, l2, l3, l4, l5⟩ := rL_goesOn (F := F) s3 (by omega) j3 hc3 ((agr_mi i1 (by decide) 25).trans j4) (by omega)
            have gc138 : ∀ i, mi κc 138 i = mi κb 138 i := fun i => agr_mi g1 (by decide) i
            have hatc : AT b n κc ρ4 (k + 1 + 1 + 1) := ⟨⟨l3, (gc138 4).trans mb4, l2⟩, l4, by rw [gc138, mb 1 (by decide) (by decide)]; exact hat9.2.2.1, by rw [gc138, mb 2 (by decide) (by decide)]; exact hat9.2.2.2⟩
            have hw3 := WF_sTT (p := p) (i := sit G p) hw (fun σ _ => gv_lt (r := r) (K := V) hw hp σ)
            obtain ⟨t1, t2⟩ := sL_told hatc g2 (i2.fr l1) hw3 (show 0 < Gn G by omega) hp6 m7.1 m8.1 (by rw [gc138, mb 7 (by decide) (by decide)]; exact q7) (by rw [gc138, mb 8 (by decide) (by decide)]; exact q8) ((l1.2 32 (by omega)).trans ((agr_mi i1 (by decide) 32).trans q32)) ((l1.2 33 (by omega)).trans ((agr_mi i1 (by decide) 33).trans q33))
            refine ⟨κc, gMk ρ4 (nI p), agr_trans aF (agr_trans (agr_mono acb (fun c hc => Or.inr hc)) (agr_mono g1 (fun c hc => by unfold fX; omega))), frR_trans rF (frR_trans f3 (frR_trans (frR_L l1) frR_gMk)), ?_, Or.inl ⟨?_, k + 1 + 1 + 1, _, hm, gm ||| 2 ^ p, by omega, t1, t2⟩⟩
            · rw [if_pos oK, rL_97_t j2 hgr2 hw hp hr69 o]
              unfold pX11_readsGuess_179 pX11_readsGuess_200
              rw [rL_must_t (by decide), Option.bind_some, rL_good_t j4, Option.bind_some, if_neg (show ¬ nI 1 = 0 by decide), h30, i3, Option.bind_some, l5]
              rfl
            · rw [xo, Option.bind_some]
              dsimp only
              rw [if_neg (show ¬ nI 1 = 0 by decide), g3]
              rfl
          · obtain ⟨κ1, g1, g2, g3⟩ := xL_ofRule_f hs2 j3 h49 hgx9 hw hp hr69 o
            obtain ⟨ρ3, i1, i2, i3⟩ := rL_97_f (F := F) j2 j4 hgr2 hw hp hr69 o
            refine ⟨κ1, gMk ρ3 (nI p), agr_trans aF g1, frR_trans rF (frR_trans i1.R frR_gMk), i3, Or.inr ⟨?_, _, _, hP2, g2, RB_gMk i2⟩⟩
            rw [g3]
            rfl
      · obtain ⟨κ1, g1, g2, g3⟩ := xL_misplaced hs1 b3 h45
        obtain ⟨ρ2, j1, j2, j3⟩ := rL_61_b (F := F) (p := p) hs1 b4 b2 hp6
        refine ⟨κ1, gMk ρ2 (nI p), agr_trans a5 g1, frR_trans (frR_L b1) (frR_trans j1.R frR_gMk), ?_, Or.inr ⟨?_, _, _, hP1, g2, RB_gMk j2⟩⟩
        · rw [if_neg e]; exact j3
        · rw [if_pos (by split <;> omega), g3]
          rfl
  · obtain ⟨κ1, a1, a2, a3⟩ := xL_player_f hs hk h4 hg.1.1 h1 hn c
    obtain ⟨ρ1, b1, b2, b3⟩ := rL_player_f (F := F) hs hk hc h25 hg.2.1.1 h1 hn m8.1 (fun z => c ⟨z.1, z.2.1⟩)
    rw [if_neg c] at b2
    refine ⟨κ1, ρ1, a1, b1.R, ?_, Or.inr ⟨?_, _, _, hP, a2, b2⟩⟩
    · rw [b3, Option.bind_some, rL_good_b b2]
      rfl
    · rw [a3]
      rfl
end LDK
