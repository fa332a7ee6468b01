/-! LOAD: one line wholly, all lines -/
section LDM
variable {κ κ1 κ2 ρ ρ1 ρ2 : Mem} {b : Nat → Int32} {n k f pl lo hi F p q j v bm r K i W : Nat} {G G1 : Gm} {x c w v1 v2 : Int32} {hm gm : Nat} {g : Nat → Nat}
/-- a word that may not stand there: the reference goes idle -/
theorem rL_idle (h : RB ρ f pl) (lk : Int32) : pX11_readsSight F ρ lk = some ρ := by
  rw [ySight_eq, rL_goesOn_b h, Option.bind_some]
  exact ySight_b h lk (rL_player_b h)
theorem rL_127_b (h : RB ρ f pl) (x : Int32) : pX11_line_127 F ρ x = some ρ := by
  unfold pX11_line_127
  rw [rL_must_b h, Option.bind_some, rL_isWord_b h, Option.bind_some, if_pos (show nI 0 = 0 from rfl), rL_isWord_b h, Option.bind_some, rL_idle h, Option.bind_some, rL_155_b h]
theorem sL_line (hs : ST b n κ ρ) (hF : 6000 < F) (ha : AT b n κ ρ k) (hg : GM κ ρ G hm gm) (hK : tK b n k ≠ 0) : OUT b n κ ρ (pX6_readLine F κ) (pX11_line F ρ) (k + 1) := by
  have ha0 := ha
  obtain ⟨⟨hk, h4, hc⟩, h25, x1, x2⟩ := ha
  have hn := hg.p6
  have hP := tP_le (k := k) hs
  have h29 : mi ρ 0 29 = nI (tK b n k) := hc.2.2.1
  have k5 := tK_5 (b := b) (n := n) (k := k)
  have h10 : tK b n k = 1 → tV b n k ≤ 10 := fun z => by rw [tV_1 z]; exact wvX_le
  obtain ⟨W, eW⟩ : ∃ W, W = if tK b n k = 1 then tV b n k else 0 := ⟨_, rfl⟩
  have hW10 : W ≤ 10 := by
    rw [eW]
    by_cases z : tK b n k = 1
    · rw [if_pos z]; exact h10 z
    · rw [if_neg z]; exact Nat.zero_le _
  have ew : pX6_wordHere κ = some (nI W) := by rw [eW]; exact xL_word hs hk h4
  have iw : ∀ w, w < 10 → pX11_isWord ρ (nI w) = some (nI (decide (W = w + 1)).toNat) := fun w hw => by
    rw [rL_isWord hs hk hc h25 hw]
    congr 3
    refine decide_eq_decide.mpr ?_
    rw [eW]
    by_cases z : tK b n k = 1
    · rw [if_pos z]; exact ⟨fun y => y.2, fun y => ⟨z, y⟩⟩
    · rw [if_neg z]; exact ⟨fun y => absurd y.1 z, fun y => by omega⟩
  have e0 : mi ρ 2 (0 : Int32).toNatClampNeg = nI (Gn G) := hg.2.1.1
  -- a word that can't stand there
  have bad : ∀ Y : Option Mem, (∀ ρ1, frC ρ ρ1 → RB ρ1 (if tK b n k = 4 then 1 else 2) (tkP b n k) → pX11_must ρ (nI 0) (nI 2) = some ρ1 → ∃ ρ2, frR ρ1 ρ2 ∧ RB ρ2 (if tK b n k = 4 then 1 else 2) (tkP b n k) ∧ Y = some ρ2) → OUT b n κ ρ ((pX6_misplaced κ).bind fun t3 => ckP (isB t3.1) (some (t3.1, t3.2))) Y (k + 1) := fun Y hY => by
    obtain ⟨κ1, a1, a2, a3⟩ := xL_misplaced hs hk h4
    obtain ⟨ρ1, b1, b2, -, b3⟩ := rL_must_f (pl := tkP b n k) (v := 2) h25 hc.1 h29 k5 (by decide)
    have b4 : RB ρ1 (if tK b n k = 4 then 1 else 2) (tkP b n k) := by
      by_cases d : tK b n k = 4
      · rw [if_pos ⟨rfl, d⟩] at b2; rw [if_pos d]; exact b2
      · rw [if_neg (fun z => d z.2)] at b2; rw [if_neg d]; exact b2
    obtain ⟨ρ2, c1, c2, c3⟩ := hY ρ1 b1 b4 b3
    refine ⟨κ1, ρ2, a1, frR_trans b1.R c1, c3, Or.inr ⟨?_, _, _, hP, a2, c2⟩⟩
    rw [a3]
    rfl
  unfold pX6_readLine pX11_line
  rw [ew, Option.bind_some, show ckI (0 : Int32) 6157 = ckI (nI 0) 6157 from rfl, ck_in (by decide) (by decide), e0]
  have eG : ∀ {α : Type} {x y : α}, (if nI (Gn G) = 0 then x else y) = if Gn G = 0 then x else y := fun {α} {x y} => i_eq (a := Gn G) (b := 0) (by omega) (by decide)
  rw [eG]
  rcases xL_mayBegin hg hW10 with ⟨m1, m2⟩ | ⟨m1, m2⟩
  · -- it may
    have hW1 : tK b n k = 1 := by
      apply Classical.byContradiction
      intro z
      rw [if_neg z] at eW
      subst eW
      rcases m1 with y | y | y <;> omega
    obtain ⟨κ5, eκ5⟩ : ∃ κ5, κ5 = setI κ 138 4 (nI (k + 1)) := ⟨_, rfl⟩
    have ac5 : agr (fun c => c = 138 ∨ c = 139) κ κ5 := by rw [eκ5]; exact agr_setI (Or.inl rfl)
    have a5 : agr fX κ κ5 := agr_mono ac5 (fun c hc => Or.inr hc)
    have m5 : ∀ i, i ≠ 4 → mi κ5 138 i = mi κ 138 i := fun i i4 => by rw [eκ5, mi_setI, if_neg (fun z => i4 z.2)]
    have h54 : mi κ5 138 4 = nI (k + 1) := by rw [eκ5, mi_setI, if_pos ⟨rfl, rfl⟩]
    obtain ⟨ρ1, j1, j2, j3, j4, j5⟩ := rL_goesOn (F := F) hs (by omega) hk hc h25 hK
    have hs5 : ST b n κ5 ρ1 := hs.fr a5 (frR_L j1)
    have ha5 : AT b n κ5 ρ1 (k + 1) := ⟨⟨j3, h54, j2⟩, j4, (m5 1 (by decide)).trans x1, (m5 2 (by decide)).trans x2⟩
    have hg5 : GM κ5 ρ1 G hm gm := hg.fr ac5 (m5 7 (by decide)) (m5 8 (by decide)) j1
    have e441 : mi κ 138 4 + 1 = nI (k + 1) := by rw [h4]; exact n_add k 1
    have eWc : ∀ c : Nat, c < 11 → ∀ {α : Type} {x y : α}, (if nI W = nI c then x else y) = if W = c then x else y := fun c hc {α} {x y} => i_eq (by omega) (by omega)
    rw [m2, Option.bind_some, if_neg (show ¬ nI 1 = 0 by decide), e441, nm_def, ← eκ5, show (1 : Int32) = nI 1 from rfl, show (2 : Int32) = nI 2 from rfl, show (3 : Int32) = nI 3 from rfl, show (4 : Int32) = nI 4 from rfl, eWc 1 (by decide), eWc 2 (by decide), eWc 3 (by decide), eWc 4 (by decide)]
    -- out of what stands behind the word
    have wrap : ∀ X Y, OUT b n κ5 ρ1 X Y (k + 1 + 1) → OUT b n κ ρ X Y (k + 1) := fun X Y h => by
      obtain ⟨κ1, ρ2, a1, a2, a3, a4⟩ := h
      refine ⟨κ1, ρ2, agr_trans a5 a1, frR_trans (frR_L j1) a2, a3, ?_⟩
      rcases a4 with ⟨c1, k1, G1, hm1, gm1, c2, c3, c4⟩ | c
      · exact Or.inl ⟨c1, k1, G1, hm1, gm1, by omega, c3, c4⟩
      · exact Or.inr c
    rcases m1 with ⟨w1, g1⟩ | ⟨w1, g1⟩ | ⟨w1, g1, g2⟩
    · -- players
      rw [if_pos w1, if_pos g1, show (0 : Int32) = nI 0 from rfl, iw 0 (by decide), decide_eq_true (show W = 0 + 1 by omega), Option.bind_some, rL_must_t (show ¬ nI true.toNat = 0 by decide), Option.bind_some, j5, Option.bind_some]
      obtain ⟨κ1, ρ2, a1, a2, a3, a4⟩ := sL_players (F := F) hs5 (by omega) ha5 hg5 g1
      refine wrap _ _ ?_
      have a3' : ((pX11_takesNumber F ρ1 (nI 1) 6).bind fun t4 => (pX11_good t4.2).bind fun t5 => if t5 = nI 0 then pX11_line_48 F t4.2 (nI 0) (nI 0) else pX11_line_48 F t4.2 t4.1 (nI 0)) = pX11_line_155 F ρ2 := a3
      rw [a3']
      have hout : OUT b n κ5 ρ1 (pX6_readPlayers κ5) (some ρ2) (k + 1) := ⟨κ1, ρ2, a1, a2, rfl, a4⟩
      exact sL_comb (F := F) (A := pX6_readLine_78 F) (B := fun s => pX6_readLine_79 F s 1) (fun s => rfl) (fun s => rfl) hs5 (by omega) hout
    · -- guess
      rw [if_neg (show ¬ W = 1 by omega), if_neg (show ¬ W = 2 by omega), if_neg (show ¬ W = 3 by omega), if_neg (show ¬ W = 4 by omega), if_neg (show ¬ Gn G = 0 by omega), iw 4 (by decide), decide_eq_true (show W = 4 + 1 by omega), Option.bind_some, if_neg (show ¬ nI true.toNat = 0 by decide), yGuess_eq, j5, Option.bind_some]
      refine wrap _ _ ?_
      exact sL_comb (F := F) (A := pX6_readLine_160 F) (B := fun s => pX6_readLine_161 F s 1) (fun s => rfl) (fun s => rfl) hs5 (by omega) (sL_guess hs5 hF ha5 hg5 g1)
    · have e33 : mi ρ 0 33 = nI gm := hg.2.2.2.2.2.2
      have e127 : (pX11_isWord ρ (nI 4)).bind (fun t10 => if t10 = 0 then if (mi ρ 0 33) = 0 then (pX11_isWord ρ (nI 1)).bind fun t11 => if t11 = 0 then (pX11_isWord ρ (nI 2)).bind fun t12 => if t12 = 0 then (pX11_isWord ρ (nI 3)).bind fun t13 => if t13 = 0 then pX11_line_126 F ρ else pX11_line_122 F ρ else pX11_line_122 F ρ else pX11_line_122 F ρ else pX11_line_126 F ρ else (pX11_readsGuess F ρ).bind fun t19 => pX11_line_155 F t19) = pX11_line_127 F ρ 1 := by
        have z126 : ∀ s, pX11_line_122 F s = pX11_line_127 F s 1 := fun _ => rfl
        rw [iw 4 (by decide), decide_eq_false (show ¬ W = 4 + 1 by omega), Option.bind_some, if_pos (show nI false.toNat = 0 from rfl), e33, g2, if_pos (show nI 0 = 0 from rfl), iw 1 (by decide), Option.bind_some, iw 2 (by decide), Option.bind_some, iw 3 (by decide), Option.bind_some, z126]
        rcases w1 with y | y | y
        · rw [decide_eq_true (show W = 1 + 1 by omega), if_neg (show ¬ nI true.toNat = 0 by decide)]
        · rw [decide_eq_false (show ¬ W = 1 + 1 by omega), if_pos (show nI false.toNat = 0 from rfl), decide_eq_true (show W = 2 + 1 by omega), if_neg (show ¬ nI true.toNat = 0 by decide)]
        · rw [decide_eq_false (show ¬ W = 1 + 1 by omega), if_pos (show nI false.toNat = 0 from rfl), decide_eq_false (show ¬ W = 2 + 1 by omega), if_pos (show nI false.toNat = 0 from rfl), decide_eq_true (show W = 3 + 1 by omega), if_neg (show ¬ nI true.toNat = 0 by decide)]
      rw [if_neg (show ¬ Gn G = 0 by omega), e127]
      unfold pX11_line_127
      rw [rL_must_t (by decide), Option.bind_some, show (1 : Int32) = nI 1 from rfl, iw 1 (by decide), Option.bind_some, show (2 : Int32) = nI 2 from rfl, iw 2 (by decide), Option.bind_some]
      refine wrap _ _ ?_
      rcases w1 with y | y | y
      · rw [if_neg (show ¬ W = 1 by omega), if_pos y, decide_eq_true (show W = 1 + 1 by omega), if_neg (show ¬ nI true.toNat = 0 by decide), yHats_eq, j5, Option.bind_some]
        exact sL_comb (F := F) (A := pX6_readLine_98 F) (B := fun s => pX6_readLine_99 F s 1) (fun s => rfl) (fun s => rfl) hs5 (by omega) (sL_hats hs5 (by omega) ha5 hg5 g1 g2)
      · rw [if_neg (show ¬ W = 1 by omega), if_neg (show ¬ W = 2 by omega), if_pos y, decide_eq_false (show ¬ W = 1 + 1 by omega), if_pos (show nI false.toNat = 0 from rfl), decide_eq_true (show W = 2 + 1 by omega), ySight_eq, j5, Option.bind_some]
        exact sL_comb (F := F) (A := pX6_readLine_119 F) (B := fun s => pX6_readLine_120 F s 1) (fun s => rfl) (fun s => rfl) hs5 (by omega) (sL_sight (lk := true) hs5 (by omega) ha5 hg5 g1 g2)
      · rw [if_neg (show ¬ W = 1 by omega), if_neg (show ¬ W = 2 by omega), if_neg (show ¬ W = 3 by omega), if_pos y, decide_eq_false (show ¬ W = 1 + 1 by omega), if_pos (show nI false.toNat = 0 from rfl), decide_eq_false (show ¬ W = 2 + 1 by omega), ySight_eq, j5, Option.bind_some]
        exact sL_comb (F := F) (A := pX6_readLine_140 F) (B := fun s => pX6_readLine_141 F s 1) (fun s => rfl) (fun s => rfl) hs5 (by omega) (sL_sight (lk := false) hs5 (by omega) ha5 hg5 g1 g2)
  · -- it may not
    rw [m2, Option.bind_some, if_pos (show nI 0 = 0 from rfl)]
    refine bad _ (fun ρ1 b1 b2 b3 => ?_)
    by_cases g0 : Gn G = 0
    · have hW : ¬ W = 0 + 1 := fun z => m1 (Or.inl ⟨z, g0⟩)
      obtain ⟨ρ2, d1, -, -, -, d5⟩ := rL_48 (ρ := ρ1) (F := F) (c := 0) (by omega)
      have hRB : RB ρ2 (if tK b n k = 4 then 1 else 2) (tkP b n k) := ⟨b2.1, (agr_mi d1 (by decide) 25).trans b2.2.1, (agr_mi d1 (by decide) 26).trans b2.2.2⟩
      refine ⟨ρ2, ⟨fun k2 z0 z2 => d1 k2 z2, fun i _ => agr_mi d1 (by decide) i⟩, hRB, ?_⟩
      rw [if_pos g0, show pX11_isWord ρ 0 = _ from iw 0 (by decide), decide_eq_false hW, Option.bind_some, show pX11_must ρ (nI false.toNat) 2 = some ρ1 from b3, Option.bind_some, rL_goesOn_b b2, Option.bind_some, rL_number_b b2, Option.bind_some, rL_good_b b2, Option.bind_some, if_pos (show nI 0 = 0 from rfl), d5, rL_155_b hRB]
    · refine ⟨ρ1, frR_rfl, b2, ?_⟩
      have hW5 : ¬ W = 4 + 1 := fun z => m1 (Or.inr (Or.inl ⟨z, by omega⟩))
      have e33 : mi ρ 0 33 = nI gm := hg.2.2.2.2.2.2
      have hgm := hg.2.2.2.2.1
      have e126 : pX11_line_126 F ρ = some ρ1 := by
        unfold pX11_line_126 pX11_line_127
        rw [show pX11_must ρ 0 2 = some ρ1 from b3, Option.bind_some, rL_isWord_b b2, Option.bind_some, if_pos (show nI 0 = 0 from rfl), rL_isWord_b b2, Option.bind_some, rL_idle b2, Option.bind_some, rL_155_b b2]
      rw [if_neg g0, show pX11_isWord ρ 4 = _ from iw 4 (by decide), decide_eq_false hW5, Option.bind_some, if_pos (show nI false.toNat = 0 from rfl), e33, show (0 : Int32) = nI 0 from rfl, i_eq (a := gm) (by omega) (by decide)]
      by_cases g3 : gm = 0
      · rw [if_pos g3, show pX11_isWord ρ 1 = _ from iw 1 (by decide), decide_eq_false (fun z => m1 (Or.inr (Or.inr ⟨by omega, by omega, g3⟩))), Option.bind_some, if_pos (show nI false.toNat = nI 0 from rfl), show pX11_isWord ρ 2 = _ from iw 2 (by decide), decide_eq_false (fun z => m1 (Or.inr (Or.inr ⟨by omega, by omega, g3⟩))), Option.bind_some, if_pos (show nI false.toNat = nI 0 from rfl), show pX11_isWord ρ 3 = _ from iw 3 (by decide), decide_eq_false (fun z => m1 (Or.inr (Or.inr ⟨by omega, by omega, g3⟩))), Option.bind_some, if_pos (show nI false.toNat = nI 0 from rfl), e126]
      · rw [if_neg g3, e126]
/-- all lines -/
theorem sL_lines (hF : 6000 < F) : ∀ (d fu fu2 k v3 : Nat) (κ ρ : Mem) (G : Gm) (hm gm : Nat), tkN b n - k ≤ d → d + 2 < fu → d + 2 < fu2 → v3 ≤ k → ST b n κ ρ → AT b n κ ρ k → GM κ ρ G hm gm → ∃ κ1 ρ1, agr fX κ κ1 ∧ frR ρ ρ1 ∧ pX11_load_79 F fu2 ρ = pX11_load_100 F ρ1 ∧ ((pX6_read_45 F fu κ (nI 1) (nI v3) = some (nI 1, κ1) ∧ ∃ k1 G1 hm1 gm1, AT b n κ1 ρ1 k1 ∧ GM κ1 ρ1 G1 hm1 gm1) ∨ (pX6_read_45 F fu κ (nI 1) (nI v3) = some (nI 0, κ1) ∧ BAD κ1 ρ1)) := by
  intro d
  induction d with
  | zero =>
    intro fu fu2 k v3 κ ρ G hm gm hd hf hf2 hv hs ha hg
    obtain ⟨fu, rfl⟩ : ∃ f, fu = f + 1 := ⟨fu - 1, by omega⟩
    obtain ⟨fu2, rfl⟩ : ∃ f, fu2 = f + 1 := ⟨fu2 - 1, by omega⟩
    have ha0 := ha
    obtain ⟨⟨hk, h4, hc⟩, h25, x1, x2⟩ := ha
    have hN := tN_le hs
    have ek : k = tkN b n := by omega
    have hK : tK b n k = 0 := by
      rw [ek]
      unfold tK tkK
      rw [tkN_at, if_neg (Nat.lt_irrefl _)]
    have h29 : mi ρ 0 29 = nI (tK b n k) := hc.2.2.1
    refine ⟨κ, ρ, agr_rfl, frR_rfl, ?_, Or.inl ⟨?_, k, G, hm, gm, ha0, hg⟩⟩
    · rw [pX11_load_79, rL_good_t h25, Option.bind_some, if_neg (show ¬ nI 1 = 0 by decide), h29, hK, if_pos (show nI 0 = 0 from rfl)]
    · rw [pX6_read_45, if_neg (show ¬ nI 1 = 0 by decide), show (600 : Int32) = nI 600 from rfl, i_le (by omega) (by decide), if_pos (by omega), h4, ck_in (by omega) (by decide), n_cl (by omega), hs.K hk, hK, if_pos (show nI 0 = 0 from rfl)]
      rfl
  | succ d ih =>
    intro fu fu2 k v3 κ ρ G hm gm hd hf hf2 hv hs ha hg
    obtain ⟨fu, rfl⟩ : ∃ f, fu = f + 1 := ⟨fu - 1, by omega⟩
    obtain ⟨fu2, rfl⟩ : ∃ f, fu2 = f + 1 := ⟨fu2 - 1, by omega⟩
    have ha0 := ha
    obtain ⟨⟨hk, h4, hc⟩, h25, x1, x2⟩ := ha
    have hN := tN_le hs
    have k5 := tK_5 (b := b) (n := n) (k := k)
    have h29 : mi ρ 0 29 = nI (tK b n k) := hc.2.2.1
    rw [pX11_load_79, rL_good_t h25, Option.bind_some, if_neg (show ¬ nI 1 = 0 by decide), h29, show (0 : Int32) = nI 0 from rfl, i_eq (by omega) (by decide), pX6_read_45, if_neg (show ¬ nI 1 = 0 by decide), show (600 : Int32) = nI 600 from rfl, i_le (by omega) (by decide), if_pos (show v3 ≤ 600 by omega), h4, ck_in (by omega) (by decide), n_cl (by omega), hs.K hk, show (0 : Int32) = nI 0 from rfl, i_eq (by omega) (by decide)]
    by_cases c : tK b n k = 0
    · refine ⟨κ, ρ, agr_rfl, frR_rfl, ?_, Or.inl ⟨?_, k, G, hm, gm, ha0, hg⟩⟩
      · rw [if_pos c]
      · rw [if_pos c]
        rfl
    · obtain ⟨κ1, ρ1, a1, a2, a3, a4⟩ := sL_line hs hF ha0 hg c
      rw [if_neg c, if_neg c, a3, Option.bind_some]
      rcases a4 with ⟨c1, k1, G1, hm1, gm1, c2, c3, c4⟩ | ⟨c1, f, pl, c2, c3, c4⟩
      · obtain ⟨κ2, ρ2, d1, d2, d3, d4⟩ := ih fu fu2 k1 (v3 + 1) κ1 ρ1 G1 hm1 gm1 (by omega) (by omega) (by omega) (by omega) (hs.fr a1 a2) c3 c4
        refine ⟨κ2, ρ2, agr_trans a1 d1, frR_trans a2 d2, d3, ?_⟩
        rw [c1, Option.bind_some]
        dsimp only
        rw [show nI v3 + 1 = nI (v3 + 1) from n_add v3 1]
        exact d4
      · obtain ⟨fu, rfl⟩ : ∃ f, fu = f + 1 := ⟨fu - 1, by omega⟩
        obtain ⟨fu2, rfl⟩ : ∃ f, fu2 = f + 1 := ⟨fu2 - 1, by omega⟩
        refine ⟨κ1, ρ1, a1, a2, ?_, Or.inr ⟨?_, f, pl, c2, c3, c4⟩⟩
        · rw [pX11_load_79, rL_good_b c4, Option.bind_some, if_pos (show nI 0 = 0 from rfl)]
        · rw [c1, Option.bind_some]
          dsimp only
          rw [pX6_read_45, if_pos (show nI 0 = 0 from rfl)]
          rfl
end LDM
