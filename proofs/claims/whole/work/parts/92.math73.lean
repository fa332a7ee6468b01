/-! LOAD: one line, all lines -/
section LDL
variable {κ κ1 κ2 ρ ρ1 ρ2 : Mem} {b : Nat → Int32} {n k f pl lo hi F p q j v bm r K i W : Nat} {G G1 : Gm} {x c w v1 v2 : Int32} {hm gm : Nat} {g : Nat → Nat}
theorem rL_155_b (h : RB ρ f pl) : pX11_line_155 F ρ = some ρ := by
  have key : ∀ y, pX11_line_169 F ρ y = some ρ := fun y => by
    unfold pX11_line_169
    rw [rL_must_b h, Option.bind_some, rL_goesOn_b h]
    rfl
  unfold pX11_line_155
  rw [key, key]
  split <;> rfl
theorem sL_sign (hs : ST b n κ ρ) (hF : 5000 < F) (ha : AT b n κ ρ k) (hg : GM κ ρ G hm gm) : OUT b n κ ρ (pX6_readSign κ) (pX11_line_155 F ρ) (k + 1) := by
  obtain ⟨⟨hk, h4, hc⟩, h25, x1, x2⟩ := ha
  have hP := tP_le (k := k) hs
  have h29 : mi ρ 0 29 = nI (tK b n k) := hc.2.2.1
  unfold pX11_line_155
  rw [h29, show (3 : Int32) = nI 3 from rfl, i_eq (by have := tK_5 (b := b) (n := n) (k := k); omega) (by decide)]
  by_cases c : tK b n k = 3
  · obtain ⟨ρ1, j1, j2, j3, j4, j5⟩ := rL_goesOn (F := F) hs hF hk hc h25 (by omega)
    have ac : agr (fun c => c = 138 ∨ c = 139) κ (setI κ 138 4 (nI (k + 1))) := agr_setI (Or.inl rfl)
    refine ⟨setI κ 138 4 (nI (k + 1)), ρ1, agr_mono ac (fun c hc => Or.inr hc), frR_L j1, ?_, Or.inl ⟨xL_sign_t hs hk h4 c, k + 1, G, hm, gm, Nat.le_refl _, ⟨⟨j3, by rw [mi_setI, if_pos ⟨rfl, rfl⟩], j2⟩, j4, by rw [mi_setI, if_neg (by omega)]; exact x1, by rw [mi_setI, if_neg (by omega)]; exact x2⟩, hg.fr ac (by rw [mi_setI, if_neg (by omega)]) (by rw [mi_setI, if_neg (by omega)]) j1⟩⟩
    rw [if_pos c]
    unfold pX11_line_169
    rw [rL_must_t (by decide), Option.bind_some, j5]
    rfl
  · obtain ⟨κ1, a1, a2, a3⟩ := xL_sign_f hs hk h4 c
    obtain ⟨ρ1, b1, b2, -, b3⟩ := rL_must_f (pl := tkP b n k) (v := 2) h25 hc.1 h29 tK_5 (by decide)
    have b4 : RB ρ1 (if tK b n k = 4 then 1 else 2) (tkP b n k) := by
      by_cases d : tK b n k = 4
      · rw [if_pos ⟨rfl, d⟩] at b2; rw [if_pos d]; exact b2
      · rw [if_neg (fun z => d z.2)] at b2; rw [if_neg d]; exact b2
    refine ⟨κ1, ρ1, a1, b1.R, ?_, Or.inr ⟨a3, _, _, hP, a2, b4⟩⟩
    rw [if_neg c]
    unfold pX11_line_169
    rw [show pX11_must ρ 0 2 = some ρ1 from b3, Option.bind_some, rL_goesOn_b b4]
    rfl
/-- the end of a line behind what it tells -/
theorem sL_comb {X : Option (Int32 × Mem)} {Y : Option Mem} {A B : Mem → Option (Int32 × Mem)} (hA : ∀ s, A s = some (nI 0, s)) (hB : ∀ s, B s = some (nI 1, s)) (hs : ST b n κ ρ) (hF : 5000 < F) (h : OUT b n κ ρ X Y k) : OUT b n κ ρ (X.bind fun t => if t.1 = 0 then A t.2 else (pX6_readSign t.2).bind fun u => if u.1 = 0 then A u.2 else B u.2) (Y.bind (pX11_line_155 F)) (k + 1) := by
  obtain ⟨κ1, ρ1, a1, a2, a3, a4⟩ := h
  rw [a3, Option.bind_some]
  rcases a4 with ⟨c1, k1, G1, hm1, gm1, c2, c3, c4⟩ | ⟨c1, f, pl, c2, c3, c4⟩
  · obtain ⟨κ2, ρ2, d1, d2, d3, d4⟩ := sL_sign (hs.fr a1 a2) hF c3 c4
    rw [c1, Option.bind_some]
    dsimp only
    rw [if_neg (show ¬ nI 1 = 0 by decide)]
    refine ⟨κ2, ρ2, agr_trans a1 d1, frR_trans a2 d2, d3, ?_⟩
    rcases d4 with ⟨e1, k2, G2, hm2, gm2, e2, e3, e4⟩ | ⟨e1, e2⟩
    · refine Or.inl ⟨?_, k2, G2, hm2, gm2, by omega, e3, e4⟩
      rw [e1, Option.bind_some]
      dsimp only
      rw [if_neg (show ¬ nI 1 = 0 by decide), hB]
    · refine Or.inr ⟨?_, e2⟩
      rw [e1, Option.bind_some]
      dsimp only
      rw [if_pos (show nI 0 = 0 from rfl), hA]
  · refine ⟨κ1, ρ1, a1, a2, rL_155_b c4, Or.inr ⟨?_, f, pl, c2, c3, c4⟩⟩
    rw [c1, Option.bind_some]
    dsimp only
    rw [if_pos (show nI 0 = 0 from rfl), hA]
def may (G : Gm) (gm W : Nat) : Prop := (W = 1 ∧ Gn G = 0) ∨ (W = 5 ∧ 0 < Gn G) ∨ ((W = 2 ∨ W = 3 ∨ W = 4) ∧ 0 < Gn G ∧ gm = 0)
theorem xL_mayBegin (hg : GM κ ρ G hm gm) (hW : W ≤ 10) : (may G gm W ∧ pX6_mayBegin κ (nI W) = some (nI 1)) ∨ (¬ may G gm W ∧ pX6_mayBegin κ (nI W) = some (nI 0)) := by
  have hn := hg.p6
  have e9 := hg.1.1
  have e8 := hg.2.2.2.2.2.1
  have g6 := hg.2.2.2.2.1
  unfold may pX6_mayBegin pX6_mayBegin_57 pX6_mayBegin_62 pX6_mayBegin_88 pX6_mayBegin_89 pX6_mayBegin_41 pX6_mayBegin_20
  rw [e9, e8, show (0 : Int32) = nI 0 from rfl, i_eq (a := Gn G) (by omega) (by decide), i_le (a := Gn G) (by omega) (by decide), i_le (a := Gn G) (by omega) (by decide), i_eq (a := gm) (by omega) (by decide)]
  have e1 : ∀ c : Nat, c < 11 → (nI W = nI c) = (W = c) := fun c hc => n_eq (by omega) (by omega)
  have e1a : (nI W = (1 : Int32)) = (W = 1) := e1 1 (by decide)
  have e1b : (nI W = (2 : Int32)) = (W = 2) := e1 2 (by decide)
  have e1c : (nI W = (3 : Int32)) = (W = 3) := e1 3 (by decide)
  have e1d : (nI W = (4 : Int32)) = (W = 4) := e1 4 (by decide)
  have e1e : (nI W = (5 : Int32)) = (W = 5) := e1 5 (by decide)
  simp only [e1a, e1b, e1c, e1d, e1e]
  by_cases w1 : W = 1
  · rw [if_pos w1]
    by_cases g : Gn G = 0
    · rw [if_pos g]; exact Or.inl ⟨Or.inl ⟨w1, g⟩, rfl⟩
    · rw [if_neg g]; exact Or.inr ⟨fun z => by omega, rfl⟩
  · rw [if_neg w1]
    by_cases w5 : W = 5
    · rw [if_pos w5]
      by_cases g : Gn G ≤ 0
      · rw [if_pos g]; exact Or.inr ⟨fun z => by omega, rfl⟩
      · rw [if_neg g]; exact Or.inl ⟨Or.inr (Or.inl ⟨w5, by omega⟩), rfl⟩
    · rw [if_neg w5]
      by_cases w234 : W = 2 ∨ W = 3 ∨ W = 4
      · have fin : (may G gm W ∧ (if (1 : Int32) = nI 0 then (ckP (isB (nI 0)) (some (nI 0)) : Option Int32) else if Gn G ≤ 0 then ckP (isB (nI 0)) (some (nI 0)) else if gm = 0 then ckP (isB 1) (some 1) else ckP (isB (nI 0)) (some (nI 0))) = some (nI 1)) ∨ (¬ may G gm W ∧ (if (1 : Int32) = nI 0 then (ckP (isB (nI 0)) (some (nI 0)) : Option Int32) else if Gn G ≤ 0 then ckP (isB (nI 0)) (some (nI 0)) else if gm = 0 then ckP (isB 1) (some 1) else ckP (isB (nI 0)) (some (nI 0))) = some (nI 0)) := by
          rw [if_neg (show ¬ (1 : Int32) = nI 0 by decide)]
          unfold may
          by_cases g : Gn G ≤ 0
          · rw [if_pos g]; exact Or.inr ⟨fun z => by omega, rfl⟩
          · rw [if_neg g]
            by_cases m : gm = 0
            · rw [if_pos m]; exact Or.inl ⟨Or.inr (Or.inr ⟨w234, by omega, m⟩), rfl⟩
            · rw [if_neg m]; exact Or.inr ⟨fun z => by omega, rfl⟩
        unfold may at fin
        by_cases w2 : W = 2
        · rw [if_pos w2]; exact fin
        · rw [if_neg w2]
          by_cases w3 : W = 3
          · rw [if_pos w3]; exact fin
          · rw [if_neg w3, if_pos (show W = 4 by omega)]; exact fin
      · rw [if_neg (fun z => w234 (Or.inl z)), if_neg (fun z => w234 (Or.inr (Or.inl z))), if_neg (fun z => w234 (Or.inr (Or.inr z))), if_pos True.intro]
        exact Or.inr ⟨fun z => by omega, rfl⟩
/-- players are told: two colours each -/
theorem rL_48 (hF : 5000 < F) : ∃ ρ1, agr (fun c => c = 2) ρ ρ1 ∧ mi ρ1 2 0 = c ∧ (∀ p, p < 6 → mi ρ1 2 (1 + p) = nI 2) ∧ (∀ i, 7 ≤ i → mi ρ1 2 i = mi ρ 2 i) ∧ pX11_line_48 F ρ c 0 = pX11_line_155 F ρ1 := by
  unfold pX11_line_48
  rw [show ckI (0 : Int32) 6157 = ckI (nI 0) 6157 from rfl, ck_in (by decide) (by decide), show (0 : Int32).toNatClampNeg = 0 from rfl, nm_def]
  refine lp_inv (fun fu (s : Mem) i => pX11_line_51 F fu s (nI i)) (fun s i => agr (fun c => c = 2) ρ s ∧ mi s 2 0 = c ∧ (∀ p, p < i → mi s 2 (1 + p) = nI 2) ∧ ∀ i, 7 ≤ i → mi s 2 i = mi ρ 2 i) 6 (fun y => ∃ ρ1, agr (fun c => c = 2) ρ ρ1 ∧ mi ρ1 2 0 = c ∧ (∀ p, p < 6 → mi ρ1 2 (1 + p) = nI 2) ∧ (∀ i, 7 ≤ i → mi ρ1 2 i = mi ρ 2 i) ∧ y = pX11_line_155 F ρ1) (fun fu s hI => ?_) (fun fu s i hi hI => ?_) F (setI ρ 2 0 c) 0 (Nat.zero_le _) (by omega) ⟨agr_setI rfl, by rw [mi_setI, if_pos ⟨rfl, rfl⟩], fun p hp => absurd hp (Nat.not_lt_zero _), fun i hi => by rw [mi_setI, if_neg (by omega)]⟩
  · obtain ⟨b1, b2, b3, b4⟩ := hI
    refine ⟨s, b1, b2, b3, b4, ?_⟩
    show pX11_line_51 F (fu + 1) s (nI 6) = _
    rw [pX11_line_51, if_neg (show ¬ nI 6 < 6 by decide)]
  · obtain ⟨b1, b2, b3, b4⟩ := hI
    refine ⟨setI s 2 (1 + i) (nI 2), ⟨agr_trans b1 (agr_setI rfl), by rw [mi_setI, if_neg (by omega)]; exact b2, fun p hp => ?_, fun j hj => by rw [mi_setI, if_neg (by omega)]; exact b4 j hj⟩, ?_⟩
    · rw [mi_setI]
      by_cases y : p = i
      · rw [if_pos ⟨rfl, by omega⟩]
      · rw [if_neg (fun z => y (by omega))]; exact b3 p (by omega)
    · show pX11_line_51 F (fu + 1) s (nI i) = pX11_line_51 F fu _ (nI (i + 1))
      have e1 : (1 : Int32) + nI i = nI (1 + i) := n_add 1 i
      rw [pX11_line_51, show (6 : Int32) = nI 6 from rfl, i_lt (by omega) (by decide), if_pos hi, e1, ck_in (by omega) (by decide), n_cl (by omega), nm_def, show nI i + 1 = nI (i + 1) from n_add i 1]
      rfl
theorem WF_new (hv : v ≤ 6) : WF (v, fun _ => 2, fun _ => 0, fun _ _ => 0) := ⟨hv, fun p _ => ⟨⟨by show 1 ≤ 2; decide, by show 2 ≤ 4; decide⟩, Nat.two_pow_pos _, Nat.zero_testBit p, fun σ _ => by show 0 < 2; decide⟩⟩
theorem sL_players (hs : ST b n κ ρ) (hF : 5000 < F) (ha : AT b n κ ρ k) (hg : GM κ ρ G hm gm) (h0 : Gn G = 0) : ∃ κ1 ρ1, agr fX κ κ1 ∧ frR ρ ρ1 ∧ ((pX11_takesNumber F ρ 1 6).bind fun t4 => (pX11_good t4.2).bind fun t5 => if t5 = 0 then pX11_line_48 F t4.2 0 0 else pX11_line_48 F t4.2 t4.1 0) = pX11_line_155 F ρ1 ∧ ((pX6_readPlayers κ = some (nI 1, κ1) ∧ ∃ k1 G1 hm1 gm1, k ≤ k1 ∧ AT b n κ1 ρ1 k1 ∧ GM κ1 ρ1 G1 hm1 gm1) ∨ (pX6_readPlayers κ = some (nI 0, κ1) ∧ BAD κ1 ρ1)) := by
  obtain ⟨⟨hk, h4, hc⟩, h25, x1, x2⟩ := ha
  have hP := tP_le (k := k) hs
  have hG := hg.2.2.1.2.1 h0
  unfold pX6_readPlayers
  by_cases c : tK b n k = 2 ∧ 1 ≤ tV b n k ∧ tV b n k ≤ 6
  · obtain ⟨c1, c2, c3⟩ := c
    obtain ⟨V, eV⟩ : ∃ V, V = tV b n k := ⟨_, rfl⟩
    obtain ⟨ρ1, b1, b2, b3, b4, b5⟩ := rL_number_t hs hF hk hc h25 c1 c2 c3 (by decide)
    obtain ⟨κa, eκa⟩ : ∃ κa, κa = setI (setI κ 138 5 (nI V)) 138 4 (nI (k + 1)) := ⟨_, rfl⟩
    have ac : agr (fun c => c = 138 ∨ c = 139) κ κa := by rw [eκa]; exact agr_trans (agr_setI (Or.inl rfl)) (agr_setI (Or.inl rfl))
    have ma : ∀ i, i ≠ 4 → i ≠ 5 → mi κa 138 i = mi κ 138 i := fun i i4 i5 => by rw [eκa, mi_setI, if_neg (fun z => i4 z.2), mi_setI, if_neg (fun z => i5 z.2)]
    have ma4 : mi κa 138 4 = nI (k + 1) := by rw [eκa, mi_setI, if_pos ⟨rfl, rfl⟩]
    have ma5 : mi κa 138 5 = nI V := by rw [eκa, mi_setI, if_neg (by omega), mi_setI, if_pos ⟨rfl, rfl⟩]
    have xa : pX6_readNumber κ 1 6 = some (nI 1, κa) := by
      rw [eκa, eV]
      exact xL_number_t hs hk h4 c1 c2 c3 (by decide)
    have hgx : GX κa G := hg.1.fr ac
    have hgr : GR ρ1 G := hg.2.1.fr b1
    obtain ⟨ρ2, d1, d2, d3, d4, d5⟩ := rL_48 (ρ := ρ1) (F := F) (c := nI V) hF
    have f2 : frR ρ1 ρ2 := ⟨fun k2 z0 z2 => d1 k2 z2, fun i _ => agr_mi d1 (by decide) i⟩
    refine ⟨setI κa 9 0 (nI V), ρ2, agr_trans (agr_mono ac (fun c hc => Or.inr hc)) (agr_setI (Or.inl (by omega))), frR_trans (frR_L b1) f2, ?_, Or.inl ⟨?_, k + 1, (V, fun _ => 2, fun _ => 0, fun _ _ => 0), hm, gm, by omega, ?_, ?_⟩⟩
    · rw [show pX11_takesNumber F ρ 1 6 = _ from b5, Option.bind_some, rL_good_t b4, Option.bind_some, if_neg (show ¬ nI 1 = 0 by decide), ← eV]
      exact d5
    · rw [xa, Option.bind_some]
      dsimp only
      rw [if_neg (show ¬ nI 1 = 0 by decide), ma5]
      rfl
    · exact ⟨⟨b3, by rw [mi_setI, if_neg (by omega)]; exact ma4, CUR_mv b2 (fun i _ => agr_mi d1 (by decide) i) (agr_ml d1 (by decide) 34)⟩, (agr_mi d1 (by decide) 25).trans b4, by rw [mi_setI, if_neg (by omega), ma 1 (by decide) (by decide)]; exact x1, by rw [mi_setI, if_neg (by omega), ma 2 (by decide) (by decide)]; exact x2⟩
    · subst hG
      refine ⟨⟨by rw [mi_setI, if_pos ⟨rfl, rfl⟩]; rfl, fun p hp => ⟨by rw [mi_setI, if_neg (by omega)]; exact (hgx.2 p hp).1, by rw [mi_setI, if_neg (by omega)]; exact (hgx.2 p hp).2.1, fun σ hσ => by rw [tol_setI]; exact (hgx.2 p hp).2.2 σ hσ⟩⟩, ⟨d2, fun p hp => ⟨fun _ => d3 p hp, by rw [d4 _ (by omega)]; exact (hgr.2 p hp).2.1, fun σ hσ => by rw [d4 _ (by omega)]; exact (hgr.2 p hp).2.2 σ hσ⟩⟩, ⟨WF_new (by omega), fun z => ?_, fun _ _ _ => rfl⟩, ⟨hg.2.2.2.1.1, by rw [mi_setI, if_neg (by omega), ma 7 (by decide) (by decide)]; exact hg.2.2.2.1.2.1, by rw [agr_mi d1 (by decide), b1.2 32 (by omega)]; exact hg.2.2.2.1.2.2⟩, ⟨hg.2.2.2.2.1, by rw [mi_setI, if_neg (by omega), ma 8 (by decide) (by decide)]; exact hg.2.2.2.2.2.1, by rw [agr_mi d1 (by decide), b1.2 33 (by omega)]; exact hg.2.2.2.2.2.2⟩⟩
      have z2 : V = 0 := z
      omega
  · obtain ⟨κ1, a1, a2, a3⟩ := xL_number_f hs hk h4 c (by decide) (by decide)
    obtain ⟨ρ1, b1, b2, b3⟩ := rL_number_f (F := F) hs hk hc h25 c (by decide) (by decide)
    obtain ⟨ρ2, d1, d2, d3, d4, d5⟩ := rL_48 (ρ := ρ1) (F := F) (c := 0) hF
    have f2 : frR ρ1 ρ2 := ⟨fun k2 z0 z2 => d1 k2 z2, fun i _ => agr_mi d1 (by decide) i⟩
    have hRB : RB ρ2 (erf (tK b n k)) (tkP b n k) := ⟨b2.1, (agr_mi d1 (by decide) 25).trans b2.2.1, (agr_mi d1 (by decide) 26).trans b2.2.2⟩
    refine ⟨κ1, ρ2, a1, frR_trans b1.R f2, ?_, Or.inr ⟨?_, _, _, hP, a2, hRB⟩⟩
    · rw [show pX11_takesNumber F ρ 1 6 = _ from b3, Option.bind_some, rL_good_b b2, Option.bind_some, if_pos (show nI 0 = 0 from rfl)]
      exact d5
    · rw [show pX6_readNumber κ 1 6 = _ from a3]
      rfl
end LDL
