/-! LOAD: numbers, players on both sides; hats, links -/
section LDN
variable {κ κ1 κ2 ρ ρ1 ρ2 : Mem} {b : Nat → Int32} {n k f pl lo hi F p q j bm : Nat} {G : Gm} {x c w : Int32} {hm gm : Nat}
theorem rL_29 (h : mi ρ 0 29 = nI k) (hk : k < 5) {α : Type} {x y : α} : (if mi ρ 0 29 = 2 then x else y) = if k = 2 then x else y := by
  rw [h, show (2 : Int32) = nI 2 from rfl, i_eq (by omega) (by decide)]
theorem rL_number_t (hs : ST b n κ ρ) (hF : 5000 < F) (hk : k ≤ tkN b n) (hc : CUR ρ b n (tkP b n k)) (h25 : mi ρ 0 25 = nI 0) (hK : tK b n k = 2) (hlo : lo ≤ tV b n k) (hhi : tV b n k ≤ hi) (hh : hi < 2147483648) : ∃ ρ1, frL ρ ρ1 ∧ CUR ρ1 b n (tkP b n (k + 1)) ∧ k + 1 ≤ tkN b n ∧ mi ρ1 0 25 = nI 0 ∧ pX11_takesNumber F ρ (nI lo) (nI hi) = some (nI (tV b n k), ρ1) := by
  have h29 : mi ρ 0 29 = nI (tK b n k) := hc.2.2.1
  obtain ⟨eV, hV⟩ := tV_2 hK
  have h30 : mi ρ 0 30 = nI (tV b n k) := by rw [eV]; exact hc.2.2.2.1 hK
  obtain ⟨ρ1, a1, a2, a3, a4, a5⟩ := rL_goesOn hs hF hk hc h25 (by omega)
  refine ⟨ρ1, a1, a2, a3, a4, ?_⟩
  unfold pX11_takesNumber pX11_takesNumber_14 pX11_takesNumber_56
  rw [rL_29 h29 (by omega), if_pos hK, rL_must_t (by decide), Option.bind_some, h30, rX_inK ρ _ (by omega) hh, ag_nI (by omega), decide_eq_true ⟨hlo, hhi⟩, Option.bind_some, rL_must_t (show ¬ nI true.toNat = 0 by decide), Option.bind_some, h30, nm_def, a5, Option.bind_some, rL_good_t a4, Option.bind_some, if_neg (show ¬ nI 1 = 0 by decide)]
theorem rL_number_b (h : RB ρ f pl) {lo hi : Int32} : pX11_takesNumber F ρ lo hi = some (nI 0, ρ) := by
  have key : ∀ y, pX11_takesNumber_14 F ρ lo hi y = some (nI 0, ρ) := fun y => by
    obtain ⟨t, e⟩ := rL_isIn ρ (mi ρ 0 30) lo hi
    unfold pX11_takesNumber_14 pX11_takesNumber_56
    rw [rL_must_b h, Option.bind_some, e, Option.bind_some, rL_must_b h, Option.bind_some, nm_def, rL_goesOn_b h, Option.bind_some, rL_good_b h]
    rfl
  unfold pX11_takesNumber
  rw [key, key]
  split <;> rfl
theorem rL_number_f (hs : ST b n κ ρ) (hk : k ≤ tkN b n) (hc : CUR ρ b n (tkP b n k)) (h25 : mi ρ 0 25 = nI 0) (hb : ¬ (tK b n k = 2 ∧ lo ≤ tV b n k ∧ tV b n k ≤ hi)) (hl : lo < 2147483648) (hh : hi < 2147483648) : ∃ ρ1, frC ρ ρ1 ∧ RB ρ1 (erf (tK b n k)) (tkP b n k) ∧ pX11_takesNumber F ρ (nI lo) (nI hi) = some (nI 0, ρ1) := by
  have h29 : mi ρ 0 29 = nI (tK b n k) := hc.2.2.1
  have k5 := tK_5 (b := b) (n := n) (k := k)
  have tail : ∀ ρ1 f pl, RB ρ1 f pl → (nm (mi ρ1 0 30) fun x4 => (pX11_goesOn F ρ1).bind fun t5 => (pX11_good t5).bind fun t6 => if t6 = 0 then pX11_takesNumber_56 F t5 0 else pX11_takesNumber_56 F t5 x4) = some (nI 0, ρ1) := fun ρ1 f pl h => by
    unfold pX11_takesNumber_56
    rw [nm_def, rL_goesOn_b h, Option.bind_some, rL_good_b h]
    rfl
  unfold pX11_takesNumber pX11_takesNumber_14
  rw [rL_29 h29 k5]
  by_cases c : tK b n k = 2
  · obtain ⟨eV, hV⟩ := tV_2 c
    have h30 : mi ρ 0 30 = nI (tV b n k) := by rw [eV]; exact hc.2.2.2.1 c
    obtain ⟨ρ1, a1, a2, -, a3⟩ := rL_must_f (pl := tkP b n k) (v := 3) h25 hc.1 h29 k5 (by decide)
    rw [if_neg (by omega)] at a2
    refine ⟨ρ1, a1, by unfold erf; rw [c, if_neg (by decide), if_pos rfl]; exact a2, ?_⟩
    rw [if_pos c, rL_must_t (by decide), Option.bind_some, h30, rX_inK ρ _ hl hh, ag_nI (by omega), decide_eq_false (fun z => hb ⟨c, z⟩), Option.bind_some]
    rw [show pX11_must ρ (nI false.toNat) 3 = some ρ1 from a3, Option.bind_some]
    exact tail ρ1 _ _ a2
  · obtain ⟨ρ1, a1, a2, -, a3⟩ := rL_must_f (pl := tkP b n k) (v := 2) h25 hc.1 h29 k5 (by decide)
    refine ⟨ρ1, a1, ?_, ?_⟩
    · unfold erf
      rw [if_neg c]
      by_cases d : tK b n k = 4
      · rw [if_pos ⟨rfl, d⟩] at a2; rw [if_pos d]; exact a2
      · rw [if_neg (fun z => d z.2)] at a2; rw [if_neg d]; exact a2
    · obtain ⟨t, e⟩ := rL_isIn ρ1 (mi ρ1 0 30) (nI lo) (nI hi)
      rw [if_neg c, show pX11_must ρ 0 2 = some ρ1 from a3, Option.bind_some, e, Option.bind_some, rL_must_b a2, Option.bind_some]
      exact tail ρ1 _ _ a2
-- players
theorem rL_player_b (h : RB ρ f pl) : pX11_takesPlayer F ρ c = some (nI 0, ρ) := by
  have key : ∀ y, pX11_takesPlayer_14 F ρ c y = some (nI 0, ρ) := fun y => by
    obtain ⟨t, e⟩ := rL_isIn ρ (mi ρ 0 30) 0 (mi ρ 2 (0 : Int32).toNatClampNeg - 1)
    have e2 : pX11_isIn ρ (mi ρ 0 30).toInt64 0 (mi ρ 2 (0 : Int32).toNatClampNeg - 1).toInt64 = some (nI t.toNat) := e
    unfold pX11_takesPlayer_14 pX11_takesPlayer_64 pX11_takesPlayer_65 pX11_takesPlayer_90
    rw [rL_must_b h, Option.bind_some, show (0 : Int32) = nI 0 from rfl, ck_in (by decide) (by decide)]
    rw [show (nI 0 : Int32) = 0 from rfl, e2, Option.bind_some, rL_must_b h, Option.bind_some, rL_good_b h, Option.bind_some, if_pos (show nI 0 = 0 from rfl), rL_must_b h, Option.bind_some, nm_def, rL_goesOn_b h, Option.bind_some, rL_good_b h]
    rfl
  unfold pX11_takesPlayer
  rw [key, key]
  split <;> rfl
theorem rL_in_q (h2 : mi ρ 2 0 = nI q) (h1 : 1 ≤ q) (hq : q ≤ 6) (x : Int32) : pX11_isIn ρ x.toInt64 0 (mi ρ 2 (0 : Int32).toNatClampNeg - 1).toInt64 = some (nI (decide (ag x < q)).toNat) := by
  have e : mi ρ 2 (0 : Int32).toNatClampNeg = nI q := h2
  rw [e, show nI q - 1 = nI (q - 1) from n_sub h1, show (0 : Int64) = (nI 0).toInt64 from by decide, rX_inK ρ x (by decide) (by omega)]
  congr 3
  exact decide_eq_decide.mpr (by omega)
theorem rL_player_t (hs : ST b n κ ρ) (hF : 5000 < F) (hk : k ≤ tkN b n) (hc : CUR ρ b n (tkP b n k)) (h25 : mi ρ 0 25 = nI 0) (h2 : mi ρ 2 0 = nI q) (hq : q ≤ 6) (hK : tK b n k = 2) (hv : tV b n k < q) (hbm : bm < 64) (ht : bm.testBit (tV b n k) = false) : ∃ ρ1, frL ρ ρ1 ∧ CUR ρ1 b n (tkP b n (k + 1)) ∧ k + 1 ≤ tkN b n ∧ mi ρ1 0 25 = nI 0 ∧ pX11_takesPlayer F ρ (nI bm) = some (nI (tV b n k), ρ1) := by
  have h29 : mi ρ 0 29 = nI (tK b n k) := hc.2.2.1
  obtain ⟨eV, hV⟩ := tV_2 hK
  have h30 : mi ρ 0 30 = nI (tV b n k) := by rw [eV]; exact hc.2.2.2.1 hK
  obtain ⟨ρ1, a1, a2, a3, a4, a5⟩ := rL_goesOn hs hF hk hc h25 (by omega)
  refine ⟨ρ1, a1, a2, a3, a4, ?_⟩
  have ei := rL_in_q h2 (by omega) hq (nI (tV b n k))
  rw [ag_nI (by omega), decide_eq_true hv] at ei
  unfold pX11_takesPlayer pX11_takesPlayer_14 pX11_takesPlayer_64 pX11_takesPlayer_65 pX11_takesPlayer_90
  rw [rL_29 h29 (by omega), if_pos hK, rL_must_t (by decide), Option.bind_some, h30, ei, Option.bind_some, rL_must_t (show ¬ nI true.toNat = 0 by decide), Option.bind_some, rL_good_t h25, Option.bind_some, if_neg (show ¬ nI 1 = 0 by decide), h30, rX_has (by omega) (by omega), ht, Option.bind_some, if_pos (show nI false.toNat = 0 from rfl), rL_must_t (by decide), Option.bind_some, h30, nm_def, a5, Option.bind_some, rL_good_t a4, Option.bind_some, if_neg (show ¬ nI 1 = 0 by decide)]
  rfl
theorem rL_player_f (hs : ST b n κ ρ) (hk : k ≤ tkN b n) (hc : CUR ρ b n (tkP b n k)) (h25 : mi ρ 0 25 = nI 0) (h2 : mi ρ 2 0 = nI q) (h1 : 1 ≤ q) (hq : q ≤ 6) (hbm : bm < 64) (hb : ¬ (tK b n k = 2 ∧ tV b n k < q ∧ bm.testBit (tV b n k) = false)) : ∃ ρ1, frC ρ ρ1 ∧ RB ρ1 (if tK b n k = 2 ∧ tV b n k < q then 4 else erf (tK b n k)) (tkP b n k) ∧ pX11_takesPlayer F ρ (nI bm) = some (nI 0, ρ1) := by
  have h29 : mi ρ 0 29 = nI (tK b n k) := hc.2.2.1
  have k5 := tK_5 (b := b) (n := n) (k := k)
  have tail : ∀ ρ1 f pl, RB ρ1 f pl → ∀ y, pX11_takesPlayer_65 F ρ1 y = some (nI 0, ρ1) := fun ρ1 f pl h y => by
    unfold pX11_takesPlayer_65 pX11_takesPlayer_90
    rw [rL_must_b h, Option.bind_some, nm_def, rL_goesOn_b h, Option.bind_some, rL_good_b h]
    rfl
  unfold pX11_takesPlayer pX11_takesPlayer_14 pX11_takesPlayer_64
  rw [rL_29 h29 k5]
  by_cases c : tK b n k = 2
  · obtain ⟨eV, hV⟩ := tV_2 c
    have h30 : mi ρ 0 30 = nI (tV b n k) := by rw [eV]; exact hc.2.2.2.1 c
    have ei := rL_in_q h2 h1 hq (nI (tV b n k))
    rw [ag_nI (by omega)] at ei
    rw [if_pos c, rL_must_t (by decide), Option.bind_some, h30, ei, show ckI (0 : Int32) 6157 = ckI (nI 0) 6157 from rfl, ck_in (by decide) (by decide), Option.bind_some]
    by_cases d : tV b n k < q
    · have ht : bm.testBit (tV b n k) = true := by
        cases z : bm.testBit (tV b n k)
        · exact absurd ⟨c, d, z⟩ hb
        · rfl
      obtain ⟨ρ1, a1, a2, -, a3⟩ := rL_must_f (pl := tkP b n k) (v := 4) h25 hc.1 h29 k5 (by decide)
      rw [if_neg (by omega)] at a2
      refine ⟨ρ1, a1, by rw [if_pos ⟨c, d⟩]; exact a2, ?_⟩
      rw [decide_eq_true d, rL_must_t (show ¬ nI true.toNat = 0 by decide), Option.bind_some, rL_good_t h25, Option.bind_some, if_neg (show ¬ nI 1 = 0 by decide), h30, rX_has (by omega) (by omega), ht, Option.bind_some, if_neg (show ¬ nI true.toNat = 0 by decide)]
      unfold pX11_takesPlayer_65 pX11_takesPlayer_90
      rw [show pX11_must ρ 0 4 = some ρ1 from a3, Option.bind_some, nm_def, rL_goesOn_b a2, Option.bind_some, rL_good_b a2]
      rfl
    · obtain ⟨ρ1, a1, a2, -, a3⟩ := rL_must_f (pl := tkP b n k) (v := 3) h25 hc.1 h29 k5 (by decide)
      rw [if_neg (by omega)] at a2
      refine ⟨ρ1, a1, by rw [if_neg (fun z => d z.2)]; unfold erf; rw [c, if_neg (by decide), if_pos rfl]; exact a2, ?_⟩
      rw [decide_eq_false d, show pX11_must ρ (nI false.toNat) 3 = some ρ1 from a3, Option.bind_some, rL_good_b a2, Option.bind_some, if_pos (show nI 0 = 0 from rfl)]
      exact tail ρ1 _ _ a2 0
  · obtain ⟨ρ1, a1, a2, -, a3⟩ := rL_must_f (pl := tkP b n k) (v := 2) h25 hc.1 h29 k5 (by decide)
    refine ⟨ρ1, a1, ?_, ?_⟩
    · rw [if_neg (fun z => c z.1)]
      unfold erf
      rw [if_neg c]
      by_cases d : tK b n k = 4
      · rw [if_pos ⟨rfl, d⟩] at a2; rw [if_pos d]; exact a2
      · rw [if_neg (fun z => d z.2)] at a2; rw [if_neg d]; exact a2
    · have ei := rL_in_q (ρ := ρ1) ((a1.mi2 (by decide) 0).trans h2) h1 hq (mi ρ1 0 30)
      rw [if_neg c, show pX11_must ρ 0 2 = some ρ1 from a3, Option.bind_some, show ckI (0 : Int32) 6157 = ckI (nI 0) 6157 from rfl, ck_in (by decide) (by decide), ei, Option.bind_some, rL_must_b a2, Option.bind_some, rL_good_b a2, Option.bind_some, if_pos (show nI 0 = 0 from rfl)]
      exact tail ρ1 _ _ a2 0
end LDN
