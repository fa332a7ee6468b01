/-! TOKENS of a text: the reference reads one after another -/
theorem lg_eq (x y : Int64) : (lg_cmp x y = 0) = (x = y) := by
  have h2 := @Int64.toInt_inj x y
  unfold lg_cmp
  apply propext
  split
  · rename_i h
    constructor
    · intro z; exact absurd z (by decide)
    · intro z
      subst z
      have h3 := Int64.lt_iff_toInt_lt.mp h
      omega
  · split
    · rename_i h
      exact ⟨fun _ => h, fun _ => rfl⟩
    · rename_i h
      exact ⟨fun z => absurd z (by decide), fun z => absurd z h⟩
def RT (ρ : Mem) (b : Nat → Int32) (n : Nat) : Prop := mi ρ 0 31 = nI n ∧ ∀ i, i < n → mi ρ 13 i = b i
/-- what a reading of text changes: cells of its own -/
def frL (ρ ρ1 : Mem) : Prop := (∀ k, k ≠ 0 → ρ1.1 k = ρ.1 k ∧ ρ1.2.1 k = ρ.2.1 k ∧ ρ1.2.2 k = ρ.2.2 k) ∧ ∀ i, ¬ (27 ≤ i ∧ i ≤ 30) → mi ρ1 0 i = mi ρ 0 i
/-- the token that the reference stands at -/
def CUR (ρ : Mem) (b : Nat → Int32) (n q : Nat) : Prop := mi ρ 0 27 = nI q ∧ (q < n → mi ρ 0 28 = nI (tkE b n q)) ∧ mi ρ 0 29 = nI (tkK b n q) ∧ (tkK b n q = 2 → mi ρ 0 30 = nI (nvX b q (tkE b n q - q))) ∧ (tkK b n q = 1 → ml ρ 0 34 = Int64.ofNat (wvR b q (tkE b n q - q)))
section RDS
variable {ρ ρ1 ρ2 : Mem} {b : Nat → Int32} {n p q i e k w F : Nat} {x v1 : Int32} {S : Nat → Prop}
theorem frL_rfl : frL ρ ρ := ⟨fun _ _ => ⟨rfl, rfl, rfl⟩, fun _ _ => rfl⟩
theorem frL_trans (h : frL ρ ρ1) (h2 : frL ρ1 ρ2) : frL ρ ρ2 := ⟨fun k h0 => ⟨(h2.1 k h0).1.trans (h.1 k h0).1, (h2.1 k h0).2.1.trans (h.1 k h0).2.1, (h2.1 k h0).2.2.trans (h.1 k h0).2.2⟩, fun i hi => (h2.2 i hi).trans (h.2 i hi)⟩
theorem frL_I {i : Nat} {x : Int32} (h : 27 ≤ i ∧ i ≤ 30) : frL ρ (setI ρ 0 i x) := ⟨fun k hk => ⟨by simp [setI, hk], rfl, rfl⟩, fun j hj => by rw [mi_setI, if_neg (by omega)]⟩
theorem frL_L {i : Nat} {x : Int64} : frL ρ (setL ρ 0 i x) := ⟨fun k hk => ⟨rfl, by simp [setL, hk], rfl⟩, fun j _ => rfl⟩
theorem RT.fr (h : RT ρ b n) (hf : frL ρ ρ1) : RT ρ1 b n := ⟨(hf.2 31 (by omega)).trans h.1, fun i hi => (congrFun (hf.1 13 (by decide)).1 i).trans (h.2 i hi)⟩
theorem rX_isOf {lo hi : Nat} (h : RT ρ b n) (hn : n ≤ 600) (hi600 : i ≤ n) (hl : lo < 2147483648) (hh : hi < 2147483648) : pX11_isOf ρ (nI i) (nI lo) (nI hi) = some (nI (decide (i < n) && decide (lo ≤ ag (b i) ∧ ag (b i) ≤ hi)).toNat) := by
  unfold pX11_isOf pX11_isOf_29 pX11_isOf_30
  rw [h.1, i_lt (by omega) (by omega)]
  by_cases c : i < n
  · rw [if_pos c, ck_in (by omega) (by decide), n_cl (by omega), h.2 i c, rX_inK ρ (b i) hl hh, Option.bind_some, decide_eq_true c, Bool.true_and]
    cases decide (lo ≤ ag (b i) ∧ ag (b i) ≤ hi) <;> rfl
  · rw [if_neg c, decide_eq_false c]
    rfl
theorem ag_lit {c : Nat} (hc : c < 2147483648) : (x = nI c) = (ag x = c) := by
  apply propext
  constructor
  · intro h; rw [h]; exact ag_nI hc
  · intro h
    have := ag_eq (a := x) (n := c + 1) (by omega) (by omega)
    rw [this, h]
theorem ag_rng {lo hi : Nat} (hl : lo < 2147483648) (hh : hi < 2147483648) : (¬ x < nI lo ∧ x ≤ nI hi) = (lo ≤ ag x ∧ ag x ≤ hi) := by
  apply propext
  rcases ag_cases x with ⟨h1, h2⟩ | ⟨k, h1, rfl, h3⟩
  · rw [h2]
    constructor
    · intro z
      exfalso
      apply z.1
      rw [Int32.lt_iff_toInt_lt] at h1 ⊢
      rw [nI_toInt hl]
      have : (0 : Int32).toInt = 0 := by decide
      omega
    · intro z; omega
  · rw [h3, n_lt h1 hl, n_le h1 hh]
    omega
theorem isLt_ag (x : Int32) : isLt x = decide (97 ≤ ag x ∧ ag x ≤ 122) := decide_eq_decide.mpr (by rw [← ag_rng (by decide) (by decide)]; exact Iff.rfl)
theorem isDg_ag (x : Int32) : isDg x = decide (48 ≤ ag x ∧ ag x ≤ 57) := decide_eq_decide.mpr (by rw [← ag_rng (by decide) (by decide)]; exact Iff.rfl)
theorem isBl_ag (x : Int32) : isBl x = (decide (32 ≤ ag x ∧ ag x ≤ 32) || decide (10 ≤ ag x ∧ ag x ≤ 10)) := by
  unfold isBl
  rw [← Bool.decide_or]
  refine decide_eq_decide.mpr ?_
  have h1 : (x = 10) = (ag x = 10) := ag_lit (c := 10) (by decide)
  have h2 : (x = 32) = (ag x = 32) := ag_lit (c := 32) (by decide)
  rw [h1, h2]
  omega
theorem rX_isLt (h : RT ρ b n) (hn : n ≤ 600) (hi : i ≤ n) : pX11_isOf ρ (nI i) 97 122 = some (nI (decide (i < n) && isLt (b i)).toNat) := by rw [isLt_ag]; exact rX_isOf h hn hi (by decide) (by decide)
theorem rX_isDg (h : RT ρ b n) (hn : n ≤ 600) (hi : i ≤ n) : pX11_isOf ρ (nI i) 48 57 = some (nI (decide (i < n) && isDg (b i)).toNat) := by rw [isDg_ag]; exact rX_isOf h hn hi (by decide) (by decide)
/-- a number is read -/
theorem rX_reads_254 (hn : n ≤ 600) : ∀ (r fu k : Nat) (ρ : Mem), RT ρ b n → n - (p + k) = r → p + k ≤ n → r < fu → (∀ i, p ≤ i → i < p + k → isDg (b i) = true) → mi ρ 0 27 = nI p → mi ρ 0 28 = nI (p + k) → mi ρ 0 30 = nI (nvR b p k) → ∃ ρ1, frL ρ ρ1 ∧ mi ρ1 0 27 = nI p ∧ mi ρ1 0 28 = nI (rE isDg b n (p + k)) ∧ mi ρ1 0 30 = nI (nvR b p (rE isDg b n (p + k) - p)) ∧ mi ρ1 0 29 = nI (if rE isDg b n (p + k) - p ≤ 2 then 2 else 4) ∧ pX11_reads_254 F fu ρ = some ρ1 := by
  intro r
  induction r with
  | zero =>
    intro fu k ρ h hr hp hf hd h27 h28 h30
    obtain ⟨fu, rfl⟩ : ∃ f, fu = f + 1 := ⟨fu - 1, by omega⟩
    rw [rE_end (by omega), Nat.add_sub_cancel_left]
    refine ⟨setI ρ 0 29 (nI (if k ≤ 2 then 2 else 4)), frL_I (by omega), by rw [mi_setI, if_neg (by omega)]; exact h27, by rw [mi_setI, if_neg (by omega)]; exact h28, by rw [mi_setI, if_neg (by omega)]; exact h30, by rw [mi_setI, if_pos ⟨rfl, rfl⟩], ?_⟩
    rw [pX11_reads_254, h28, rX_isDg h hn hp, decide_eq_false (show ¬ p + k < n by omega), Bool.false_and, Option.bind_some, if_pos (show nI false.toNat = 0 from rfl), h27, n_sub (by omega), Nat.add_sub_cancel_left, show (2 : Int32) = nI 2 from rfl, i_le (by omega) (by decide)]
    unfold pX11_reads_345 pX11_reads_348
    by_cases c : k ≤ 2
    · rw [if_pos c, if_pos c]; rfl
    · rw [if_neg c, if_neg c]; rfl
  | succ r ih =>
    intro fu k ρ h hr hp hf hd h27 h28 h30
    obtain ⟨fu, rfl⟩ : ∃ f, fu = f + 1 := ⟨fu - 1, by omega⟩
    rw [pX11_reads_254, h28, rX_isDg h hn hp, decide_eq_true (show p + k < n by omega), Bool.true_and, Option.bind_some]
    cases hc : isDg (b (p + k))
    · rw [rE_no hc, Nat.add_sub_cancel_left]
      refine ⟨setI ρ 0 29 (nI (if k ≤ 2 then 2 else 4)), frL_I (by omega), by rw [mi_setI, if_neg (by omega)]; exact h27, by rw [mi_setI, if_neg (by omega)]; exact h28, by rw [mi_setI, if_neg (by omega)]; exact h30, by rw [mi_setI, if_pos ⟨rfl, rfl⟩], ?_⟩
      rw [if_pos (show nI false.toNat = 0 from rfl), h27, n_sub (by omega), Nat.add_sub_cancel_left, show (2 : Int32) = nI 2 from rfl, i_le (by omega) (by decide)]
      unfold pX11_reads_345 pX11_reads_348
      by_cases c : k ≤ 2
      · rw [if_pos c, if_pos c]; rfl
      · rw [if_neg c, if_neg c]; rfl
    · have hd2 : ∀ i, p ≤ i → i < p + (k + 1) → isDg (b i) = true := fun i h1 h2 => by
        by_cases z : i = p + k
        · rw [z]; exact hc
        · exact hd i h1 (by omega)
      obtain ⟨d1, d2⟩ := isDg_t hc
      have hv := nvR_lt hd
      obtain ⟨ρ', eρ⟩ : ∃ ρ', ρ' = setI (setI ρ 0 30 (nI (nvR b p (k + 1)))) 0 28 (nI (p + (k + 1))) := ⟨_, rfl⟩
      have a1 : frL ρ ρ' := by rw [eρ]; exact frL_trans (frL_I (by omega)) (frL_I (by omega))
      obtain ⟨ρ1, c1, c2, c3, c4, c5, c6⟩ := ih fu (k + 1) ρ' (h.fr a1) (by omega) (by omega) (by omega) hd2 (by rw [eρ, mi_setI, if_neg (by omega), mi_setI, if_neg (by omega)]; exact h27) (by rw [eρ, mi_setI, if_pos ⟨rfl, rfl⟩]) (by rw [eρ, mi_setI, if_neg (by omega), mi_setI, if_pos ⟨rfl, rfl⟩])
      rw [rE_yes (by omega) hc]
      refine ⟨ρ1, frL_trans a1 c1, c2, c3, c4, c5, ?_⟩
      rw [if_neg (show ¬ nI true.toNat = 0 by decide), h27, n_sub (by omega), Nat.add_sub_cancel_left, show (2 : Int32) = nI 2 from rfl, i_lt (by omega) (by decide), ← c6]
      have e28 : ∀ v, mi (setI ρ 0 30 v) 0 28 + 1 = nI (p + (k + 1)) := fun v => by rw [mi_setI, if_neg (by omega), h28]; exact n_add _ 1
      unfold pX11_reads_310
      by_cases c : k < 2
      · have e3 : 10 * mi ρ 0 30 + mi ρ 13 (p + k) - 48 = nI (nvR b p (k + 1)) := by
          rw [h30, h.2 (p + k) (by omega), d1, show (10 : Int32) = nI 10 from rfl, show (48 : Int32) = nI 48 from rfl, n_mul, n_add, n_sub (by omega), nvR, if_pos c]
          exact congrArg nI (by omega)
        rw [if_pos c, ck_in (by omega) (by decide), n_cl (by omega), e3, nm_def, nm_def, e28, ← eρ]
      · have e3 : mi ρ 0 30 = nI (nvR b p (k + 1)) := by rw [h30, nvR, if_neg c]
        rw [if_neg c, e3, nm_def, nm_def, e28, ← eρ]
/-- a word is read -/
theorem rX_reads_127 (hn : n ≤ 600) : ∀ (r fu k : Nat) (ρ : Mem), RT ρ b n → n - (p + k) = r → p + k ≤ n → r < fu → (∀ i, p ≤ i → i < p + k → isLt (b i) = true) → mi ρ 0 27 = nI p → mi ρ 0 28 = nI (p + k) → ml ρ 0 34 = Int64.ofNat (wvR b p k) → ∃ ρ1, frL ρ ρ1 ∧ mi ρ1 0 27 = nI p ∧ mi ρ1 0 28 = nI (rE isLt b n (p + k)) ∧ ml ρ1 0 34 = Int64.ofNat (wvR b p (rE isLt b n (p + k) - p)) ∧ mi ρ1 0 29 = nI (if rE isLt b n (p + k) - p ≤ 8 then 1 else 4) ∧ pX11_reads_127 F fu ρ = some ρ1 := by
  intro r
  induction r with
  | zero =>
    intro fu k ρ h hr hp hf hd h27 h28 h30
    obtain ⟨fu, rfl⟩ : ∃ f, fu = f + 1 := ⟨fu - 1, by omega⟩
    rw [rE_end (by omega), Nat.add_sub_cancel_left]
    refine ⟨setI ρ 0 29 (nI (if k ≤ 8 then 1 else 4)), frL_I (by omega), by rw [mi_setI, if_neg (by omega)]; exact h27, by rw [mi_setI, if_neg (by omega)]; exact h28, h30, by rw [mi_setI, if_pos ⟨rfl, rfl⟩], ?_⟩
    rw [pX11_reads_127, h28, rX_isLt h hn hp, decide_eq_false (show ¬ p + k < n by omega), Bool.false_and, Option.bind_some, if_pos (show nI false.toNat = 0 from rfl), h27, n_sub (by omega), Nat.add_sub_cancel_left, show (8 : Int32) = nI 8 from rfl, i_le (by omega) (by decide)]
    unfold pX11_reads_220 pX11_reads_348
    by_cases c : k ≤ 8
    · rw [if_pos c, if_pos c]; rfl
    · rw [if_neg c, if_neg c]; rfl
  | succ r ih =>
    intro fu k ρ h hr hp hf hd h27 h28 h30
    obtain ⟨fu, rfl⟩ : ∃ f, fu = f + 1 := ⟨fu - 1, by omega⟩
    rw [pX11_reads_127, h28, rX_isLt h hn hp, decide_eq_true (show p + k < n by omega), Bool.true_and, Option.bind_some]
    cases hc : isLt (b (p + k))
    · rw [rE_no hc, Nat.add_sub_cancel_left]
      refine ⟨setI ρ 0 29 (nI (if k ≤ 8 then 1 else 4)), frL_I (by omega), by rw [mi_setI, if_neg (by omega)]; exact h27, by rw [mi_setI, if_neg (by omega)]; exact h28, h30, by rw [mi_setI, if_pos ⟨rfl, rfl⟩], ?_⟩
      rw [if_pos (show nI false.toNat = 0 from rfl), h27, n_sub (by omega), Nat.add_sub_cancel_left, show (8 : Int32) = nI 8 from rfl, i_le (by omega) (by decide)]
      unfold pX11_reads_220 pX11_reads_348
      by_cases c : k ≤ 8
      · rw [if_pos c, if_pos c]; rfl
      · rw [if_neg c, if_neg c]; rfl
    · have hd2 : ∀ i, p ≤ i → i < p + (k + 1) → isLt (b i) = true := fun i h1 h2 => by
        by_cases z : i = p + k
        · rw [z]; exact hc
        · exact hd i h1 (by omega)
      obtain ⟨d1, d2, d3⟩ := isLt_t hc
      obtain ⟨ρ', eρ⟩ : ∃ ρ', ρ' = setI (setL ρ 0 34 (Int64.ofNat (wvR b p (k + 1)))) 0 28 (nI (p + (k + 1))) := ⟨_, rfl⟩
      have a1 : frL ρ ρ' := by rw [eρ]; exact frL_trans frL_L (frL_I (by omega))
      obtain ⟨ρ1, c1, c2, c3, c4, c5, c6⟩ := ih fu (k + 1) ρ' (h.fr a1) (by omega) (by omega) (by omega) hd2 (by rw [eρ, mi_setI, if_neg (by omega)]; exact h27) (by rw [eρ, mi_setI, if_pos ⟨rfl, rfl⟩]) (by rw [eρ, ml_setI, ml_setL, if_pos ⟨rfl, rfl⟩])
      rw [rE_yes (by omega) hc]
      refine ⟨ρ1, frL_trans a1 c1, c2, c3, c4, c5, ?_⟩
      rw [if_neg (show ¬ nI true.toNat = 0 by decide), h27, n_sub (by omega), Nat.add_sub_cancel_left, show (8 : Int32) = nI 8 from rfl, i_lt (by omega) (by decide), ← c6]
      have e28 : ∀ v, mi (setL ρ 0 34 v) 0 28 + 1 = nI (p + (k + 1)) := fun v => by rw [mi_setL, h28]; exact n_add _ 1
      unfold pX11_reads_184
      by_cases c : k < 8
      · have e3 : 27 * ml ρ 0 34 + (mi ρ 13 (p + k)).toInt64 - 96 = Int64.ofNat (wvR b p (k + 1)) := by
          rw [h30, h.2 (p + k) (by omega), d1, i64_eq (show 96 + ltv b (p + k) < 2147483648 by omega), show (27 : Int64) = Int64.ofNat 27 from rfl, show (96 : Int64) = Int64.ofNat 96 from rfl, ← Int64.ofNat_mul, ← Int64.ofNat_add, show 27 * wvR b p k + (96 + ltv b (p + k)) = 27 * wvR b p k + ltv b (p + k) + 96 by omega, Int64.ofNat_add (27 * wvR b p k + ltv b (p + k)) 96, Int64.add_sub_cancel, wvR, if_pos c]
        rw [if_pos c, ck_in (by omega) (by decide), n_cl (by omega), e3, nm_def, nm_def, e28, ← eρ]
      · have e3 : (0 : Int64) = Int64.ofNat (wvR b p (k + 1)) := by rw [wvR, if_neg c]; rfl
        rw [if_neg c, e3, nm_def, nm_def, e28, ← eρ]
/-- the token that begins there -/
theorem rX_reads_96 (h : RT ρ b n) (hn : n ≤ 600) (hF : 5000 < F) (hq : q ≤ n) (h27 : mi ρ 0 27 = nI q) (h28 : mi ρ 0 28 = nI (q + 1)) : ∃ ρ1, frL ρ ρ1 ∧ CUR ρ1 b n q ∧ pX11_reads_96 F ρ (nI (if q < n then if b q = 59 then 3 else 4 else 0)) = some ρ1 := by
  obtain ⟨K, eK⟩ : ∃ K, K = (if q < n then if b q = 59 then 3 else 4 else 0) := ⟨_, rfl⟩
  obtain ⟨ρ5, e5⟩ : ∃ ρ5, ρ5 = setI ρ 0 29 (nI K) := ⟨_, rfl⟩
  have a5 : frL ρ ρ5 := by rw [e5]; exact frL_I (by omega)
  have h5 := h.fr a5
  have g27 : mi ρ5 0 27 = nI q := by rw [e5, mi_setI, if_neg (by omega)]; exact h27
  have g28 : mi ρ5 0 28 = nI (q + 1) := by rw [e5, mi_setI, if_neg (by omega)]; exact h28
  have g29 : mi ρ5 0 29 = nI K := by rw [e5, mi_setI, if_pos ⟨rfl, rfl⟩]
  rw [← eK]
  unfold pX11_reads_96 pX11_reads_348
  rw [nm_def, ← e5, g27, rX_isLt h5 hn hq, rX_isDg h5 hn hq, Option.bind_some]
  by_cases c : q < n
  · rw [decide_eq_true c, Bool.true_and, Bool.true_and]
    rw [if_pos c] at eK
    cases hl : isLt (b q)
    · cases hd : isDg (b q)
      · have kE : tkE b n q = q + 1 := by unfold tkE; rw [hl, hd]; rfl
        have kK : tkK b n q = K := by unfold tkK; rw [if_pos c, hl, hd, if_neg (by decide), if_neg (by decide), eK]
        have k34 : K = 3 ∨ K = 4 := by rw [eK]; split <;> omega
        rw [if_pos (show nI false.toNat = 0 from rfl), Option.bind_some, if_pos (show nI false.toNat = 0 from rfl)]
        exact ⟨ρ5, a5, ⟨g27, fun _ => by rw [kE]; exact g28, by rw [kK]; exact g29, fun z => by omega, fun z => by omega⟩, rfl⟩
      · have kE : tkE b n q = rE isDg b n q := by unfold tkE; rw [hl, hd]; rfl
        have kK : tkK b n q = if rE isDg b n q - q ≤ 2 then 2 else 4 := by unfold tkK; rw [if_pos c, hl, hd, if_neg (by decide), if_pos rfl]
        obtain ⟨ρ9, e9⟩ : ∃ ρ9, ρ9 = setI (setI ρ5 0 30 0) 0 28 (nI q) := ⟨_, rfl⟩
        have a9 : frL ρ5 ρ9 := by rw [e9]; exact frL_trans (frL_I (by omega)) (frL_I (by omega))
        obtain ⟨ρ1, c1, c2, c3, c4, c5, c6⟩ := rX_reads_254 (b := b) (p := q) (F := F) hn (n - q) F 0 ρ9 (h5.fr a9) rfl (by omega) (by omega) (fun i h1 h2 => by omega) (by rw [e9, mi_setI, if_neg (by omega), mi_setI, if_neg (by omega)]; exact g27) (by rw [e9, mi_setI, if_pos ⟨rfl, rfl⟩]; rfl) (by rw [e9, mi_setI, if_neg (by omega), mi_setI, if_pos ⟨rfl, rfl⟩]; rfl)
        rw [Nat.add_zero] at c3 c4 c5
        refine ⟨ρ1, frL_trans a5 (frL_trans a9 c1), ⟨c2, fun _ => by rw [kE]; exact c3, by rw [kK]; exact c5, fun z => ?_, fun z => ?_⟩, ?_⟩
        · rw [kK] at z
          have z2 : rE isDg b n q - q ≤ 2 := by
            by_cases y : rE isDg b n q - q ≤ 2
            · exact y
            · rw [if_neg y] at z; omega
          have hge := rE_ge (P := isDg) (b := b) (n := n) (p := q)
          rw [kE, c4, (nv_eq (b := b) (p := q) (k := rE isDg b n q - q) (fun i h1 h2 => rE_all (n := n) h1 (by omega)) z2).1]
        · rw [kK] at z
          split at z <;> omega
        · have e0 : mi (setI ρ5 0 30 0) 0 27 = nI q := by rw [mi_setI, if_neg (by omega)]; exact g27
          rw [if_pos (show nI false.toNat = 0 from rfl), Option.bind_some, if_neg (show ¬ nI true.toNat = 0 by decide), nm_def, nm_def, e0, ← e9]
          exact c6
    · have kE : tkE b n q = rE isLt b n q := by unfold tkE; rw [hl]; rfl
      have kK : tkK b n q = if rE isLt b n q - q ≤ 8 then 1 else 4 := by unfold tkK; rw [if_pos c, hl, if_pos rfl]
      obtain ⟨ρ9, e9⟩ : ∃ ρ9, ρ9 = setI (setL ρ5 0 34 0) 0 28 (nI q) := ⟨_, rfl⟩
      have a9 : frL ρ5 ρ9 := by rw [e9]; exact frL_trans frL_L (frL_I (by omega))
      obtain ⟨ρ1, c1, c2, c3, c4, c5, c6⟩ := rX_reads_127 (b := b) (p := q) (F := F) hn (n - q) F 0 ρ9 (h5.fr a9) rfl (by omega) (by omega) (fun i h1 h2 => by omega) (by rw [e9, mi_setI, if_neg (by omega)]; exact g27) (by rw [e9, mi_setI, if_pos ⟨rfl, rfl⟩]; rfl) (by rw [e9, ml_setI, ml_setL, if_pos ⟨rfl, rfl⟩]; rfl)
      rw [Nat.add_zero] at c3 c4 c5
      refine ⟨ρ1, frL_trans a5 (frL_trans a9 c1), ⟨c2, fun _ => by rw [kE]; exact c3, by rw [kK]; exact c5, fun z => ?_, fun z => by rw [kE]; exact c4⟩, ?_⟩
      · rw [kK] at z
        split at z <;> omega
      · have e0 : mi (setL ρ5 0 34 0) 0 27 = nI q := g27
        rw [if_neg (show ¬ nI true.toNat = 0 by decide), nm_def, nm_def, e0, ← e9]
        exact c6
  · have kK : tkK b n q = 0 := by unfold tkK; rw [if_neg c]
    rw [if_neg c] at eK
    rw [decide_eq_false c, Bool.false_and, Bool.false_and, if_pos (show nI false.toNat = 0 from rfl), Option.bind_some, if_pos (show nI false.toNat = 0 from rfl)]
    exact ⟨ρ5, a5, ⟨g27, fun z => absurd z c, by rw [kK]; rw [eK] at g29; exact g29, fun z => by omega, fun z => by omega⟩, rfl⟩
theorem rX_reads_8 (hn : n ≤ 600) (hF : 5000 < F) : ∀ (r fu p : Nat) (ρ : Mem), RT ρ b n → n - p = r → p ≤ n → r < fu → mi ρ 0 27 = nI p → ∃ ρ1, frL ρ ρ1 ∧ CUR ρ1 b n (rE isBl b n p) ∧ pX11_reads_8 F fu ρ = some ρ1 := by
  intro r
  have fin : ∀ (fu p : Nat) (ρ : Mem), RT ρ b n → p ≤ n → mi ρ 0 27 = nI p → (decide (p < n) && isBl (b p)) = false → ∃ ρ1, frL ρ ρ1 ∧ CUR ρ1 b n p ∧ pX11_reads_8 F (fu + 1) ρ = some ρ1 := fun fu p ρ h hp h27 hb => by
    have e1 : (decide (p < n) && decide (32 ≤ ag (b p) ∧ ag (b p) ≤ 32)) = false ∧ (decide (p < n) && decide (10 ≤ ag (b p) ∧ ag (b p) ≤ 10)) = false := by
      rw [isBl_ag] at hb
      revert hb
      generalize decide (p < n) = c0
      cases c0
      · intro _; exact ⟨rfl, rfl⟩
      · intro hb
        rw [Bool.true_and, Bool.or_eq_false_iff] at hb
        rw [Bool.true_and, Bool.true_and]
        exact hb
    have i32 : pX11_isOf ρ (nI p) 32 32 = _ := rX_isOf (lo := 32) (hi := 32) h hn hp (by decide) (by decide)
    have i10 : pX11_isOf ρ (nI p) 10 10 = _ := rX_isOf (lo := 10) (hi := 10) h hn hp (by decide) (by decide)
    rw [e1.1] at i32
    rw [e1.2] at i10
    obtain ⟨ρ4, e4⟩ : ∃ ρ4, ρ4 = setI ρ 0 28 (nI (p + 1)) := ⟨_, rfl⟩
    have a4 : frL ρ ρ4 := by rw [e4]; exact frL_I (by omega)
    have g27 : mi ρ4 0 27 = nI p := by rw [e4, mi_setI, if_neg (by omega)]; exact h27
    obtain ⟨ρ1, c1, c2, c3⟩ := rX_reads_96 (F := F) (h.fr a4) hn hF hp g27 (by rw [e4, mi_setI, if_pos ⟨rfl, rfl⟩])
    refine ⟨ρ1, frL_trans a4 c1, c2, ?_⟩
    rw [pX11_reads_8, h27, i32, Option.bind_some, if_pos (show nI false.toNat = 0 from rfl), i10, Option.bind_some, if_pos (show nI false.toNat = 0 from rfl), show nI p + 1 = nI (p + 1) from n_add p 1, nm_def, ← e4, g27, (h.fr a4).1, i_lt (by omega) (by omega), ← c3]
    by_cases c : p < n
    · rw [if_pos c, if_pos c, ck_in (by omega) (by decide), n_cl (by omega), (h.fr a4).2 p c]
      by_cases d : b p = 59
      · rw [if_pos d, if_pos d]; rfl
      · rw [if_neg d, if_neg d]; rfl
    · rw [if_neg c, if_neg c]; rfl
  induction r with
  | zero =>
    intro fu p ρ h hr hp hf h27
    obtain ⟨fu, rfl⟩ : ∃ f, fu = f + 1 := ⟨fu - 1, by omega⟩
    rw [rE_end (by omega)]
    exact fin fu p ρ h hp h27 (by rw [decide_eq_false (show ¬ p < n by omega)]; rfl)
  | succ r ih =>
    intro fu p ρ h hr hp hf h27
    obtain ⟨fu, rfl⟩ : ∃ f, fu = f + 1 := ⟨fu - 1, by omega⟩
    cases hc : isBl (b p)
    · rw [rE_no hc]
      exact fin fu p ρ h hp h27 (by rw [hc, Bool.and_false])
    · rw [rE_yes (by omega) hc]
      obtain ⟨ρ4, e4⟩ : ∃ ρ4, ρ4 = setI ρ 0 27 (nI (p + 1)) := ⟨_, rfl⟩
      have a4 : frL ρ ρ4 := by rw [e4]; exact frL_I (by omega)
      obtain ⟨ρ1, c1, c2, c3⟩ := ih fu (p + 1) ρ4 (h.fr a4) (by omega) (by omega) (by omega) (by rw [e4, mi_setI, if_pos ⟨rfl, rfl⟩])
      refine ⟨ρ1, frL_trans a4 c1, c2, ?_⟩
      have i32 : pX11_isOf ρ (nI p) 32 32 = _ := rX_isOf (lo := 32) (hi := 32) h hn hp (by decide) (by decide)
      have i10 : pX11_isOf ρ (nI p) 10 10 = _ := rX_isOf (lo := 10) (hi := 10) h hn hp (by decide) (by decide)
      rw [decide_eq_true (show p < n by omega), Bool.true_and] at i32 i10
      rw [isBl_ag] at hc
      have e38 : pX11_reads_38 F (pX11_reads_8 F fu) ρ = some ρ1 := by
        unfold pX11_reads_38
        rw [h27, show nI p + 1 = nI (p + 1) from n_add p 1, nm_def, ← e4, c3]
      rw [pX11_reads_8, h27, i32, Option.bind_some, i10, Option.bind_some, e38]
      cases h1 : decide (32 ≤ ag (b p) ∧ ag (b p) ≤ 32)
      · rw [h1, Bool.false_or] at hc
        rw [hc, if_pos (show nI false.toNat = 0 from rfl), if_neg (show ¬ nI true.toNat = 0 by decide)]
      · rw [if_neg (show ¬ nI true.toNat = 0 by decide)]
theorem rX_reads (h : RT ρ b n) (hn : n ≤ 600) (hF : 5000 < F) (hp : p ≤ n) (h28 : mi ρ 0 28 = nI p) : ∃ ρ1, frL ρ ρ1 ∧ CUR ρ1 b n (rE isBl b n p) ∧ pX11_reads F ρ = some ρ1 := by
  obtain ⟨ρ1, c1, c2, c3⟩ := rX_reads_8 (b := b) (F := F) hn hF (n - p) F p (setI ρ 0 27 (nI p)) (h.fr (frL_I (by omega))) rfl hp (by omega) (by rw [mi_setI, if_pos ⟨rfl, rfl⟩])
  refine ⟨ρ1, frL_trans (frL_I (by omega)) c1, c2, ?_⟩
  unfold pX11_reads
  rw [h28, nm_def, c3]
end RDS
