/-! LOAD: where both readers stand, what one token does -/
def g0 : Gm := (0, fun _ => 2, fun _ => 0, fun _ _ => 0)
def GX (κ : Mem) (G : Gm) : Prop := mi κ 9 0 = nI (Gn G) ∧ ∀ p, p < 6 → mi κ 10 p = nI (Gh G p) ∧ mi κ 11 p = nI (Gs G p) ∧ ∀ σ, σ < 1024 → tol κ 9 p σ = Gt G p σ
def GR (ρ : Mem) (G : Gm) : Prop := mi ρ 2 0 = nI (Gn G) ∧ ∀ p, p < 6 → (Gn G ≠ 0 → mi ρ 2 (1 + p) = nI (Gh G p)) ∧ mi ρ 2 (7 + p) = nI (Gs G p) ∧ ∀ σ, σ < 1024 → mi ρ 2 (13 + 1024 * p + σ) = nI (Gt G p σ)
def fX (c : Nat) : Prop := (9 ≤ c ∧ c ≤ 12) ∨ c = 138 ∨ c = 139
def frR (ρ ρ1 : Mem) : Prop := (∀ k, k ≠ 0 → k ≠ 2 → ρ1.1 k = ρ.1 k ∧ ρ1.2.1 k = ρ.2.1 k ∧ ρ1.2.2 k = ρ.2.2 k) ∧ ∀ i, ¬ (25 ≤ i ∧ i ≤ 33 ∧ i ≠ 31) → mi ρ1 0 i = mi ρ 0 i
def frC (ρ ρ1 : Mem) : Prop := (∀ k, k ≠ 0 → ρ1.1 k = ρ.1 k ∧ ρ1.2.1 k = ρ.2.1 k ∧ ρ1.2.2 k = ρ.2.2 k) ∧ ∀ i, ¬ (25 ≤ i ∧ i ≤ 33 ∧ i ≠ 31) → mi ρ1 0 i = mi ρ 0 i
def ST (b : Nat → Int32) (n : Nat) (κ ρ : Mem) : Prop := n ≤ 600 ∧ TK κ b n ∧ RT ρ b n ∧ IWd ρ
def tK (b : Nat → Int32) (n k : Nat) : Nat := tkK b n (tkP b n k)
def tV (b : Nat → Int32) (n k : Nat) : Nat := tkV b n (tkP b n k)
def AT (b : Nat → Int32) (n : Nat) (κ ρ : Mem) (k : Nat) : Prop := (k ≤ tkN b n ∧ mi κ 138 4 = nI k ∧ CUR ρ b n (tkP b n k)) ∧ mi ρ 0 25 = nI 0 ∧ mi κ 138 1 = nI 0 ∧ mi κ 138 2 = -1
def GM (κ ρ : Mem) (G : Gm) (hm gm : Nat) : Prop := GX κ G ∧ GR ρ G ∧ (WF G ∧ (Gn G = 0 → G = g0) ∧ (gm = 0 → ∀ p σ, Gt G p σ = 0)) ∧ (hm < 64 ∧ mi κ 138 7 = nI hm ∧ mi ρ 0 32 = nI hm) ∧ (gm < 64 ∧ mi κ 138 8 = nI gm ∧ mi ρ 0 33 = nI gm)
def XB (κ : Mem) (f pl : Nat) : Prop := mi κ 138 1 = nI f ∧ mi κ 138 2 = nI pl
def RB (ρ : Mem) (f pl : Nat) : Prop := (0 < f ∧ f < 5) ∧ mi ρ 0 25 = nI f ∧ mi ρ 0 26 = nI pl
def BAD (κ ρ : Mem) : Prop := ∃ f pl, pl ≤ 600 ∧ XB κ f pl ∧ RB ρ f pl
/-- the fault of a token that can't be a number that is asked for -/
def erf (K : Nat) : Nat := if K = 4 then 1 else if K = 2 then 3 else 2
section LDT
variable {κ κ1 κ2 ρ ρ1 ρ2 : Mem} {b : Nat → Int32} {n k f pl lo hi F p q j bm : Nat} {G : Gm} {x c w : Int32} {hm gm : Nat}
theorem frR_rfl : frR ρ ρ := ⟨fun _ _ _ => ⟨rfl, rfl, rfl⟩, fun _ _ => rfl⟩
theorem frR_trans (h : frR ρ ρ1) (h2 : frR ρ1 ρ2) : frR ρ ρ2 := ⟨fun k h0 h1 => ⟨(h2.1 k h0 h1).1.trans (h.1 k h0 h1).1, (h2.1 k h0 h1).2.1.trans (h.1 k h0 h1).2.1, (h2.1 k h0 h1).2.2.trans (h.1 k h0 h1).2.2⟩, fun i hi => (h2.2 i hi).trans (h.2 i hi)⟩
theorem frR_I {i : Nat} (h : 25 ≤ i ∧ i ≤ 33 ∧ i ≠ 31) : frR ρ (setI ρ 0 i x) := ⟨fun k hk _ => ⟨by simp [setI, hk], rfl, rfl⟩, fun j hj => by rw [mi_setI, if_neg (by omega)]⟩
theorem frR_2 {i : Nat} : frR ρ (setI ρ 2 i x) := ⟨fun k _ hk => ⟨by simp [setI, hk], rfl, rfl⟩, fun j hj => by rw [mi_setI, if_neg (by omega)]⟩
theorem frR_L (h : frL ρ ρ1) : frR ρ ρ1 := ⟨fun k h0 _ => h.1 k h0, fun i hi => h.2 i (by omega)⟩
theorem frC_rfl : frC ρ ρ := ⟨fun _ _ => ⟨rfl, rfl, rfl⟩, fun _ _ => rfl⟩
theorem frC_trans (h : frC ρ ρ1) (h2 : frC ρ1 ρ2) : frC ρ ρ2 := ⟨fun k h0 => ⟨(h2.1 k h0).1.trans (h.1 k h0).1, (h2.1 k h0).2.1.trans (h.1 k h0).2.1, (h2.1 k h0).2.2.trans (h.1 k h0).2.2⟩, fun i hi => (h2.2 i hi).trans (h.2 i hi)⟩
theorem frC_I {i : Nat} (h : 25 ≤ i ∧ i ≤ 33 ∧ i ≠ 31) : frC ρ (setI ρ 0 i x) := ⟨fun k hk => ⟨by simp [setI, hk], rfl, rfl⟩, fun j hj => by rw [mi_setI, if_neg (by omega)]⟩
theorem frC_L (h : frL ρ ρ1) : frC ρ ρ1 := ⟨fun k h0 => h.1 k h0, fun i hi => h.2 i (by omega)⟩
theorem frC.R (h : frC ρ ρ1) : frR ρ ρ1 := ⟨fun k h0 _ => h.1 k h0, h.2⟩
theorem frC.mi2 (h : frC ρ ρ1) {k : Nat} (h0 : k ≠ 0) (i : Nat) : mi ρ1 k i = mi ρ k i := congrFun (h.1 k h0).1 i
theorem ST.fr (h : ST b n κ ρ) (hx : agr fX κ κ1) (hr : frR ρ ρ1) : ST b n κ1 ρ1 := by
  obtain ⟨h1, h2, h3, h4⟩ := h
  refine ⟨h1, fun k hk => ?_, ⟨(hr.2 31 (by omega)).trans h3.1, fun i hi => (congrFun (hr.1 13 (by decide) (by decide)).1 i).trans (h3.2 i hi)⟩, fun i hi => (congrFun (hr.1 14 (by decide) (by decide)).2.1 i).trans (h4 i hi)⟩
  obtain ⟨a1, a2, a3⟩ := h2 k hk
  exact ⟨(agr_mi hx (by unfold fX; omega) k).trans a1, (agr_mi hx (by unfold fX; omega) k).trans a2, fun z => (agr_mi hx (by unfold fX; omega) k).trans (a3 z)⟩
theorem GX.fr (h : GX κ G) (ha : agr (fun c => c = 138 ∨ c = 139) κ κ1) : GX κ1 G := ⟨(agr_mi ha (by omega) 0).trans h.1, fun p hp => ⟨(agr_mi ha (by omega) p).trans (h.2 p hp).1, (agr_mi ha (by omega) p).trans (h.2 p hp).2.1, fun σ hσ => by
  unfold tol
  rw [agr_ml ha (by omega)]
  exact (h.2 p hp).2.2 σ hσ⟩⟩
theorem GR.mv (h : GR ρ G) (hc : ∀ i, mi ρ1 2 i = mi ρ 2 i) : GR ρ1 G := ⟨(hc 0).trans h.1, fun p hp => ⟨fun z => (hc _).trans ((h.2 p hp).1 z), (hc _).trans (h.2 p hp).2.1, fun σ hσ => (hc _).trans ((h.2 p hp).2.2 σ hσ)⟩⟩
theorem GR.fr (h : GR ρ G) (hr : frL ρ ρ1) : GR ρ1 G := h.mv (fun i => congrFun (hr.1 2 (by decide)).1 i)
theorem GX.xg (h : GX κ G) (hw : WF G) : XG κ 9 G := ⟨h.1, fun p hp => (h.2 p (hw_lt hw hp)).1, fun p hp => (h.2 p (hw_lt hw hp)).2.1, fun p hp σ hσ => (h.2 p (hw_lt hw hp)).2.2 σ (Nat.lt_of_lt_of_le hσ (sit_le hw hp))⟩
theorem GR.rg (h : GR ρ G) (hw : WF G) : RG ρ 2 G := by
  refine ⟨h.1, fun p hp => (h.2 p (hw_lt hw hp)).1 (by omega), fun p hp => (h.2 p (hw_lt hw hp)).2.1, fun p hp σ hσ => ?_⟩
  exact (h.2 p (hw_lt hw hp)).2.2 σ (Nat.lt_of_lt_of_le hσ (sit_le hw hp))
theorem GM.fr (h : GM κ ρ G hm gm) (ha : agr (fun c => c = 138 ∨ c = 139) κ κ1) (h7 : mi κ1 138 7 = mi κ 138 7) (h8 : mi κ1 138 8 = mi κ 138 8) (hr : frL ρ ρ1) : GM κ1 ρ1 G hm gm := ⟨h.1.fr ha, h.2.1.fr hr, h.2.2.1, ⟨h.2.2.2.1.1, h7.trans h.2.2.2.1.2.1, (hr.2 32 (by omega)).trans h.2.2.2.1.2.2⟩, ⟨h.2.2.2.2.1, h8.trans h.2.2.2.2.2.1, (hr.2 33 (by omega)).trans h.2.2.2.2.2.2⟩⟩
theorem ST.n6 (h : ST b n κ ρ) : n ≤ 600 := h.1
theorem tP_le (h : ST b n κ ρ) : tkP b n k ≤ 600 := Nat.le_trans (tkP_le k) h.1
theorem tN_le (h : ST b n κ ρ) : tkN b n ≤ 600 := by
  have h1 : tkN b n < n + 1 := tkN_lt
  have := h.1
  omega
theorem ST.K (h : ST b n κ ρ) (hk : k ≤ tkN b n) : mi κ 141 k = nI (tK b n k) := (h.2.1 k hk).1
theorem ST.P (h : ST b n κ ρ) (hk : k ≤ tkN b n) : mi κ 142 k = nI (tkP b n k) := (h.2.1 k hk).2.1
theorem ST.V (h : ST b n κ ρ) (hk : k ≤ tkN b n) (z : tK b n k = 1 ∨ tK b n k = 2) : mi κ 143 k = nI (tV b n k) := (h.2.1 k hk).2.2 z
theorem tK_5 : tK b n k < 5 := by
  unfold tK tkK
  split
  · split
    · split <;> omega
    · split
      · split <;> omega
      · split <;> omega
  · omega
theorem tV_2 (h : tK b n k = 2) : tV b n k = nvX b (tkP b n k) (tkE b n (tkP b n k) - tkP b n k) ∧ tV b n k < 100 := by
  have e : tV b n k = nvX b (tkP b n k) (tkE b n (tkP b n k) - tkP b n k) := if_neg (fun z => by
    have h2 : tkK b n (tkP b n k) = 2 := h
    omega)
  exact ⟨e, by rw [e]; exact nvX_lt _⟩
theorem tV_1 (h : tK b n k = 1) : tV b n k = wvX b (tkP b n k) (tkE b n (tkP b n k)) := if_pos h
theorem tK_lt (hk : k ≤ tkN b n) (h : tK b n k ≠ 0) : tkP b n k < n ∧ k + 1 ≤ tkN b n := by
  have h1 : tkP b n k < n := by
    apply Classical.byContradiction
    intro z
    exact h (by unfold tK tkK; rw [if_neg z])
  refine ⟨h1, ?_⟩
  rcases Nat.lt_or_ge k (tkN b n) with z | z
  · exact z
  · have : k = tkN b n := by omega
    rw [this, tkN_at] at h1
    omega
-- the class
theorem xL_misplaced (hs : ST b n κ ρ) (hk : k ≤ tkN b n) (h4 : mi κ 138 4 = nI k) : ∃ κ1, agr fX κ κ1 ∧ XB κ1 (if tK b n k = 4 then 1 else 2) (tkP b n k) ∧ pX6_misplaced κ = some (nI 0, κ1) := by
  have hn := tN_le hs
  have k5 := tK_5 (b := b) (n := n) (k := k)
  have e4 : ∀ v, mi (setI κ 138 1 v) 138 4 = nI k := fun v => by rw [mi_setI, if_neg (by omega)]; exact h4
  have ep : ∀ v, mi (setI κ 138 1 v) 142 k = nI (tkP b n k) := fun v => by rw [mi_setI, if_neg (by omega)]; exact hs.P hk
  have fin : ∀ f, pX6_misplaced_22 κ (nI f) = some (nI 0, setI (setI κ 138 1 (nI f)) 138 2 (nI (tkP b n k))) := fun f => by
    unfold pX6_misplaced_22
    rw [nm_def, e4, ck_in (by omega) (by decide), n_cl (by omega), ep]
    rfl
  refine ⟨setI (setI κ 138 1 (nI (if tK b n k = 4 then 1 else 2))) 138 2 (nI (tkP b n k)), agr_trans (agr_setI (Or.inr (Or.inl rfl))) (agr_setI (Or.inr (Or.inl rfl))), ⟨by rw [mi_setI, if_neg (by omega), mi_setI, if_pos ⟨rfl, rfl⟩], by rw [mi_setI, if_pos ⟨rfl, rfl⟩]⟩, ?_⟩
  unfold pX6_misplaced
  rw [h4, ck_in (by omega) (by decide), n_cl (by omega), hs.K hk, show (4 : Int32) = nI 4 from rfl, i_eq (by omega) (by decide)]
  by_cases c : tK b n k = 4
  · rw [if_pos c, if_pos c]; exact fin 1
  · rw [if_neg c, if_neg c]; exact fin 2
theorem xL_fail (hs : ST b n κ ρ) (hj : j ≤ tkN b n) (f : Nat) : ∃ κ1, agr fX κ κ1 ∧ XB κ1 f (tkP b n j) ∧ pX6_fail κ (nI f) (nI j) = some (nI 0, κ1) := by
  have hn := tN_le hs
  have ep : ∀ v, mi (setI κ 138 1 v) 142 j = nI (tkP b n j) := fun v => by rw [mi_setI, if_neg (by omega)]; exact hs.P hj
  refine ⟨setI (setI κ 138 1 (nI f)) 138 2 (nI (tkP b n j)), agr_trans (agr_setI (Or.inr (Or.inl rfl))) (agr_setI (Or.inr (Or.inl rfl))), ⟨by rw [mi_setI, if_neg (by omega), mi_setI, if_pos ⟨rfl, rfl⟩], by rw [mi_setI, if_pos ⟨rfl, rfl⟩]⟩, ?_⟩
  unfold pX6_fail
  rw [nm_def, ck_in (by omega) (by decide), n_cl (by omega), ep]
  rfl
theorem xL_number_t (hs : ST b n κ ρ) (hk : k ≤ tkN b n) (h4 : mi κ 138 4 = nI k) (hK : tK b n k = 2) (hlo : lo ≤ tV b n k) (hhi : tV b n k ≤ hi) (hh : hi < 2147483648) : pX6_readNumber κ (nI lo) (nI hi) = some (nI 1, setI (setI κ 138 5 (nI (tV b n k))) 138 4 (nI (k + 1))) := by
  have hn := tN_le hs
  have hv := (tV_2 hK).2
  have e5 : ∀ v, mi (setI κ 138 5 v) 138 5 = v := fun v => by rw [mi_setI, if_pos ⟨rfl, rfl⟩]
  have e4 : ∀ v, mi (setI κ 138 5 v) 138 4 = nI k := fun v => by rw [mi_setI, if_neg (by omega)]; exact h4
  unfold pX6_readNumber
  rw [h4, ck_in (by omega) (by decide), ck_in (by omega) (by decide), n_cl (by omega), hs.K hk, hK, if_pos (show nI 2 = 2 from rfl), hs.V hk (Or.inr hK), nm_def, e5, e4, i_lt (by omega) (by omega), if_neg (by omega), i_le (by omega) (by omega), if_pos hhi, show nI k + 1 = nI (k + 1) from n_add k 1]
  rfl
theorem xL_number_f (hs : ST b n κ ρ) (hk : k ≤ tkN b n) (h4 : mi κ 138 4 = nI k) (hb : ¬ (tK b n k = 2 ∧ lo ≤ tV b n k ∧ tV b n k ≤ hi)) (hl : lo < 2147483648) (hh : hi < 2147483648) : ∃ κ1, agr fX κ κ1 ∧ XB κ1 (erf (tK b n k)) (tkP b n k) ∧ pX6_readNumber κ (nI lo) (nI hi) = some (nI 0, κ1) := by
  have hn := tN_le hs
  have k5 := tK_5 (b := b) (n := n) (k := k)
  unfold pX6_readNumber
  rw [h4, ck_in (by omega) (by decide), ck_in (by omega) (by decide), n_cl (by omega), hs.K hk, show (2 : Int32) = nI 2 from rfl, i_eq (by omega) (by decide)]
  by_cases c : tK b n k = 2
  · have hv := (tV_2 c).2
    have e5 : ∀ v, mi (setI κ 138 5 v) 138 5 = v := fun v => by rw [mi_setI, if_pos ⟨rfl, rfl⟩]
    have e4 : ∀ v, mi (setI κ 138 5 v) 138 4 = nI k := fun v => by rw [mi_setI, if_neg (by omega)]; exact h4
    obtain ⟨κ1, a1, a2, a3⟩ := xL_fail (κ := setI κ 138 5 (nI (tV b n k))) (hs.fr (agr_setI (Or.inr (Or.inl rfl))) frR_rfl) hk 3
    have e53 : pX6_readNumber_53 (setI κ 138 5 (nI (tV b n k))) = some (nI 0, κ1) := by
      unfold pX6_readNumber_53
      rw [e4, show (3 : Int32) = nI 3 from rfl, a3]
      rfl
    refine ⟨κ1, agr_trans (agr_setI (Or.inr (Or.inl rfl))) a1, by unfold erf; rw [c, if_neg (by decide), if_pos rfl]; exact a2, ?_⟩
    rw [if_pos c, hs.V hk (Or.inr c), nm_def, e5, e53, i_lt (by omega) (by omega), i_le (by omega) (by omega)]
    by_cases d : tV b n k < lo
    · rw [if_pos d]
    · rw [if_neg d, if_neg (by omega)]
  · obtain ⟨κ1, a1, a2, a3⟩ := xL_misplaced hs hk h4
    refine ⟨κ1, a1, by unfold erf; rw [if_neg c]; exact a2, ?_⟩
    rw [if_neg c, a3]
    rfl
theorem isB_0 : isB (nI 0) = true := by decide
theorem isB_1 : isB (nI 1) = true := by decide
theorem xL_player_t (hs : ST b n κ ρ) (hk : k ≤ tkN b n) (h4 : mi κ 138 4 = nI k) (h9 : mi κ 9 0 = nI q) (hq : q ≤ 6) (hK : tK b n k = 2) (hv : tV b n k < q) : pX6_readPlayer κ = some (nI 1, setI (setI κ 138 5 (nI (tV b n k))) 138 4 (nI (k + 1))) := by
  unfold pX6_readPlayer
  rw [h9, show (0 : Int32) = nI 0 from rfl, show (1 : Int32) = nI 1 from rfl, n_sub (by omega), xL_number_t hs hk h4 hK (Nat.zero_le _) (show tV b n k ≤ q - 1 by omega) (by omega)]
  rfl
theorem xL_player_f (hs : ST b n κ ρ) (hk : k ≤ tkN b n) (h4 : mi κ 138 4 = nI k) (h9 : mi κ 9 0 = nI q) (h1 : 1 ≤ q) (hq : q ≤ 6) (hb : ¬ (tK b n k = 2 ∧ tV b n k < q)) : ∃ κ1, agr fX κ κ1 ∧ XB κ1 (erf (tK b n k)) (tkP b n k) ∧ pX6_readPlayer κ = some (nI 0, κ1) := by
  obtain ⟨κ1, a1, a2, a3⟩ := xL_number_f (lo := 0) (hi := q - 1) hs hk h4 (fun z => hb ⟨z.1, by omega⟩) (by decide) (by omega)
  refine ⟨κ1, a1, a2, ?_⟩
  unfold pX6_readPlayer
  rw [h9, show (0 : Int32) = nI 0 from rfl, show (1 : Int32) = nI 1 from rfl, n_sub h1, a3]
  rfl
theorem xL_sign_t (hs : ST b n κ ρ) (hk : k ≤ tkN b n) (h4 : mi κ 138 4 = nI k) (hK : tK b n k = 3) : pX6_readSign κ = some (nI 1, setI κ 138 4 (nI (k + 1))) := by
  have hn := tN_le hs
  unfold pX6_readSign
  rw [h4, ck_in (by omega) (by decide), n_cl (by omega), hs.K hk, hK, if_pos (show nI 3 = 3 from rfl), show nI k + 1 = nI (k + 1) from n_add k 1]
  rfl
theorem xL_sign_f (hs : ST b n κ ρ) (hk : k ≤ tkN b n) (h4 : mi κ 138 4 = nI k) (hK : ¬ tK b n k = 3) : ∃ κ1, agr fX κ κ1 ∧ XB κ1 (if tK b n k = 4 then 1 else 2) (tkP b n k) ∧ pX6_readSign κ = some (nI 0, κ1) := by
  have hn := tN_le hs
  have k5 := tK_5 (b := b) (n := n) (k := k)
  obtain ⟨κ1, a1, a2, a3⟩ := xL_misplaced hs hk h4
  refine ⟨κ1, a1, a2, ?_⟩
  unfold pX6_readSign
  rw [h4, ck_in (by omega) (by decide), n_cl (by omega), hs.K hk, show (3 : Int32) = nI 3 from rfl, i_eq (by omega) (by decide), if_neg hK, a3]
  rfl
theorem xL_word (hs : ST b n κ ρ) (hk : k ≤ tkN b n) (h4 : mi κ 138 4 = nI k) : pX6_wordHere κ = some (nI (if tK b n k = 1 then tV b n k else 0)) := by
  have hn := tN_le hs
  have k5 := tK_5 (b := b) (n := n) (k := k)
  unfold pX6_wordHere pX6_wordHere_32
  rw [h4, ck_in (by omega) (by decide), ck_in (by omega) (by decide), n_cl (by omega), hs.K hk, show (1 : Int32) = nI 1 from rfl, i_eq (by omega) (by decide)]
  by_cases c : tK b n k = 1
  · rw [if_pos c, if_pos c, hs.V hk (Or.inl c)]
  · rw [if_neg c, if_neg c]
    rfl
-- the reference
theorem rL_must_t (hc : ¬ c = 0) : pX11_must ρ c w = some ρ := by
  unfold pX11_must pX11_must_11
  rw [if_neg hc]
theorem rL_must_b (h : RB ρ f pl) : pX11_must ρ c w = some ρ := by
  obtain ⟨⟨h1, h2⟩, h3, _⟩ := h
  unfold pX11_must pX11_must_11
  rw [h3, show (0 : Int32) = nI 0 from rfl, i_le (by omega) (by decide), if_neg (show ¬ f ≤ 0 by omega)]
  split <;> rfl
theorem rL_must_f {K : Nat} (h : mi ρ 0 25 = nI 0) (h27 : mi ρ 0 27 = nI pl) (h29 : mi ρ 0 29 = nI K) (hK : K < 5) {v : Nat} (hv : 0 < v ∧ v < 5) : ∃ ρ1, frC ρ ρ1 ∧ RB ρ1 (if v = 2 ∧ K = 4 then 1 else v) pl ∧ (∀ i, i ≠ 25 → i ≠ 26 → mi ρ1 0 i = mi ρ 0 i) ∧ pX11_must ρ (nI 0) (nI v) = some ρ1 := by
  have e27 : ∀ y, mi (setI ρ 0 25 y) 0 27 = nI pl := fun y => by rw [mi_setI, if_neg (by omega)]; exact h27
  have fin : ∀ f, pX11_must_31 ρ (nI f) = some (setI (setI ρ 0 25 (nI f)) 0 26 (nI pl)) := fun f => by
    unfold pX11_must_31
    rw [nm_def, e27]
    rfl
  refine ⟨setI (setI ρ 0 25 (nI (if v = 2 ∧ K = 4 then 1 else v))) 0 26 (nI pl), frC_trans (frC_I (by omega)) (frC_I (by omega)), ⟨by split <;> omega, by rw [mi_setI, if_neg (by omega), mi_setI, if_pos ⟨rfl, rfl⟩], by rw [mi_setI, if_pos ⟨rfl, rfl⟩]⟩, fun i h1 h2 => by rw [mi_setI, if_neg (fun z => h2 z.2), mi_setI, if_neg (fun z => h1 z.2)], ?_⟩
  unfold pX11_must pX11_must_30
  rw [if_pos (show nI 0 = 0 from rfl), h, if_pos (show nI 0 ≤ 0 by decide), h29, show (2 : Int32) = nI 2 from rfl, show (4 : Int32) = nI 4 from rfl, i_eq (by omega) (by decide), i_eq (by omega) (by decide)]
  by_cases a : v = 2
  · rw [if_pos a]
    by_cases d : K = 4
    · rw [if_pos d, if_pos ⟨a, d⟩]; exact fin 1
    · rw [if_neg d, if_neg (fun z => d z.2)]; exact fin v
  · rw [if_neg a, if_neg (fun z => a z.1)]; exact fin v
theorem rL_good_t (h : mi ρ 0 25 = nI 0) : pX11_good ρ = some (nI 1) := by
  unfold pX11_good pX11_good_12
  rw [h]
  rfl
theorem rL_good_b (h : RB ρ f pl) : pX11_good ρ = some (nI 0) := by
  obtain ⟨⟨h1, h2⟩, h3, _⟩ := h
  unfold pX11_good pX11_good_12
  rw [h3, show (0 : Int32) = nI 0 from rfl, i_eq (by omega) (by decide), if_neg (show ¬ f = 0 by omega)]
  rfl
theorem rL_goesOn_b (h : RB ρ f pl) : pX11_goesOn F ρ = some ρ := by
  unfold pX11_goesOn pX11_goesOn_11
  rw [rL_good_b h]
  rfl
theorem rL_goesOn (hs : ST b n κ ρ) (hF : 5000 < F) (hk : k ≤ tkN b n) (hc : CUR ρ b n (tkP b n k)) (h25 : mi ρ 0 25 = nI 0) (hK : tK b n k ≠ 0) : ∃ ρ1, frL ρ ρ1 ∧ CUR ρ1 b n (tkP b n (k + 1)) ∧ k + 1 ≤ tkN b n ∧ mi ρ1 0 25 = nI 0 ∧ pX11_goesOn F ρ = some ρ1 := by
  obtain ⟨h1, h2⟩ := tK_lt hk hK
  obtain ⟨ρ1, a1, a2, a3⟩ := rX_reads (F := F) (p := tkE b n (tkP b n k)) hs.2.2.1 hs.1 hF (tkE_gt h1).2 (hc.2.1 h1)
  refine ⟨ρ1, a1, by rw [tkP_s h1]; exact a2, h2, (a1.2 25 (by omega)).trans h25, ?_⟩
  unfold pX11_goesOn pX11_goesOn_11
  rw [rL_good_t h25, Option.bind_some, if_neg (show ¬ nI 1 = 0 by decide), a3]
  rfl
theorem rL_isWord (hs : ST b n κ ρ) (hk : k ≤ tkN b n) (hc : CUR ρ b n (tkP b n k)) (h25 : mi ρ 0 25 = nI 0) {w : Nat} (hw : w < 10) : pX11_isWord ρ (nI w) = some (nI (decide (tK b n k = 1 ∧ tV b n k = w + 1)).toNat) := by
  have k5 := tK_5 (b := b) (n := n) (k := k)
  have h29 : mi ρ 0 29 = nI (tK b n k) := hc.2.2.1
  unfold pX11_isWord pX11_isWord_33 pX11_isWord_34
  rw [rL_good_t h25, Option.bind_some, if_neg (show ¬ nI 1 = 0 by decide), h29, show (1 : Int32) = nI 1 from rfl, i_eq (by omega) (by decide)]
  by_cases c : tK b n k = 1
  · obtain ⟨h1, -⟩ := tK_lt hk (show tK b n k ≠ 0 by omega)
    rw [if_pos c, ck_in (by omega) (by decide), n_cl (by omega), hs.2.2.2 w hw, wdsL_eq w hw, hc.2.2.2.2 c]
    have hl : isLt (b (tkP b n k)) = true := by
      have c2 : tkK b n (tkP b n k) = 1 := c
      unfold tkK at c2
      rw [if_pos h1] at c2
      cases z : isLt (b (tkP b n k))
      · rw [z, if_neg (by decide)] at c2
        split at c2
        · split at c2 <;> omega
        · split at c2 <;> omega
      · rfl
    have hE : tkE b n (tkP b n k) = rE isLt b n (tkP b n k) := by unfold tkE; rw [hl, if_pos rfl]
    have h8 : rE isLt b n (tkP b n k) - tkP b n k ≤ 8 := by
      have c2 : tkK b n (tkP b n k) = 1 := c
      unfold tkK at c2
      rw [if_pos h1, hl, if_pos rfl] at c2
      split at c2
      · assumption
      · omega
    have hge := rE_ge (P := isLt) (b := b) (n := n) (p := tkP b n k)
    have hall : ∀ i, tkP b n k ≤ i → i < rE isLt b n (tkP b n k) → isLt (b i) = true := fun i h1 h2 => rE_all (n := n) h1 h2
    have e1 : (lg_cmp (Int64.ofNat (wvR b (tkP b n k) (tkE b n (tkP b n k) - tkP b n k))) (Int64.ofNat (wnL.getD w 0)) = 0) = (tV b n k = w + 1) := by
      rw [lg_eq, tV_1 c, hE, ← wv_iff hw hall hge h8]
      have l1 := wvR_lt (b := b) (p := tkP b n k) (k := rE isLt b n (tkP b n k) - tkP b n k) (fun i h1 h2 => hall i h1 (by omega))
      have l2 := wnL_lt w hw
      have e27 : 27 ^ 8 = 282429536481 := by decide
      apply propext
      constructor
      · intro z
        have z2 := congrArg Int64.toInt z
        rw [Int64.toInt_ofNat_of_lt (by omega), Int64.toInt_ofNat_of_lt (by omega)] at z2
        omega
      · intro z; rw [z]
    simp only [e1]
    by_cases d : tV b n k = w + 1
    · rw [if_pos d, decide_eq_true ⟨c, d⟩]; rfl
    · rw [if_neg d, decide_eq_false (fun z => d z.2)]; rfl
  · rw [if_neg c, decide_eq_false (fun z => c z.1)]
    rfl
theorem rL_isWord_b (h : RB ρ f pl) : pX11_isWord ρ c = some (nI 0) := by
  unfold pX11_isWord pX11_isWord_33 pX11_isWord_34
  rw [rL_good_b h]
  rfl
theorem rL_isIn (ρ : Mem) (x lo hi : Int32) : ∃ t : Bool, pX11_isIn ρ x.toInt64 lo.toInt64 hi.toInt64 = some (nI t.toNat) := ⟨_, rX_isIn ρ x lo hi⟩
end LDT
