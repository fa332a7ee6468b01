/-! TOKENS of a text: where they begin, of what kind they are -/
/-- how far a run goes -/
def rl (P : Int32 → Bool) (b : Nat → Int32) : Nat → Nat → Nat
  | 0, _ => 0
  | r + 1, p => if P (b p) then 1 + rl P b r (p + 1) else 0
def rE (P : Int32 → Bool) (b : Nat → Int32) (n p : Nat) : Nat := p + rl P b (n - p) p
section TKP
variable {P : Int32 → Bool} {b : Nat → Int32} {n p i : Nat}
theorem rE_end (h : n ≤ p) : rE P b n p = p := by
  unfold rE
  rw [show n - p = 0 by omega]
  rfl
theorem rE_no (h : P (b p) = false) : rE P b n p = p := by
  unfold rE
  cases hr : n - p with
  | zero => rfl
  | succ r => rw [rl, h]; rfl
theorem rE_yes (hp : p < n) (h : P (b p) = true) : rE P b n p = rE P b n (p + 1) := by
  unfold rE
  rw [show n - p = (n - (p + 1)) + 1 by omega, rl, if_pos h]
  omega
theorem rl_le : ∀ (r p : Nat), rl P b r p ≤ r
  | 0, _ => Nat.le_refl _
  | r + 1, p => by
    rw [rl]
    have := rl_le r (p + 1)
    split <;> omega
theorem rE_ge : p ≤ rE P b n p := Nat.le_add_right _ _
theorem rE_le (h : p ≤ n) : rE P b n p ≤ n := by
  have := rl_le (P := P) (b := b) (n - p) p
  unfold rE
  omega
theorem rE_in : ∀ (r p : Nat), n - p = r → ∀ i, p ≤ i → i < rE P b n p → P (b i) = true
  | 0, p, hr, i, h1, h2 => by
    rw [rE_end (by omega)] at h2
    omega
  | r + 1, p, hr, i, h1, h2 => by
    cases hc : P (b p)
    · rw [rE_no hc] at h2; omega
    · by_cases e : i = p
      · rw [e]; exact hc
      · rw [rE_yes (by omega) hc] at h2
        exact rE_in r (p + 1) (by omega) i (by omega) h2
theorem rE_all (h1 : p ≤ i) (h2 : i < rE P b n p) : P (b i) = true := rE_in (n - p) p rfl i h1 h2
theorem rE_mid : ∀ (r p : Nat), n - p = r → ∀ i, p ≤ i → i < rE P b n p → rE P b n i = rE P b n p
  | 0, p, hr, i, h1, h2 => by
    rw [rE_end (by omega)] at h2
    omega
  | r + 1, p, hr, i, h1, h2 => by
    by_cases e : i = p
    · rw [e]
    · cases hc : P (b p)
      · rw [rE_no hc] at h2; omega
      · rw [rE_yes (by omega) hc] at h2 ⊢
        exact rE_mid r (p + 1) (by omega) i (by omega) h2
theorem rE_fix (h : p ≤ n) : rE P b n (rE P b n p) = rE P b n p := by
  rcases Nat.lt_or_ge (rE P b n p) n with z | z
  · have key : ∀ (r p : Nat), n - p = r → rE P b n p < n → P (b (rE P b n p)) = false := by
      intro r
      induction r with
      | zero => intro p hr hz; rw [rE_end (by omega)] at hz; omega
      | succ r ih =>
        intro p hr hz
        cases hc : P (b p)
        · rw [rE_no hc]; exact hc
        · rw [rE_yes (by omega) hc] at hz ⊢
          exact ih (p + 1) (by omega) hz
    exact rE_no (key _ p rfl z)
  · exact rE_end z
theorem rE_stop (h : p ≤ n) (hz : rE P b n p < n) : P (b (rE P b n p)) = false := by
  cases hc : P (b (rE P b n p))
  · rfl
  · have h1 := rE_fix (P := P) (b := b) h
    rw [rE_yes hz hc] at h1
    have h2 := rE_ge (P := P) (b := b) (n := n) (p := rE P b n p + 1)
    omega
end TKP
def isLt (x : Int32) : Bool := decide (¬ x < 97 ∧ x ≤ 122)
def isDg (x : Int32) : Bool := decide (¬ x < 48 ∧ x ≤ 57)
def isBl (x : Int32) : Bool := decide (x = 10 ∨ x = 32)
def tkE (b : Nat → Int32) (n p : Nat) : Nat := if isLt (b p) then rE isLt b n p else if isDg (b p) then rE isDg b n p else p + 1
def tkK (b : Nat → Int32) (n p : Nat) : Nat := if p < n then (if isLt (b p) then (if rE isLt b n p - p ≤ 8 then 1 else 4) else if isDg (b p) then (if rE isDg b n p - p ≤ 2 then 2 else 4) else if b p = 59 then 3 else 4) else 0
/-- where the k-th one begins -/
def tkP (b : Nat → Int32) (n : Nat) : Nat → Nat
  | 0 => rE isBl b n 0
  | k + 1 => if tkP b n k < n then rE isBl b n (tkE b n (tkP b n k)) else tkP b n k
def dgv (b : Nat → Int32) (i : Nat) : Nat := (b i).toNatClampNeg - 48
def cv (x : Int32) : Nat := x.toNatClampNeg - 96
def ltv (b : Nat → Int32) (i : Nat) : Nat := cv (b i)
/-- numbers as both sides find them -/
def nvX (b : Nat → Int32) (p : Nat) : Nat → Nat
  | 0 => 0
  | k + 1 => (nvX b p k * 10 + dgv b (p + k)) % 100
def nvR (b : Nat → Int32) (p : Nat) : Nat → Nat
  | 0 => 0
  | k + 1 => if k < 2 then 10 * nvR b p k + dgv b (p + k) else nvR b p k
def wvR (b : Nat → Int32) (p : Nat) : Nat → Nat
  | 0 => 0
  | k + 1 => if k < 8 then 27 * wvR b p k + ltv b (p + k) else 0
/-- a text's own number -/
def cd (d : Nat → Nat) : Nat → Nat
  | 0 => 0
  | k + 1 => 27 * cd d k + d k
def wlen (w : Nat) : Nat := lenJS.getD w 0
def wmt (b : Nat → Int32) (p e w : Nat) : Bool := decide (e - p = wlen w) && alb (fun i => decide (b (p + i) = chJS w i)) (wlen w)
/-- which word: from 1 on, 0 another one -/
def wvX (b : Nat → Int32) (p e : Nat) : Nat := if fnd (wmt b p e) 10 < 10 then fnd (wmt b p e) 10 + 1 else 0
section TKN
variable {b : Nat → Int32} {n p i e k : Nat} {x : Int32}
theorem i32_pos (h : ¬ x < 0) : ∃ k, k < 2147483648 ∧ x = nI k := by
  rcases int_cases x with h1 | h1
  · exact h1
  · exact absurd h1 h
theorem i32_ge (c : Nat) (hc : c < 2147483648) (h : ¬ x < nI c) : ∃ k, k < 2147483648 ∧ x = nI k ∧ c ≤ k := by
  rcases int_cases x with ⟨k, h1, rfl⟩ | h1
  · rw [n_lt h1 hc] at h
    exact ⟨k, h1, rfl, by omega⟩
  · exfalso
    apply h
    rw [Int32.lt_iff_toInt_lt] at h1 ⊢
    rw [nI_toInt hc]
    have : (0 : Int32).toInt = 0 := by decide
    omega
theorem isDg_t (h : isDg (b i) = true) : b i = nI (48 + dgv b i) ∧ dgv b i < 10 := by
  obtain ⟨h1, h2⟩ := of_decide_eq_true h
  obtain ⟨k, h3, h4, h5⟩ := i32_ge (x := b i) 48 (by decide) h1
  have h6 : k ≤ 57 := by
    rw [h4] at h2
    have h7 : (nI k ≤ (57 : Int32)) = (k ≤ 57) := n_le (a := k) (b := 57) h3 (by decide)
    rw [h7] at h2
    exact h2
  unfold dgv
  rw [h4, n_cl h3]
  exact ⟨congrArg nI (by omega), by omega⟩
theorem isLt_t (h : isLt (b i) = true) : b i = nI (96 + ltv b i) ∧ 1 ≤ ltv b i ∧ ltv b i < 27 := by
  obtain ⟨h1, h2⟩ := of_decide_eq_true h
  obtain ⟨k, h3, h4, h5⟩ := i32_ge (x := b i) 97 (by decide) h1
  have h6 : k ≤ 122 := by
    rw [h4] at h2
    have h7 : (nI k ≤ (122 : Int32)) = (k ≤ 122) := n_le (a := k) (b := 122) h3 (by decide)
    rw [h7] at h2
    exact h2
  unfold ltv cv
  rw [h4, n_cl h3]
  exact ⟨congrArg nI (by omega), by omega, by omega⟩
theorem isLt_not_dg (h : isLt x = true) : isDg x = false := by
  obtain ⟨h1, h2⟩ := of_decide_eq_true h
  refine decide_eq_false (fun z => ?_)
  have z2 := z.2
  rw [Int32.lt_iff_toInt_lt] at h1
  rw [Int32.le_iff_toInt_le] at z2
  have e1 : (97 : Int32).toInt = 97 := by decide
  have e2 : (57 : Int32).toInt = 57 := by decide
  omega
theorem nv_eq (h : ∀ i, p ≤ i → i < p + k → isDg (b i) = true) (hk : k ≤ 2) : nvX b p k = nvR b p k ∧ nvR b p k < 100 := by
  match k, hk with
  | 0, _ => exact ⟨rfl, (by decide : 0 < 100)⟩
  | 1, _ =>
    have h1 := (isDg_t (h p (by omega) (by omega))).2
    simp only [nvX, nvR, Nat.add_zero]
    rw [if_pos (by decide)]
    omega
  | 2, _ =>
    have h1 := (isDg_t (h p (by omega) (by omega))).2
    have h2 := (isDg_t (h (p + 1) (by omega) (by omega))).2
    simp only [nvX, nvR, Nat.add_zero]
    rw [if_pos (by decide), if_pos (by decide)]
    omega
  | k + 3, hk => omega
theorem nvX_lt (k : Nat) : nvX b p k < 100 := by
  cases k with
  | zero => exact (by decide : 0 < 100)
  | succ k => rw [nvX]; exact Nat.mod_lt _ (by decide)
theorem nvR_lt (h : ∀ i, p ≤ i → i < p + k → isDg (b i) = true) : nvR b p k < 100 := by
  induction k with
  | zero => exact (by decide : 0 < 100)
  | succ k ih =>
    have h1 := ih (fun i h1 h2 => h i h1 (by omega))
    rw [nvR]
    by_cases z : k < 2
    · have h3 := nv_eq (b := b) (p := p) (k := k + 1) h (by omega)
      rw [nvR, if_pos z] at h3
      rw [if_pos z]
      exact h3.2
    · rw [if_neg z]; exact h1
theorem wvR_cd (hk : k ≤ 8) : wvR b p k = cd (fun i => ltv b (p + i)) k := by
  induction k with
  | zero => rfl
  | succ k ih => rw [wvR, if_pos (by omega), ih (by omega), cd]
theorem cd_lt {d : Nat → Nat} (h : ∀ i, i < k → d i < 27) : cd d k < 27 ^ k := by
  induction k with
  | zero => exact (by decide : 0 < 1)
  | succ k ih =>
    have h1 := ih (fun i hi => h i (by omega))
    have h2 := h k (by omega)
    rw [cd, Nat.pow_succ]
    omega
theorem wvR_lt (h : ∀ i, p ≤ i → i < p + k → isLt (b i) = true) : wvR b p k < 27 ^ 8 := by
  rcases Nat.lt_or_ge 8 k with z | z
  · obtain ⟨k, rfl⟩ : ∃ j, k = j + 1 := ⟨k - 1, by omega⟩
    rw [wvR, if_neg (by omega)]
    decide
  · rw [wvR_cd z]
    refine Nat.lt_of_lt_of_le (cd_lt (fun i hi => (isLt_t (h (p + i) (by omega) (by omega))).2.2)) (Nat.pow_le_pow_right (by decide) z)
theorem cd_inj {d d2 : Nat → Nat} : ∀ {k k2 : Nat}, (∀ i, i < k → 1 ≤ d i ∧ d i < 27) → (∀ i, i < k2 → 1 ≤ d2 i ∧ d2 i < 27) → cd d k = cd d2 k2 → k = k2 ∧ ∀ i, i < k → d i = d2 i
  | 0, 0, _, _, _ => ⟨rfl, fun i hi => absurd hi (Nat.not_lt_zero _)⟩
  | 0, k2 + 1, _, h2, h => by
    have := h2 k2 (by omega)
    rw [cd, cd] at h
    omega
  | k + 1, 0, h1, _, h => by
    have := h1 k (by omega)
    rw [cd, cd] at h
    omega
  | k + 1, k2 + 1, h1, h2, h => by
    have a1 := h1 k (by omega)
    have a2 := h2 k2 (by omega)
    rw [cd, cd] at h
    obtain ⟨e1, e2⟩ := cd_inj (d := d) (d2 := d2) (k := k) (k2 := k2) (fun i hi => h1 i (by omega)) (fun i hi => h2 i (by omega)) (by omega)
    subst e1
    refine ⟨rfl, fun i hi => ?_⟩
    by_cases z : i = k
    · rw [z]; omega
    · exact e2 i (by omega)
/-- the letters of the ten words -/
def wch (w i : Nat) : Nat := cv (chJS w i)
theorem wch_ok : ∀ w, w < 10 → ∀ i, i < wlen w → chJS w i = nI (96 + wch w i) ∧ 1 ≤ wch w i ∧ wch w i < 27 := by decide +kernel
theorem wlen_8 : ∀ w, w < 10 → wlen w ≤ 8 := by decide
def wnL : List Nat := [6371942374, 158752, 243146, 377776, 4137607, 14431, 375062, 279875, 3383428, 10650290]
theorem wch_cd : ∀ w, w < 10 → cd (wch w) (wlen w) = wnL.getD w 0 := by decide +kernel
theorem wnL_inj : ∀ w, w < 10 → ∀ w2, w2 < 10 → wnL.getD w 0 = wnL.getD w2 0 → w = w2 := by decide +kernel
theorem wdsL_eq : ∀ w, w < 10 → wdsL.getD w 0 = Int64.ofNat (wnL.getD w 0) := by decide +kernel
theorem wnL_lt : ∀ w, w < 10 → wnL.getD w 0 < 27 ^ 8 := by decide +kernel
theorem cd_congr {d d2 : Nat → Nat} : ∀ {k : Nat}, (∀ i, i < k → d i = d2 i) → cd d k = cd d2 k
  | 0, _ => rfl
  | k + 1, h => by rw [cd, cd, cd_congr (fun i hi => h i (Nat.lt_succ_of_lt hi)), h k (Nat.lt_succ_self k)]
theorem wmt_f {w : Nat} (h : ∀ i, i < wlen w → b (p + i) = chJS w i) : cd (fun i => ltv b (p + i)) (wlen w) = cd (wch w) (wlen w) := cd_congr (d := fun i => ltv b (p + i)) (d2 := wch w) (fun i hi => congrArg cv (h i hi))
theorem wmt_b {w i : Nat} (h3 : b (p + i) = nI (96 + ltv b (p + i))) (h4 : chJS w i = nI (96 + wch w i)) (h5 : ltv b (p + i) = wch w i) : b (p + i) = chJS w i := by
  rw [h3, h4, h5]
theorem wmt_is {w : Nat} : wmt b p e w = true ↔ e - p = wlen w ∧ ∀ i, i < wlen w → b (p + i) = chJS w i := by
  unfold wmt
  rw [Bool.and_eq_true, decide_eq_true_eq, alb_iff]
  constructor
  · rintro ⟨e1, e2⟩
    exact ⟨e1, fun i hi => of_decide_eq_true (e2 i hi)⟩
  · rintro ⟨e1, e2⟩
    exact ⟨e1, fun i hi => decide_eq_true (e2 i hi)⟩
theorem wmt_iff {w : Nat} (hw : w < 10) (h : ∀ i, p ≤ i → i < e → isLt (b i) = true) (hpe : p ≤ e) (h8 : e - p ≤ 8) : wmt b p e w = true ↔ wvR b p (e - p) = wnL.getD w 0 := by
  have hl : ∀ i, i < e - p → 1 ≤ ltv b (p + i) ∧ ltv b (p + i) < 27 := fun i hi => (isLt_t (h (p + i) (by omega) (by omega))).2
  have hc := wch_cd w hw
  have ho := wch_ok w hw
  generalize wnL.getD w 0 = z at hc
  rw [wvR_cd h8, wmt_is, ← hc]
  constructor
  · rintro ⟨e1, e2⟩
    rw [e1]
    exact wmt_f e2
  · intro h1
    obtain ⟨e1, e2⟩ := cd_inj hl (fun i hi => (ho i hi).2) h1
    exact ⟨e1, fun i hi => wmt_b (isLt_t (h (p + i) (by omega) (by omega))).1 (ho i hi).1 (e2 i (by omega))⟩
theorem fnd_is {Q : Nat → Bool} {m : Nat} (h : fnd Q m < m) : Q (fnd Q m) = true := by
  induction m with
  | zero => omega
  | succ m ih =>
    rw [fnd] at h ⊢
    by_cases z : fnd Q m < m
    · rw [if_pos z]; exact ih z
    · rw [if_neg z] at h ⊢
      cases hc : Q m
      · rw [hc] at h
        rw [if_neg (by decide)] at h
        omega
      · rw [if_pos rfl]; exact hc
theorem fnd_ex {Q : Nat → Bool} {m i : Nat} (hi : i < m) (h : Q i = true) : fnd Q m < m := by
  induction m with
  | zero => omega
  | succ m ih =>
    rw [fnd]
    by_cases z : fnd Q m < m
    · rw [if_pos z]; omega
    · rw [if_neg z]
      by_cases y : i = m
      · subst y; rw [if_pos h]; omega
      · exact absurd (ih (by omega)) z
/-- both sides know the same words -/
theorem wv_iff {w : Nat} (hw : w < 10) (h : ∀ i, p ≤ i → i < e → isLt (b i) = true) (hpe : p ≤ e) (h8 : e - p ≤ 8) : (wvR b p (e - p) = wnL.getD w 0) = (wvX b p e = w + 1) := by
  rw [← propext (wmt_iff hw h hpe h8)]
  apply propext
  unfold wvX
  constructor
  · intro h1
    have h2 := fnd_ex hw h1
    rw [if_pos h2]
    have h3 := fnd_is h2
    have h4 := (wmt_iff h2 h hpe h8).mp h3
    have h5 := (wmt_iff hw h hpe h8).mp h1
    rw [wnL_inj _ h2 _ hw (h4.symm.trans h5)]
  · intro h1
    by_cases z : fnd (wmt b p e) 10 < 10
    · rw [if_pos z] at h1
      have h3 := fnd_is z
      rw [show fnd (wmt b p e) 10 = w by omega] at h3
      exact h3
    · rw [if_neg z] at h1
      omega
theorem wvX_le : wvX b p e ≤ 10 := by
  unfold wvX
  split <;> omega
-- the row of tokens
theorem tkE_gt (hn : p < n) : p < tkE b n p ∧ tkE b n p ≤ n := by
  unfold tkE
  cases h1 : isLt (b p)
  · cases h2 : isDg (b p)
    · rw [if_neg (by decide), if_neg (by decide)]; omega
    · rw [if_neg (by decide), if_pos rfl, rE_yes hn h2]
      have h3 := rE_ge (P := isDg) (b := b) (n := n) (p := p + 1)
      have h4 := rE_le (P := isDg) (b := b) (n := n) (p := p + 1) (by omega)
      omega
  · rw [if_pos rfl, rE_yes hn h1]
    have h3 := rE_ge (P := isLt) (b := b) (n := n) (p := p + 1)
    have h4 := rE_le (P := isLt) (b := b) (n := n) (p := p + 1) (by omega)
    omega
theorem tkP_le (k : Nat) : tkP b n k ≤ n := by
  induction k with
  | zero => exact rE_le (Nat.zero_le _)
  | succ k ih =>
    rw [tkP]
    by_cases z : tkP b n k < n
    · rw [if_pos z]; exact rE_le (tkE_gt z).2
    · rw [if_neg z]; exact ih
theorem tkP_s (h : tkP b n k < n) : tkP b n (k + 1) = rE isBl b n (tkE b n (tkP b n k)) := by rw [tkP, if_pos h]
theorem tkP_lt (h : tkP b n k < n) : tkP b n k < tkP b n (k + 1) := by
  rw [tkP_s h]
  have h1 := (tkE_gt (b := b) h).1
  have h2 := rE_ge (P := isBl) (b := b) (n := n) (p := tkE b n (tkP b n k))
  omega
theorem tkP_k (h : tkP b n k < n) : k ≤ tkP b n k := by
  induction k with
  | zero => exact Nat.zero_le _
  | succ k ih =>
    by_cases z : tkP b n k < n
    · have h1 := ih z
      have h2 := tkP_lt z
      omega
    · rw [tkP, if_neg z] at h
      exact absurd h z
theorem tkP_bl (h : tkP b n k < n) : isBl (b (tkP b n k)) = false := by
  induction k with
  | zero => exact rE_stop (Nat.zero_le _) h
  | succ k ih =>
    by_cases z : tkP b n k < n
    · rw [tkP_s z] at h ⊢
      exact rE_stop (tkE_gt z).2 h
    · rw [tkP, if_neg z] at h
      exact absurd h z
/-- how many there are -/
def tkN (b : Nat → Int32) (n : Nat) : Nat := fnd (fun k => decide (¬ tkP b n k < n)) (n + 1)
theorem tkN_lt : tkN b n < n + 1 := by
  refine fnd_ex (i := n) (Nat.lt_succ_self n) (decide_eq_true (fun z => ?_))
  have := tkP_k (b := b) z
  omega
theorem tkN_at : tkP b n (tkN b n) = n := by
  have h1 := of_decide_eq_true (fnd_is (Q := fun k => decide (¬ tkP b n k < n)) (m := n + 1) tkN_lt)
  have h2 := tkP_le (b := b) (n := n) (fnd (fun k => decide (¬ tkP b n k < n)) (n + 1))
  unfold tkN
  omega
theorem tkP_mono {j : Nat} (h : k ≤ j) : tkP b n k ≤ tkP b n j := by
  induction j with
  | zero => rw [show k = 0 by omega]; exact Nat.le_refl _
  | succ j ih =>
    by_cases z : k = j + 1
    · rw [z]; exact Nat.le_refl _
    · have h1 := ih (by omega)
      by_cases z2 : tkP b n j < n
      · have := tkP_lt z2; omega
      · rw [show tkP b n (j + 1) = tkP b n j by rw [tkP, if_neg z2]]; exact h1
theorem tkN_before (h : k < tkN b n) : tkP b n k < n := by
  apply Classical.byContradiction
  intro z
  have h2 : fnd (fun k => decide (¬ tkP b n k < n)) (n + 1) ≤ k := by
    have key : ∀ m, k < m → fnd (fun k => decide (¬ tkP b n k < n)) m ≤ k := by
      intro m
      induction m with
      | zero => intro h; omega
      | succ m ih =>
        intro hm
        rw [fnd]
        by_cases y : k < m
        · have := ih y
          rw [if_pos (by omega)]
          exact this
        · have y2 : k = m := by omega
          subst y2
          by_cases y3 : fnd (fun k => decide (¬ tkP b n k < n)) k < k
          · rw [if_pos y3]; omega
          · rw [if_neg y3, decide_eq_true z, if_pos rfl]; omega
    refine key (n + 1) ?_
    have h3 : tkN b n < n + 1 := tkN_lt
    omega
  unfold tkN at h
  omega
theorem tkK_0 (h : tkK b n p = 0) : ¬ p < n := by
  intro z
  unfold tkK at h
  rw [if_pos z] at h
  split at h
  · split at h <;> omega
  · split at h
    · split at h <;> omega
    · split at h <;> omega
end TKN
