/-! RENUMBERINGS COUNTED -/
def PI (n : Nat) (f : Nat → Nat) : Prop := (∀ i, i < n → f i < n) ∧ ∀ i j, i < n → j < n → f i = f j → i = j
theorem cnt_one_le {p : Nat → Bool} : ∀ {n : Nat}, (∀ i j, i < n → j < n → p i = true → p j = true → i = j) → cnt p n ≤ 1
  | 0, _ => Nat.zero_le _
  | n + 1, h => by
    rw [cnt_s]
    cases c : p n
    · have := cnt_one_le (p := p) (n := n) (fun i j h1 h2 => h i j (by omega) (by omega))
      exact this
    · have h0 : cnt p n = 0 := by
        rw [cnt_sm]
        refine sm_zero (fun i hi => ?_)
        cases c2 : p i
        · rfl
        · have := h i n (by omega) (by omega) c2 c
          omega
      rw [h0]
      exact Nat.le_refl _
theorem cnt_exi {p : Nat → Bool} : ∀ {n : Nat}, 0 < cnt p n → ∃ i, i < n ∧ p i = true
  | 0, h => absurd h (Nat.lt_irrefl _)
  | n + 1, h => by
    rw [cnt_s] at h
    cases c : p n
    · rw [c] at h
      obtain ⟨i, h1, h2⟩ := cnt_exi (p := p) (n := n) h
      exact ⟨i, by omega, h2⟩
    · exact ⟨n, by omega, c⟩
/-- no pigeon without a hole -/
theorem PI_onto {n : Nat} {f : Nat → Nat} (h : PI n f) {j : Nat} (hj : j < n) : ∃ i, i < n ∧ f i = j := by
  have h1 : ∀ j, j < n → cnt (fun i => decide (f i = j)) n ≤ 1 := fun j _ => cnt_one_le (fun a b ha hb h1 h2 => h.2 a b ha hb ((of_decide_eq_true h1).trans (of_decide_eq_true h2).symm))
  have h2 : sm (fun j => cnt (fun i => decide (f i = j)) n) n = sm (fun _ => 1) n := by
    have e1 : ∀ j, j < n → cnt (fun i => decide (f i = j)) n = sm (fun i => if f i = j then 1 else 0) n := fun j _ => by
      rw [cnt_sm]
      refine sm_congr (fun i _ => ?_)
      by_cases z : f i = j
      · rw [if_pos z, decide_eq_true z]; rfl
      · rw [if_neg z, decide_eq_false z]; rfl
    rw [sm_congr e1, sm_comm (fun j i => if f i = j then 1 else 0) n n]
    refine sm_congr (fun i hi => ?_)
    rw [sm_one (k := f i) (h.1 i hi) (fun j _ hne => if_neg (fun z => hne z.symm)), if_pos rfl]
  have h3 := sm_le_eq h1 h2 j hj
  obtain ⟨i, a, b⟩ := cnt_exi (p := fun i => decide (f i = j)) (n := n) (by rw [h3]; exact Nat.one_pos)
  exact ⟨i, a, of_decide_eq_true b⟩
theorem PI_Pm {n : Nat} {f : Nat → Nat} (h : PI n f) : ∃ ψ, Pm n f ψ := by
  refine ⟨fun j => fnd (fun i => decide (f i = j)) n, h.1, fun i hi => ?_⟩
  have key : ∀ j, j < n → fnd (fun i => decide (f i = j)) n < n ∧ f (fnd (fun i => decide (f i = j)) n) = j := fun j hj => by
    obtain ⟨k, k1, k2⟩ := PI_onto h hj
    have : fnd (fun i => decide (f i = j)) n = k := fnd_eq (decide_eq_true k2) (fun i hi => by
      refine decide_eq_false (fun z => ?_)
      have := h.2 i k (by omega) k1 (z.trans k2.symm)
      omega) k1
    rw [this]
    exact ⟨k1, k2⟩
  obtain ⟨a1, a2⟩ := key i hi
  refine ⟨a1, ?_, a2⟩
  obtain ⟨b1, b2⟩ := key (f i) (h.1 i hi)
  exact h.2 _ _ b1 hi b2
theorem Pm_PI {n : Nat} {f ψ : Nat → Nat} (h : Pm n f ψ) : PI n f := ⟨h.1, fun i j hi hj e => by rw [← (h.2 i hi).2.1, e, (h.2 j hj).2.1]⟩
theorem PI_id (n : Nat) : PI n (fun i => i) := ⟨fun _ h => h, fun _ _ _ _ e => e⟩
theorem PI_comp {n : Nat} {f g : Nat → Nat} (hf : PI n f) (hg : PI n g) : PI n (fun i => f (g i)) := ⟨fun i hi => hf.1 _ (hg.1 i hi), fun i j hi hj e => hg.2 i j hi hj (hf.2 _ _ (hg.1 i hi) (hg.1 j hj) e)⟩
def updN (f : Nat → Nat) (i x : Nat) : Nat → Nat := fun j => if j = i then x else f j
def usd (f : Nat → Nat) (v k : Nat) : Bool := exb (fun i => decide (f i = k)) v
theorem usd_iff {f : Nat → Nat} {v k : Nat} : usd f v k = true ↔ ∃ i, i < v ∧ f i = k := by
  unfold usd
  rw [exb_iff]
  exact ⟨fun ⟨i, h1, h2⟩ => ⟨i, h1, of_decide_eq_true h2⟩, fun ⟨i, h1, h2⟩ => ⟨i, h1, decide_eq_true h2⟩⟩
/-- how many bring the rest somewhere -/
def NN (n : Nat) (Q : (Nat → Nat) → Bool) : Nat → (Nat → Nat) → Nat
  | 0, f => if Q f then 1 else 0
  | d + 1, f => sm (fun k => if usd f (n - (d + 1)) k then 0 else NN n Q d (updN f (n - (d + 1)) k)) n
def GQ (n : Nat) (Q : (Nat → Nat) → Bool) : Prop := (∀ f g, (∀ i, i < n → f i = g i) → Q f = Q g) ∧ (∀ π g, PI n π → Q π = true → PI n g → Q (fun i => π (g i)) = Q g) ∧ Q (fun i => i) = true
section NNS
variable {n : Nat} {Q : (Nat → Nat) → Bool}
theorem GQ.co (h : GQ n Q) (f g : Nat → Nat) (he : ∀ i, i < n → f i = g i) : Q f = Q g := h.1 f g he
theorem GQ.mu (h : GQ n Q) (π g : Nat → Nat) (h1 : PI n π) (h2 : Q π = true) (h3 : PI n g) : Q (fun i => π (g i)) = Q g := h.2.1 π g h1 h2 h3
theorem GQ.one (h : GQ n Q) : Q (fun i => i) = true := h.2.2
/-- so far one to one -/
def PJ (n v : Nat) (f : Nat → Nat) : Prop := (∀ i, i < v → f i < n) ∧ ∀ i j, i < v → j < v → f i = f j → i = j
theorem PJ_upd {v k : Nat} {f : Nat → Nat} (h : PJ n v f) (hk : k < n) (hu : usd f v k = false) : PJ n (v + 1) (updN f v k) := by
  have hu2 : ∀ i, i < v → f i ≠ k := fun i hi e => by
    have := usd_iff.mpr ⟨i, hi, e⟩
    rw [hu] at this
    cases this
  refine ⟨fun i hi => ?_, fun i j hi hj e => ?_⟩
  · unfold updN
    by_cases z : i = v
    · rw [if_pos z]; exact hk
    · rw [if_neg z]; exact h.1 i (by omega)
  · unfold updN at e
    by_cases z : i = v
    · by_cases z2 : j = v
      · omega
      · rw [if_pos z, if_neg z2] at e
        exact absurd e.symm (hu2 j (by omega))
    · by_cases z2 : j = v
      · rw [if_neg z, if_pos z2] at e
        exact absurd e (hu2 i (by omega))
      · rw [if_neg z, if_neg z2] at e
        exact h.2 i j (by omega) (by omega) e
theorem NN_co (hQ : GQ n Q) : ∀ d, d ≤ n → ∀ f g, (∀ i, i < n - d → f i = g i) → NN n Q d f = NN n Q d g
  | 0, _, f, g, h => by rw [NN, NN, hQ.co f g h]
  | d + 1, hd, f, g, h => by
    rw [NN, NN]
    refine sm_congr (fun k _ => ?_)
    have e1 : usd f (n - (d + 1)) k = usd g (n - (d + 1)) k := by
      unfold usd
      exact exb_congr (fun i hi => by rw [h i hi])
    have e2 : NN n Q d (updN f (n - (d + 1)) k) = NN n Q d (updN g (n - (d + 1)) k) := NN_co hQ d (by omega) _ _ (fun i hi => by
      unfold updN
      by_cases z : i = n - (d + 1)
      · rw [if_pos z, if_pos z]
      · rw [if_neg z, if_neg z]
        exact h i (by omega))
    show (if usd f (n - (d + 1)) k = true then 0 else NN n Q d (updN f (n - (d + 1)) k)) = if usd g (n - (d + 1)) k = true then 0 else NN n Q d (updN g (n - (d + 1)) k)
    rw [e1, e2]
/-- brought on by one of them -/
theorem NN_mu (hQ : GQ n Q) {π : Nat → Nat} (hπ : PI n π) (hq : Q π = true) : ∀ d, d ≤ n → ∀ g, PJ n (n - d) g → NN n Q d (fun i => π (g i)) = NN n Q d g
  | 0, _, g, hg => by
    rw [NN, NN, hQ.mu π g hπ hq hg]
  | d + 1, hd, g, hg => by
    obtain ⟨ψ, hP⟩ := PI_Pm hπ
    rw [NN, NN, ← sm_perm hP]
    refine sm_congr (fun k hk => ?_)
    have e1 : usd (fun i => π (g i)) (n - (d + 1)) (π k) = usd g (n - (d + 1)) k := by
      unfold usd
      refine exb_congr (fun i hi => ?_)
      by_cases z : g i = k
      · rw [decide_eq_true z, decide_eq_true (show π (g i) = π k by rw [z])]
      · rw [decide_eq_false z, decide_eq_false (fun w => z (hπ.2 _ _ (hg.1 i hi) hk w))]
    show (if usd (fun i => π (g i)) (n - (d + 1)) (π k) = true then 0 else NN n Q d (updN (fun i => π (g i)) (n - (d + 1)) (π k))) = if usd g (n - (d + 1)) k = true then 0 else NN n Q d (updN g (n - (d + 1)) k)
    rw [e1]
    cases c : usd g (n - (d + 1)) k
    · rw [if_neg (by decide), if_neg (by decide)]
      have h1 := PJ_upd hg hk c
      rw [show n - (d + 1) + 1 = n - d by omega] at h1
      rw [← NN_mu hQ hπ hq d (by omega) _ h1]
      refine NN_co hQ d (by omega) _ _ (fun i _ => ?_)
      unfold updN
      by_cases z : i = n - (d + 1)
      · rw [if_pos z, if_pos z]
      · rw [if_neg z, if_neg z]
    · rfl
/-- where some are counted, there is one -/
theorem NN_pos : ∀ d, d ≤ n → ∀ f, PJ n (n - d) f → 0 < NN n Q d f → ∃ π, PI n π ∧ Q π = true ∧ ∀ i, i < n - d → π i = f i
  | 0, _, f, hf, h => by
    rw [NN] at h
    by_cases c : Q f = true
    · exact ⟨f, hf, c, fun _ _ => rfl⟩
    · rw [if_neg c] at h
      exact absurd h (Nat.lt_irrefl _)
  | d + 1, hd, f, hf, h => by
    rw [NN] at h
    have : ∃ k, k < n ∧ 0 < (if usd f (n - (d + 1)) k then 0 else NN n Q d (updN f (n - (d + 1)) k)) := by
      apply Classical.byContradiction
      intro hno
      have h0 := sm_zero (f := fun k => if usd f (n - (d + 1)) k then 0 else NN n Q d (updN f (n - (d + 1)) k)) (n := n) (fun k hk => by
        have : ¬ 0 < (if usd f (n - (d + 1)) k then 0 else NN n Q d (updN f (n - (d + 1)) k)) := fun z => hno ⟨k, hk, z⟩
        omega)
      omega
    obtain ⟨k, hk, h2⟩ := this
    cases c : usd f (n - (d + 1)) k
    · rw [c, if_neg (by decide)] at h2
      have h1 := PJ_upd hf hk c
      rw [show n - (d + 1) + 1 = n - d by omega] at h1
      obtain ⟨π, a1, a2, a3⟩ := NN_pos d (by omega) _ h1 h2
      refine ⟨π, a1, a2, fun i hi => ?_⟩
      rw [a3 i (by omega)]
      exact if_neg (by omega)
    · rw [c, if_pos rfl] at h2
      exact absurd h2 (Nat.lt_irrefl _)
/-- whether one brings p to q and leaves all below p -/
def sB (n : Nat) (Q : (Nat → Nat) → Bool) (p q : Nat) : Bool := decide (p ≤ q) && decide (0 < NN n Q (n - (p + 1)) (updN (fun i => i) p q))
theorem PJ_idq {p q : Nat} (hp : p < n) (hq : q < n) (h : p ≤ q) : PJ n (p + 1) (updN (fun i => i) p q) :=
  PJ_upd (f := fun i => i) (v := p) ⟨fun i hi => show i < n by omega, fun i j _ _ e => e⟩ hq (by
    cases c : usd (fun i => i) p q
    · rfl
    · obtain ⟨i, h1, h2⟩ := usd_iff.mp c
      omega)
theorem sB_iff (hQ : GQ n Q) {p q : Nat} (hp : p < n) (hq : q < n) : sB n Q p q = true ↔ ∃ π, PI n π ∧ Q π = true ∧ (∀ i, i < p → π i = i) ∧ π p = q := by
  unfold sB
  rw [Bool.and_eq_true]
  constructor
  · rintro ⟨h1, h2⟩
    have h1 := of_decide_eq_true h1
    have h2 := of_decide_eq_true h2
    have h3 := PJ_idq hp hq h1
    obtain ⟨π, a1, a2, a3⟩ := NN_pos (n - (p + 1)) (by omega) _ (by rw [show n - (n - (p + 1)) = p + 1 by omega]; exact h3) h2
    refine ⟨π, a1, a2, fun i hi => ?_, ?_⟩
    · rw [a3 i (by omega)]
      exact if_neg (by omega)
    · rw [a3 p (by omega)]
      exact if_pos rfl
  · rintro ⟨π, a1, a2, a3, a4⟩
    have h1 : p ≤ q := by
      rcases Nat.lt_or_ge q p with z | z
      · have := a1.2 q p (by omega) hp ((a3 q z).trans a4.symm)
        omega
      · exact z
    refine ⟨decide_eq_true h1, decide_eq_true ?_⟩
    have e1 : NN n Q (n - (p + 1)) (updN (fun i => i) p q) = NN n Q (n - (p + 1)) (fun i => π i) := NN_co hQ _ (by omega) _ _ (fun i hi => by
      unfold updN
      by_cases z : i = p
      · rw [if_pos z, z, a4]
      · rw [if_neg z, a3 i (by omega)])
    rw [e1, NN_mu hQ a1 a2 (n - (p + 1)) (by omega) (fun i => i) ⟨fun i hi => show i < n by omega, fun _ _ _ _ e => e⟩]
    have key : ∀ d, d ≤ n → 0 < NN n Q d (fun i => i) := by
      intro d
      induction d with
      | zero => intro _; rw [NN, hQ.one, if_pos rfl]; exact Nat.one_pos
      | succ d ih =>
        intro hd
        rw [NN]
        refine Nat.lt_of_lt_of_le ?_ (sm_term (fun k => if usd (fun i => i) (n - (d + 1)) k then 0 else NN n Q d (updN (fun i => i) (n - (d + 1)) k)) (i := n - (d + 1)) (by omega))
        have c : usd (fun i => i) (n - (d + 1)) (n - (d + 1)) = false := by
          cases c : usd (fun i => i) (n - (d + 1)) (n - (d + 1))
          · rfl
          · obtain ⟨i, h1, h2⟩ := usd_iff.mp c
            omega
        show 0 < (if usd (fun i => i) (n - (d + 1)) (n - (d + 1)) = true then 0 else NN n Q d (updN (fun i => i) (n - (d + 1)) (n - (d + 1))))
        rw [c, if_neg (by decide), NN_co hQ d (by omega) _ (fun i => i) (fun i _ => by
          unfold updN
          by_cases z : i = n - (d + 1)
          · rw [if_pos z, z]
          · rw [if_neg z])]
        exact ih (by omega)
    exact key _ (by omega)
/-- the places times those that leave one more -/
theorem NN_step (hQ : GQ n Q) {p : Nat} (hp : p < n) : NN n Q (n - p) (fun i => i) = cnt (sB n Q p) n * NN n Q (n - (p + 1)) (fun i => i) := by
  rw [show n - p = (n - (p + 1)) + 1 by omega, NN, show n - (n - (p + 1) + 1) = p by omega, cnt_sm, Nat.mul_comm, ← sm_mul]
  refine sm_congr (fun q hq => ?_)
  show (if usd (fun i => i) p q = true then 0 else NN n Q (n - (p + 1)) (updN (fun i => i) p q)) = NN n Q (n - (p + 1)) (fun i => i) * (sB n Q p q).toNat
  by_cases h1 : p ≤ q
  · have c : usd (fun i => i) p q = false := by
      cases c : usd (fun i => i) p q
      · rfl
      · obtain ⟨i, h1, h2⟩ := usd_iff.mp c
        omega
    rw [c, if_neg (by decide)]
    cases c2 : sB n Q p q
    · unfold sB at c2
      rw [decide_eq_true h1, Bool.true_and] at c2
      have := of_decide_eq_false c2
      show _ = _ * 0
      omega
    · obtain ⟨π, a1, a2, a3, a4⟩ := (sB_iff hQ hp hq).mp c2
      have e1 : NN n Q (n - (p + 1)) (updN (fun i => i) p q) = NN n Q (n - (p + 1)) (fun i => π i) := NN_co hQ _ (by omega) _ _ (fun i hi => by
        unfold updN
        by_cases z : i = p
        · rw [if_pos z, z, a4]
        · rw [if_neg z, a3 i (by omega)])
      rw [e1, NN_mu hQ a1 a2 (n - (p + 1)) (by omega) (fun i => i) ⟨fun i hi => show i < n by omega, fun _ _ _ _ e => e⟩]
      exact (Nat.mul_one _).symm
  · have c : usd (fun i => i) p q = true := usd_iff.mpr ⟨q, by omega, rfl⟩
    rw [c, if_pos rfl]
    have : sB n Q p q = false := by
      unfold sB
      rw [decide_eq_false h1]
      rfl
    rw [this]
    exact (Nat.mul_zero _).symm
/-- the product from the front -/
def pl (n : Nat) (Q : (Nat → Nat) → Bool) (p : Nat) : Nat := pw (fun p => cnt (sB n Q p) n) 0 p
theorem NN_pl (hQ : GQ n Q) : ∀ p, p ≤ n → NN n Q n (fun i => i) = pl n Q p * NN n Q (n - p) (fun i => i)
  | 0, _ => by unfold pl; rw [pw, Nat.one_mul, Nat.sub_zero]
  | p + 1, h => by
    rw [NN_pl hQ p (by omega), NN_step hQ (show p < n by omega), ← Nat.mul_assoc]
    congr 1
    unfold pl
    rw [pw, Nat.zero_add]
theorem NN_all (hQ : GQ n Q) : NN n Q n (fun i => i) = pl n Q n := by
  rw [NN_pl hQ n (Nat.le_refl _), Nat.sub_self, NN, hQ.one, if_pos rfl, Nat.mul_one]
end NNS
