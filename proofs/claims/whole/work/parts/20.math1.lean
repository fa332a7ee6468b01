/-! NUMBERS: sums, counts, products, digits -/
def sm (f : Nat → Nat) : Nat → Nat
  | 0 => 0
  | n + 1 => sm f n + f n
def cnt (p : Nat → Bool) : Nat → Nat
  | 0 => 0
  | n + 1 => cnt p n + (p n).toNat
def pw (f : Nat → Nat) (a : Nat) : Nat → Nat
  | 0 => 1
  | k + 1 => pw f a k * f (a + k)
def hor (f d : Nat → Nat) : Nat → Nat
  | 0 => 0
  | k + 1 => hor f d k * f k + d k
def dig (f : Nat → Nat) (n x q : Nat) : Nat := x / pw f (q + 1) (n - (q + 1)) % f q
theorem sm_congr {f g : Nat → Nat} : ∀ {n : Nat}, (∀ i, i < n → f i = g i) → sm f n = sm g n
  | 0, _ => rfl
  | n + 1, h => by rw [sm, sm, sm_congr (fun i hi => h i (Nat.lt_succ_of_lt hi)), h n (Nat.lt_succ_self n)]
theorem cnt_congr {f g : Nat → Bool} : ∀ {n : Nat}, (∀ i, i < n → f i = g i) → cnt f n = cnt g n
  | 0, _ => rfl
  | n + 1, h => by rw [cnt, cnt, cnt_congr (fun i hi => h i (Nat.lt_succ_of_lt hi)), h n (Nat.lt_succ_self n)]
theorem cnt_sm (p : Nat → Bool) : ∀ n, cnt p n = sm (fun i => (p i).toNat) n
  | 0 => rfl
  | n + 1 => by rw [cnt, sm, cnt_sm p n]
theorem cnt_le (p : Nat → Bool) : ∀ n, cnt p n ≤ n
  | 0 => Nat.le_refl 0
  | n + 1 => by
    have h := cnt_le p n
    have h2 : (p n).toNat ≤ 1 := by cases p n <;> decide
    rw [cnt]; omega
theorem cnt_mono {p q : Nat → Bool} : ∀ {n : Nat}, (∀ i, i < n → p i = true → q i = true) → cnt p n ≤ cnt q n
  | 0, _ => Nat.le_refl 0
  | n + 1, h => by
    have h1 := cnt_mono (p := p) (q := q) (n := n) (fun i hi => h i (Nat.lt_succ_of_lt hi))
    have h2 : (p n).toNat ≤ (q n).toNat := by
      cases hp : p n
      · exact Nat.zero_le _
      · rw [h n (Nat.lt_succ_self n) hp]; exact Nat.le_refl _
    rw [cnt, cnt]; omega
theorem cnt_zero {p : Nat → Bool} : ∀ {n : Nat}, (∀ i, i < n → p i = false) → cnt p n = 0
  | 0, _ => rfl
  | n + 1, h => by rw [cnt, cnt_zero (fun i hi => h i (Nat.lt_succ_of_lt hi)), h n (Nat.lt_succ_self n)]; rfl
theorem cnt_pos {p : Nat → Bool} : ∀ {n i : Nat}, i < n → p i = true → 0 < cnt p n
  | 0, _, h, _ => absurd h (Nat.not_lt_zero _)
  | n + 1, i, h, hp => by
    rw [cnt]
    rcases Nat.lt_succ_iff_lt_or_eq.mp h with q | q
    · have := cnt_pos (p := p) q hp; omega
    · subst q; rw [hp]; exact Nat.succ_pos _
theorem cnt_ex {p : Nat → Bool} : ∀ {n : Nat}, 0 < cnt p n → ∃ i, i < n ∧ p i = true
  | 0, h => absurd h (Nat.lt_irrefl 0)
  | n + 1, h => by
    rw [cnt] at h
    cases hp : p n
    · rw [hp] at h
      obtain ⟨i, hi, h2⟩ := cnt_ex (p := p) (n := n) (by simpa using h)
      exact ⟨i, Nat.lt_succ_of_lt hi, h2⟩
    · exact ⟨n, Nat.lt_succ_self n, hp⟩
theorem cnt_split (p q : Nat → Bool) : ∀ n, cnt p n = cnt (fun i => p i && q i) n + cnt (fun i => p i && !q i) n
  | 0 => rfl
  | n + 1 => by
    have h := cnt_split p q n
    rw [cnt, cnt, cnt, h]
    cases p n <;> cases q n <;> simp <;> omega
theorem sm_add (f g : Nat → Nat) : ∀ n, sm (fun i => f i + g i) n = sm f n + sm g n
  | 0 => rfl
  | n + 1 => by rw [sm, sm, sm, sm_add f g n]; omega
theorem sm_mul (c : Nat) (f : Nat → Nat) : ∀ n, sm (fun i => c * f i) n = c * sm f n
  | 0 => rfl
  | n + 1 => by rw [sm, sm, sm_mul c f n, Nat.mul_add]
theorem sm_const (c : Nat) : ∀ n, sm (fun _ => c) n = n * c
  | 0 => (Nat.zero_mul c).symm
  | n + 1 => by rw [sm, sm_const c n, Nat.succ_mul]
theorem sm_zero {f : Nat → Nat} : ∀ {n : Nat}, (∀ i, i < n → f i = 0) → sm f n = 0
  | 0, _ => rfl
  | n + 1, h => by rw [sm, sm_zero (fun i hi => h i (Nat.lt_succ_of_lt hi)), h n (Nat.lt_succ_self n)]
theorem sm_one {f : Nat → Nat} {k : Nat} : ∀ {n : Nat}, k < n → (∀ i, i < n → i ≠ k → f i = 0) → sm f n = f k
  | 0, h, _ => absurd h (Nat.not_lt_zero _)
  | n + 1, h, hz => by
    rw [sm]
    rcases Nat.lt_succ_iff_lt_or_eq.mp h with q | q
    · rw [sm_one q (fun i hi hk => hz i (Nat.lt_succ_of_lt hi) hk), hz n (Nat.lt_succ_self n) (by omega), Nat.add_zero]
    · subst q
      rw [sm_zero (fun i hi => hz i (Nat.lt_succ_of_lt hi) (by omega)), Nat.zero_add]
theorem sm_comm (f : Nat → Nat → Nat) (m : Nat) : ∀ n, sm (fun i => sm (fun j => f i j) m) n = sm (fun j => sm (fun i => f i j) n) m
  | 0 => (sm_zero (fun _ _ => rfl)).symm
  | n + 1 => by
    rw [sm, sm_comm f m n, ← sm_add]
    exact sm_congr (fun j _ => by rw [sm])
theorem sm_app (f : Nat → Nat) (m : Nat) : ∀ n, sm f (m + n) = sm f m + sm (fun i => f (m + i)) n
  | 0 => rfl
  | n + 1 => by rw [← Nat.add_assoc, sm, sm_app f m n, sm, Nat.add_assoc]
theorem sm_grid (f : Nat → Nat) (b : Nat) : ∀ a, sm f (a * b) = sm (fun i => sm (fun j => f (i * b + j)) b) a
  | 0 => by rw [Nat.zero_mul]; rfl
  | a + 1 => by rw [Nat.succ_mul, sm_app, sm_grid f b a, sm]
theorem sm_le {f g : Nat → Nat} : ∀ {n : Nat}, (∀ i, i < n → f i ≤ g i) → sm f n ≤ sm g n
  | 0, _ => Nat.le_refl 0
  | n + 1, h => Nat.add_le_add (sm_le (fun i hi => h i (Nat.lt_succ_of_lt hi))) (h n (Nat.lt_succ_self n))
/-- by who is right: all in a class together -/
theorem cnt_by (r : Nat → Nat) (P : Nat → Bool) (m : Nat) : ∀ n, (∀ x, x < n → r x < m) → sm (fun w => if P w then cnt (fun x => decide (r x = w)) n else 0) m = cnt (fun x => P (r x)) n
  | 0, _ => by
    rw [sm_zero]
    · rfl
    · intro i _; split <;> rfl
  | n + 1, h => by
    have ih := cnt_by r P m n (fun x hx => h x (Nat.lt_succ_of_lt hx))
    rw [cnt, ← ih]
    have e : sm (fun w => if P w then cnt (fun x => decide (r x = w)) (n + 1) else 0) m = sm (fun w => (if P w then cnt (fun x => decide (r x = w)) n else 0) + (if P w then (decide (r n = w)).toNat else 0)) m := sm_congr (fun w _ => by
      by_cases hP : P w = true
      · rw [if_pos hP, if_pos hP, if_pos hP, cnt]
      · rw [if_neg hP, if_neg hP, if_neg hP])
    rw [e, sm_add]
    congr 1
    rw [sm_one (k := r n) (h n (Nat.lt_succ_self n))]
    · by_cases hP : P (r n) = true
      · rw [if_pos hP, hP]; simp
      · rw [if_neg hP]; simp [hP]
    · intro i _ hk
      by_cases hP : P i = true
      · rw [if_pos hP]
        have hz : ¬ r n = i := fun z => hk z.symm
        simp [hz]
      · rw [if_neg hP]
theorem pw_one (f : Nat → Nat) (a : Nat) : pw f a 1 = f a := by rw [pw, pw, Nat.one_mul, Nat.add_zero]
theorem pw_split (f : Nat → Nat) (a j : Nat) : ∀ k, pw f a (j + k) = pw f a j * pw f (a + j) k
  | 0 => (Nat.mul_one _).symm
  | k + 1 => by rw [← Nat.add_assoc, pw, pw_split f a j k, pw, Nat.mul_assoc, Nat.add_assoc]
theorem pw_cons (f : Nat → Nat) (a k : Nat) : pw f a (k + 1) = f a * pw f (a + 1) k := by
  rw [Nat.add_comm k 1, pw_split, pw_one]
theorem pw_congr {f g : Nat → Nat} {a : Nat} : ∀ {k : Nat}, (∀ i, a ≤ i → i < a + k → f i = g i) → pw f a k = pw g a k
  | 0, _ => rfl
  | k + 1, h => by rw [pw, pw, pw_congr (fun i h1 h2 => h i h1 (by omega)), h (a + k) (by omega) (by omega)]
theorem pw_pos {f : Nat → Nat} {a : Nat} : ∀ {k : Nat}, (∀ i, a ≤ i → i < a + k → 0 < f i) → 0 < pw f a k
  | 0, _ => Nat.one_pos
  | k + 1, h => Nat.mul_pos (pw_pos (fun i h1 h2 => h i h1 (by omega))) (h (a + k) (by omega) (by omega))
theorem pw_le {f : Nat → Nat} {a c : Nat} : ∀ {k : Nat}, (∀ i, a ≤ i → i < a + k → f i ≤ c) → pw f a k ≤ c ^ k
  | 0, _ => Nat.le_refl 1
  | k + 1, h => by
    rw [pw, Nat.pow_succ]
    exact Nat.mul_le_mul (pw_le (fun i h1 h2 => h i h1 (by omega))) (h (a + k) (by omega) (by omega))
theorem pw_ones {f : Nat → Nat} {a k : Nat} (h : ∀ i, a ≤ i → i < a + k → f i = 1) : pw f a k = 1 := by
  rw [pw_congr (g := fun _ => 1) h]
  clear h
  induction k with
  | zero => rfl
  | succ k ih => rw [pw, ih]
theorem hor_congr {f f2 d d2 : Nat → Nat} : ∀ {n : Nat}, (∀ i, i < n → f i = f2 i) → (∀ i, i < n → d i = d2 i) → hor f d n = hor f2 d2 n
  | 0, _, _ => rfl
  | n + 1, h, h2 => by rw [hor, hor, hor_congr (fun i hi => h i (Nat.lt_succ_of_lt hi)) (fun i hi => h2 i (Nat.lt_succ_of_lt hi)), h n (Nat.lt_succ_self n), h2 n (Nat.lt_succ_self n)]
theorem mul_add_lt {a b f d : Nat} (h : a < b) (hd : d < f) : a * f + d < b * f :=
  Nat.lt_of_lt_of_le (Nat.add_lt_add_left hd _) (by rw [← Nat.succ_mul]; exact Nat.mul_le_mul_right f h)
theorem hor_lt {f d : Nat → Nat} : ∀ {n : Nat}, (∀ i, i < n → d i < f i) → hor f d n < pw f 0 n
  | 0, _ => Nat.one_pos
  | n + 1, h => by
    rw [hor, pw, Nat.zero_add]
    exact mul_add_lt (hor_lt (fun i hi => h i (Nat.lt_succ_of_lt hi))) (h n (Nat.lt_succ_self n))
theorem hor_div {f d : Nat → Nat} {k : Nat} : ∀ {j : Nat}, (∀ i, k ≤ i → i < k + j → d i < f i) → ∃ r, r < pw f k j ∧ hor f d (k + j) = hor f d k * pw f k j + r
  | 0, _ => ⟨0, Nat.one_pos, by rw [pw, Nat.mul_one]; rfl⟩
  | j + 1, h => by
    obtain ⟨r, hr, e⟩ := hor_div (f := f) (d := d) (k := k) (j := j) (fun i h1 h2 => h i h1 (by omega))
    refine ⟨r * f (k + j) + d (k + j), ?_, ?_⟩
    · rw [pw]; exact mul_add_lt hr (h (k + j) (by omega) (by omega))
    · rw [← Nat.add_assoc, hor, e, pw, Nat.add_mul, Nat.mul_assoc, Nat.add_assoc]
theorem dig_hor {f d : Nat → Nat} {n q : Nat} (h : ∀ i, i < n → d i < f i) (hq : q < n) : dig f n (hor f d n) q = d q := by
  unfold dig
  obtain ⟨r, hr, e⟩ := hor_div (f := f) (d := d) (k := q + 1) (j := n - (q + 1)) (fun i _ h2 => h i (by omega))
  rw [show q + 1 + (n - (q + 1)) = n by omega] at e
  rw [e, Nat.mul_comm, Nat.mul_add_div (Nat.zero_lt_of_lt hr), Nat.div_eq_of_lt hr, Nat.add_zero, hor, Nat.add_comm, Nat.add_mul_mod_self_right, Nat.mod_eq_of_lt (h q hq)]
theorem hor_dig_aux {f : Nat → Nat} {n x : Nat} (hx : x < pw f 0 n) : ∀ k, k ≤ n → hor f (dig f n x) k = x / pw f k (n - k)
  | 0, _ => by rw [Nat.sub_zero, Nat.div_eq_of_lt hx]; rfl
  | k + 1, hk => by
    rw [hor, hor_dig_aux hx k (by omega)]
    unfold dig
    have e : n - k = n - (k + 1) + 1 := by omega
    rw [e, pw_cons, Nat.mul_comm (f k), ← Nat.div_div_eq_div_mul]
    exact Nat.div_add_mod' _ _
theorem hor_dig {f : Nat → Nat} {n x : Nat} (hx : x < pw f 0 n) : hor f (dig f n x) n = x := by
  rw [hor_dig_aux hx n (Nat.le_refl n), Nat.sub_self, pw, Nat.div_one]
theorem dig_lt {f : Nat → Nat} {n x q : Nat} (h : 0 < f q) : dig f n x q < f q := Nat.mod_lt _ h
theorem hor_sum {f d : Nat → Nat} (n : Nat) : hor f d n = sm (fun q => d q * pw f (q + 1) (n - (q + 1))) n := by
  induction n with
  | zero => rfl
  | succ n ih =>
    rw [hor, ih, sm, Nat.sub_self, pw, Nat.mul_one, Nat.mul_comm, ← sm_mul]
    congr 1
    refine sm_congr (fun i hi => ?_)
    rw [show n + 1 - (i + 1) = (n - (i + 1)) + 1 by omega, pw, show i + 1 + (n - (i + 1)) = n by omega, Nat.mul_comm (f n), Nat.mul_assoc]
theorem dig_last {f : Nat → Nat} (n y c : Nat) (hc : c < f n) : dig f (n + 1) (y * f n + c) n = c := by
  unfold dig
  rw [Nat.sub_self, pw, Nat.div_one, Nat.add_comm, Nat.add_mul_mod_self_right, Nat.mod_eq_of_lt hc]
theorem dig_front {f : Nat → Nat} (n y c q : Nat) (hc : c < f n) (hq : q < n) : dig f (n + 1) (y * f n + c) q = dig f n y q := by
  unfold dig
  rw [show n + 1 - (q + 1) = (n - (q + 1)) + 1 by omega, pw, show q + 1 + (n - (q + 1)) = n by omega, Nat.mul_comm (pw f _ _), ← Nat.div_div_eq_div_mul, Nat.mul_comm y, Nat.mul_add_div (Nat.zero_lt_of_lt hc), Nat.div_eq_of_lt hc, Nat.add_zero]
/-- loops that count up; that count down -/
theorem lp_up {β : Type} (f : Nat → Nat → β) (a n : Nat) (res : β) (he : ∀ fu, f (fu + 1) n = res) (hs : ∀ fu i, a ≤ i → i < n → f (fu + 1) i = f fu (i + 1)) (ha : a ≤ n) (fu : Nat) (hf : n - a < fu) : f fu a = res := by
  have key : ∀ fu b, a ≤ b → b ≤ n → n - b < fu → f fu b = res := by
    intro fu
    induction fu with
    | zero => intro b _ _ h; omega
    | succ fu ih =>
      intro b h1 h2 h
      rcases Nat.lt_or_ge b n with q | q
      · rw [hs fu b h1 q]; exact ih (b + 1) (by omega) q (by omega)
      · have : b = n := by omega
        subst this; exact he fu
  exact key fu a (Nat.le_refl a) ha hf
theorem lp_dn {β : Type} (f : Nat → Nat → β) (res : β) (he : ∀ fu, f (fu + 1) 0 = res) (hs : ∀ fu i, f (fu + 1) (i + 1) = f fu i) : ∀ fu a, a < fu → f fu a = res := by
  intro fu
  induction fu with
  | zero => intro a h; omega
  | succ fu ih =>
    intro a h
    cases a with
    | zero => exact he fu
    | succ a => rw [hs fu a]; exact ih a (by omega)
theorem lp_upE {β : Type} (fu0 : Nat) (f : Nat → Nat → β) (a n : Nat) (res x : β) (hx : x = f fu0 a) (he : ∀ fu, f (fu + 1) n = res) (hs : ∀ fu i, a ≤ i → i < n → f (fu + 1) i = f fu (i + 1)) (ha : a ≤ n) (hf : n - a < fu0) : x = res := by
  rw [hx]; exact lp_up f a n res he hs ha fu0 hf
theorem lp_dnE {β : Type} (fu0 : Nat) (f : Nat → Nat → β) (n : Nat) (res x : β) (hx : x = f fu0 n) (he : ∀ fu, f (fu + 1) 0 = res) (hs : ∀ fu i, i < n → f (fu + 1) (i + 1) = f fu i) (hf : n < fu0) : x = res := by
  rw [hx]
  have key : ∀ fu a, a ≤ n → a < fu → f fu a = res := by
    intro fu
    induction fu with
    | zero => intro a _ h; omega
    | succ fu ih =>
      intro a h2 h
      cases a with
      | zero => exact he fu
      | succ a => rw [hs fu a (by omega)]; exact ih a (by omega) (by omega)
  exact key fu0 n (Nat.le_refl n) hf
theorem lp_inv {σ ρ : Type} (f : Nat → σ → Nat → ρ) (I : σ → Nat → Prop) (n : Nat) (Q : ρ → Prop) (he : ∀ fu s, I s n → Q (f (fu + 1) s n)) (hs : ∀ fu s i, i < n → I s i → ∃ s', I s' (i + 1) ∧ f (fu + 1) s i = f fu s' (i + 1)) : ∀ fu s a, a ≤ n → n - a < fu → I s a → Q (f fu s a) := by
  intro fu
  induction fu with
  | zero => intro s a _ h _; omega
  | succ fu ih =>
    intro s a h1 h2 h3
    rcases Nat.lt_or_ge a n with q | q
    · obtain ⟨s', h4, h5⟩ := hs fu s a q h3
      rw [h5]
      exact ih s' (a + 1) q (by omega) h4
    · have : a = n := by omega
      subst this
      exact he fu s h3
