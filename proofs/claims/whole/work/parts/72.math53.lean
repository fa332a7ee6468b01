/-! BITS OF WORDS -/
def mK (c : Nat) : Nat → Nat
  | 0 => 0
  | k + 1 => c + 256 * mK c k
theorem and8 {a m b M : Nat} (ha : a < 256) (hm : m < 256) : (a + 256 * b) &&& (m + 256 * M) = (a &&& m) + 256 * (b &&& M) := by
  have h1 : ((a + 256 * b) &&& (m + 256 * M)) % 2 ^ 8 = a &&& m := by
    rw [Nat.and_mod_two_pow, show (a + 256 * b) % 2 ^ 8 = a by omega, show (m + 256 * M) % 2 ^ 8 = m by omega]
  have h2 : ((a + 256 * b) &&& (m + 256 * M)) / 2 ^ 8 = b &&& M := by
    rw [Nat.and_div_two_pow, show (a + 256 * b) / 2 ^ 8 = b by omega, show (m + 256 * M) / 2 ^ 8 = M by omega]
  have h3 := Nat.div_add_mod ((a + 256 * b) &&& (m + 256 * M)) (2 ^ 8)
  omega
def y1 (a : Nat) : Nat := a - (a / 2 &&& 85)
def y2 (a : Nat) : Nat := (a &&& 51) + (a / 4 &&& 51)
def y3 (a : Nat) : Nat := (a + a / 16) &&& 15
def x1 (k v : Nat) : Nat := v - (v / 2 &&& mK 85 k)
def x2 (k v : Nat) : Nat := (v &&& mK 51 k) + (v / 4 &&& mK 51 k)
def x3 (k v : Nat) : Nat := (v + v / 16) &&& mK 15 k
theorem b1 : ∀ a, a < 256 → ∀ e, e < 2 → ((a / 2 + 128 * e) &&& 85 = a / 2 &&& 85) := by decide +kernel
theorem b1l : ∀ a, a < 256 → (a / 2 &&& 85) ≤ a := by decide +kernel
theorem b2 : ∀ a, a < 256 → ∀ e, e < 4 → ((a / 4 + 64 * e) &&& 51 = a / 4 &&& 51) := by decide +kernel
theorem b2l : ∀ a, a < 256 → y2 a < 256 := by decide +kernel
theorem b3 : ∀ a, a < 69 → ∀ e, e < 5 → ((a + a / 16 + 16 * e) &&& 15 = (a + a / 16) &&& 15) := by decide +kernel
theorem b4 : ∀ a, a < 256 → (y2 (y1 a) < 69 ∧ y2 (y1 a) % 16 < 5) := by decide +kernel
theorem b5 : ∀ a, a < 256 → y3 (y2 (y1 a)) = cnt (fun k => a.testBit k) 8 := by decide +kernel
theorem x1_s (k : Nat) {a b : Nat} (ha : a < 256) (hb : x1 k b = x1 k b) (hle : (b / 2 &&& mK 85 k) ≤ b) : x1 (k + 1) (a + 256 * b) = y1 a + 256 * x1 k b ∧ ((a + 256 * b) / 2 &&& mK 85 (k + 1)) ≤ a + 256 * b := by
  have e : (a + 256 * b) / 2 &&& mK 85 (k + 1) = (a / 2 &&& 85) + 256 * (b / 2 &&& mK 85 k) := by
    rw [mK, show (a + 256 * b) / 2 = (a / 2 + 128 * (b % 2)) + 256 * (b / 2) by omega, and8 (by omega) (by decide), b1 a ha _ (Nat.mod_lt _ (by decide))]
  have h1 := b1l a ha
  unfold x1 y1
  rw [e]
  omega
theorem x2_s (k : Nat) {a b : Nat} (ha : a < 256) : x2 (k + 1) (a + 256 * b) = y2 a + 256 * x2 k b := by
  unfold x2 y2
  rw [mK, show (a + 256 * b) / 4 = (a / 4 + 64 * (b % 4)) + 256 * (b / 4) by omega, and8 ha (by decide), and8 (by omega) (by decide), b2 a ha _ (Nat.mod_lt _ (by decide))]
  omega
theorem x3_s (k : Nat) {a b : Nat} (ha : a < 69) (hb : b % 16 < 5) : x3 (k + 1) (a + 256 * b) = y3 a + 256 * x3 k b := by
  unfold x3 y3
  rw [mK, show a + 256 * b + (a + 256 * b) / 16 = (a + a / 16 + 16 * (b % 16)) + 256 * (b + b / 16) by omega, and8 (by omega) (by decide), b3 a ha _ hb]
/-- eight bytes -/
theorem y1_lt : ∀ a, a < 256 → y1 a < 256 := by decide +kernel
theorem px (k : Nat) : ∀ v, v < 256 ^ k → (v / 2 &&& mK 85 k) ≤ v ∧ x2 k (x1 k v) % 16 < 5 ∧ x2 k (x1 k v) + x2 k (x1 k v) / 16 < 256 ^ k ∧ ∃ c : Nat → Nat, (∀ i, c i = cnt (fun j => v.testBit (8 * i + j)) 8) ∧ x3 k (x2 k (x1 k v)) = sm (fun i => c i * 256 ^ i) k := by
  induction k with
  | zero =>
    intro v hv
    have : v = 0 := by rw [Nat.pow_zero] at hv; omega
    subst this
    exact ⟨by decide, by decide, by decide, fun i => cnt (fun j => (0 : Nat).testBit (8 * i + j)) 8, fun i => rfl, rfl⟩
  | succ k ih =>
    intro v hv
    obtain ⟨a, b, ha, rfl⟩ : ∃ a b, a < 256 ∧ v = a + 256 * b := ⟨v % 256, v / 256, Nat.mod_lt _ (by decide), by omega⟩
    have hb : b < 256 ^ k := by rw [Nat.pow_succ] at hv; omega
    obtain ⟨h1, h2, h3, c, h4, h5⟩ := ih b hb
    obtain ⟨g1, g2⟩ := x1_s k ha rfl h1
    have g3 := y1_lt a ha
    obtain ⟨g4, g5⟩ := b4 a ha
    have e2 : x2 (k + 1) (x1 (k + 1) (a + 256 * b)) = y2 (y1 a) + 256 * x2 k (x1 k b) := by rw [g1, x2_s k g3]
    refine ⟨g2, by rw [e2]; omega, by rw [e2, Nat.pow_succ]; omega, fun i => cnt (fun j => (a + 256 * b).testBit (8 * i + j)) 8, fun i => rfl, ?_⟩
    rw [e2, x3_s k g4 h2, h5, b5 a ha, show k + 1 = 1 + k by omega, sm_app]
    have t0 : ∀ j, j < 8 → (a + 256 * b).testBit (8 * 0 + j) = a.testBit j := fun j hj => by
      rw [show a + 256 * b = 2 ^ 8 * b + a by omega, Nat.testBit_two_pow_mul_add _ (show a < 2 ^ 8 by omega), Nat.mul_zero, Nat.zero_add, if_pos hj]
    have t1 : ∀ i j, (a + 256 * b).testBit (8 * (1 + i) + j) = b.testBit (8 * i + j) := fun i j => by
      rw [show a + 256 * b = 2 ^ 8 * b + a by omega, Nat.testBit_two_pow_mul_add _ (show a < 2 ^ 8 by omega), if_neg (by omega), show 8 * (1 + i) + j - 8 = 8 * i + j by omega]
    have s0 : sm (fun i => cnt (fun j => (a + 256 * b).testBit (8 * i + j)) 8 * 256 ^ i) 1 = cnt (fun k => a.testBit k) 8 := by
      rw [sm, sm, Nat.zero_add, Nat.pow_zero, Nat.mul_one]
      exact cnt_congr (fun j hj => t0 j hj)
    have s1 : sm (fun i => cnt (fun j => (a + 256 * b).testBit (8 * (1 + i) + j)) 8 * 256 ^ (1 + i)) k = 256 * sm (fun i => c i * 256 ^ i) k := by
      rw [← sm_mul]
      refine sm_congr (fun i _ => ?_)
      show cnt (fun j => (a + 256 * b).testBit (8 * (1 + i) + j)) 8 * 256 ^ (1 + i) = 256 * (c i * 256 ^ i)
      rw [cnt_congr (fun j _ => t1 i j), h4 i, Nat.pow_add, Nat.pow_one, Nat.mul_left_comm]
    rw [s0, s1]
theorem cnt_app (f : Nat → Bool) (m : Nat) : ∀ n, cnt f (m + n) = cnt f m + cnt (fun j => f (m + j)) n
  | 0 => rfl
  | n + 1 => by rw [← Nat.add_assoc, cnt_s, cnt_s, cnt_app f m n, Nat.add_assoc]
theorem cnt_8s (f : Nat → Bool) : ∀ n, cnt f (8 * n) = sm (fun i => cnt (fun j => f (8 * i + j)) 8) n
  | 0 => rfl
  | n + 1 => by rw [sm, ← cnt_8s f n, Nat.mul_succ, cnt_app]
