/-! GAMES -/
abbrev Gm : Type := Nat × (Nat → Nat) × (Nat → Nat) × (Nat → Nat → Nat)
def Gn (G : Gm) : Nat := G.1
def Gh (G : Gm) : Nat → Nat := G.2.1
def Gs (G : Gm) : Nat → Nat := G.2.2.1
def Gt (G : Gm) : Nat → Nat → Nat := G.2.2.2
def sees (G : Gm) (p q : Nat) : Bool := (Gs G p).testBit q
def fac (G : Gm) (p q : Nat) : Nat := if sees G p q then Gh G q else 1
def wB (G : Gm) (p a : Nat) : Nat := pw (fac G p) a (Gn G - a)
def sit (G : Gm) (p : Nat) : Nat := wB G p 0
def ncol (G : Gm) : Nat := if Gn G = 0 then 0 else pw (Gh G) 0 (Gn G)
def col (G : Gm) (p x : Nat) : Nat := dig (Gh G) (Gn G) x p
def sOf (G : Gm) (p x : Nat) : Nat := hor (fac G p) (fun q => if sees G p q then col G q x else 0) (Gn G)
/-- a set of players, as bits -/
def msk (f : Nat → Bool) : Nat → Nat
  | 0 => 0
  | k + 1 => msk f k ||| (if f k then 2 ^ k else 0)
def isR (G : Gm) (p x : Nat) : Bool := decide (Gt G p (sOf G p x) = col G p x)
def rgt (G : Gm) (x : Nat) : Nat := msk (fun p => isR G p x) (Gn G)
def WF (G : Gm) : Prop := Gn G ≤ 6 ∧ ∀ p, p < Gn G → (1 ≤ Gh G p ∧ Gh G p ≤ 4) ∧ Gs G p < 2 ^ Gn G ∧ sees G p p = false ∧ ∀ σ, σ < sit G p → Gt G p σ < Gh G p
theorem msk_lt (f : Nat → Bool) : ∀ k, msk f k < 2 ^ k
  | 0 => Nat.one_pos
  | k + 1 => by
    have h := msk_lt f k
    rw [msk, Nat.pow_succ]
    refine Nat.lt_of_lt_of_le (Nat.or_lt_two_pow (n := k + 1) ?_ ?_) (by rw [Nat.pow_succ]; exact Nat.le_refl _)
    · rw [Nat.pow_succ]; omega
    · split
      · rw [Nat.pow_succ]; have := Nat.two_pow_pos k; omega
      · exact Nat.two_pow_pos _
theorem msk_bit (f : Nat → Bool) (i : Nat) : ∀ k, (msk f k).testBit i = (decide (i < k) && f i)
  | 0 => by simp [msk]
  | k + 1 => by
    rw [msk, Nat.testBit_or, msk_bit f i k]
    by_cases hi : i = k
    · subst hi
      by_cases hf : f i = true
      · simp [hf]
      · simp [hf]
    · have e : (if f k = true then 2 ^ k else 0).testBit i = false := by
        split
        · rw [Nat.testBit_two_pow]; simp; omega
        · simp
      rw [e, Bool.or_false]
      congr 1
      apply decide_eq_decide.mpr
      omega
theorem msk_congr {f g : Nat → Bool} {k : Nat} (h : ∀ i, i < k → f i = g i) : msk f k = msk g k := by
  apply Nat.eq_of_testBit_eq
  intro i
  rw [msk_bit, msk_bit]
  by_cases hi : i < k
  · simp [hi, h i hi]
  · simp [hi]
theorem pow_le_64 {n : Nat} (h : n ≤ 6) : 2 ^ n ≤ 64 := Nat.le_trans (Nat.pow_le_pow_right (by decide) h) (by decide)
section GM
variable {G : Gm} {p q x : Nat}
theorem WF.n6 (h : WF G) : Gn G ≤ 6 := h.1
theorem WF.h1 (h : WF G) (hp : p < Gn G) : 1 ≤ Gh G p := (h.2 p hp).1.1
theorem WF.h4 (h : WF G) (hp : p < Gn G) : Gh G p ≤ 4 := (h.2 p hp).1.2
theorem WF.s2 (h : WF G) (hp : p < Gn G) : Gs G p < 2 ^ Gn G := (h.2 p hp).2.1
theorem WF.s64 (h : WF G) (hp : p < Gn G) : Gs G p < 64 := Nat.lt_of_lt_of_le (h.2 p hp).2.1 (pow_le_64 h.1)
theorem WF.irr (h : WF G) (hp : p < Gn G) : sees G p p = false := (h.2 p hp).2.2.1
theorem WF.t (h : WF G) (hp : p < Gn G) {σ : Nat} (hs : σ < sit G p) : Gt G p σ < Gh G p := (h.2 p hp).2.2.2 σ hs
theorem WF.see_lt (h : WF G) (hp : p < Gn G) (hq : sees G p q = true) : q < Gn G := by
  rcases Nat.lt_or_ge q (Gn G) with z | z
  · exact z
  · have := Nat.testBit_lt_two_pow (Nat.lt_of_lt_of_le (h.s2 hp) (Nat.pow_le_pow_right (by decide) z))
    unfold sees at hq
    rw [this] at hq; cases hq
theorem WF.see_ne (h : WF G) (hp : p < Gn G) (hq : sees G p q = true) : q ≠ p := fun e => by
  subst e
  rw [h.irr hp] at hq; cases hq
theorem fac_pos (h : WF G) (hq : q < Gn G) : 0 < fac G p q := by
  unfold fac; split
  · exact h.h1 hq
  · decide
theorem fac_le (h : WF G) (hq : q < Gn G) : fac G p q ≤ 4 := by
  unfold fac; split
  · exact h.h4 hq
  · decide
theorem wB_pos (h : WF G) (a : Nat) : 0 < wB G p a := pw_pos (fun i h1 h2 => fac_pos h (by omega))
theorem wB_le (h : WF G) (a : Nat) : wB G p a ≤ 4096 :=
  Nat.le_trans (pw_le (c := 4) (fun i h1 h2 => fac_le h (by omega))) (Nat.le_trans (Nat.pow_le_pow_right (by decide) (by have := h.n6; omega : Gn G - a ≤ 6)) (by decide))
theorem wB_step (a : Nat) (ha : a < Gn G) : wB G p a = fac G p a * wB G p (a + 1) := by
  unfold wB
  rw [show Gn G - a = (Gn G - (a + 1)) + 1 by omega, pw_cons]
theorem wB_end (a : Nat) (ha : Gn G ≤ a) : wB G p a = 1 := by
  unfold wB
  rw [show Gn G - a = 0 by omega]; rfl
theorem sit_pos (h : WF G) : 0 < sit G p := wB_pos h 0
theorem sit_split (hp : p < Gn G) (r : Nat) : sit G r = pw (fac G r) 0 p * (fac G r p * wB G r (p + 1)) := by
  unfold sit wB
  have e := pw_split (fac G r) 0 p (Gn G - p)
  rw [show p + (Gn G - p) = Gn G - 0 by omega] at e
  rw [e, Nat.zero_add, show Gn G - p = (Gn G - (p + 1)) + 1 by omega, pw_cons]
theorem sit_le (h : WF G) (hp : p < Gn G) : sit G p ≤ 1024 := by
  rw [sit_split hp p]
  have e : fac G p p = 1 := by unfold fac; rw [h.irr hp]; rfl
  rw [e, Nat.one_mul]
  have h1 : pw (fac G p) 0 p ≤ 4 ^ p := pw_le (fun i _ h2 => fac_le h (by omega))
  have h2 : wB G p (p + 1) ≤ 4 ^ (Gn G - (p + 1)) := pw_le (fun i _ h2 => fac_le h (by omega))
  refine Nat.le_trans (Nat.mul_le_mul h1 h2) ?_
  rw [← Nat.pow_add]
  exact Nat.le_trans (Nat.pow_le_pow_right (by decide) (by have := h.n6; omega : p + (Gn G - (p + 1)) ≤ 5)) (by decide)
theorem ncol_pos (h : WF G) (h0 : Gn G ≠ 0) : 0 < ncol G := by
  unfold ncol
  rw [if_neg h0]
  exact pw_pos (fun i _ h2 => h.h1 (by omega))
theorem ncol_le (h : WF G) : ncol G ≤ 4096 := by
  unfold ncol
  split
  · decide
  · exact Nat.le_trans (pw_le (c := 4) (fun i _ h2 => h.h4 (by omega))) (Nat.le_trans (Nat.pow_le_pow_right (by decide) h.n6) (by decide))
theorem ncol_lt {x : Nat} (hx : x < ncol G) : Gn G ≠ 0 ∧ x < pw (Gh G) 0 (Gn G) := by
  unfold ncol at hx
  split at hx
  · omega
  · exact ⟨by assumption, hx⟩
theorem col_lt (h : WF G) (hp : p < Gn G) : col G p x < Gh G p := dig_lt (h.h1 hp)
theorem sdig_lt (h : WF G) (hq : q < Gn G) : (if sees G p q then col G q x else 0) < fac G p q := by
  unfold fac
  split
  · exact col_lt h hq
  · decide
theorem sOf_lt (h : WF G) : sOf G p x < sit G p := by
  unfold sOf sit wB
  exact hor_lt (fun i hi => sdig_lt h hi)
theorem rgt_lt (h : WF G) : rgt G x < 64 := Nat.lt_of_lt_of_le (msk_lt _ _) (pow_le_64 h.n6)
end GM
