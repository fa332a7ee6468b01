/-! AT THE START: both sides hold the empty game -/
def gm0 : Gm := (0, fun _ => 0, fun _ => 0, fun _ _ => 0)
theorem IV_start {F : Nat} (hF : 300 < F) : ∃ κ1, pX2_clear F 1 kX0 0 = some κ1 ∧ IV gm0 (fun _ => gm0) 0 κ1 kM0 := by
  obtain ⟨κ1, a1, a2, -, -, a5⟩ := sX2_clear (g := 1) (κ := kX0) (v := 0) hF
  have hq : ∀ k, 5 ≤ k ∨ k = 0 → κ1.1 k = kX0.1 k ∧ κ1.2.2 k = kX0.2.2 k := fun k hk => by
    have h1 : ¬ gC 1 k := fun z => by unfold gC at z; omega
    exact ⟨(a1 k h1).1, (a1 k h1).2.2⟩
  have hi : ∀ k i, 5 ≤ k ∨ k = 0 → mi κ1 k i = mi kX0 k i := fun k i hk => congrFun (hq k hk).1 i
  have hr : ∀ k i, 5 ≤ k ∨ k = 0 → mr κ1 k i = mr kX0 k i := fun k i hk => congrFun (hq k hk).2 i
  have hv : ∀ p, ¬ p < Gn gm0 := fun p hp => absurd hp (Nat.not_lt_zero p)
  have hnc : ncol gm0 = 0 := rfl
  have hw0 : WF gm0 := ⟨Nat.zero_le _, fun p hp => absurd hp (hv p)⟩
  refine ⟨κ1, a5, ⟨hw0, ⟨⟨a2.trans rfl, fun p hp => absurd hp (hv p), fun p hp => absurd hp (hv p), fun p hp => absurd hp (hv p)⟩, (hi 41 1 (by omega)).trans rfl, fun p hp => absurd hp (hv p), fun p hp => absurd hp (hv p)⟩, ⟨fun x hx => absurd hx (by rw [hnc]; exact Nat.not_lt_zero x), fun w hw => ?_⟩, ⟨rfl, fun p hp => absurd hp (hv p), fun p hp => absurd hp (hv p), fun p hp => absurd hp (hv p)⟩⟩, ⟨⟨Nat.zero_le _, fun j hj => absurd hj (Nat.not_lt_zero j)⟩, ⟨⟨0, by omega, (hi 135 1 (by omega)).trans rfl, fun j hj => absurd hj (Nat.not_lt_zero j)⟩, (hi 135 2 (by omega)).trans rfl⟩, ⟨rfl, fun j hj => absurd hj (Nat.not_lt_zero j)⟩⟩, ⟨⟨0, by omega, (hi 0 11 (by omega)).trans rfl, rfl, fun i h => absurd h (Nat.not_lt_zero i)⟩, ⟨0, by omega, (hi 144 1 (by omega)).trans rfl, rfl, Or.inl ⟨(hr 144 0 (by omega)).trans rfl, (hr 144 2 (by omega)).trans rfl⟩, fun i h => absurd h (Nat.not_lt_zero i)⟩, ⟨(hi 0 13 (by omega)).trans rfl, (hi 0 14 (by omega)).trans rfl⟩, fun i h10 => ?_⟩, (hi 0 12 (by omega)).trans rfl⟩
  · rw [hi 51 w (by omega), hnc]
    rfl
  · have h7 : i = 0 ∨ i = 1 ∨ i = 2 ∨ i = 3 ∨ i = 4 ∨ i = 5 ∨ i = 6 ∨ i = 7 ∨ i = 8 ∨ i = 9 := by omega
    rcases h7 with rfl | rfl | rfl | rfl | rfl | rfl | rfl | rfl | rfl | rfl <;> rfl
