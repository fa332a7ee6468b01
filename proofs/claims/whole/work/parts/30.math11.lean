/-! ALL TAKE THEIR BEST IN TURN -/
section X1i
variable {κ : Mem} {G : Gm} {F p q x : Nat} {t : Nat → Nat → Nat}
theorem clr_bit : ∀ a, a < 64 → ∀ p, p < 6 → ∀ i, i < 6 → (clr a p).testBit i = if i = p then false else a.testBit i := by decide +kernel
theorem clr_zero {a p : Nat} (ha : a < 64) (hp : p < 6) : clr a p = 0 ↔ ∀ i, i < 6 → i ≠ p → a.testBit i = false := by
  constructor
  · intro h i hi hne
    have := clr_bit a ha p hp i hi
    rw [h, if_neg hne] at this
    simpa using this.symm
  · intro h
    refine eq64 _ (clr_lt ha hp) 0 (by decide) (fun i hi => ?_)
    rw [clr_bit a ha p hp i hi]
    by_cases c : i = p
    · rw [if_pos c]; simp
    · rw [if_neg c, h i hi c]; simp
theorem zero64 {a : Nat} (ha : a < 64) : a = 0 ↔ ∀ i, i < 6 → a.testBit i = false := by
  constructor
  · intro h i _; rw [h]; simp
  · intro h
    exact eq64 _ ha 0 (by decide) (fun i hi => by rw [h i hi]; simp)
theorem tk_lost (hw : WF G) (hp : p < Gn G) (x : Nat) : decide (rgt (tk G p) x = 0) = (onl G p x && !decide (col G p x = bst G p (sOf G p x))) := by
  have hp6 := hw_lt hw hp
  have hw2 := WF_tk hw hp
  have e1 : ∀ i, i ≠ p → isR (tk G p) i x = isR G i x := fun i hi => by
    unfold isR
    have e2 : Gt (tk G p) i (sOf (tk G p) i x) = Gt G i (sOf G i x) := if_neg hi
    rw [e2]
    rfl
  have e3 : isR (tk G p) p x = decide (bst G p (sOf G p x) = col G p x) := by
    unfold isR
    have e2 : Gt (tk G p) p (sOf (tk G p) p x) = bst G p (sOf G p x) := if_pos rfl
    rw [e2]
    rfl
  have e4 : (rgt (tk G p) x = 0) ↔ (clr (rgt G x) p = 0 ∧ ¬ col G p x = bst G p (sOf G p x)) := by
    rw [zero64 (rgt_lt hw2), clr_zero (rgt_lt hw) hp6]
    constructor
    · intro h
      refine ⟨fun i hi hne => ?_, ?_⟩
      · have := h i hi
        rw [rgt_bit hw2, e1 i hne] at this
        rw [rgt_bit hw]
        exact this
      · have := h p hp6
        rw [rgt_bit hw2, e3] at this
        intro z
        rw [z] at this
        simp [Gn_tk, hp] at this
    · rintro ⟨h1, h2⟩ i hi
      rw [rgt_bit hw2]
      by_cases c : i = p
      · subst c
        rw [e3]
        have : decide (bst G i (sOf G i x) = col G i x) = false := by simp; exact fun z => h2 z.symm
        rw [this]; simp
      · rw [e1 i c]
        have := h1 i hi c
        rw [rgt_bit hw] at this
        exact this
  unfold onl
  by_cases a : clr (rgt G x) p = 0
  · by_cases b : col G p x = bst G p (sOf G p x)
    · have z : ¬ rgt (tk G p) x = 0 := fun y => (e4.mp y).2 b
      simp [a, b, z]
    · have z : rgt (tk G p) x = 0 := e4.mpr ⟨a, b⟩
      simp [a, b, z]
  · have z : ¬ rgt (tk G p) x = 0 := fun y => a (e4.mp y).1
    simp [a, z]
theorem lst_tk (hw : WF G) (hp : p < Gn G) : lst (tk G p) = lw G p := by
  have e1 : lst (tk G p) = cnt (fun x => onl G p x && !decide (col G p x = bst G p (sOf G p x))) (ncol G) := by
    unfold lst
    exact cnt_congr (fun x _ => tk_lost hw hp x)
  have e2 : sm (fun s => rsc G p s (bst G p s)) (sit G p) = cnt (fun x => onl G p x && decide (col G p x = bst G p (sOf G p x))) (ncol G) := by
    rw [← cnt_part (fun x => onl G p x && decide (col G p x = bst G p (sOf G p x))) (sOf G p) (sit G p) (ncol G) (fun x _ _ => sOf_lt hw)]
    refine sm_congr (fun s _ => cnt_congr (fun x _ => ?_))
    by_cases a : onl G p x = true
    · by_cases b : sOf G p x = s
      · subst b; simp [a]
      · simp [a, b]
    · simp [a]
  have e3 := cnt_split (onl G p) (fun x => decide (col G p x = bst G p (sOf G p x))) (ncol G)
  unfold lw
  rw [e1, e2]
  omega
def nx (G : Gm) (p : Nat) : Nat := if p + 1 < Gn G then p + 1 else 0
def betG : Nat → Gm → Nat → Nat → Nat → Option (Gm × Nat)
  | 0, _, _, _, _ => none
  | fu + 1, G, took, idle, p => if idle < Gn G then (if lw G p < lst G then betG fu (tk G p) (took + 1) 0 (nx G p) else betG fu G took (idle + 1) (nx G p)) else some (G, took)
theorem nx_lt (h : p < Gn G) : nx G p < Gn G := by unfold nx; split <;> omega
theorem lst_le (hw : WF G) : lst G ≤ 4096 := cnt_n hw _
theorem betG_some : ∀ (fu : Nat) (G : Gm) (took idle p : Nat), WF G → (0 < Gn G → p < Gn G) → 7 * lst G + (Gn G - idle) < fu → ∃ r, betG fu G took idle p = some r ∧ WF r.1 := by
  intro fu
  induction fu with
  | zero => intro G took idle p _ _ h; omega
  | succ fu ih =>
    intro G took idle p hw hp h
    rw [betG]
    by_cases c : idle < Gn G
    · have hp1 := hp (by omega)
      rw [if_pos c]
      by_cases c2 : lw G p < lst G
      · rw [if_pos c2]
        have e := lst_tk hw hp1
        have hn := hw.n6
        exact ih (tk G p) (took + 1) 0 (nx G p) (WF_tk hw hp1) (fun _ => nx_lt hp1) (by rw [e, Gn_tk]; omega)
      · rw [if_neg c2]
        exact ih G took (idle + 1) (nx G p) hw (fun _ => nx_lt hp1) (by omega)
    · rw [if_neg c]
      exact ⟨_, rfl, hw⟩
/-- what betters ends in keeps players, hats and sights -/
theorem betG_T : ∀ (fu : Nat) (G : Gm) (took idle p : Nat) {r : Gm × Nat}, betG fu G took idle p = some r → ∃ t, r.1 = withT G t := by
  intro fu
  induction fu with
  | zero => intro G took idle p r h; rw [betG] at h; cases h
  | succ fu ih =>
    intro G took idle p r h
    rw [betG] at h
    by_cases c : idle < Gn G
    · rw [if_pos c] at h
      by_cases c2 : lw G p < lst G
      · rw [if_pos c2] at h
        obtain ⟨t, ht⟩ := ih _ _ _ _ h
        exact ⟨t, ht⟩
      · rw [if_neg c2] at h
        exact ih _ _ _ _ h
    · rw [if_neg c] at h
      cases h
      exact ⟨Gt G, rfl⟩
def cT (k : Nat) : Prop := k = 4 ∨ cS k
theorem sX1_improve_9 (hF : 5000 < F) : ∀ (fu : Nat) (κ : Mem) (G : Gm) (took idle p v4 fu2 : Nat) {r : Gm × Nat}, AR κ G → JD κ G → WF G → (0 < Gn G → p < Gn G) → idle ≤ 6 → betG fu G took idle p = some r → v4 + fu ≤ 1000000 → fu ≤ fu2 → ∃ κ1, agr cT κ κ1 ∧ AR κ1 r.1 ∧ JD κ1 r.1 ∧ WF r.1 ∧ pX1_improve_9 F fu2 κ (nI took) (nI idle) (nI p) (nI v4) = some (nI r.2, κ1) := by
  intro fu
  induction fu with
  | zero => intro κ G took idle p v4 fu2 r _ _ _ _ _ h; rw [betG] at h; cases h
  | succ fu ih =>
    intro κ G took idle p v4 fu2 r h hj hw hp hid hb hv hf
    cases fu2 with
    | zero => omega
    | succ fu2 =>
      have hn := hw.n6
      have h6 : (1000000 : Int32) = nI 1000000 := rfl
      rw [betG] at hb
      rw [pX1_improve_9]
      unfold pX1_improve_56 pX1_improve_76 pX1_improve_83
      by_cases c : idle < Gn G
      · have hp1 := hp (by omega)
        have hp6 := hw_lt hw hp1
        rw [if_pos c] at hb
        obtain ⟨κ1, a1, a2, a3⟩ := sX1_weighBest h hj hw hF hp1
        have a1' : agr cS κ κ1 := agr_mono a1 (fun k hk => by unfold cS; omega)
        have hA1 : AR κ1 G := h.agr hw a1' (fun k hk => by unfold cS at hk; omega)
        have hJ1 : JD κ1 G := ⟨fun x hx => by rw [agr_mi a1 (by omega)]; exact hj.r hx, fun w hw => by rw [agr_mi a1 (by omega)]; exact hj.b hw⟩
        have l1 := lst_le hw
        have l2 : lw G p ≤ 4096 := Nat.le_trans (Nat.sub_le _ _) (cnt_n hw _)
        have hA1n := hA1.n
        by_cases c2 : lw G p < lst G
        · rw [if_pos c2] at hb
          obtain ⟨κ2, b1, b2, b3, b4⟩ := sX1_takeBest hA1 hJ1 hw hF hp1 a2
          have hn2 : mi κ2 1 0 = nI (Gn G) := b2.n
          obtain ⟨κ3, d1, d2, d3, d4, d5⟩ := ih κ2 (tk G p) (took + 1) 0 (nx G p) (v4 + 1) fu2 b2 b3 (WF_tk hw hp1) (fun _ => nx_lt hp1) (by omega) hb (by omega) (by omega)
          refine ⟨κ3, agr_trans (agr_trans (agr_mono a1' (fun k hk => Or.inr hk)) b1) d1, d2, d3, d4, ?_⟩
          rw [a3]
          simp (disch := omega) only [n_0, n_1, n_2, n_3, n_4, n_5, n_6, n_7, n_8, n_9, n_10, n_12, n_13, n_14, n_20, n_31, n_32, n_63, n_64, n_600, n_1024, n_4096, n_6157, n_add, n_mul, nm_def, Option.bind_some, Option.some.injEq, ck_in, ck_nz, ck_p, n_cl, n_lt, n_le, n_eq, n_div, n_rem, if_pos, if_neg, if_true, if_false, eq_self, n_192, n_256, n_20000, m1_n0, m1_np, m1_n0p, m1_lt0, m1_lt0p, mi_setIA, mi_setI, ml_setIA, ml_setI, mr_setI, mr_setIA, h6, h.n, sX1_lostInAll hJ1, c2, b4, hn2]
          unfold nx at d5
          by_cases c3 : p + 1 < Gn G
          · rw [if_pos c3] at d5
            rw [if_pos c3]
            exact d5
          · rw [if_neg c3] at d5
            rw [if_neg c3]
            exact d5
        · rw [if_neg c2] at hb
          obtain ⟨κ3, d1, d2, d3, d4, d5⟩ := ih κ1 G took (idle + 1) (nx G p) (v4 + 1) fu2 hA1 hJ1 hw (fun _ => nx_lt hp1) (by omega) hb (by omega) (by omega)
          refine ⟨κ3, agr_trans (agr_mono a1' (fun k hk => Or.inr hk)) d1, d2, d3, d4, ?_⟩
          rw [a3]
          simp (disch := omega) only [n_0, n_1, n_2, n_3, n_4, n_5, n_6, n_7, n_8, n_9, n_10, n_12, n_13, n_14, n_20, n_31, n_32, n_63, n_64, n_600, n_1024, n_4096, n_6157, n_add, n_mul, nm_def, Option.bind_some, Option.some.injEq, ck_in, ck_nz, ck_p, n_cl, n_lt, n_le, n_eq, n_div, n_rem, if_pos, if_neg, if_true, if_false, eq_self, n_192, n_256, n_20000, m1_n0, m1_np, m1_n0p, m1_lt0, m1_lt0p, mi_setIA, mi_setI, ml_setIA, ml_setI, mr_setI, mr_setIA, h6, h.n, sX1_lostInAll hJ1, c2, hA1n]
          unfold nx at d5
          by_cases c3 : p + 1 < Gn G
          · rw [if_pos c3] at d5
            rw [if_pos c3]
            exact d5
          · rw [if_neg c3] at d5
            rw [if_neg c3]
            exact d5
      · rw [if_neg c] at hb
        cases hb
        refine ⟨κ, agr_rfl, h, hj, hw, ?_⟩
        simp (disch := omega) only [n_0, n_1, n_2, n_3, n_4, n_5, n_6, n_7, n_8, n_9, n_10, n_12, n_13, n_14, n_20, n_31, n_32, n_63, n_64, n_600, n_1024, n_4096, n_6157, n_add, n_mul, nm_def, Option.bind_some, Option.some.injEq, ck_in, ck_nz, ck_p, n_cl, n_lt, n_le, n_eq, n_div, n_rem, if_pos, if_neg, if_true, if_false, eq_self, n_192, n_256, n_20000, m1_n0, m1_np, m1_n0p, m1_lt0, m1_lt0p, mi_setIA, mi_setI, ml_setIA, ml_setI, mr_setI, mr_setIA, h6, h.n, c]
def bet (G : Gm) : Option (Gm × Nat) := betG 30000 G 0 0 0
theorem bet_some (hw : WF G) : ∃ r, bet G = some r ∧ WF r.1 := betG_some 30000 G 0 0 0 hw (fun h => h) (by have := lst_le hw; have := hw.n6; omega)
theorem sX1_improve {r : Gm × Nat} (h : AR κ G) (hj : JD κ G) (hw : WF G) (hF : 30000 < F) (hb : bet G = some r) : ∃ κ1, agr cT κ κ1 ∧ AR κ1 r.1 ∧ JD κ1 r.1 ∧ WF r.1 ∧ pX1_improve F κ = some (nI r.2, κ1) := by
  unfold pX1_improve
  exact sX1_improve_9 (by omega) 30000 κ G 0 0 0 0 F h hj hw (fun h => h) (by omega) hb (by omega) (by omega)
end X1i
