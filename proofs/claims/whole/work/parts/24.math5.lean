/-! THE CLASS'S GAME, further -/
section X2b
variable {κ : Mem} {g : Nat} {G : Gm} {F p q : Nat}
theorem cIn_lt (hw : WF G) (hq : q < Gn G) (σ : Nat) : cIn G p q σ < Gh G q := Nat.mod_lt _ (hw.h1 hq)
/-- a situation with another colour of one that is seen -/
def chg (G : Gm) (p q σ c : Nat) : Nat := σ - cIn G p q σ * wB G p (q + 1) + c * wB G p (q + 1)
theorem cIn_le (σ : Nat) : cIn G p q σ * wB G p (q + 1) ≤ σ :=
  Nat.le_trans (Nat.mul_le_mul_right _ (Nat.mod_le _ _)) (Nat.div_mul_le_self _ _)
theorem chg_parts (σ : Nat) : ∃ a r : Nat, σ = (a * Gh G q + cIn G p q σ) * wB G p (q + 1) + r ∧ (0 < wB G p (q + 1) → r < wB G p (q + 1)) ∧ a = σ / wB G p (q + 1) / Gh G q := by
  refine ⟨σ / wB G p (q + 1) / Gh G q, σ % wB G p (q + 1), ?_, Nat.mod_lt _, rfl⟩
  unfold cIn
  rw [Nat.div_add_mod', Nat.div_add_mod']
theorem chg_eq (σ c : Nat) {a r : Nat} (h : σ = (a * Gh G q + cIn G p q σ) * wB G p (q + 1) + r) : chg G p q σ c = (a * Gh G q + c) * wB G p (q + 1) + r := by
  unfold chg
  have h1 := cIn_le (G := G) (p := p) (q := q) σ
  rw [Nat.add_mul] at h ⊢
  omega
theorem chg_lt (hw : WF G) (hp : p < Gn G) (hs : sees G p q = true) {σ c : Nat} (hσ : σ < sit G p) (hc : c < Gh G q) : chg G p q σ c < sit G p := by
  have hq := hw.see_lt hp hs
  obtain ⟨a, r, h1, h2, h3⟩ := chg_parts (G := G) (p := p) (q := q) σ
  have hW := wB_pos (p := p) hw (q + 1)
  rw [chg_eq σ c h1]
  rw [sit_split hq p] at hσ ⊢
  have hf : fac G p q = Gh G q := by unfold fac; rw [hs]; rfl
  rw [hf] at hσ ⊢
  have ha : a < pw (fac G p) 0 q := by
    rw [h3, Nat.div_div_eq_div_mul]
    rw [Nat.div_lt_iff_lt_mul (Nat.mul_pos hW (hw.h1 hq))]
    rw [Nat.mul_comm (wB G p (q + 1))]
    exact hσ
  have h4 : (a * Gh G q + c) < pw (fac G p) 0 q * Gh G q := mul_add_lt ha hc
  have h5 := mul_add_lt h4 (h2 hW)
  rw [Nat.mul_assoc] at h5
  exact h5
/-- whether one would guess otherwise with some other colour of another -/
def swy (G : Gm) (p q σ : Nat) : Bool := exb (fun c => decide (Gt G p (chg G p q σ c) ≠ Gt G p σ)) (Gh G q)
theorem sX2_swayed_in {σ v4 v5 : Nat} {k : Int32 → Int32 → Option Int32} (hG : XG κ g G) (hw : WF G) (hF : 10 < F) (hp : p < Gn G) (hs : sees G p q = true) (hσ : σ < sit G p) : pX2_swayed_48 F g κ k (nI p) (nI q) (nI (wB G p (q + 1))) (nI v4) (nI v5) (nI σ) (nI (σ - cIn G p q σ * wB G p (q + 1))) F (nI 0) (nI 0) = k (nI (v4 + (swy G p q σ).toNat)) (nI (σ + 1)) := by
  have hq := hw.see_lt hp hs
  have hp6 := hw_lt hw hp
  have hq6 := hw_lt hw hq
  have h4 := hw.h4 hq
  have hsl := sit_le hw hp
  refine lp_up (fun fu i => pX2_swayed_48 F g κ k (nI p) (nI q) (nI (wB G p (q + 1))) (nI v4) (nI v5) (nI σ) (nI (σ - cIn G p q σ * wB G p (q + 1))) fu (nI (exb (fun c => decide (Gt G p (chg G p q σ c) ≠ Gt G p σ)) i).toNat) (nI i)) 0 (Gh G q) _
    (fun fu => by
      show pX2_swayed_48 F g κ k (nI p) (nI q) (nI (wB G p (q + 1))) (nI v4) (nI v5) (nI σ) (nI (σ - cIn G p q σ * wB G p (q + 1))) (fu + 1) _ _ = _
      rw [pX2_swayed_48]
      unfold pX2_swayed_105
      simp (disch := omega) only [n_0, n_1, n_2, n_3, n_4, n_5, n_6, n_7, n_8, n_9, n_10, n_12, n_13, n_14, n_20, n_31, n_32, n_63, n_64, n_600, n_1024, n_4096, n_6157, n_add, n_mul, nm_def, Option.bind_some, Option.some.injEq, ck_in, ck_nz, ck_p, n_cl, n_lt, n_le, n_eq, n_div, n_rem, if_pos, if_neg, if_true, if_false, eq_self, n_192, n_256, n_20000, m1_n0, m1_np, m1_n0p, m1_lt0, m1_lt0p, mi_setIA, mi_setI, ml_setIA, ml_setI, mr_setI, mr_setIA, hG.h hq]
      unfold swy
      cases exb (fun c => decide (Gt G p (chg G p q σ c) ≠ Gt G p σ)) (Gh G q)
      · simp (disch := omega) only [n_0, n_1, n_2, n_3, n_4, n_5, n_6, n_7, n_8, n_9, n_10, n_12, n_13, n_14, n_20, n_31, n_32, n_63, n_64, n_600, n_1024, n_4096, n_6157, n_add, n_mul, nm_def, Option.bind_some, Option.some.injEq, ck_in, ck_nz, ck_p, n_cl, n_lt, n_le, n_eq, n_div, n_rem, if_pos, if_neg, if_true, if_false, eq_self, n_192, n_256, n_20000, m1_n0, m1_np, m1_n0p, m1_lt0, m1_lt0p, mi_setIA, mi_setI, ml_setIA, ml_setI, mr_setI, mr_setIA, Bool.toNat_false, Nat.add_zero]
      · simp (disch := omega) only [n_0, n_1, n_2, n_3, n_4, n_5, n_6, n_7, n_8, n_9, n_10, n_12, n_13, n_14, n_20, n_31, n_32, n_63, n_64, n_600, n_1024, n_4096, n_6157, n_add, n_mul, nm_def, Option.bind_some, Option.some.injEq, ck_in, ck_nz, ck_p, n_cl, n_lt, n_le, n_eq, n_div, n_rem, if_pos, if_neg, if_true, if_false, eq_self, n_192, n_256, n_20000, m1_n0, m1_np, m1_n0p, m1_lt0, m1_lt0p, mi_setIA, mi_setI, ml_setIA, ml_setI, mr_setI, mr_setIA, Bool.toNat_true])
    (fun fu i _ h2 => by
      show pX2_swayed_48 F g κ k (nI p) (nI q) (nI (wB G p (q + 1))) (nI v4) (nI v5) (nI σ) (nI (σ - cIn G p q σ * wB G p (q + 1))) (fu + 1) _ _ = pX2_swayed_48 F g κ k (nI p) (nI q) (nI (wB G p (q + 1))) (nI v4) (nI v5) (nI σ) (nI (σ - cIn G p q σ * wB G p (q + 1))) fu _ _
      have hc := chg_lt hw hp hs hσ h2
      have ht1 := tol_lt κ g p (chg G p q σ i)
      have ht2 := tol_lt κ g p σ
      rw [pX2_swayed_48]
      unfold pX2_swayed_88
      have e : σ - cIn G p q σ * wB G p (q + 1) + i * wB G p (q + 1) = chg G p q σ i := rfl
      simp (disch := omega) only [n_0, n_1, n_2, n_3, n_4, n_5, n_6, n_7, n_8, n_9, n_10, n_12, n_13, n_14, n_20, n_31, n_32, n_63, n_64, n_600, n_1024, n_4096, n_6157, n_add, n_mul, nm_def, Option.bind_some, Option.some.injEq, ck_in, ck_nz, ck_p, n_cl, n_lt, n_le, n_eq, n_div, n_rem, if_pos, if_neg, if_true, if_false, eq_self, n_192, n_256, n_20000, m1_n0, m1_np, m1_n0p, m1_lt0, m1_lt0p, mi_setIA, mi_setI, ml_setIA, ml_setI, mr_setI, mr_setIA, hG.h hq, e, sX2_told κ g hp6]
      rw [hG.t hp hc] at ht1 ⊢
      rw [hG.t hp hσ] at ht2 ⊢
      rw [exb]
      by_cases h : Gt G p (chg G p q σ i) = Gt G p σ
      · have e2 : decide (Gt G p (chg G p q σ i) ≠ Gt G p σ) = false := by simp [h]
        rw [if_pos h, e2, ← n_orB]
        rfl
      · have e2 : decide (Gt G p (chg G p q σ i) ≠ Gt G p σ) = true := by simp [h]
        rw [if_neg h, e2, ← n_orB]
        rfl)
    (Nat.zero_le _) F (by omega)
theorem sX2_swayed (hG : XG κ g G) (hw : WF G) (hF : 2000 < F) (hp : p < Gn G) (hs : sees G p q = true) : pX2_swayed F g κ (nI p) (nI q) = some (nI (cnt (swy G p q) (sit G p))) := by
  have hq := hw.see_lt hp hs
  have hsl := sit_le hw hp
  unfold pX2_swayed
  rw [sX2_weight hG hw (by omega) hp hq, sX2_situations hG hw (by omega) hp, hs]
  simp (disch := omega) only [n_0, n_1, n_2, n_3, n_4, n_5, n_6, n_7, n_8, n_9, n_10, n_12, n_13, n_14, n_20, n_31, n_32, n_63, n_64, n_600, n_1024, n_4096, n_6157, n_add, n_mul, nm_def, Option.bind_some, Option.some.injEq, ck_in, ck_nz, ck_p, n_cl, n_lt, n_le, n_eq, n_div, n_rem, if_pos, if_neg, if_true, if_false, eq_self, n_192, n_256, n_20000, m1_n0, m1_np, m1_n0p, m1_lt0, m1_lt0p, mi_setIA, mi_setI, ml_setIA, ml_setI, mr_setI, mr_setIA]
  refine lp_up (fun fu i => pX2_swayed_20 F g κ (nI p) (nI q) (nI (wB G p (q + 1))) (nI (sit G p)) fu (nI (cnt (swy G p q) i)) (nI i)) 0 (sit G p) _
    (fun fu => by
      show pX2_swayed_20 F g κ (nI p) (nI q) (nI (wB G p (q + 1))) (nI (sit G p)) (fu + 1) _ _ = _
      rw [pX2_swayed_20]
      simp (disch := omega) only [n_0, n_1, n_2, n_3, n_4, n_5, n_6, n_7, n_8, n_9, n_10, n_12, n_13, n_14, n_20, n_31, n_32, n_63, n_64, n_600, n_1024, n_4096, n_6157, n_add, n_mul, nm_def, Option.bind_some, Option.some.injEq, ck_in, ck_nz, ck_p, n_cl, n_lt, n_le, n_eq, n_div, n_rem, if_pos, if_neg, if_true, if_false, eq_self, n_192, n_256, n_20000, m1_n0, m1_np, m1_n0p, m1_lt0, m1_lt0p, mi_setIA, mi_setI, ml_setIA, ml_setI, mr_setI, mr_setIA])
    (fun fu i _ h2 => by
      show pX2_swayed_20 F g κ (nI p) (nI q) (nI (wB G p (q + 1))) (nI (sit G p)) (fu + 1) _ _ = pX2_swayed_20 F g κ (nI p) (nI q) (nI (wB G p (q + 1))) (nI (sit G p)) fu _ _
      have hle := cIn_le (G := G) (p := p) (q := q) i
      rw [pX2_swayed_20]
      rw [sX2_colourIn hG hw (by omega) hp hq (by omega)]
      simp (disch := omega) only [n_0, n_1, n_2, n_3, n_4, n_5, n_6, n_7, n_8, n_9, n_10, n_12, n_13, n_14, n_20, n_31, n_32, n_63, n_64, n_600, n_1024, n_4096, n_6157, n_add, n_mul, nm_def, Option.bind_some, Option.some.injEq, ck_in, ck_nz, ck_p, n_cl, n_lt, n_le, n_eq, n_div, n_rem, if_pos, if_neg, if_true, if_false, eq_self, n_192, n_256, n_20000, m1_n0, m1_np, m1_n0p, m1_lt0, m1_lt0p, mi_setIA, mi_setI, ml_setIA, ml_setI, mr_setI, mr_setIA, n_sub]
      rw [sX2_swayed_in hG hw (by omega) hp hs h2]
      rfl)
    (Nat.zero_le _) F (by omega)
/-- all ways to guess -/
def nways (G : Gm) : Nat := pw (fun p => Gh G p ^ sit G p) 0 (Gn G)
def capd (a v : Nat) : Prop := (a ≤ 20000 ∧ v = a) ∨ (20000 < a ∧ 20000 < v ∧ v ≤ 80000)
theorem sX2_ways_in {k4 : Int32 → Int32 → Option Int32} {h all : Nat} (hp : p < 6) (hh : mi κ (g + 1) p = nI h) (h1 : 1 ≤ h) (h4 : h ≤ 4) (hall : all ≤ 1024) : ∀ (k fu a v i : Nat), capd a v → i + k = all → k < fu → ∃ v', capd (a * h ^ k) v' ∧ pX2_waysToGuess_35 F g κ k4 (nI p) (nI all) fu (nI v) (nI i) = k4 (nI v') (nI (p + 1)) := by
  intro k
  induction k with
  | zero =>
    intro fu a v i hc hi hf
    refine ⟨v, by rw [Nat.pow_zero, Nat.mul_one]; exact hc, ?_⟩
    cases fu with
    | zero => omega
    | succ fu =>
      rw [pX2_waysToGuess_35]
      unfold pX2_waysToGuess_63
      simp (disch := omega) only [n_0, n_1, n_2, n_3, n_4, n_5, n_6, n_7, n_8, n_9, n_10, n_12, n_13, n_14, n_20, n_31, n_32, n_63, n_64, n_600, n_1024, n_4096, n_6157, n_add, n_mul, nm_def, Option.bind_some, Option.some.injEq, ck_in, ck_nz, ck_p, n_cl, n_lt, n_le, n_eq, n_div, n_rem, if_pos, if_neg, if_true, if_false, eq_self, n_192, n_256, n_20000, m1_n0, m1_np, m1_n0p, m1_lt0, m1_lt0p, mi_setIA, mi_setI, ml_setIA, ml_setI, mr_setI, mr_setIA]
  | succ k ih =>
    intro fu a v i hc hi hf
    cases fu with
    | zero => omega
    | succ fu =>
      rw [pX2_waysToGuess_35]
      unfold pX2_waysToGuess_63
      have hpos : 1 ≤ h ^ (k + 1) := Nat.pow_pos h1
      rcases hc with ⟨c1, c2⟩ | ⟨c1, c2, c3⟩
      · subst c2
        have hm : v * h ≤ 80000 := Nat.le_trans (Nat.mul_le_mul c1 h4) (by decide)
        have hc' : capd (v * h) (v * h) := by
          unfold capd
          rcases Nat.lt_or_ge 20000 (v * h) with z | z
          · exact Or.inr ⟨z, z, hm⟩
          · exact Or.inl ⟨z, rfl⟩
        obtain ⟨v', e1, e2⟩ := ih fu (v * h) (v * h) (i + 1) hc' (by omega) (by omega)
        refine ⟨v', by rw [Nat.pow_succ, Nat.mul_comm (h ^ k), ← Nat.mul_assoc]; exact e1, ?_⟩
        simp (disch := omega) only [n_0, n_1, n_2, n_3, n_4, n_5, n_6, n_7, n_8, n_9, n_10, n_12, n_13, n_14, n_20, n_31, n_32, n_63, n_64, n_600, n_1024, n_4096, n_6157, n_add, n_mul, nm_def, Option.bind_some, Option.some.injEq, ck_in, ck_nz, ck_p, n_cl, n_lt, n_le, n_eq, n_div, n_rem, if_pos, if_neg, if_true, if_false, eq_self, n_192, n_256, n_20000, m1_n0, m1_np, m1_n0p, m1_lt0, m1_lt0p, mi_setIA, mi_setI, ml_setIA, ml_setI, mr_setI, mr_setIA, hh]
        exact e2
      · refine ⟨v, Or.inr ⟨Nat.lt_of_lt_of_le c1 (Nat.le_mul_of_pos_right a hpos), c2, c3⟩, ?_⟩
        simp (disch := omega) only [n_0, n_1, n_2, n_3, n_4, n_5, n_6, n_7, n_8, n_9, n_10, n_12, n_13, n_14, n_20, n_31, n_32, n_63, n_64, n_600, n_1024, n_4096, n_6157, n_add, n_mul, nm_def, Option.bind_some, Option.some.injEq, ck_in, ck_nz, ck_p, n_cl, n_lt, n_le, n_eq, n_div, n_rem, if_pos, if_neg, if_true, if_false, eq_self, n_192, n_256, n_20000, m1_n0, m1_np, m1_n0p, m1_lt0, m1_lt0p, mi_setIA, mi_setI, ml_setIA, ml_setI, mr_setI, mr_setIA]
theorem sX2_waysToGuess (hG : XG κ g G) (hw : WF G) (hF : 2000 < F) : ∃ v, capd (nways G) v ∧ pX2_waysToGuess F g κ = some (nI v) := by
  have hn := hw.n6
  have key : ∀ (k fu a v i : Nat), capd a v → i + k = Gn G → k < fu → ∃ v', capd (a * pw (fun p => Gh G p ^ sit G p) i k) v' ∧ pX2_waysToGuess_4 F g κ fu (nI v) (nI i) = some (nI v') := by
    intro k
    induction k with
    | zero =>
      intro fu a v i hc hi hf
      refine ⟨v, by rw [pw, Nat.mul_one]; exact hc, ?_⟩
      cases fu with
      | zero => omega
      | succ fu =>
        rw [pX2_waysToGuess_4]
        simp (disch := omega) only [n_0, n_1, n_2, n_3, n_4, n_5, n_6, n_7, n_8, n_9, n_10, n_12, n_13, n_14, n_20, n_31, n_32, n_63, n_64, n_600, n_1024, n_4096, n_6157, n_add, n_mul, nm_def, Option.bind_some, Option.some.injEq, ck_in, ck_nz, ck_p, n_cl, n_lt, n_le, n_eq, n_div, n_rem, if_pos, if_neg, if_true, if_false, eq_self, n_192, n_256, n_20000, m1_n0, m1_np, m1_n0p, m1_lt0, m1_lt0p, mi_setIA, mi_setI, ml_setIA, ml_setI, mr_setI, mr_setIA, hG.n]
    | succ k ih =>
      intro fu a v i hc hi hf
      cases fu with
      | zero => omega
      | succ fu =>
        have hi2 : i < Gn G := by omega
        have h1 := hw.h1 hi2
        have h4 := hw.h4 hi2
        have hs := sit_le hw hi2
        rw [pX2_waysToGuess_4]
        unfold pX2_waysToGuess_31
        simp (disch := omega) only [n_0, n_1, n_2, n_3, n_4, n_5, n_6, n_7, n_8, n_9, n_10, n_12, n_13, n_14, n_20, n_31, n_32, n_63, n_64, n_600, n_1024, n_4096, n_6157, n_add, n_mul, nm_def, Option.bind_some, Option.some.injEq, ck_in, ck_nz, ck_p, n_cl, n_lt, n_le, n_eq, n_div, n_rem, if_pos, if_neg, if_true, if_false, eq_self, n_192, n_256, n_20000, m1_n0, m1_np, m1_n0p, m1_lt0, m1_lt0p, mi_setIA, mi_setI, ml_setIA, ml_setI, mr_setI, mr_setIA, hG.n, hG.h hi2]
        rw [pw_cons, ← Nat.mul_assoc]
        by_cases h : Gh G i = 1
        · rw [if_pos h]
          obtain ⟨v1, c1, e1⟩ := sX2_ways_in (k4 := pX2_waysToGuess_4 F g κ fu) (F := F) (by omega) (hG.h hi2) h1 h4 (Nat.zero_le 1024) 0 F a v 0 hc rfl (by omega)
          obtain ⟨v2, c2, e2⟩ := ih fu (a * Gh G i ^ 0) v1 (i + 1) c1 (by omega) (by omega)
          refine ⟨v2, ?_, e1.trans e2⟩
          rw [h, Nat.one_pow]
          rw [h] at c2
          exact c2
        · rw [if_neg h, sX2_situations hG hw (by omega) hi2, Option.bind_some]
          obtain ⟨v1, c1, e1⟩ := sX2_ways_in (k4 := pX2_waysToGuess_4 F g κ fu) (F := F) (by omega) (hG.h hi2) h1 h4 hs (sit G i) F a v 0 hc (by omega) (by omega)
          obtain ⟨v2, c2, e2⟩ := ih fu (a * Gh G i ^ sit G i) v1 (i + 1) c1 (by omega) (by omega)
          exact ⟨v2, c2, e1.trans e2⟩
  obtain ⟨v, h1, h2⟩ := key (Gn G) F 1 1 0 (Or.inl ⟨by decide, rfl⟩) (by omega) (by omega)
  refine ⟨v, ?_, h2⟩
  rw [Nat.one_mul] at h1
  exact h1
end X2b
