/-! TABLES OF A CLIQUE: the reference; the call -/
section CLR
variable {ρ ρ1 : Mem} {G : Gm} {F p q u s : Nat} {t : Nat → Nat → Nat}
def lcT (G : Gm) (u : Nat) : Nat → Nat
  | 0 => 1
  | i + 1 => if u.testBit i then lcT G u i / Nat.gcd (lcT G u i) (Gh G i) * Gh G i else lcT G u i
def lcQ (a h : Nat) : Bool := decide (1 ≤ Nat.gcd a h) && decide (1 ≤ a / Nat.gcd a h * h) && decide (a / Nat.gcd a h * h ≤ 12) && decide (12 % (a / Nat.gcd a h * h) = 0) && decide (a / Nat.gcd a h * h % h = 0)
theorem lc_fin0 : ∀ a, a ≤ 12 → ∀ h, h ≤ 4 → (decide (a = 0) || !decide (12 % a = 0) || decide (h = 0) || lcQ a h) = true := by decide +kernel
theorem lc_fin (a : Nat) (h1 : a ≤ 12) (h : Nat) (h2 : h ≤ 4) (h3 : 1 ≤ a) (h4 : 12 % a = 0) (h5 : 1 ≤ h) : 1 ≤ Nat.gcd a h ∧ 1 ≤ a / Nat.gcd a h * h ∧ a / Nat.gcd a h * h ≤ 12 ∧ 12 % (a / Nat.gcd a h * h) = 0 ∧ a / Nat.gcd a h * h % h = 0 := by
  have k := lc_fin0 a h1 h h2
  rw [decide_eq_false (show ¬ a = 0 by omega), decide_eq_true h4, decide_eq_false (show ¬ h = 0 by omega), Bool.false_or, Bool.not_true, Bool.false_or, Bool.false_or] at k
  unfold lcQ at k
  rw [Bool.and_eq_true, Bool.and_eq_true, Bool.and_eq_true, Bool.and_eq_true] at k
  exact ⟨of_decide_eq_true k.1.1.1.1, of_decide_eq_true k.1.1.1.2, of_decide_eq_true k.1.1.2, of_decide_eq_true k.1.2, of_decide_eq_true k.2⟩
def lcQ2 (a h g : Nat) : Bool := !decide (a % g = 0) || decide (a / Nat.gcd a h * h % g = 0)
theorem lc_fin3 : ∀ a, a ≤ 12 → ∀ h, h ≤ 4 → ∀ g, g ≤ 4 → lcQ2 (a + 1) (h + 1) (g + 1) = true := by decide +kernel
theorem lc_fin2 (a : Nat) (h1 : a ≤ 12) (h : Nat) (h2 : h ≤ 4) (g : Nat) (h3 : g ≤ 4) (h4 : 1 ≤ a) (h5 : 1 ≤ h) (h6 : 1 ≤ g) (h7 : a % g = 0) : a / Nat.gcd a h * h % g = 0 := by
  have k := lc_fin3 (a - 1) (by omega) (h - 1) (by omega) (g - 1) (by omega)
  rw [Nat.sub_add_cancel h4, Nat.sub_add_cancel h5, Nat.sub_add_cancel h6] at k
  unfold lcQ2 at k
  rw [decide_eq_true h7] at k
  exact of_decide_eq_true k
theorem lc_cd : ∀ a, a ≤ 12 → ∀ h, h ≤ 4 → 1 ≤ a → 1 ≤ h → pX11_common_4 0 mem0 30 (nI a) (nI h) = some (nI (Nat.gcd a h)) := by decide +kernel
theorem lcT_ok (hw : WF G) : ∀ i, i ≤ Gn G → 1 ≤ lcT G u i ∧ lcT G u i ≤ 12 ∧ 12 % lcT G u i = 0 ∧ ∀ q, q < i → u.testBit q = true → lcT G u i % Gh G q = 0
  | 0, _ => ⟨Nat.le_refl 1, show 1 ≤ 12 by decide, show 12 % 1 = 0 by decide, fun q hq => absurd hq (Nat.not_lt_zero _)⟩
  | i + 1, hi => by
    obtain ⟨a1, a2, a3, a4⟩ := lcT_ok hw i (by omega)
    rw [lcT]
    cases c : u.testBit i
    · rw [if_neg (by decide)]
      refine ⟨a1, a2, a3, fun q hq hb => a4 q ?_ hb⟩
      have : q ≠ i := fun y => by rw [y, c] at hb; cases hb
      omega
    · rw [if_pos rfl]
      obtain ⟨-, b1, b2, b3, b5⟩ := lc_fin _ a2 _ (hw.h4 (show i < Gn G by omega)) a1 a3 (hw.h1 (show i < Gn G by omega))
      refine ⟨b1, b2, b3, fun q hq hb => ?_⟩
      by_cases e : q = i
      · rw [e]; exact b5
      · exact lc_fin2 _ a2 _ (hw.h4 (show i < Gn G by omega)) _ (hw.h4 (show q < Gn G by omega)) a1 (hw.h1 (show i < Gn G by omega)) (hw.h1 (show q < Gn G by omega)) (a4 q (by omega) hb)
def aT (G : Gm) (u : Nat) : Nat := lcT G u (Gn G)
def kQ (a h : Nat) : Bool := decide (12 / h = 12 / a * (a / h)) && decide (a / h * h = a) && decide (0 < a / h) && decide (0 < 12 / a) && decide (12 / a * a = 12)
theorem k_fin0 : ∀ a, a ≤ 12 → ∀ h, h ≤ 4 → (decide (a = 0) || !decide (12 % a = 0) || decide (h = 0) || !decide (a % h = 0) || kQ a h) = true := by decide +kernel
theorem k_fin (a : Nat) (h1 : a ≤ 12) (h : Nat) (h2 : h ≤ 4) (h3 : 1 ≤ a) (h4 : 12 % a = 0) (h5 : 1 ≤ h) (h6 : a % h = 0) : 12 / h = 12 / a * (a / h) ∧ a / h * h = a ∧ 0 < a / h ∧ 0 < 12 / a ∧ 12 / a * a = 12 := by
  have k := k_fin0 a h1 h h2
  rw [decide_eq_false (show ¬ a = 0 by omega), decide_eq_true h4, decide_eq_false (show ¬ h = 0 by omega), decide_eq_true h6, Bool.false_or, Bool.not_true, Bool.false_or, Bool.false_or, Bool.false_or] at k
  unfold kQ at k
  rw [Bool.and_eq_true, Bool.and_eq_true, Bool.and_eq_true, Bool.and_eq_true] at k
  exact ⟨of_decide_eq_true k.1.1.1.1, of_decide_eq_true k.1.1.1.2, of_decide_eq_true k.1.1.2, of_decide_eq_true k.1.2, of_decide_eq_true k.2⟩
theorem aT_k (hw : WF G) (hq : q < Gn G) (hb : u.testBit q = true) : 12 / Gh G q = 12 / aT G u * (aT G u / Gh G q) ∧ aT G u / Gh G q * Gh G q = aT G u ∧ 0 < aT G u / Gh G q ∧ 0 < 12 / aT G u ∧ 12 / aT G u * aT G u = 12 := by
  obtain ⟨a1, a2, a3, a4⟩ := lcT_ok (u := u) hw (Gn G) (Nat.le_refl _)
  exact k_fin _ a2 _ (hw.h4 hq) a1 a3 (hw.h1 hq) (a4 q hq hb)
def sA (G : Gm) (u p s i : Nat) : Nat := sm (fun q => if q ≠ p ∧ u.testBit q = true then cIn G p q s * (aT G u / Gh G q) else 0) i
def fA (G : Gm) (u i : Nat) : Nat := sm (fun q => if u.testBit q = true then aT G u / Gh G q else 0) i
theorem s12_A (hw : WF G) {i : Nat} (hi : i ≤ Gn G) : s12 G u p s i = 12 / aT G u * sA G u p s i := by
  unfold s12 sA
  rw [← sm_mul]
  refine sm_congr (fun q hq => ?_)
  show (if q ≠ p ∧ u.testBit q = true then cIn G p q s * (12 / Gh G q) else 0) = 12 / aT G u * (if q ≠ p ∧ u.testBit q = true then cIn G p q s * (aT G u / Gh G q) else 0)
  by_cases z : q ≠ p ∧ u.testBit q = true
  · rw [if_pos z, if_pos z, (aT_k hw (show q < Gn G by omega) z.2).1, Nat.mul_left_comm]
  · rw [if_neg z, if_neg z, Nat.mul_zero]
theorem f12_A (hw : WF G) {i : Nat} (hi : i ≤ Gn G) : f12 G u i = 12 / aT G u * fA G u i := by
  unfold f12 fA
  rw [← sm_mul]
  refine sm_congr (fun q hq => ?_)
  show (if u.testBit q = true then 12 / Gh G q else 0) = 12 / aT G u * (if u.testBit q = true then aT G u / Gh G q else 0)
  by_cases z : u.testBit q = true
  · rw [if_pos z, if_pos z, (aT_k hw (show q < Gn G by omega) z).1]
  · rw [if_neg z, if_neg z, Nat.mul_zero]
theorem fA_le (hw : WF G) {i : Nat} (hi : i ≤ Gn G) : fA G u i ≤ 6 * aT G u := by
  have hn := hw.n6
  refine Nat.le_trans (sm_bound (c := aT G u) (fun q hq => ?_)) (Nat.mul_le_mul_right _ (by omega))
  show (if u.testBit q = true then aT G u / Gh G q else 0) ≤ aT G u
  by_cases z : u.testBit q = true
  · rw [if_pos z]; exact Nat.div_le_self _ _
  · rw [if_neg z]; exact Nat.zero_le _
theorem gss_A (hw : WF G) (hp : p < Gn G) (hb : u.testBit p = true) : gss G u p s = (Gh G p - (sA G u p s (Gn G) + 6 * aT G u - fA G u p % aT G u) / (aT G u / Gh G p) % Gh G p) % Gh G p := by
  obtain ⟨e1, e2, e3, e4, e5⟩ := aT_k hw hp hb
  have hf := fA_le (u := u) hw (Nat.le_of_lt hp)
  unfold gss
  rw [s12_A hw (Nat.le_refl _), f12_A hw (Nat.le_of_lt hp), e1]
  have h1 : 12 / aT G u * sA G u p s (Gn G) + 72 - 12 / aT G u * fA G u p = 12 / aT G u * (sA G u p s (Gn G) + 6 * aT G u - fA G u p) := by
    rw [Nat.mul_sub, Nat.mul_add, show 12 / aT G u * (6 * aT G u) = 72 by rw [Nat.mul_left_comm, e5]]
  rw [h1, Nat.mul_div_mul_left _ _ e4]
  have h2 : sA G u p s (Gn G) + 6 * aT G u - fA G u p % aT G u = (sA G u p s (Gn G) + 6 * aT G u - fA G u p) + (aT G u / Gh G p) * (Gh G p * (fA G u p / aT G u)) := by
    have h3 := Nat.div_add_mod (fA G u p) (aT G u)
    rw [← Nat.mul_assoc, e2]
    omega
  rw [h2, Nat.add_mul_div_left _ _ e3, Nat.add_mul_mod_self_left]
theorem rX_common {a h : Nat} (ρ : Mem) (hF : 100 < F) (ha : a ≤ 12) (hh : h ≤ 4) (h1 : 1 ≤ a) (h2 : 1 ≤ h) : pX11_common F ρ (nI a) (nI h) = some (nI (Nat.gcd a h)) := cdM_F 30 F _ _ _ (lc_cd a ha h hh h1 h2) (by omega)
/-- one's guess -/
theorem rX_cliqueGuess (h : RG ρ 1 (withT G t)) (hw : WF G) (hF : 100 < F) (hp : p < Gn G) (hu : u < 64) (hb : u.testBit p = true) (hd : ∀ q, q < Gn G → q ≠ p → u.testBit q = true → mi ρ 5 q = nI (cIn G p q s)) : pX11_cliqueGuess F ρ (nI u) (nI p) (nI (aT G u)) (nI (fA G u p % aT G u)) = some (nI (gss G u p s)) := by
  have hn := hw.n6
  obtain ⟨e1, e2, e3, e4, e5⟩ := aT_k hw hp hb
  obtain ⟨a1, a2, a3, a4⟩ := lcT_ok (u := u) hw (Gn G) (Nat.le_refl _)
  have a1 : 1 ≤ aT G u := a1
  have a2 : aT G u ≤ 12 := a2
  have hfm : fA G u p % aT G u < aT G u := Nat.mod_lt _ a1
  have hsb : sA G u p s (Gn G) ≤ 72 := by
    have h1 := s12_le (u := u) (p := p) (s := s) hw (Nat.le_refl _)
    rw [s12_A hw (Nat.le_refl _)] at h1
    exact Nat.le_trans (Nat.le_mul_of_pos_left _ e4) h1
  have h1 := hw.h1 hp
  have h4 := hw.h4 hp
  unfold pX11_cliqueGuess
  refine lp_upE F (fun fu i => pX11_cliqueGuess_6 F ρ (nI u) (nI p) (nI (aT G u)) (nI (fA G u p % aT G u)) fu (nI (sA G u p s i)) (nI i)) (0) (Gn G) _ _ rfl (fun fu => ?_) (fun fu i hi1 hi2 => ?_) (by omega) (by omega)
  · show pX11_cliqueGuess_6 F ρ (nI u) (nI p) (nI (aT G u)) (nI (fA G u p % aT G u)) (fu + 1) (nI (sA G u p s (Gn G))) (nI (Gn G)) = _
    rw [pX11_cliqueGuess_6, rH_players h]
    simp (disch := omega) only [n_0, n_1, n_2, n_3, n_4, n_5, n_6, n_7, n_8, n_9, n_10, n_12, n_13, n_14, n_20, n_31, n_32, n_63, n_64, n_600, n_1024, n_4096, n_6157, n_add, n_mul, nm_def, Option.bind_some, Option.some.injEq, ck_in, ck_nz, ck_p, n_cl, n_lt, n_le, n_eq, n_div, n_rem, if_pos, if_neg, if_true, if_false, eq_self, n_192, n_256, n_20000, m1_n0, m1_np, m1_n0p, m1_lt0, m1_lt0p, mi_setIA, mi_setI, ml_setIA, ml_setI, mr_setI, mr_setIA, rH_hats h hw hp]
    have key := lp_fst F (fun fu c => pX11_cliqueGuess_73 F ρ (nI p) (nI (aT G u)) (nI (fA G u p % aT G u)) (nI (sA G u p s (Gn G))) (nI (aT G u / Gh G p)) fu (nI c)) (fun c => decide (c = gss G u p s)) (Gh G p) (fun c => some (nI c)) (some (-1)) _ rfl (fun fu => by
      show pX11_cliqueGuess_73 F ρ (nI p) (nI (aT G u)) (nI (fA G u p % aT G u)) (nI (sA G u p s (Gn G))) (nI (aT G u / Gh G p)) (fu + 1) (nI (Gh G p)) = _
      rw [pX11_cliqueGuess_73, rH_hats h hw hp]
      simp (disch := omega) only [n_0, n_1, n_2, n_3, n_4, n_5, n_6, n_7, n_8, n_9, n_10, n_12, n_13, n_14, n_20, n_31, n_32, n_63, n_64, n_600, n_1024, n_4096, n_6157, n_add, n_mul, nm_def, Option.bind_some, Option.some.injEq, ck_in, ck_nz, ck_p, n_cl, n_lt, n_le, n_eq, n_div, n_rem, if_pos, if_neg, if_true, if_false, eq_self, n_192, n_256, n_20000, m1_n0, m1_np, m1_n0p, m1_lt0, m1_lt0p, mi_setIA, mi_setI, ml_setIA, ml_setI, mr_setI, mr_setIA]) (fun fu c hc => by
      show pX11_cliqueGuess_73 F ρ (nI p) (nI (aT G u)) (nI (fA G u p % aT G u)) (nI (sA G u p s (Gn G))) (nI (aT G u / Gh G p)) (fu + 1) (nI c) = if decide (c = gss G u p s) = true then some (nI c) else pX11_cliqueGuess_73 F ρ (nI p) (nI (aT G u)) (nI (fA G u p % aT G u)) (nI (sA G u p s (Gn G))) (nI (aT G u / Gh G p)) fu (nI (c + 1))
      have hcs : c * (aT G u / Gh G p) ≤ 48 := Nat.le_trans (Nat.mul_le_mul (show c ≤ 4 by omega) (Nat.le_trans (Nat.div_le_self _ _) a2)) (by decide)
      have hcn := cnd (X := sA G u p s (Gn G) + 6 * aT G u - fA G u p % aT G u) (c := c) h1 h4 e3 hc
      rw [← gss_A hw hp hb, e2] at hcn
      have e6 : nI (sA G u p s (Gn G) + c * (aT G u / Gh G p)) - nI (fA G u p % aT G u) + nI (aT G u * 6) = nI (sA G u p s (Gn G) + 6 * aT G u - fA G u p % aT G u + c * (aT G u / Gh G p)) := by
        rw [show sA G u p s (Gn G) + 6 * aT G u - fA G u p % aT G u + c * (aT G u / Gh G p) = (sA G u p s (Gn G) + c * (aT G u / Gh G p) + aT G u * 6) - fA G u p % aT G u by omega, ← n_sub (by omega), ← n_add _ (aT G u * 6), Int32.sub_eq_add_neg, Int32.sub_eq_add_neg, Int32.add_assoc, Int32.add_comm (-nI (fA G u p % aT G u)), ← Int32.add_assoc]
      have e7 := Nat.mod_lt (sA G u p s (Gn G) + 6 * aT G u - fA G u p % aT G u + c * (aT G u / Gh G p)) a1
      have e8 := Nat.div_le_self (aT G u) (Gh G p)
      rw [pX11_cliqueGuess_73, rH_hats h hw hp]
      simp (disch := omega) only [n_0, n_1, n_2, n_3, n_4, n_5, n_6, n_7, n_8, n_9, n_10, n_12, n_13, n_14, n_20, n_31, n_32, n_63, n_64, n_600, n_1024, n_4096, n_6157, n_add, n_mul, nm_def, Option.bind_some, Option.some.injEq, ck_in, ck_nz, ck_p, n_cl, n_lt, n_le, n_eq, n_div, n_rem, if_pos, if_neg, if_true, if_false, eq_self, n_192, n_256, n_20000, m1_n0, m1_np, m1_n0p, m1_lt0, m1_lt0p, mi_setIA, mi_setI, ml_setIA, ml_setI, mr_setI, mr_setIA, e6, hcn]
      by_cases z : c = gss G u p s
      · rw [if_pos z, decide_eq_true z, if_pos rfl]
      · rw [if_neg z, decide_eq_false z, if_neg (by decide)]) (by omega)
    have hfn : fnd (fun c => decide (c = gss G u p s)) (Gh G p) = gss G u p s := fnd_eq (decide_eq_true rfl) (fun j hj => decide_eq_false (by omega)) (gss_lt hw hp)
    rw [hfn, if_pos (gss_lt hw hp)] at key
    exact key
  · show pX11_cliqueGuess_6 F ρ (nI u) (nI p) (nI (aT G u)) (nI (fA G u p % aT G u)) (fu + 1) (nI (sA G u p s i)) (nI i) = pX11_cliqueGuess_6 F ρ (nI u) (nI p) (nI (aT G u)) (nI (fA G u p % aT G u)) fu (nI (sA G u p s (i + 1))) (nI (i + 1))
    have g1 := hw.h1 hi2
    have g4 := hw.h4 hi2
    have es : sA G u p s (i + 1) = sA G u p s i + if i ≠ p ∧ u.testBit i = true then cIn G p i s * (aT G u / Gh G i) else 0 := rfl
    by_cases c : u.testBit i = true
    · by_cases z : i = p
      · have es2 : sA G u p s (i + 1) = sA G u p s i := by rw [es, if_neg (fun w => w.1 z), Nat.add_zero]
        rw [pX11_cliqueGuess_6, rH_players h, es2]
        unfold pX11_cliqueGuess_51 pX11_cliqueGuess_52
        simp (disch := omega) only [n_0, n_1, n_2, n_3, n_4, n_5, n_6, n_7, n_8, n_9, n_10, n_12, n_13, n_14, n_20, n_31, n_32, n_63, n_64, n_600, n_1024, n_4096, n_6157, n_add, n_mul, nm_def, Option.bind_some, Option.some.injEq, ck_in, ck_nz, ck_p, n_cl, n_lt, n_le, n_eq, n_div, n_rem, if_pos, if_neg, if_true, if_false, eq_self, n_192, n_256, n_20000, m1_n0, m1_np, m1_n0p, m1_lt0, m1_lt0p, mi_setIA, mi_setI, ml_setIA, ml_setI, mr_setI, mr_setIA, rX_has (ρ := ρ) (a := u) (k := i) (by omega) (by omega), c, Bool.toNat_true]
        rw [z, Nat.add_zero]
      · have es2 : sA G u p s (i + 1) = sA G u p s i + cIn G p i s * (aT G u / Gh G i) := by rw [es, if_pos ⟨z, c⟩]
        have hdi := hd i hi2 z c
        rw [pX11_cliqueGuess_6, rH_players h, es2]
        unfold pX11_cliqueGuess_52
        simp (disch := omega) only [n_0, n_1, n_2, n_3, n_4, n_5, n_6, n_7, n_8, n_9, n_10, n_12, n_13, n_14, n_20, n_31, n_32, n_63, n_64, n_600, n_1024, n_4096, n_6157, n_add, n_mul, nm_def, Option.bind_some, Option.some.injEq, ck_in, ck_nz, ck_p, n_cl, n_lt, n_le, n_eq, n_div, n_rem, if_pos, if_neg, if_true, if_false, eq_self, n_192, n_256, n_20000, m1_n0, m1_np, m1_n0p, m1_lt0, m1_lt0p, mi_setIA, mi_setI, ml_setIA, ml_setI, mr_setI, mr_setIA, rX_has (ρ := ρ) (a := u) (k := i) (by omega) (by omega), c, Bool.toNat_true, z, rH_hats h hw hi2, hdi]
    · have es2 : sA G u p s (i + 1) = sA G u p s i := by rw [es, if_neg (fun w => c w.2), Nat.add_zero]
      have c2 : u.testBit i = false := by simpa using c
      rw [pX11_cliqueGuess_6, rH_players h, es2]
      unfold pX11_cliqueGuess_51 pX11_cliqueGuess_52
      simp (disch := omega) only [n_0, n_1, n_2, n_3, n_4, n_5, n_6, n_7, n_8, n_9, n_10, n_12, n_13, n_14, n_20, n_31, n_32, n_63, n_64, n_600, n_1024, n_4096, n_6157, n_add, n_mul, nm_def, Option.bind_some, Option.some.injEq, ck_in, ck_nz, ck_p, n_cl, n_lt, n_le, n_eq, n_div, n_rem, if_pos, if_neg, if_true, if_false, eq_self, n_192, n_256, n_20000, m1_n0, m1_np, m1_n0p, m1_lt0, m1_lt0p, mi_setIA, mi_setI, ml_setIA, ml_setI, mr_setI, mr_setIA, rX_has (ρ := ρ) (a := u) (k := i) (by omega) (by omega), c2, Bool.toNat_false, Nat.add_zero]
end CLR
