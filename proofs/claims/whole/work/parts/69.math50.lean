/-! TABLES OF A CLIQUE: sums; the class -/
section CLP
variable {G : Gm} {u p s : Nat}
def s12 (G : Gm) (u p s i : Nat) : Nat := sm (fun q => if q ≠ p ∧ u.testBit q = true then cIn G p q s * (12 / Gh G q) else 0) i
def f12 (G : Gm) (u i : Nat) : Nat := sm (fun q => if u.testBit q = true then 12 / Gh G q else 0) i
theorem sm_bound {f : Nat → Nat} {c n : Nat} (h : ∀ i, i < n → f i ≤ c) : sm f n ≤ n * c := by
  rw [← sm_const]
  exact sm_le h
theorem t12_le : ∀ h, h ≤ 4 → ∀ c, c < h → c * (12 / h) ≤ 12 := by decide
theorem s12_le (hw : WF G) {i : Nat} (hi : i ≤ Gn G) : s12 G u p s i ≤ 72 := by
  have hn := hw.n6
  refine Nat.le_trans (sm_bound (c := 12) (fun q hq => ?_)) (by omega)
  show (if q ≠ p ∧ u.testBit q = true then cIn G p q s * (12 / Gh G q) else 0) ≤ 12
  by_cases z : q ≠ p ∧ u.testBit q = true
  · rw [if_pos z]
    exact t12_le _ (hw.h4 (by omega)) _ (cIn_lt hw (by omega) s)
  · rw [if_neg z]
    exact Nat.zero_le _
theorem f12_le (hw : WF G) {i : Nat} (hi : i ≤ Gn G) : f12 G u i ≤ 72 := by
  have hn := hw.n6
  refine Nat.le_trans (sm_bound (c := 12) (fun q hq => ?_)) (by omega)
  show (if u.testBit q = true then 12 / Gh G q else 0) ≤ 12
  by_cases z : u.testBit q = true
  · rw [if_pos z]
    exact Nat.div_le_self _ _
  · rw [if_neg z]
    exact Nat.zero_le _
/-- the colour that is guessed -/
def gss (G : Gm) (u p s : Nat) : Nat := (Gh G p - (s12 G u p s (Gn G) + 72 - f12 G u p) / (12 / Gh G p) % Gh G p) % Gh G p
theorem gss_lt (hw : WF G) (hp : p < Gn G) : gss G u p s < Gh G p := Nat.mod_lt _ (hw.h1 hp)
theorem mod_lt_iff (x a b : Nat) (ha : 0 < a) : (x % (a * b) < a) ↔ x / a % b = 0 := by
  rw [Nat.mod_mul]
  have h1 := Nat.mod_lt x ha
  constructor
  · intro h
    rcases Nat.eq_zero_or_pos (x / a % b) with z | z
    · exact z
    · have := Nat.le_mul_of_pos_right a z
      omega
  · intro h
    rw [h, Nat.mul_zero]
    omega
theorem one_c : ∀ h, h ≤ 4 → 1 ≤ h → ∀ r, r < h → ∀ c, c < h → ((r + c) % h = 0 ↔ c = (h - r) % h) := by decide
theorem cnd {X st h c : Nat} (h1 : 1 ≤ h) (h4 : h ≤ 4) (hst : 0 < st) (hc : c < h) : ((X + c * st) % (st * h) < st) ↔ c = (h - X / st % h) % h := by
  rw [mod_lt_iff _ _ _ hst, Nat.add_mul_div_right _ _ hst, ← Nat.mod_add_mod]
  exact one_c h h4 h1 _ (Nat.mod_lt _ h1) c hc
theorem h12 : ∀ h, h ≤ 4 → 1 ≤ h → 12 / h * h = 12 ∧ 0 < 12 / h := by decide
theorem cnd12 (hw : WF G) (hp : p < Gn G) {c : Nat} (hc : c < Gh G p) : ((s12 G u p s (Gn G) + c * (12 / Gh G p) + 72 - f12 G u p) % 12 < 12 / Gh G p) ↔ c = gss G u p s := by
  obtain ⟨e1, e2⟩ := h12 _ (hw.h4 hp) (hw.h1 hp)
  have hf := f12_le (u := u) hw (Nat.le_of_lt hp)
  have h := cnd (X := s12 G u p s (Gn G) + 72 - f12 G u p) (hw.h1 hp) (hw.h4 hp) e2 hc
  rw [e1] at h
  rw [show s12 G u p s (Gn G) + c * (12 / Gh G p) + 72 - f12 G u p = s12 G u p s (Gn G) + 72 - f12 G u p + c * (12 / Gh G p) by omega]
  exact h
def bT (G : Gm) (u p s : Nat) : Nat := if u.testBit p then gss G u p s else Gt G p s
theorem WF_bT (hw : WF G) : WF (withT G (bT G u)) := WF_withT hw (fun p hp σ hσ => by
  unfold bT
  cases u.testBit p
  · exact hw.t hp hσ
  · exact gss_lt hw hp)
def nB (G : Gm) (u i : Nat) : Nat := sm (fun p => if u.testBit p then sm (fun s => if Gt G p s = gss G u p s then 0 else 1) (sit G p) else 0) i
theorem sm_zero_iff {f : Nat → Nat} {n : Nat} : sm f n = 0 ↔ ∀ i, i < n → f i = 0 := by
  constructor
  · intro h i hi
    have := sm_term f hi
    omega
  · exact sm_zero
theorem nB_0 : nB G u (Gn G) = 0 ↔ ∀ p, p < Gn G → ∀ s, s < sit G p → bT G u p s = Gt G p s := by
  unfold nB
  rw [sm_zero_iff]
  constructor
  · intro h p hp s hs
    have h1 := h p hp
    unfold bT
    cases c : u.testBit p
    · rfl
    · have h1 : (if u.testBit p = true then sm (fun s => if Gt G p s = gss G u p s then 0 else 1) (sit G p) else 0) = 0 := h1
      rw [c, if_pos rfl] at h1
      have h2 := sm_zero_iff.mp h1 s hs
      rw [if_pos rfl]
      by_cases z : Gt G p s = gss G u p s
      · exact z.symm
      · have h2 : (if Gt G p s = gss G u p s then 0 else 1) = 0 := h2
        rw [if_neg z] at h2
        exact absurd h2 (by decide)
  · intro h p hp
    show (if u.testBit p = true then sm (fun s => if Gt G p s = gss G u p s then 0 else 1) (sit G p) else 0) = 0
    cases c : u.testBit p
    · rfl
    · rw [if_pos rfl]
      refine sm_zero (fun s hs => ?_)
      have h1 := h p hp s hs
      unfold bT at h1
      rw [c, if_pos rfl] at h1
      exact if_pos h1.symm
end CLP
theorem fm12 : ∀ x, x < 90 → ∀ y, y < 73 → pJ9_floorMod_7cf53 mem0 (nI x - nI y) 12 = some (nI ((x + 72 - y) % 12)) := by decide +kernel
section CLX
variable {κ κ1 : Mem} {G : Gm} {F p q u : Nat} {t : Nat → Nat → Nat}
theorem sX0_sumSeen {s : Nat} (hG : XG κ 1 (withT G t)) (hw : WF G) (hF : 100 < F) (hp : p < Gn G) (hs : s < 2147483648) (hu : u < 64) : pX0_sumSeen F κ (nI p) (nI s) (nI u) = some (nI (s12 G u p s (Gn G))) := by
  have hn := hw.n6
  have e0 : mi κ 1 0 = nI (Gn G) := hG.1
  unfold pX0_sumSeen
  refine lp_upE F (fun fu i => pX0_sumSeen_6 F κ (nI p) (nI s) (nI u) fu (nI (s12 G u p s i)) (nI i)) (0) (Gn G) _ _ rfl (fun fu => ?_) (fun fu i hi1 hi2 => ?_) (by omega) (by omega)
  · show pX0_sumSeen_6 F κ (nI p) (nI s) (nI u) (fu + 1) (nI (s12 G u p s (Gn G))) (nI (Gn G)) = _
    rw [pX0_sumSeen_6]
    simp (disch := omega) only [n_0, n_1, n_2, n_3, n_4, n_5, n_6, n_7, n_8, n_9, n_10, n_12, n_13, n_14, n_20, n_31, n_32, n_63, n_64, n_600, n_1024, n_4096, n_6157, n_add, n_mul, nm_def, Option.bind_some, Option.some.injEq, ck_in, ck_nz, ck_p, n_cl, n_lt, n_le, n_eq, n_div, n_rem, if_pos, if_neg, if_true, if_false, eq_self, n_192, n_256, n_20000, m1_n0, m1_np, m1_n0p, m1_lt0, m1_lt0p, mi_setIA, mi_setI, ml_setIA, ml_setI, mr_setI, mr_setIA, e0]
  · show pX0_sumSeen_6 F κ (nI p) (nI s) (nI u) (fu + 1) (nI (s12 G u p s i)) (nI i) = pX0_sumSeen_6 F κ (nI p) (nI s) (nI u) fu (nI (s12 G u p s (i + 1))) (nI (i + 1))
    have h1 := hw.h1 hi2
    have h4 := hw.h4 hi2
    have e1 : mi κ 2 i = nI (Gh G i) := hG.2.1 i hi2
    have es : s12 G u p s (i + 1) = s12 G u p s i + if i ≠ p ∧ u.testBit i = true then cIn G p i s * (12 / Gh G i) else 0 := rfl
    by_cases z : i = p
    · have es2 : s12 G u p s (i + 1) = s12 G u p s i := by rw [es, if_neg (fun w => w.1 z), Nat.add_zero]
      rw [pX0_sumSeen_6, es2]
      unfold pX0_sumSeen_64
      simp (disch := omega) only [n_0, n_1, n_2, n_3, n_4, n_5, n_6, n_7, n_8, n_9, n_10, n_12, n_13, n_14, n_20, n_31, n_32, n_63, n_64, n_600, n_1024, n_4096, n_6157, n_add, n_mul, nm_def, Option.bind_some, Option.some.injEq, ck_in, ck_nz, ck_p, n_cl, n_lt, n_le, n_eq, n_div, n_rem, if_pos, if_neg, if_true, if_false, eq_self, n_192, n_256, n_20000, m1_n0, m1_np, m1_n0p, m1_lt0, m1_lt0p, mi_setIA, mi_setI, ml_setIA, ml_setI, mr_setI, mr_setIA, e0, z]
    · by_cases c : u.testBit i = true
      · have es2 : s12 G u p s (i + 1) = s12 G u p s i + cIn G p i s * (12 / Gh G i) := by rw [es, if_pos ⟨z, c⟩]
        rw [pX0_sumSeen_6, es2]
        unfold pX0_sumSeen_64
        simp (disch := omega) only [n_0, n_1, n_2, n_3, n_4, n_5, n_6, n_7, n_8, n_9, n_10, n_12, n_13, n_14, n_20, n_31, n_32, n_63, n_64, n_600, n_1024, n_4096, n_6157, n_add, n_mul, nm_def, Option.bind_some, Option.some.injEq, ck_in, ck_nz, ck_p, n_cl, n_lt, n_le, n_eq, n_div, n_rem, if_pos, if_neg, if_true, if_false, eq_self, n_192, n_256, n_20000, m1_n0, m1_np, m1_n0p, m1_lt0, m1_lt0p, mi_setIA, mi_setI, ml_setIA, ml_setI, mr_setI, mr_setIA, e0, z, n_hasbit, c, xT_colourIn hG hw (show 10 < F by omega) hp hi2 hs, e1]
      · have es2 : s12 G u p s (i + 1) = s12 G u p s i := by rw [es, if_neg (fun w => c w.2), Nat.add_zero]
        rw [pX0_sumSeen_6, es2]
        unfold pX0_sumSeen_64
        simp (disch := omega) only [n_0, n_1, n_2, n_3, n_4, n_5, n_6, n_7, n_8, n_9, n_10, n_12, n_13, n_14, n_20, n_31, n_32, n_63, n_64, n_600, n_1024, n_4096, n_6157, n_add, n_mul, nm_def, Option.bind_some, Option.some.injEq, ck_in, ck_nz, ck_p, n_cl, n_lt, n_le, n_eq, n_div, n_rem, if_pos, if_neg, if_true, if_false, eq_self, n_192, n_256, n_20000, m1_n0, m1_np, m1_n0p, m1_lt0, m1_lt0p, mi_setIA, mi_setI, ml_setIA, ml_setI, mr_setI, mr_setIA, e0, z, n_hasbit, c, Bool.false_eq_true]
theorem sX0_tellMember (hG : XG κ 1 (withT G t)) (hw : WF G) (hF : 5000 < F) (hp : p < Gn G) (hu : u < 64) (ht : ∀ σ, σ < sit G p → t p σ = Gt G p σ) : ∃ κ1, agr (fun k => k = 4) κ κ1 ∧ XG κ1 1 (withT G (fun r σ => if r = p then gss G u p σ else t r σ)) ∧ pX0_tellMember F κ (nI p) (nI u) (nI (f12 G u p)) = some (nI (sm (fun s => if Gt G p s = gss G u p s then 0 else 1) (sit G p)), κ1) := by
  have hp6 := hw_lt hw hp
  have h1 := hw.h1 hp
  have h4 := hw.h4 hp
  have hsl := sit_le hw hp
  have hf := f12_le (u := u) hw (Nat.le_of_lt hp)
  have e1 : mi κ 2 p = nI (Gh G p) := hG.2.1 p hp
  unfold pX0_tellMember
  simp (disch := omega) only [n_0, n_1, n_2, n_3, n_4, n_5, n_6, n_7, n_8, n_9, n_10, n_12, n_13, n_14, n_20, n_31, n_32, n_63, n_64, n_600, n_1024, n_4096, n_6157, n_add, n_mul, nm_def, Option.bind_some, Option.some.injEq, ck_in, ck_nz, ck_p, n_cl, n_lt, n_le, n_eq, n_div, n_rem, if_pos, if_neg, if_true, if_false, eq_self, n_192, n_256, n_20000, m1_n0, m1_np, m1_n0p, m1_lt0, m1_lt0p, mi_setIA, mi_setI, ml_setIA, ml_setI, mr_setI, mr_setIA, e1, xT_situations hG hw (show 10 < F by omega) hp]
  refine lp_inv (fun fu (x : Mem × Int32) i => pX0_tellMember_30 F (nI p) (nI u) (nI (f12 G u p)) (nI (12 / Gh G p)) (nI (sit G p)) fu x.1 x.2 (nI i)) (fun x i => agr (fun k => k = 4) κ x.1 ∧ XG x.1 1 (withT G (fun r σ => if r = p ∧ σ < i then gss G u p σ else t r σ)) ∧ x.2 = nI (sm (fun s => if Gt G p s = gss G u p s then 0 else 1) i)) (sit G p) (fun y => ∃ κ1, agr (fun k => k = 4) κ κ1 ∧ XG κ1 1 (withT G (fun r σ => if r = p then gss G u p σ else t r σ)) ∧ y = some (nI (sm (fun s => if Gt G p s = gss G u p s then 0 else 1) (sit G p)), κ1)) (fun fu s hS => ?_) (fun fu s j hj hS => ?_) F (κ, 0) 0 (Nat.zero_le _) (by omega) ⟨agr_rfl, XG_same hG (fun r hr σ hσ => if_neg (fun w => Nat.not_lt_zero _ w.2)), rfl⟩
  · obtain ⟨b1, b2, b3⟩ := hS
    refine ⟨s.1, b1, XG_same b2 (fun r hr σ hσ => ?_), ?_⟩
    · by_cases e : r = p
      · subst e
        rw [if_pos rfl, if_pos ⟨rfl, hσ⟩]
      · rw [if_neg e, if_neg (fun w => e w.1)]
    · show pX0_tellMember_30 F (nI p) (nI u) (nI (f12 G u p)) (nI (12 / Gh G p)) (nI (sit G p)) (fu + 1) s.1 s.2 (nI (sit G p)) = _
      rw [pX0_tellMember_30, b3]
      simp (disch := omega) only [n_0, n_1, n_2, n_3, n_4, n_5, n_6, n_7, n_8, n_9, n_10, n_12, n_13, n_14, n_20, n_31, n_32, n_63, n_64, n_600, n_1024, n_4096, n_6157, n_add, n_mul, nm_def, Option.bind_some, Option.some.injEq, ck_in, ck_nz, ck_p, n_cl, n_lt, n_le, n_eq, n_div, n_rem, if_pos, if_neg, if_true, if_false, eq_self, n_192, n_256, n_20000, m1_n0, m1_np, m1_n0p, m1_lt0, m1_lt0p, mi_setIA, mi_setI, ml_setIA, ml_setI, mr_setI, mr_setIA]
  · obtain ⟨b1, b2, b3⟩ := hS
    have hg := gss_lt (u := u) (s := j) hw hp
    have htp := hw.t hp hj
    have hx := s12_le (u := u) (p := p) (s := j) hw (Nat.le_refl _)
    have e2 := sX0_sumSeen (F := F) (s := j) b2 hw (by omega) hp (by omega) hu
    have e3 : mi s.1 2 p = nI (Gh G p) := b2.2.1 p hp
    have e4 : pX2_told 1 s.1 (nI p) (nI j) = some (nI (Gt G p j)) := by
      rw [sX2_told s.1 1 hp6 (by omega), show tol s.1 1 p j = (if p = p ∧ j < j then gss G u p j else t p j) from b2.2.2.2 p hp j hj, if_neg (fun w => Nat.lt_irrefl _ w.2), ht j hj]
    obtain ⟨K, eK⟩ : ∃ K, K = pX0_tellMember_30 F (nI p) (nI u) (nI (f12 G u p)) (nI (12 / Gh G p)) (nI (sit G p)) fu := ⟨_, rfl⟩
    have e5 : pX0_tellMember_53 F K s.1 (nI p) (nI u) (nI (f12 G u p)) (nI (12 / Gh G p)) s.2 (nI (sit G p)) (nI j) (nI (s12 G u p j (Gn G))) F (nI 0) (nI 0) = (if Gt G p j = gss G u p j then K s.1 s.2 (nI (j + 1)) else K (telK s.1 1 p j (gss G u p j)) (s.2 + 1) (nI (j + 1))) := by
      refine lp_upE F (fun fu i => pX0_tellMember_53 F K s.1 (nI p) (nI u) (nI (f12 G u p)) (nI (12 / Gh G p)) s.2 (nI (sit G p)) (nI j) (nI (s12 G u p j (Gn G))) fu (nI (if gss G u p j < i then gss G u p j else 0)) (nI i)) (0) (Gh G p) _ _ ?_ (fun fu => ?_) (fun fu i hi1 hi2 => ?_) (by omega) (by omega)
      · rw [if_neg (Nat.not_lt_zero _)]
      · show pX0_tellMember_53 F K s.1 (nI p) (nI u) (nI (f12 G u p)) (nI (12 / Gh G p)) s.2 (nI (sit G p)) (nI j) (nI (s12 G u p j (Gn G))) (fu + 1) (nI (if gss G u p j < (Gh G p) then gss G u p j else 0)) (nI (Gh G p)) = _
        rw [pX0_tellMember_53, if_pos hg]
        unfold pX0_tellMember_127
        simp (disch := omega) only [n_0, n_1, n_2, n_3, n_4, n_5, n_6, n_7, n_8, n_9, n_10, n_12, n_13, n_14, n_20, n_31, n_32, n_63, n_64, n_600, n_1024, n_4096, n_6157, n_add, n_mul, nm_def, Option.bind_some, Option.some.injEq, ck_in, ck_nz, ck_p, n_cl, n_lt, n_le, n_eq, n_div, n_rem, if_pos, if_neg, if_true, if_false, eq_self, n_192, n_256, n_20000, m1_n0, m1_np, m1_n0p, m1_lt0, m1_lt0p, mi_setIA, mi_setI, ml_setIA, ml_setI, mr_setI, mr_setIA, e3, e4]
        by_cases z : Gt G p j = gss G u p j
        · rw [if_pos z, if_pos z]
        · rw [if_neg z, if_neg z, sX2_tell s.1 1 hp6 (by omega)]
          rfl
      · show pX0_tellMember_53 F K s.1 (nI p) (nI u) (nI (f12 G u p)) (nI (12 / Gh G p)) s.2 (nI (sit G p)) (nI j) (nI (s12 G u p j (Gn G))) (fu + 1) (nI (if gss G u p j < i then gss G u p j else 0)) (nI i) = pX0_tellMember_53 F K s.1 (nI p) (nI u) (nI (f12 G u p)) (nI (12 / Gh G p)) s.2 (nI (sit G p)) (nI j) (nI (s12 G u p j (Gn G))) fu (nI (if gss G u p j < (i + 1) then gss G u p j else 0)) (nI (i + 1))
        obtain ⟨c, ec⟩ : ∃ c, c = i := ⟨i, rfl⟩
        rw [← ec]
        have hc2 : c < Gh G p := by omega
        have hcc := cnd12 (u := u) (s := j) hw hp hc2
        have hcl := t12_le _ h4 c hc2
        have e6 : pJ9_floorMod_7cf53 s.1 (nI (s12 G u p j (Gn G) + c * (12 / Gh G p)) - nI (f12 G u p)) (nI 12) = some (nI ((s12 G u p j (Gn G) + c * (12 / Gh G p) + 72 - f12 G u p) % 12)) := fm12 _ (by omega) _ (by omega)
        have e7 := Nat.mod_lt (s12 G u p j (Gn G) + c * (12 / Gh G p) + 72 - f12 G u p) (show 0 < 12 by decide)
        have e8 := Nat.div_le_self 12 (Gh G p)
        rw [pX0_tellMember_53]
        unfold pX0_tellMember_91
        simp (disch := omega) only [n_0, n_1, n_2, n_3, n_4, n_5, n_6, n_7, n_8, n_9, n_10, n_12, n_13, n_14, n_20, n_31, n_32, n_63, n_64, n_600, n_1024, n_4096, n_6157, n_add, n_mul, nm_def, Option.bind_some, Option.some.injEq, ck_in, ck_nz, ck_p, n_cl, n_lt, n_le, n_eq, n_div, n_rem, if_pos, if_neg, if_true, if_false, eq_self, n_192, n_256, n_20000, m1_n0, m1_np, m1_n0p, m1_lt0, m1_lt0p, mi_setIA, mi_setI, ml_setIA, ml_setI, mr_setI, mr_setIA, e3, e6, hcc]
        by_cases z : c = gss G u p j
        · rw [if_pos z, if_pos (by omega), z]
        · rw [if_neg z]
          by_cases z2 : gss G u p j < c
          · rw [if_pos z2, if_pos (by omega)]
          · rw [if_neg z2, if_neg (by omega)]
    have hst : ∀ r, r < Gn G → ∀ σ, σ < sit G r → (if r = p ∧ σ < j + 1 then gss G u p σ else t r σ) = if r = p ∧ σ = j then gss G u p j else (if r = p ∧ σ < j then gss G u p σ else t r σ) := fun r hr σ hσ => by
      by_cases e : r = p ∧ σ = j
      · rw [if_pos (show r = p ∧ σ < j + 1 from ⟨e.1, by omega⟩), if_pos e, e.2]
      · rw [if_neg e]
        by_cases z : r = p ∧ σ < j
        · rw [if_pos z, if_pos ⟨z.1, by omega⟩]
        · rw [if_neg z, if_neg (fun w => z ⟨w.1, by have : σ ≠ j := fun y => e ⟨w.1, y⟩; omega⟩)]
    have hsm : sm (fun s => if Gt G p s = gss G u p s then 0 else 1) (j + 1) = sm (fun s => if Gt G p s = gss G u p s then 0 else 1) j + if Gt G p j = gss G u p j then 0 else 1 := rfl
    have hgo : pX0_tellMember_30 F (nI p) (nI u) (nI (f12 G u p)) (nI (12 / Gh G p)) (nI (sit G p)) (fu + 1) s.1 s.2 (nI j) = (if Gt G p j = gss G u p j then K s.1 s.2 (nI (j + 1)) else K (telK s.1 1 p j (gss G u p j)) (s.2 + 1) (nI (j + 1))) := by
      rw [pX0_tellMember_30, ← eK]
      simp (disch := omega) only [n_0, n_1, n_2, n_3, n_4, n_5, n_6, n_7, n_8, n_9, n_10, n_12, n_13, n_14, n_20, n_31, n_32, n_63, n_64, n_600, n_1024, n_4096, n_6157, n_add, n_mul, nm_def, Option.bind_some, Option.some.injEq, ck_in, ck_nz, ck_p, n_cl, n_lt, n_le, n_eq, n_div, n_rem, if_pos, if_neg, if_true, if_false, eq_self, n_192, n_256, n_20000, m1_n0, m1_np, m1_n0p, m1_lt0, m1_lt0p, mi_setIA, mi_setI, ml_setIA, ml_setI, mr_setI, mr_setIA, e2]
      exact e5
    by_cases z : Gt G p j = gss G u p j
    · refine ⟨s, ⟨b1, XG_same b2 (fun r hr σ hσ => ?_), ?_⟩, ?_⟩
      · rw [hst r hr σ hσ]
        by_cases e : r = p ∧ σ = j
        · rw [if_pos e, if_neg (by omega), e.1, e.2, ht j hj, z]
        · rw [if_neg e]
      · rw [b3, hsm, if_pos z, Nat.add_zero]
      · rw [if_pos z, eK] at hgo
        exact hgo
    · refine ⟨(telK s.1 1 p j (gss G u p j), s.2 + 1), ⟨agr_trans b1 (agr_telK rfl), XG_same (XG_tell b2 hw hp (show j < 1024 by omega) (show gss G u p j < 4 by omega)) hst, ?_⟩, ?_⟩
      · show s.2 + 1 = _
        rw [b3, hsm, if_neg z]
        simp (disch := omega) only [n_0, n_1, n_2, n_3, n_4, n_5, n_6, n_7, n_8, n_9, n_10, n_12, n_13, n_14, n_20, n_31, n_32, n_63, n_64, n_600, n_1024, n_4096, n_6157, n_add, n_mul, nm_def, Option.bind_some, Option.some.injEq, ck_in, ck_nz, ck_p, n_cl, n_lt, n_le, n_eq, n_div, n_rem, if_pos, if_neg, if_true, if_false, eq_self, n_192, n_256, n_20000, m1_n0, m1_np, m1_n0p, m1_lt0, m1_lt0p, mi_setIA, mi_setI, ml_setIA, ml_setI, mr_setI, mr_setIA]
      · rw [if_neg z, eK] at hgo
        exact hgo
theorem sX0_tellClique (hG : XG κ 1 G) (hw : WF G) (hF : 5000 < F) (hu : u < 64) : ∃ κ1, agr (fun k => k = 4) κ κ1 ∧ XG κ1 1 (withT G (bT G u)) ∧ pX0_tellClique F κ (nI u) = some (nI (nB G u (Gn G)), κ1) := by
  have hn := hw.n6
  unfold pX0_tellClique
  refine lp_inv (fun fu (x : Mem × Int32 × Int32) i => pX0_tellClique_7 F (nI u) fu x.1 x.2.1 x.2.2 (nI i)) (fun x i => agr (fun k => k = 4) κ x.1 ∧ XG x.1 1 (withT G (fun r σ => if r < i ∧ u.testBit r = true then gss G u r σ else Gt G r σ)) ∧ x.2.1 = nI (f12 G u i) ∧ x.2.2 = nI (nB G u i)) (Gn G) (fun y => ∃ κ1, agr (fun k => k = 4) κ κ1 ∧ XG κ1 1 (withT G (bT G u)) ∧ y = some (nI (nB G u (Gn G)), κ1)) (fun fu s hS => ?_) (fun fu s i hi hS => ?_) F (κ, 0, 0) 0 (Nat.zero_le _) (by omega) ⟨agr_rfl, XG_same (XG_wT hG) (fun r hr σ hσ => if_neg (fun w => Nat.not_lt_zero _ w.1)), rfl, rfl⟩
  · obtain ⟨b1, b2, b3, b4⟩ := hS
    have e0 : mi s.1 1 0 = nI (Gn G) := b2.1
    refine ⟨s.1, b1, XG_same b2 (fun r hr σ hσ => ?_), ?_⟩
    · unfold bT
      by_cases c : u.testBit r = true
      · rw [if_pos c, if_pos ⟨hr, c⟩]
      · rw [if_neg c, if_neg (fun w => c w.2)]
    · show pX0_tellClique_7 F (nI u) (fu + 1) s.1 s.2.1 s.2.2 (nI (Gn G)) = _
      rw [pX0_tellClique_7, b4]
      simp (disch := omega) only [n_0, n_1, n_2, n_3, n_4, n_5, n_6, n_7, n_8, n_9, n_10, n_12, n_13, n_14, n_20, n_31, n_32, n_63, n_64, n_600, n_1024, n_4096, n_6157, n_add, n_mul, nm_def, Option.bind_some, Option.some.injEq, ck_in, ck_nz, ck_p, n_cl, n_lt, n_le, n_eq, n_div, n_rem, if_pos, if_neg, if_true, if_false, eq_self, n_192, n_256, n_20000, m1_n0, m1_np, m1_n0p, m1_lt0, m1_lt0p, mi_setIA, mi_setI, ml_setIA, ml_setI, mr_setI, mr_setIA, e0]
  · obtain ⟨b1, b2, b3, b4⟩ := hS
    have e0 : mi s.1 1 0 = nI (Gn G) := b2.1
    have h1 := hw.h1 hi
    have h4 := hw.h4 hi
    have ef : f12 G u (i + 1) = f12 G u i + if u.testBit i = true then 12 / Gh G i else 0 := rfl
    have eb : nB G u (i + 1) = nB G u i + if u.testBit i then sm (fun s => if Gt G i s = gss G u i s then 0 else 1) (sit G i) else 0 := rfl
    cases c : u.testBit i
    · refine ⟨s, ⟨b1, XG_same b2 (fun r hr σ hσ => ?_), ?_, ?_⟩, ?_⟩
      · by_cases z : r < i ∧ u.testBit r = true
        · rw [if_pos z, if_pos ⟨by omega, z.2⟩]
        · rw [if_neg z, if_neg (fun w => z ⟨by
            have : r ≠ i := fun y => by rw [y, c] at w; cases w.2
            omega, w.2⟩)]
      · rw [b3, ef, c, if_neg (by decide), Nat.add_zero]
      · rw [b4, eb, c, if_neg (by decide), Nat.add_zero]
      · show pX0_tellClique_7 F (nI u) (fu + 1) s.1 s.2.1 s.2.2 (nI i) = pX0_tellClique_7 F (nI u) fu s.1 s.2.1 s.2.2 (nI (i + 1))
        rw [pX0_tellClique_7]
        unfold pX0_tellClique_56
        simp (disch := omega) only [n_0, n_1, n_2, n_3, n_4, n_5, n_6, n_7, n_8, n_9, n_10, n_12, n_13, n_14, n_20, n_31, n_32, n_63, n_64, n_600, n_1024, n_4096, n_6157, n_add, n_mul, nm_def, Option.bind_some, Option.some.injEq, ck_in, ck_nz, ck_p, n_cl, n_lt, n_le, n_eq, n_div, n_rem, if_pos, if_neg, if_true, if_false, eq_self, n_192, n_256, n_20000, m1_n0, m1_np, m1_n0p, m1_lt0, m1_lt0p, mi_setIA, mi_setI, ml_setIA, ml_setI, mr_setI, mr_setIA, e0, n_hasbit, c]
        rfl
    · obtain ⟨κ1, c1, c2, c3⟩ := sX0_tellMember (F := F) b2 hw hF hi hu (fun σ hσ => if_neg (fun w => Nat.lt_irrefl _ w.1))
      have e1 : mi κ1 2 i = nI (Gh G i) := c2.2.1 i hi
      refine ⟨(κ1, nI (f12 G u (i + 1)), nI (nB G u (i + 1))), ⟨agr_trans b1 c1, XG_same c2 (fun r hr σ hσ => ?_), rfl, rfl⟩, ?_⟩
      · by_cases e : r = i
        · rw [if_pos e, if_pos ⟨by omega, by rw [e]; exact c⟩, e]
        · rw [if_neg e]
          by_cases z : r < i ∧ u.testBit r = true
          · rw [if_pos z, if_pos ⟨by omega, z.2⟩]
          · rw [if_neg z, if_neg (fun w => z ⟨by omega, w.2⟩)]
      · show pX0_tellClique_7 F (nI u) (fu + 1) s.1 s.2.1 s.2.2 (nI i) = pX0_tellClique_7 F (nI u) fu κ1 (nI (f12 G u (i + 1))) (nI (nB G u (i + 1))) (nI (i + 1))
        rw [pX0_tellClique_7, b3, b4, ef, eb, c, if_pos rfl, if_pos rfl]
        unfold pX0_tellClique_56
        simp (disch := omega) only [n_0, n_1, n_2, n_3, n_4, n_5, n_6, n_7, n_8, n_9, n_10, n_12, n_13, n_14, n_20, n_31, n_32, n_63, n_64, n_600, n_1024, n_4096, n_6157, n_add, n_mul, nm_def, Option.bind_some, Option.some.injEq, ck_in, ck_nz, ck_p, n_cl, n_lt, n_le, n_eq, n_div, n_rem, if_pos, if_neg, if_true, if_false, eq_self, n_192, n_256, n_20000, m1_n0, m1_np, m1_n0p, m1_lt0, m1_lt0p, mi_setIA, mi_setI, ml_setIA, ml_setI, mr_setI, mr_setIA, e0, n_hasbit, c, c3, e1]
end CLX
