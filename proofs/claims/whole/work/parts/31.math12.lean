/-! THE REFERENCE: its game, and how it lays colourings -/
def RG (ρ : Mem) (c : Nat) (G : Gm) : Prop := mi ρ c 0 = nI (Gn G) ∧ (∀ p, p < Gn G → mi ρ c (1 + p) = nI (Gh G p)) ∧ (∀ p, p < Gn G → mi ρ c (7 + p) = nI (Gs G p)) ∧ ∀ p, p < Gn G → ∀ σ, σ < sit G p → mi ρ c (13 + 1024 * p + σ) = nI (Gt G p σ)
theorem lenM_1 : lenM 1 = 6157 := rfl
theorem lenM_2 : lenM 2 = 6157 := rfl
theorem lenM_4 : lenM 4 = 6157 := rfl
section R1
variable {ρ : Mem} {G : Gm} {F p q x c : Nat}
theorem RG.n (h : RG ρ c G) : mi ρ c 0 = nI (Gn G) := h.1
theorem RG.h (h : RG ρ c G) (hp : p < Gn G) : mi ρ c (1 + p) = nI (Gh G p) := h.2.1 p hp
theorem RG.s (h : RG ρ c G) (hp : p < Gn G) : mi ρ c (7 + p) = nI (Gs G p) := h.2.2.1 p hp
theorem RG.t (h : RG ρ c G) (hp : p < Gn G) {σ : Nat} (hs : σ < sit G p) : mi ρ c (13 + 1024 * p + σ) = nI (Gt G p σ) := h.2.2.2 p hp σ hs
theorem RG.agr {S : Nat → Prop} {ρ1 : Mem} (h : RG ρ c G) (ha : agr S ρ ρ1) (hc : ¬ S c) : RG ρ1 c G :=
  ⟨(agr_mi ha hc _).trans h.1, fun p hp => (agr_mi ha hc _).trans (h.h hp), fun p hp => (agr_mi ha hc _).trans (h.s hp), fun p hp σ hs => (agr_mi ha hc _).trans (h.t hp hs)⟩
theorem RG.set {f : Nat → Int32} {k : Nat} (h : RG ρ c G) (hk : c ≠ k) : RG (setIA ρ k f) c G := h.agr (S := fun z => z = k) (agr_setIA rfl) hk
theorem fac_t (h : sees G p q = true) : fac G p q = Gh G q := by unfold fac; rw [if_pos h]
theorem fac_f (h : sees G p q = false) : fac G p q = 1 := by unfold fac; rw [h]; rfl
theorem rX_players (h : RG ρ 1 G) : pX11_players ρ = some (nI (Gn G)) := by
  unfold pX11_players
  simp (disch := omega) only [n_0, n_1, n_2, n_3, n_4, n_5, n_6, n_7, n_8, n_9, n_10, n_12, n_13, n_14, n_20, n_31, n_32, n_63, n_64, n_600, n_1024, n_4096, n_6157, n_add, n_mul, nm_def, Option.bind_some, Option.some.injEq, ck_in, ck_nz, ck_p, n_cl, n_lt, n_le, n_eq, n_div, n_rem, if_pos, if_neg, if_true, if_false, eq_self, n_192, n_256, n_20000, m1_n0, m1_np, m1_n0p, m1_lt0, m1_lt0p, mi_setIA, mi_setI, ml_setIA, ml_setI, mr_setI, mr_setIA, h.n]
theorem rX_hats (h : RG ρ 1 G) (hw : WF G) (hp : p < Gn G) : pX11_hats ρ (nI p) = some (nI (Gh G p)) := by
  have hp6 := hw_lt hw hp
  unfold pX11_hats
  simp (disch := omega) only [n_0, n_1, n_2, n_3, n_4, n_5, n_6, n_7, n_8, n_9, n_10, n_12, n_13, n_14, n_20, n_31, n_32, n_63, n_64, n_600, n_1024, n_4096, n_6157, n_add, n_mul, nm_def, Option.bind_some, Option.some.injEq, ck_in, ck_nz, ck_p, n_cl, n_lt, n_le, n_eq, n_div, n_rem, if_pos, if_neg, if_true, if_false, eq_self, n_192, n_256, n_20000, m1_n0, m1_np, m1_n0p, m1_lt0, m1_lt0p, mi_setIA, mi_setI, ml_setIA, ml_setI, mr_setI, mr_setIA, h.h hp]
theorem rX_has {a k : Nat} (ha : a < 2147483648) (hk : k < 32) : pX11_has ρ (nI a) (nI k) = some (nI (a.testBit k).toNat) := by
  unfold pX11_has pX11_has_14
  simp only [n_1, n_31, n_hasbit ha hk]
  cases a.testBit k
  · rfl
  · rfl
theorem isB_b (b : Bool) : isB (nI b.toNat) = true := by cases b <;> rfl
theorem rX_sees (h : RG ρ 1 G) (hw : WF G) (hp : p < Gn G) (hq : q < 32) : pX11_sees ρ (nI p) (nI q) = some (nI (sees G p q).toNat) := by
  have hp6 := hw_lt hw hp
  have hs := hw.s64 hp
  unfold pX11_sees
  simp (disch := omega) only [n_0, n_1, n_2, n_3, n_4, n_5, n_6, n_7, n_8, n_9, n_10, n_12, n_13, n_14, n_20, n_31, n_32, n_63, n_64, n_600, n_1024, n_4096, n_6157, n_add, n_mul, nm_def, Option.bind_some, Option.some.injEq, ck_in, ck_nz, ck_p, n_cl, n_lt, n_le, n_eq, n_div, n_rem, if_pos, if_neg, if_true, if_false, eq_self, n_192, n_256, n_20000, m1_n0, m1_np, m1_n0p, m1_lt0, m1_lt0p, mi_setIA, mi_setI, ml_setIA, ml_setI, mr_setI, mr_setIA, h.s hp, rX_has, isB_b]
  rfl
theorem rX_all (h : RG ρ 1 G) (hw : WF G) : pX11_all ρ = some (nI (2 ^ Gn G - 1)) := by
  have hn := hw.n6
  have h1 := Nat.two_pow_pos (Gn G)
  unfold pX11_all
  simp (disch := omega) only [n_0, n_1, n_2, n_3, n_4, n_5, n_6, n_7, n_8, n_9, n_10, n_12, n_13, n_14, n_20, n_31, n_32, n_63, n_64, n_600, n_1024, n_4096, n_6157, n_add, n_mul, nm_def, Option.bind_some, Option.some.injEq, ck_in, ck_nz, ck_p, n_cl, n_lt, n_le, n_eq, n_div, n_rem, if_pos, if_neg, if_true, if_false, eq_self, n_192, n_256, n_20000, m1_n0, m1_np, m1_n0p, m1_lt0, m1_lt0p, mi_setIA, mi_setI, ml_setIA, ml_setI, mr_setI, mr_setIA, h.n, n_shl1, n_sub]
theorem rX_entry (h : RG ρ 1 G) (hw : WF G) (hp : p < Gn G) {σ : Nat} (hs : σ < sit G p) : pX11_entry ρ (nI p) (nI σ) = some (nI (Gt G p σ)) := by
  have hp6 := hw_lt hw hp
  have hs2 := sit_le hw hp
  unfold pX11_entry
  simp (disch := omega) only [n_0, n_1, n_2, n_3, n_4, n_5, n_6, n_7, n_8, n_9, n_10, n_12, n_13, n_14, n_20, n_31, n_32, n_63, n_64, n_600, n_1024, n_4096, n_6157, n_add, n_mul, nm_def, Option.bind_some, Option.some.injEq, ck_in, ck_nz, ck_p, n_cl, n_lt, n_le, n_eq, n_div, n_rem, if_pos, if_neg, if_true, if_false, eq_self, n_192, n_256, n_20000, m1_n0, m1_np, m1_n0p, m1_lt0, m1_lt0p, mi_setIA, mi_setI, ml_setIA, ml_setI, mr_setI, mr_setIA, h.t hp hs]
theorem rX_colourings0 (h : RG ρ c G) (hw : WF G) (hF : 100 < F) (hl : lenM c = 6157) : pX11_colourings F c ρ = some (nI (ncol G)) := by
  have hn := hw.n6
  have key : ∀ e : Nat, pX11_colourings_14 F c ρ F (nI e) (nI 0) = some (nI (e * pw (Gh G) 0 (Gn G))) := fun e => by
    refine lp_upE F (fun fu i => pX11_colourings_14 F c ρ fu (nI (e * pw (Gh G) 0 i)) (nI i)) (0) (Gn G) _ _ ?_ (fun fu => ?_) (fun fu i hi1 hi2 => ?_) (by omega) (by omega)
    · rw [pw, Nat.mul_one]
    · show pX11_colourings_14 F c ρ (fu + 1) (nI (e * pw (Gh G) 0 (Gn G))) (nI (Gn G)) = _
      rw [pX11_colourings_14, hl]
      simp (disch := omega) only [n_0, n_1, n_2, n_3, n_4, n_5, n_6, n_7, n_8, n_9, n_10, n_12, n_13, n_14, n_20, n_31, n_32, n_63, n_64, n_600, n_1024, n_4096, n_6157, n_add, n_mul, nm_def, Option.bind_some, Option.some.injEq, ck_in, ck_nz, ck_p, n_cl, n_lt, n_le, n_eq, n_div, n_rem, if_pos, if_neg, if_true, if_false, eq_self, n_192, n_256, n_20000, m1_n0, m1_np, m1_n0p, m1_lt0, m1_lt0p, mi_setIA, mi_setI, ml_setIA, ml_setI, mr_setI, mr_setIA, h.n]
    · show pX11_colourings_14 F c ρ (fu + 1) (nI (e * pw (Gh G) 0 i)) (nI i) = pX11_colourings_14 F c ρ fu (nI (e * pw (Gh G) 0 (i + 1))) (nI (i + 1))
      have e2 := h.h hi2
      rw [pX11_colourings_14, hl]
      simp (disch := omega) only [n_0, n_1, n_2, n_3, n_4, n_5, n_6, n_7, n_8, n_9, n_10, n_12, n_13, n_14, n_20, n_31, n_32, n_63, n_64, n_600, n_1024, n_4096, n_6157, n_add, n_mul, nm_def, Option.bind_some, Option.some.injEq, ck_in, ck_nz, ck_p, n_cl, n_lt, n_le, n_eq, n_div, n_rem, if_pos, if_neg, if_true, if_false, eq_self, n_192, n_256, n_20000, m1_n0, m1_np, m1_n0p, m1_lt0, m1_lt0p, mi_setIA, mi_setI, ml_setIA, ml_setI, mr_setI, mr_setIA, h.n, e2]
      rw [pw, Nat.zero_add, Nat.mul_assoc]
  unfold pX11_colourings pX11_colourings_11 ncol
  rw [hl]
  simp (disch := omega) only [n_0, n_1, n_2, n_3, n_4, n_5, n_6, n_7, n_8, n_9, n_10, n_12, n_13, n_14, n_20, n_31, n_32, n_63, n_64, n_600, n_1024, n_4096, n_6157, n_add, n_mul, nm_def, Option.bind_some, Option.some.injEq, ck_in, ck_nz, ck_p, n_cl, n_lt, n_le, n_eq, n_div, n_rem, if_pos, if_neg, if_true, if_false, eq_self, n_192, n_256, n_20000, m1_n0, m1_np, m1_n0p, m1_lt0, m1_lt0p, mi_setIA, mi_setI, ml_setIA, ml_setI, mr_setI, mr_setIA, h.n]
  by_cases z : Gn G = 0
  · rw [if_pos z, if_pos z, key 0, Nat.zero_mul]
  · rw [if_neg z, if_neg z, key 1, Nat.one_mul]
theorem rX_colourings (h : RG ρ 1 G) (hw : WF G) (hF : 100 < F) : pX11_colourings_ F ρ = some (nI (ncol G)) := by
  unfold pX11_colourings_
  rw [rX_colourings0 h hw hF rfl]
  rfl
theorem rX_situations0 (h : RG ρ c G) (hw : WF G) (hF : 100 < F) (hp : p < Gn G) (hl : lenM c = 6157) : pX11_situations F c ρ (nI p) = some (nI (sit G p)) := by
  have hn := hw.n6
  have hp6 := hw_lt hw hp
  have hs := hw.s64 hp
  unfold pX11_situations sit wB
  rw [Nat.sub_zero]
  refine lp_upE F (fun fu i => pX11_situations_4 F c ρ (nI p) fu (nI (pw (fac G p) 0 i)) (nI i)) (0) (Gn G) _ _ rfl (fun fu => ?_) (fun fu i hi1 hi2 => ?_) (by omega) (by omega)
  · show pX11_situations_4 F c ρ (nI p) (fu + 1) (nI (pw (fac G p) 0 (Gn G))) (nI (Gn G)) = _
    rw [pX11_situations_4, hl]
    simp (disch := omega) only [n_0, n_1, n_2, n_3, n_4, n_5, n_6, n_7, n_8, n_9, n_10, n_12, n_13, n_14, n_20, n_31, n_32, n_63, n_64, n_600, n_1024, n_4096, n_6157, n_add, n_mul, nm_def, Option.bind_some, Option.some.injEq, ck_in, ck_nz, ck_p, n_cl, n_lt, n_le, n_eq, n_div, n_rem, if_pos, if_neg, if_true, if_false, eq_self, n_192, n_256, n_20000, m1_n0, m1_np, m1_n0p, m1_lt0, m1_lt0p, mi_setIA, mi_setI, ml_setIA, ml_setI, mr_setI, mr_setIA, h.n]
  · show pX11_situations_4 F c ρ (nI p) (fu + 1) (nI (pw (fac G p) 0 i)) (nI i) = pX11_situations_4 F c ρ (nI p) fu (nI (pw (fac G p) 0 (i + 1))) (nI (i + 1))
    have e2 := h.h hi2
    rw [pX11_situations_4, hl]
    unfold pX11_situations_34
    simp (disch := omega) only [n_0, n_1, n_2, n_3, n_4, n_5, n_6, n_7, n_8, n_9, n_10, n_12, n_13, n_14, n_20, n_31, n_32, n_63, n_64, n_600, n_1024, n_4096, n_6157, n_add, n_mul, nm_def, Option.bind_some, Option.some.injEq, ck_in, ck_nz, ck_p, n_cl, n_lt, n_le, n_eq, n_div, n_rem, if_pos, if_neg, if_true, if_false, eq_self, n_192, n_256, n_20000, m1_n0, m1_np, m1_n0p, m1_lt0, m1_lt0p, mi_setIA, mi_setI, ml_setIA, ml_setI, mr_setI, mr_setIA, h.n, h.s hp, rX_has, e2, pw, Nat.zero_add]
    have e3 : (Gs G p).testBit i = sees G p i := rfl
    rw [e3]
    cases hc : sees G p i
    · rw [fac_f hc]
      simp (disch := omega) only [n_0, n_1, n_2, n_3, n_4, n_5, n_6, n_7, n_8, n_9, n_10, n_12, n_13, n_14, n_20, n_31, n_32, n_63, n_64, n_600, n_1024, n_4096, n_6157, n_add, n_mul, nm_def, Option.bind_some, Option.some.injEq, ck_in, ck_nz, ck_p, n_cl, n_lt, n_le, n_eq, n_div, n_rem, if_pos, if_neg, if_true, if_false, eq_self, n_192, n_256, n_20000, m1_n0, m1_np, m1_n0p, m1_lt0, m1_lt0p, mi_setIA, mi_setI, ml_setIA, ml_setI, mr_setI, mr_setIA, Bool.toNat_false, Nat.mul_one]
    · rw [fac_t hc]
      simp (disch := omega) only [n_0, n_1, n_2, n_3, n_4, n_5, n_6, n_7, n_8, n_9, n_10, n_12, n_13, n_14, n_20, n_31, n_32, n_63, n_64, n_600, n_1024, n_4096, n_6157, n_add, n_mul, nm_def, Option.bind_some, Option.some.injEq, ck_in, ck_nz, ck_p, n_cl, n_lt, n_le, n_eq, n_div, n_rem, if_pos, if_neg, if_true, if_false, eq_self, n_192, n_256, n_20000, m1_n0, m1_np, m1_n0p, m1_lt0, m1_lt0p, mi_setIA, mi_setI, ml_setIA, ml_setI, mr_setI, mr_setIA, Bool.toNat_true]
theorem rX_situations (h : RG ρ 1 G) (hw : WF G) (hF : 100 < F) (hp : p < Gn G) : pX11_situations_ F ρ (nI p) = some (nI (sit G p)) := by
  unfold pX11_situations_
  rw [rX_situations0 h hw hF hp rfl]
  rfl
theorem rX_lays (h : RG ρ 1 G) (hw : WF G) (hF : 100 < F) (hx : x < 2147483648) : pX11_lays F ρ (nI x) = some (setIA ρ 5 (wr (ρ.1 5) 0 (Gn G) (fun p => nI (col G p x)))) := by
  have hn := hw.n6
  unfold pX11_lays
  rw [rX_players h]
  simp (disch := omega) only [n_0, n_1, n_2, n_3, n_4, n_5, n_6, n_7, n_8, n_9, n_10, n_12, n_13, n_14, n_20, n_31, n_32, n_63, n_64, n_600, n_1024, n_4096, n_6157, n_add, n_mul, nm_def, Option.bind_some, Option.some.injEq, ck_in, ck_nz, ck_p, n_cl, n_lt, n_le, n_eq, n_div, n_rem, if_pos, if_neg, if_true, if_false, eq_self, n_192, n_256, n_20000, m1_n0, m1_np, m1_n0p, m1_lt0, m1_lt0p, mi_setIA, mi_setI, ml_setIA, ml_setI, mr_setI, mr_setIA, n_sub1]
  refine lp_dnE F (fun fu i => pX11_lays_9 F fu (setIA ρ 5 (wr (ρ.1 5) i (Gn G) (fun p => nI (col G p x)))) (nI (x / pw (Gh G) i (Gn G - i))) (predI i)) (Gn G) _ _ ?_ (fun fu => ?_) (fun fu i hi => ?_) (by omega)
  · rw [setIA_wr0, Nat.sub_self, pw, Nat.div_one]
  · show pX11_lays_9 F (fu + 1) (setIA ρ 5 (wr (ρ.1 5) 0 (Gn G) (fun p => nI (col G p x)))) (nI (x / pw (Gh G) 0 (Gn G - 0))) (predI 0) = _
    rw [pX11_lays_9]
    simp (disch := omega) only [n_0, n_1, n_2, n_3, n_4, n_5, n_6, n_7, n_8, n_9, n_10, n_12, n_13, n_14, n_20, n_31, n_32, n_63, n_64, n_600, n_1024, n_4096, n_6157, n_add, n_mul, nm_def, Option.bind_some, Option.some.injEq, ck_in, ck_nz, ck_p, n_cl, n_lt, n_le, n_eq, n_div, n_rem, if_pos, if_neg, if_true, if_false, eq_self, n_192, n_256, n_20000, m1_n0, m1_np, m1_n0p, m1_lt0, m1_lt0p, mi_setIA, mi_setI, ml_setIA, ml_setI, mr_setI, mr_setIA]
  · show pX11_lays_9 F (fu + 1) (setIA ρ 5 (wr (ρ.1 5) (i + 1) (Gn G) (fun p => nI (col G p x)))) (nI (x / pw (Gh G) (i + 1) (Gn G - (i + 1)))) (predI (i + 1)) = pX11_lays_9 F fu (setIA ρ 5 (wr (ρ.1 5) i (Gn G) (fun p => nI (col G p x)))) (nI (x / pw (Gh G) i (Gn G - i))) (predI i)
    have h1 := hw.h1 hi
    have h4 := hw.h4 hi
    have e1 := Nat.div_le_self x (pw (Gh G) (i + 1) (Gn G - (i + 1)))
    have hR : ∀ f, RG (setIA ρ 5 f) 1 G := fun f => h.set (by decide)
    rw [pX11_lays_9, predI_s, rX_hats (hR _) hw hi]
    simp (disch := omega) only [n_0, n_1, n_2, n_3, n_4, n_5, n_6, n_7, n_8, n_9, n_10, n_12, n_13, n_14, n_20, n_31, n_32, n_63, n_64, n_600, n_1024, n_4096, n_6157, n_add, n_mul, nm_def, Option.bind_some, Option.some.injEq, ck_in, ck_nz, ck_p, n_cl, n_lt, n_le, n_eq, n_div, n_rem, if_pos, if_neg, if_true, if_false, eq_self, n_192, n_256, n_20000, m1_n0, m1_np, m1_n0p, m1_lt0, m1_lt0p, mi_setIA, mi_setI, ml_setIA, ml_setI, mr_setI, mr_setIA]
    rw [show x / pw (Gh G) (i + 1) (Gn G - (i + 1)) % Gh G i = col G i x from rfl, setI_wr_dn hi (v := fun p => nI (col G p x)) rfl, rX_hats (hR _) hw hi]
    simp (disch := omega) only [n_0, n_1, n_2, n_3, n_4, n_5, n_6, n_7, n_8, n_9, n_10, n_12, n_13, n_14, n_20, n_31, n_32, n_63, n_64, n_600, n_1024, n_4096, n_6157, n_add, n_mul, nm_def, Option.bind_some, Option.some.injEq, ck_in, ck_nz, ck_p, n_cl, n_lt, n_le, n_eq, n_div, n_rem, if_pos, if_neg, if_true, if_false, eq_self, n_192, n_256, n_20000, m1_n0, m1_np, m1_n0p, m1_lt0, m1_lt0p, mi_setIA, mi_setI, ml_setIA, ml_setI, mr_setI, mr_setIA]
    rw [Nat.div_div_eq_div_mul, Nat.mul_comm _ (Gh G i), ← pw_cons, show Gn G - (i + 1) + 1 = Gn G - i by omega]
/-- colours that lie there -/
def LC5 (ρ : Mem) (G : Gm) (d : Nat → Nat) : Prop := ∀ q, q < Gn G → mi ρ 5 q = nI (d q)
def sO (G : Gm) (p : Nat) (d : Nat → Nat) : Nat := hor (fac G p) (fun q => if sees G p q then d q else 0) (Gn G)
theorem sO_col (G : Gm) (p x : Nat) : sO G p (fun q => col G q x) = sOf G p x := rfl
theorem sO_lt (hw : WF G) {d : Nat → Nat} (hd : ∀ q, q < Gn G → d q < Gh G q) : sO G p d < sit G p := by
  unfold sO sit wB
  refine hor_lt (fun i hi => ?_)
  unfold fac
  split
  · exact hd i hi
  · decide
theorem rX_situationOf {d : Nat → Nat} (h : RG ρ 1 G) (hw : WF G) (hF : 100 < F) (hp : p < Gn G) (hd : LC5 ρ G d) : pX11_situationOf F ρ (nI p) = some (nI (sO G p d)) := by
  have hn := hw.n6
  have hp6 := hw_lt hw hp
  unfold pX11_situationOf sO
  refine lp_upE F (fun fu i => pX11_situationOf_4 F ρ (nI p) fu (nI (hor (fac G p) (fun q => if sees G p q then d q else 0) i)) (nI i)) (0) (Gn G) _ _ rfl (fun fu => ?_) (fun fu i hi1 hi2 => ?_) (by omega) (by omega)
  · show pX11_situationOf_4 F ρ (nI p) (fu + 1) (nI (hor (fac G p) (fun q => if sees G p q then d q else 0) (Gn G))) (nI (Gn G)) = _
    rw [pX11_situationOf_4, rX_players h]
    simp (disch := omega) only [n_0, n_1, n_2, n_3, n_4, n_5, n_6, n_7, n_8, n_9, n_10, n_12, n_13, n_14, n_20, n_31, n_32, n_63, n_64, n_600, n_1024, n_4096, n_6157, n_add, n_mul, nm_def, Option.bind_some, Option.some.injEq, ck_in, ck_nz, ck_p, n_cl, n_lt, n_le, n_eq, n_div, n_rem, if_pos, if_neg, if_true, if_false, eq_self, n_192, n_256, n_20000, m1_n0, m1_np, m1_n0p, m1_lt0, m1_lt0p, mi_setIA, mi_setI, ml_setIA, ml_setI, mr_setI, mr_setIA]
  · show pX11_situationOf_4 F ρ (nI p) (fu + 1) (nI (hor (fac G p) (fun q => if sees G p q then d q else 0) i)) (nI i) = pX11_situationOf_4 F ρ (nI p) fu (nI (hor (fac G p) (fun q => if sees G p q then d q else 0) (i + 1))) (nI (i + 1))
    rw [pX11_situationOf_4, rX_players h, rX_sees h hw hp (by omega), rX_hats h hw hi2]
    unfold pX11_situationOf_39
    have e1 := hd i hi2
    simp (disch := omega) only [n_0, n_1, n_2, n_3, n_4, n_5, n_6, n_7, n_8, n_9, n_10, n_12, n_13, n_14, n_20, n_31, n_32, n_63, n_64, n_600, n_1024, n_4096, n_6157, n_add, n_mul, nm_def, Option.bind_some, Option.some.injEq, ck_in, ck_nz, ck_p, n_cl, n_lt, n_le, n_eq, n_div, n_rem, if_pos, if_neg, if_true, if_false, eq_self, n_192, n_256, n_20000, m1_n0, m1_np, m1_n0p, m1_lt0, m1_lt0p, mi_setIA, mi_setI, ml_setIA, ml_setI, mr_setI, mr_setIA, e1, hor]
    cases hc : sees G p i
    · rw [fac_f hc]
      simp (disch := omega) only [n_0, n_1, n_2, n_3, n_4, n_5, n_6, n_7, n_8, n_9, n_10, n_12, n_13, n_14, n_20, n_31, n_32, n_63, n_64, n_600, n_1024, n_4096, n_6157, n_add, n_mul, nm_def, Option.bind_some, Option.some.injEq, ck_in, ck_nz, ck_p, n_cl, n_lt, n_le, n_eq, n_div, n_rem, if_pos, if_neg, if_true, if_false, eq_self, n_192, n_256, n_20000, m1_n0, m1_np, m1_n0p, m1_lt0, m1_lt0p, mi_setIA, mi_setI, ml_setIA, ml_setI, mr_setI, mr_setIA, Bool.toNat_false, Nat.mul_one]
      rfl
    · rw [fac_t hc]
      simp (disch := omega) only [n_0, n_1, n_2, n_3, n_4, n_5, n_6, n_7, n_8, n_9, n_10, n_12, n_13, n_14, n_20, n_31, n_32, n_63, n_64, n_600, n_1024, n_4096, n_6157, n_add, n_mul, nm_def, Option.bind_some, Option.some.injEq, ck_in, ck_nz, ck_p, n_cl, n_lt, n_le, n_eq, n_div, n_rem, if_pos, if_neg, if_true, if_false, eq_self, n_192, n_256, n_20000, m1_n0, m1_np, m1_n0p, m1_lt0, m1_lt0p, mi_setIA, mi_setI, ml_setIA, ml_setI, mr_setI, mr_setIA, Bool.toNat_true]
end R1
