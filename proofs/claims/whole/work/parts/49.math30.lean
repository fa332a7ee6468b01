/-! THE REFERENCE: tables drawn, bettered -/
section RD
variable {ρ ρ1 : Mem} {G : Gm} {F p q c : Nat} {t : Nat → Nat → Nat}
theorem rX_draws_18 {k6 : Mem → Int64 → Int32 → Option Mem} (hw : WF G) (hF : 5000 < F) (hp : p < Gn G) : ∀ (k fu : Nat) (s : Mem) (x : Int64) (i : Nat) (t : Nat → Nat → Nat), RG s 1 (withT G t) → i + k = sit G p → k < fu → ∃ s1 t1, agr (fun k => k = 1) s s1 ∧ RG s1 1 (withT G t1) ∧ (∀ q, q < Gn G → ∀ σ, σ < sit G q → t1 q σ = if q = p ∧ i ≤ σ then dr (lcF lcg (σ - i + 1) x) (Gh G p) else t q σ) ∧ pX11_draws_18 F k6 (nI p) fu s x (nI i) = k6 s1 (lcF lcg k x) (nI (p + 1)) := by
  have h1 := hw.h1 hp
  have h4 := hw.h4 hp
  have hsl := sit_le hw hp
  have hp6 := hw_lt hw hp
  have hsit : ∀ (s : Mem) (t : Nat → Nat → Nat), RG s 1 (withT G t) → pX11_situations_ F s (nI p) = some (nI (sit G p)) := fun s t h => by
    have hn := hw.n6
    have hs := hw.s64 hp
    have h0 : mi s 1 0 = nI (Gn G) := h.1
    have h2 : ∀ q, q < Gn G → mi s 1 (1 + q) = nI (Gh G q) := h.2.1
    have h3 : mi s 1 (7 + p) = nI (Gs G p) := h.2.2.1 p hp
    unfold pX11_situations_ pX11_situations
    have e : pX11_situations_4 F 1 s (nI p) F 1 0 = some (nI (sit G p)) := by
      unfold sit wB
      rw [Nat.sub_zero]
      refine lp_upE F (fun fu i => pX11_situations_4 F 1 s (nI p) fu (nI (pw (fac G p) 0 i)) (nI i)) (0) (Gn G) _ _ rfl (fun fu => ?_) (fun fu i hi1 hi2 => ?_) (by omega) (by omega)
      · show pX11_situations_4 F 1 s (nI p) (fu + 1) (nI (pw (fac G p) 0 (Gn G))) (nI (Gn G)) = _
        rw [pX11_situations_4, lenM_1]
        simp (disch := omega) only [n_0, n_1, n_2, n_3, n_4, n_5, n_6, n_7, n_8, n_9, n_10, n_12, n_13, n_14, n_20, n_31, n_32, n_63, n_64, n_600, n_1024, n_4096, n_6157, n_add, n_mul, nm_def, Option.bind_some, Option.some.injEq, ck_in, ck_nz, ck_p, n_cl, n_lt, n_le, n_eq, n_div, n_rem, if_pos, if_neg, if_true, if_false, eq_self, n_192, n_256, n_20000, m1_n0, m1_np, m1_n0p, m1_lt0, m1_lt0p, mi_setIA, mi_setI, ml_setIA, ml_setI, mr_setI, mr_setIA, h0]
      · show pX11_situations_4 F 1 s (nI p) (fu + 1) (nI (pw (fac G p) 0 i)) (nI i) = pX11_situations_4 F 1 s (nI p) fu (nI (pw (fac G p) 0 (i + 1))) (nI (i + 1))
        have e2 := h2 i hi2
        rw [pX11_situations_4, lenM_1]
        unfold pX11_situations_34
        simp (disch := omega) only [n_0, n_1, n_2, n_3, n_4, n_5, n_6, n_7, n_8, n_9, n_10, n_12, n_13, n_14, n_20, n_31, n_32, n_63, n_64, n_600, n_1024, n_4096, n_6157, n_add, n_mul, nm_def, Option.bind_some, Option.some.injEq, ck_in, ck_nz, ck_p, n_cl, n_lt, n_le, n_eq, n_div, n_rem, if_pos, if_neg, if_true, if_false, eq_self, n_192, n_256, n_20000, m1_n0, m1_np, m1_n0p, m1_lt0, m1_lt0p, mi_setIA, mi_setI, ml_setIA, ml_setI, mr_setI, mr_setIA, h0, h3, rX_has, e2, pw, Nat.zero_add]
        have e3 : (Gs G p).testBit i = sees G p i := rfl
        rw [e3]
        cases hc : sees G p i
        · rw [fac_f hc]
          simp (disch := omega) only [n_0, n_1, n_2, n_3, n_4, n_5, n_6, n_7, n_8, n_9, n_10, n_12, n_13, n_14, n_20, n_31, n_32, n_63, n_64, n_600, n_1024, n_4096, n_6157, n_add, n_mul, nm_def, Option.bind_some, Option.some.injEq, ck_in, ck_nz, ck_p, n_cl, n_lt, n_le, n_eq, n_div, n_rem, if_pos, if_neg, if_true, if_false, eq_self, n_192, n_256, n_20000, m1_n0, m1_np, m1_n0p, m1_lt0, m1_lt0p, mi_setIA, mi_setI, ml_setIA, ml_setI, mr_setI, mr_setIA, Bool.toNat_false, Nat.mul_one]
        · rw [fac_t hc]
          simp (disch := omega) only [n_0, n_1, n_2, n_3, n_4, n_5, n_6, n_7, n_8, n_9, n_10, n_12, n_13, n_14, n_20, n_31, n_32, n_63, n_64, n_600, n_1024, n_4096, n_6157, n_add, n_mul, nm_def, Option.bind_some, Option.some.injEq, ck_in, ck_nz, ck_p, n_cl, n_lt, n_le, n_eq, n_div, n_rem, if_pos, if_neg, if_true, if_false, eq_self, n_192, n_256, n_20000, m1_n0, m1_np, m1_n0p, m1_lt0, m1_lt0p, mi_setIA, mi_setI, ml_setIA, ml_setI, mr_setI, mr_setIA, Bool.toNat_true]
    rw [e]
    rfl
  intro k
  induction k with
  | zero =>
    intro fu s x i t h hi hf
    refine ⟨s, t, agr_rfl, h, fun q hq σ hs => ?_, ?_⟩
    · by_cases e : q = p ∧ i ≤ σ
      · obtain ⟨e1, e2⟩ := e; subst e1; omega
      · rw [if_neg e]
    · cases fu with
      | zero => omega
      | succ fu =>
        rw [pX11_draws_18, hsit s t h, lcF_0]
        simp (disch := omega) only [n_0, n_1, n_2, n_3, n_4, n_5, n_6, n_7, n_8, n_9, n_10, n_12, n_13, n_14, n_20, n_31, n_32, n_63, n_64, n_600, n_1024, n_4096, n_6157, n_add, n_mul, nm_def, Option.bind_some, Option.some.injEq, ck_in, ck_nz, ck_p, n_cl, n_lt, n_le, n_eq, n_div, n_rem, if_pos, if_neg, if_true, if_false, eq_self, n_192, n_256, n_20000, m1_n0, m1_np, m1_n0p, m1_lt0, m1_lt0p, mi_setIA, mi_setI, ml_setIA, ml_setI, mr_setI, mr_setIA]
  | succ k ih =>
    intro fu s x i t h hi hf
    cases fu with
    | zero => omega
    | succ fu =>
      have hi2 : i < sit G p := by omega
      have hR := RG_enter h hw hp hi2 (dr (lcg x) (Gh G p))
      obtain ⟨s1, t1, a1, a2, a3, a4⟩ := ih fu _ (lcg x) (i + 1) _ hR (by omega) (by omega)
      refine ⟨s1, t1, agr_trans (agr_setI rfl) a1, a2, fun q hq σ hs => ?_, ?_⟩
      · rw [a3 q hq σ hs]
        by_cases e : q = p
        · subst e
          by_cases e2 : σ = i
          · subst e2
            rw [if_neg (by omega), if_pos ⟨rfl, rfl⟩, if_pos ⟨rfl, Nat.le_refl _⟩, Nat.sub_self, Nat.zero_add, lcF_1]
          · by_cases e3 : i + 1 ≤ σ
            · rw [if_pos ⟨rfl, e3⟩, if_pos ⟨rfl, by omega⟩, show σ - i + 1 = (σ - (i + 1) + 1) + 1 by omega, lcF_s lcg (σ - (i + 1) + 1) x]
            · rw [if_neg (fun z => e3 z.2), if_neg (fun z => e2 z.2), if_neg (by omega)]
        · rw [if_neg (fun z => e z.1), if_neg (fun z => e z.1), if_neg (fun z => e z.1)]
      · have hh : pX11_hats s (nI p) = some (nI (Gh G p)) := by
          have := h.2.1 p hp
          unfold pX11_hats
          simp (disch := omega) only [n_0, n_1, n_2, n_3, n_4, n_5, n_6, n_7, n_8, n_9, n_10, n_12, n_13, n_14, n_20, n_31, n_32, n_63, n_64, n_600, n_1024, n_4096, n_6157, n_add, n_mul, nm_def, Option.bind_some, Option.some.injEq, ck_in, ck_nz, ck_p, n_cl, n_lt, n_le, n_eq, n_div, n_rem, if_pos, if_neg, if_true, if_false, eq_self, n_192, n_256, n_20000, m1_n0, m1_np, m1_n0p, m1_lt0, m1_lt0p, mi_setIA, mi_setI, ml_setIA, ml_setI, mr_setI, mr_setIA, this]
          rfl
        rw [pX11_draws_18, hsit s t h, hh]
        simp (disch := omega) only [n_0, n_1, n_2, n_3, n_4, n_5, n_6, n_7, n_8, n_9, n_10, n_12, n_13, n_14, n_20, n_31, n_32, n_63, n_64, n_600, n_1024, n_4096, n_6157, n_add, n_mul, nm_def, Option.bind_some, Option.some.injEq, ck_in, ck_nz, ck_p, n_cl, n_lt, n_le, n_eq, n_div, n_rem, if_pos, if_neg, if_true, if_false, eq_self, n_192, n_256, n_20000, m1_n0, m1_np, m1_n0p, m1_lt0, m1_lt0p, mi_setIA, mi_setI, ml_setIA, ml_setI, mr_setI, mr_setIA, LC_eq, LD_eq, lcg_eq]
        rw [ckZL_h h1 h4, dr_eq _ h1 h4, rX_enters s hp6 (show i < 1024 by omega), Option.bind_some, a4, lcF_s]
theorem rX_draws {v : Int32} (h : RG ρ 1 (withT G t)) (hw : WF G) (hF : 5000 < F) : ∃ ρ1, agr (fun k => k = 1) ρ ρ1 ∧ RG ρ1 1 (withT G (drT G v.toInt64)) ∧ pX11_draws F ρ v = some ρ1 := by
  have hn := hw.n6
  have key : ∀ (k fu : Nat) (s : Mem) (y : Int64) (i : Nat) (t : Nat → Nat → Nat), RG s 1 (withT G t) → i + k = Gn G → k < fu → ∃ s1 t1, agr (fun k => k = 1) s s1 ∧ RG s1 1 (withT G t1) ∧ (∀ p, p < Gn G → ∀ σ, σ < sit G p → t1 p σ = if i ≤ p then dr (lcF lcg (sm (sit G) p - sm (sit G) i + σ + 1) y) (Gh G p) else t p σ) ∧ pX11_draws_6 F fu s y (nI i) = some s1 := by
    intro k
    induction k with
    | zero =>
      intro fu s y i t hG hi hf
      refine ⟨s, t, agr_rfl, hG, fun p hp σ _ => by rw [if_neg (by omega)], ?_⟩
      cases fu with
      | zero => omega
      | succ fu =>
        have e : pX11_players s = some (nI (Gn G)) := rX_players (G := withT G t) hG
        rw [pX11_draws_6, e]
        simp (disch := omega) only [n_0, n_1, n_2, n_3, n_4, n_5, n_6, n_7, n_8, n_9, n_10, n_12, n_13, n_14, n_20, n_31, n_32, n_63, n_64, n_600, n_1024, n_4096, n_6157, n_add, n_mul, nm_def, Option.bind_some, Option.some.injEq, ck_in, ck_nz, ck_p, n_cl, n_lt, n_le, n_eq, n_div, n_rem, if_pos, if_neg, if_true, if_false, eq_self, n_192, n_256, n_20000, m1_n0, m1_np, m1_n0p, m1_lt0, m1_lt0p, mi_setIA, mi_setI, ml_setIA, ml_setI, mr_setI, mr_setIA]
    | succ k ih =>
      intro fu s y i t hG hi hf
      cases fu with
      | zero => omega
      | succ fu =>
        have hi2 : i < Gn G := by omega
        have hs := sit_le hw hi2
        have e : pX11_players s = some (nI (Gn G)) := rX_players (G := withT G t) hG
        obtain ⟨s3, t3, a1, a0, a2, a3⟩ := rX_draws_18 (F := F) (k6 := pX11_draws_6 F fu) (p := i) hw hF hi2 (sit G i) F s y 0 t hG (by omega) (by omega)
        obtain ⟨s4, t4, b1, b0, b2, b3⟩ := ih fu s3 (lcF lcg (sit G i) y) (i + 1) t3 a0 (by omega) (by omega)
        refine ⟨s4, t4, agr_trans a1 b1, b0, fun p hp σ hσ => ?_, ?_⟩
        · have hs2 := sit_le hw hp
          rw [b2 p hp σ hσ, a2 p hp σ hσ]
          by_cases c : i + 1 ≤ p
          · have hm : sm (sit G) (i + 1) ≤ sm (sit G) p := sm_mono _ c
            rw [if_pos c, if_pos (by omega), lcF_add]
            congr 2
            rw [sm] at hm ⊢
            omega
          · rw [if_neg c]
            by_cases c2 : i ≤ p
            · have : p = i := by omega
              subst this
              rw [if_pos ⟨rfl, Nat.zero_le _⟩, if_pos (Nat.le_refl _), Nat.sub_self, Nat.sub_zero, Nat.zero_add]
            · rw [if_neg (by omega), if_neg c2]
        · rw [pX11_draws_6, e]
          simp (disch := omega) only [n_0, n_1, n_2, n_3, n_4, n_5, n_6, n_7, n_8, n_9, n_10, n_12, n_13, n_14, n_20, n_31, n_32, n_63, n_64, n_600, n_1024, n_4096, n_6157, n_add, n_mul, nm_def, Option.bind_some, Option.some.injEq, ck_in, ck_nz, ck_p, n_cl, n_lt, n_le, n_eq, n_div, n_rem, if_pos, if_neg, if_true, if_false, eq_self, n_192, n_256, n_20000, m1_n0, m1_np, m1_n0p, m1_lt0, m1_lt0p, mi_setIA, mi_setI, ml_setIA, ml_setI, mr_setI, mr_setIA]
          exact a3.trans b3
  obtain ⟨s1, t1, a1, a0, a2, a3⟩ := key (Gn G) F ρ v.toInt64 0 t h (by omega) (by omega)
  refine ⟨s1, a1, RG_same a0 (fun p hp σ hσ => ?_), ?_⟩
  · rw [a2 p hp σ hσ, if_pos (Nat.zero_le _)]
    rfl
  · unfold pX11_draws
    exact a3
theorem WF_drT (hw : WF G) (x : Int64) : WF (withT G (drT G x)) := WF_withT hw (fun p hp σ _ => dr_lt (hw.h1 hp))
def r1568 (k : Nat) : Prop := k = 1 ∨ r568 k
theorem rX_betters_6 (hF : 5000 < F) : ∀ (fu : Nat) (s : Mem) (G : Gm) (took idle p fu2 : Nat) {r : Gm × Nat}, RG s 1 G → WF G → (0 < Gn G → p < Gn G) → idle ≤ 6 → betG fu G took idle p = some r → fu ≤ fu2 → ∃ s1, agr r1568 s s1 ∧ RG s1 1 r.1 ∧ pX11_betters_6 F fu2 s (nI took) (nI idle) (nI p) = some (nI r.2, s1) := by
  intro fu
  induction fu with
  | zero => intro s G took idle p fu2 r _ _ _ _ h; rw [betG] at h; cases h
  | succ fu ih =>
    intro s G took idle p fu2 r h hw hp hid hb hf
    cases fu2 with
    | zero => omega
    | succ fu2 =>
      have hn := hw.n6
      rw [betG] at hb
      rw [pX11_betters_6, rX_players h]
      unfold pX11_betters_43 pX11_betters_60
      by_cases c : idle < Gn G
      · have hp1 := hp (by omega)
        have hp6 := hw_lt hw hp1
        rw [if_pos c] at hb
        obtain ⟨s1, a1, a2, a3⟩ := rX_lostWithBest (F := F) h hw hF hp1
        have hR1 : RG s1 1 G := h.agr a1 (by unfold r568; omega)
        obtain ⟨s2, b1, b2, b3⟩ := rX_lostNow (F := F) hR1 hw hF
        have hR2 : RG s2 1 G := hR1.agr b1 (by unfold r56; omega)
        have l1 := lst_le hw
        have l2 := lw_le (p := p) hw
        have q12 : agr r1568 s s2 := agr_trans (agr_mono a1 (fun k hk => Or.inr hk)) (agr_mono b1 (fun k hk => Or.inr (by unfold r56 at hk; unfold r568; omega)))
        have e1 : (p + 1 = Gn G) = ¬ (p + 1 < Gn G) := propext (by omega)
        by_cases c2 : lw G p < lst G
        · rw [if_pos c2] at hb
          obtain ⟨s3, d1, d2, d3⟩ := rX_takes (F := F) hR2 hw hF hp1
          have hn3 : pX11_players s3 = some (nI (Gn G)) := rX_players (G := tk G p) d2
          obtain ⟨s4, g1, g2, g3⟩ := ih s3 (tk G p) (took + 1) 0 (nx G p) fu2 d2 (WF_tk hw hp1) (fun _ => nx_lt hp1) (by omega) hb (by omega)
          refine ⟨s4, agr_trans q12 (agr_trans (agr_mono d1 (fun k hk => hk)) g1), g2, ?_⟩
          simp (disch := omega) only [n_0, n_1, n_2, n_3, n_4, n_5, n_6, n_7, n_8, n_9, n_10, n_12, n_13, n_14, n_20, n_31, n_32, n_63, n_64, n_600, n_1024, n_4096, n_6157, n_add, n_mul, nm_def, Option.bind_some, Option.some.injEq, ck_in, ck_nz, ck_p, n_cl, n_lt, n_le, n_eq, n_div, n_rem, if_pos, if_neg, if_true, if_false, eq_self, n_192, n_256, n_20000, m1_n0, m1_np, m1_n0p, m1_lt0, m1_lt0p, mi_setIA, mi_setI, ml_setIA, ml_setI, mr_setI, mr_setIA, c, a3, b3, c2, d3, hn3]
          unfold nx at g3
          by_cases c3 : p + 1 < Gn G
          · rw [if_pos c3] at g3
            rw [if_neg (by omega)]
            exact g3
          · rw [if_neg c3] at g3
            rw [if_pos (by omega)]
            exact g3
        · rw [if_neg c2] at hb
          obtain ⟨s4, g1, g2, g3⟩ := ih s2 G took (idle + 1) (nx G p) fu2 hR2 hw (fun _ => nx_lt hp1) (by omega) hb (by omega)
          refine ⟨s4, agr_trans q12 g1, g2, ?_⟩
          simp (disch := omega) only [n_0, n_1, n_2, n_3, n_4, n_5, n_6, n_7, n_8, n_9, n_10, n_12, n_13, n_14, n_20, n_31, n_32, n_63, n_64, n_600, n_1024, n_4096, n_6157, n_add, n_mul, nm_def, Option.bind_some, Option.some.injEq, ck_in, ck_nz, ck_p, n_cl, n_lt, n_le, n_eq, n_div, n_rem, if_pos, if_neg, if_true, if_false, eq_self, n_192, n_256, n_20000, m1_n0, m1_np, m1_n0p, m1_lt0, m1_lt0p, mi_setIA, mi_setI, ml_setIA, ml_setI, mr_setI, mr_setIA, c, a3, b3, c2, rX_players hR2]
          unfold nx at g3
          by_cases c3 : p + 1 < Gn G
          · rw [if_pos c3] at g3
            rw [if_neg (by omega)]
            exact g3
          · rw [if_neg c3] at g3
            rw [if_pos (by omega)]
            exact g3
      · rw [if_neg c] at hb
        cases hb
        refine ⟨s, agr_rfl, h, ?_⟩
        simp (disch := omega) only [n_0, n_1, n_2, n_3, n_4, n_5, n_6, n_7, n_8, n_9, n_10, n_12, n_13, n_14, n_20, n_31, n_32, n_63, n_64, n_600, n_1024, n_4096, n_6157, n_add, n_mul, nm_def, Option.bind_some, Option.some.injEq, ck_in, ck_nz, ck_p, n_cl, n_lt, n_le, n_eq, n_div, n_rem, if_pos, if_neg, if_true, if_false, eq_self, n_192, n_256, n_20000, m1_n0, m1_np, m1_n0p, m1_lt0, m1_lt0p, mi_setIA, mi_setI, ml_setIA, ml_setI, mr_setI, mr_setIA, c]
theorem rX_betters {r : Gm × Nat} (h : RG ρ 1 G) (hw : WF G) (hF : 30000 < F) (hb : bet G = some r) : ∃ ρ1, agr r1568 ρ ρ1 ∧ RG ρ1 1 r.1 ∧ pX11_betters F ρ = some (nI r.2, ρ1) := by
  unfold pX11_betters
  exact rX_betters_6 (by omega) 30000 ρ G 0 0 0 F h hw (fun h => h) (by omega) hb (by omega)
end RD
/-! THE CLASS: what is remembered; how acts end -/
section XH
variable {κ κ1 κ2 ρ ρ1 : Mem} {G G2 : Gm} {H H2 : Nat → Gm} {m m2 F p q : Nat} {S : Nat → Prop}
/-- noted, not kept yet -/
def HN (κ : Mem) (H : Nat → Gm) (m : Nat) (G : Gm) : Prop := (∃ nx, nx < 7 ∧ mi κ 135 1 = nI nx ∧ (∀ j, j < m → XG κ (hpl nx m j) (H j)) ∧ XG κ (13 + nx * 4) G) ∧ mi κ 135 2 = nI m
def hC (k : Nat) : Prop := 13 ≤ k ∧ k ≤ 40
theorem x_note (h : IHx κ H m) (hm : m ≤ 6) (hG : XG κ 1 G) (hw : WF G) : ∃ κ1, agr hC κ κ1 ∧ HN κ1 H m G ∧ pX3_note 1 κ = some κ1 := by
  obtain ⟨⟨nx, h1, h2, h3⟩, h4⟩ := h
  obtain ⟨κ1, a1, a2, -, -, a3⟩ := sX2_copy (g := 13 + nx * 4) (g1 := 1) hG hw (Or.inr (by omega))
  have hS : ∀ k, gC (13 + nx * 4) k → hC k := fun k hk => by unfold gC at hk; unfold hC; omega
  refine ⟨κ1, agr_mono a1 hS, ⟨⟨nx, h1, by rw [agr_mi a1 (by unfold gC; omega)]; exact h2, fun j hj => ?_, a2⟩, by rw [agr_mi a1 (by unfold gC; omega)]; exact h4⟩, ?_⟩
  · have hne : hpl nx m j ≠ 13 + nx * 4 := by
      unfold hpl
      have := Nat.mod_lt (nx + 7 - m + j) (show 0 < 7 by decide)
      omega
    have hge : hpl nx m j = 13 + ((nx + 7 - m + j) % 7) * 4 := rfl
    refine (h3 j hj).agr a1 ?_ ?_ ?_ ?_
    · unfold gC; omega
    · unfold gC; omega
    · unfold gC; omega
    · unfold gC; omega
  · unfold pX3_note
    simp (disch := omega) only [n_0, n_1, n_2, n_3, n_4, n_5, n_6, n_7, n_8, n_9, n_10, n_12, n_13, n_14, n_20, n_31, n_32, n_63, n_64, n_600, n_1024, n_4096, n_6157, n_add, n_mul, nm_def, Option.bind_some, Option.some.injEq, ck_in, ck_nz, ck_p, n_cl, n_lt, n_le, n_eq, n_div, n_rem, if_pos, if_neg, if_true, if_false, eq_self, n_192, n_256, n_20000, m1_n0, m1_np, m1_n0p, m1_lt0, m1_lt0p, mi_setIA, mi_setI, ml_setIA, ml_setI, mr_setI, mr_setIA, h2]
    rw [a3]
    rfl
theorem HN.fr (h : HN κ H m G) (ha : agr S κ κ1) (hS : ∀ k, S k → ¬ hC k ∧ k ≠ 135) : HN κ1 H m G := by
  obtain ⟨⟨nx, h1, h2, h3, h4⟩, h5⟩ := h
  have q : ∀ k, hC k ∨ k = 135 → ¬ S k := fun k hk z => by
    have := hS k z
    rcases hk with y | y
    · exact this.1 y
    · exact this.2 y
  have q2 : ∀ i, i < 4 → ∀ g, 13 ≤ g → g + 3 ≤ 40 → ¬ S (g + i) := fun i hi g h1 h2 => q _ (Or.inl (by unfold hC; omega))
  refine ⟨⟨nx, h1, by rw [agr_mi ha (q 135 (Or.inr rfl))]; exact h2, fun j hj => ?_, ?_⟩, by rw [agr_mi ha (q 135 (Or.inr rfl))]; exact h5⟩
  · have hb := hpl_in (nx := nx) (m := m) (j := j)
    exact (h3 j hj).agr ha (q2 0 (by omega) _ hb.1 hb.2) (q2 1 (by omega) _ hb.1 hb.2) (q2 2 (by omega) _ hb.1 hb.2) (q2 3 (by omega) _ hb.1 hb.2)
  · have g1 : 13 ≤ 13 + nx * 4 := by omega
    have g2 : 13 + nx * 4 + 3 ≤ 40 := by omega
    exact h4.agr ha (q2 0 (by omega) _ g1 g2) (q2 1 (by omega) _ g1 g2) (q2 2 (by omega) _ g1 g2) (q2 3 (by omega) _ g1 g2)
theorem HN.drop (h : HN κ H m G) : IHx κ H m := by
  obtain ⟨⟨nx, h1, h2, h3, -⟩, h5⟩ := h
  exact ⟨⟨nx, h1, h2, h3⟩, h5⟩
theorem x_keep (h : HN κ H m G) (hm : m ≤ 6) : ∃ κ1, agr (fun k => k = 135) κ κ1 ∧ IHx κ1 (hpush H m G) (hm1 m) ∧ pX3_keep κ = some κ1 := by
  obtain ⟨⟨nx, h1, h2, h3, h4⟩, h5⟩ := h
  have ha : agr (fun k => k = 135) κ (setI (setI κ 135 1 (nI ((nx + 1) % 7))) 135 2 (nI (hm1 m))) := agr_trans (agr_setI rfl) (agr_setI rfl)
  refine ⟨setI (setI κ 135 1 (nI ((nx + 1) % 7))) 135 2 (nI (hm1 m)), ha, ⟨⟨(nx + 1) % 7, Nat.mod_lt _ (by decide), ?_, fun j hj => ?_⟩, ?_⟩, ?_⟩
  · rw [mi_setI, if_neg (by omega), mi_setI, if_pos ⟨rfl, rfl⟩]
  · have fr : ∀ g G, 13 ≤ g → g + 3 ≤ 40 → XG κ g G → XG (setI (setI κ 135 1 (nI ((nx + 1) % 7))) 135 2 (nI (hm1 m))) g G := fun g G hg1 hg2 hx => hx.agr ha (by omega) (by omega) (by omega) (by omega)
    unfold hm1 at hj ⊢
    unfold hpush
    rcases Nat.lt_or_ge m 6 with c | c
    · rw [if_pos c] at hj ⊢
      rw [if_pos c]
      by_cases e : j = m
      · subst e
        rw [if_pos rfl]
        have ep : hpl ((nx + 1) % 7) (j + 1) j = 13 + nx * 4 := by unfold hpl; omega
        rw [ep]
        have := fr _ _ (by omega) (by omega) h4
        unfold hm1 at this
        rw [if_pos c] at this
        exact this
      · rw [if_neg e]
        have ep : hpl ((nx + 1) % 7) (m + 1) j = hpl nx m j := by unfold hpl; omega
        rw [ep]
        have hb := hpl_in (nx := nx) (m := m) (j := j)
        have := fr _ _ hb.1 hb.2 (h3 j (by omega))
        unfold hm1 at this
        rw [if_pos c] at this
        exact this
    · have hm6 : m = 6 := by omega
      subst hm6
      rw [if_neg (by omega)] at hj ⊢
      rw [if_neg (by omega)]
      by_cases e : j = 5
      · subst e
        rw [if_pos rfl]
        have ep : hpl ((nx + 1) % 7) 6 5 = 13 + nx * 4 := by unfold hpl; omega
        rw [ep]
        exact fr _ _ (by omega) (by omega) h4
      · rw [if_neg e]
        have ep : hpl ((nx + 1) % 7) 6 j = hpl nx 6 (j + 1) := by unfold hpl; omega
        rw [ep]
        have hb := hpl_in (nx := nx) (m := 6) (j := j + 1)
        exact fr _ _ hb.1 hb.2 (h3 (j + 1) (by omega))
  · rw [mi_setI, if_pos ⟨rfl, rfl⟩]
  · have e7 : ∀ x : Option Mem, ckZ 7 x = x := fun x => rfl
    unfold pX3_keep
    rw [e7]
    simp (disch := omega) only [n_0, n_1, n_2, n_3, n_4, n_5, n_6, n_7, n_8, n_9, n_10, n_12, n_13, n_14, n_20, n_31, n_32, n_63, n_64, n_600, n_1024, n_4096, n_6157, n_add, n_mul, nm_def, Option.bind_some, Option.some.injEq, ck_in, ck_nz, ck_p, n_cl, n_lt, n_le, n_eq, n_div, n_rem, if_pos, if_neg, if_true, if_false, eq_self, n_192, n_256, n_20000, m1_n0, m1_np, m1_n0p, m1_lt0, m1_lt0p, mi_setIA, mi_setI, ml_setIA, ml_setI, mr_setI, mr_setIA, h2, h5]
    unfold hm1
    by_cases c : m < 6
    · rw [if_neg (by omega), if_pos c]
    · rw [if_pos (by omega), if_neg c]
/-- kept: what lies on the tape, in OUT -/
def kpX (κ κ1 : Mem) : Prop := (∀ k, k = 137 ∨ (144 ≤ k ∧ k ≤ 146) → κ1.1 k = κ.1 k ∧ κ1.2.1 k = κ.2.1 k ∧ κ1.2.2 k = κ.2.2 k) ∧ ∀ i, i = 11 ∨ i = 13 ∨ i = 14 → mi κ1 0 i = mi κ 0 i
theorem kpX_rfl : kpX κ κ := ⟨fun _ _ => ⟨rfl, rfl, rfl⟩, fun _ _ => rfl⟩
theorem kpX_trans (h : kpX κ κ1) (h2 : kpX κ1 κ2) : kpX κ κ2 := ⟨fun k hk => ⟨(h2.1 k hk).1.trans (h.1 k hk).1, (h2.1 k hk).2.1.trans (h.1 k hk).2.1, (h2.1 k hk).2.2.trans (h.1 k hk).2.2⟩, fun i hi => (h2.2 i hi).trans (h.2 i hi)⟩
theorem kpX_of (h : agr S κ κ1) (hS : ∀ k, S k → k ≠ 0 ∧ k ≠ 137 ∧ k < 144) : kpX κ κ1 :=
  ⟨fun k hk => h k (fun z => by have := hS k z; omega), fun i _ => agr_mi h (fun z => (hS 0 z).1 rfl) i⟩
theorem IZ.kp (h : IZ κ ρ) (hx : kpX κ κ1) (hr : (∀ k, 12 ≤ k → ρ1.1 k = ρ.1 k ∧ ρ1.2.1 k = ρ.2.1 k ∧ ρ1.2.2 k = ρ.2.2 k) ∧ ∀ i, i = 19 ∨ i = 22 ∨ i = 23 ∨ i = 24 → mi ρ1 0 i = mi ρ 0 i) : IZ κ1 ρ1 := by
  obtain ⟨⟨n, t1, t2, t3, t4⟩, ⟨l, p1, p2, p3, p4, p5⟩, ⟨f1, f2⟩, hw⟩ := h
  have xm : ∀ k, k = 137 ∨ (144 ≤ k ∧ k ≤ 146) → ∀ i, mi κ1 k i = mi κ k i := fun k hk i => congrFun (hx.1 k hk).1 i
  have rm : ∀ k, 12 ≤ k → ∀ i, mi ρ1 k i = mi ρ k i := fun k hk i => congrFun (hr.1 k hk).1 i
  have e0 : mr κ1 144 0 = mr κ 144 0 := congrFun (hx.1 144 (by omega)).2.2 0
  have e2 : mr κ1 144 2 = mr κ 144 2 := congrFun (hx.1 144 (by omega)).2.2 2
  refine ⟨⟨n, t1, by rw [hx.2 11 (by omega)]; exact t2, by rw [hr.2 22 (by omega)]; exact t3, fun i hi => ?_⟩, ⟨l, p1, ?_, by rw [hr.2 19 (by omega)]; exact p3, by rw [e0, e2]; exact p4, fun i hi => ?_⟩, ⟨?_, ?_⟩, fun i hi => ?_⟩
  · rw [xm 137 (by omega), rm 13 (by omega)]; exact t4 i hi
  · rw [xm 144 (by omega)]; exact p2
  · rw [e0, xm (mr κ 144 0) (by omega), rm 12 (by omega)]; exact p5 i hi
  · rw [hx.2 13 (by omega), hr.2 23 (by omega)]; exact f1
  · rw [hx.2 14 (by omega), hr.2 24 (by omega)]; exact f2
  · have : ml ρ1 14 i = ml ρ 14 i := congrFun (hr.1 14 (by omega)).2.1 i
    rw [this]; exact hw i hi
theorem st0_i {k : Int32} {i : Nat} (h0 : i ≠ 0) (h1 : i ≠ 1) : mi (st0 ρ k) 0 i = mi ρ 0 i := by
  unfold st0
  rw [mi_setI, if_neg (by omega), mi_setI, if_neg (by omega)]
theorem st0_c {k : Int32} {c : Nat} (h0 : c ≠ 0) : (st0 ρ k).1 c = ρ.1 c := by
  unfold st0
  simp [setI, h0]
theorem IZ.st (h : IZ κ ρ) (hx : kpX κ κ1) (hr : kpR (st0 ρ 0) ρ1) : IZ κ1 ρ1 := h.kp hx ⟨fun k hk => ⟨(hr.1 k hk).1.trans (st0_c (by omega)), (hr.1 k hk).2.1, (hr.1 k hk).2.2⟩, fun i hi => (hr.2 i (by omega)).trans (st0_i (by omega) (by omega))⟩
theorem act_ok {v : Int32} (h : IV G H m κ ρ) (hg : IG κ1 ρ1 G2) (hh : IH κ1 ρ1 H2 m2) (hx : kpX κ κ1) (hr : kpR (st0 ρ 0) ρ1) : Res (some (v, setI κ1 0 12 0)) (some (v, ρ1)) := by
  have hz := h.2.2.1.st hx hr
  refine ⟨v, _, _, ⟨G2, H2, m2, hg.fr (agX_0 (by omega)) agR_rfl, hh.fr (agX_0 (by omega)) agR_rfl, hz.fr (agX_0 (by omega)) agR_rfl, ?_⟩, rfl, rfl⟩
  rw [mi_setI, if_pos ⟨rfl, rfl⟩, hr.2 0 (by omega), st0_0]
theorem act_re {k : Int32} (h : IV G H m κ ρ) (hg : IG κ1 ρ1 G2) (hh : IH κ1 ρ1 H2 m2) (hx : kpX κ κ1) (hr : kpR (st0 ρ 0) ρ1) : Res (some (-1, setI κ1 0 12 k)) (some (-1, setI ρ1 0 0 k)) := by
  have hz := h.2.2.1.st hx hr
  refine ⟨-1, _, _, ⟨G2, H2, m2, hg.fr (agX_0 (by omega)) (agR_0 (by omega)), hh.fr (agX_0 (by omega)) (agR_0 (by omega)), hz.fr (agX_0 (by omega)) (agR_0 (by omega)), ?_⟩, rfl, rfl⟩
  rw [mi_setI, if_pos ⟨rfl, rfl⟩, mi_setI, if_pos ⟨rfl, rfl⟩]
theorem IHr.st {k : Int32} (h : IHr ρ H m) : IHr (st0 ρ k) H m := h.fr agR_st0
theorem IHr.kp (h : IHr ρ H m) (hH : ∀ j, j < m → WF (H j)) (ha : agr S ρ ρ1) (h0 : ¬ S 0) (h3 : ¬ S 3) : IHr ρ1 H m := ⟨(agr_mi ha h0 6).trans h.1, fun j hj => RP_mv (h.2 j hj) (hH j hj) (fun i _ => agr_mi ha h3 _)⟩
theorem IV.m6 (h : IV G H m κ ρ) : m ≤ 6 := h.2.1.1.1
theorem IV.HW (h : IV G H m κ ρ) : ∀ j, j < m → WF (H j) := h.2.1.1.2
end XH
