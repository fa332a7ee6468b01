/-! THE REFERENCE: what is asked of tables and colourings -/
theorem lp_memK {β : Type} {ρ0 : Mem} {S : Nat → Prop} {F : Nat} (f : Nat → Mem → Nat → β) (n : Nat) (res : Mem → β) (he : ∀ fu s, agr S ρ0 s → f (fu + 1) s n = res s) (hs : ∀ fu s i, i < n → agr S ρ0 s → ∃ s', agr S ρ0 s' ∧ f (fu + 1) s i = f fu s' (i + 1)) (hF : n < F) : ∃ ρ1, agr S ρ0 ρ1 ∧ f F ρ0 0 = res ρ1 :=
  lp_inv f (fun s _ => agr S ρ0 s) n (fun r => ∃ ρ1, agr S ρ0 ρ1 ∧ r = res ρ1) (fun fu s hI => ⟨s, hI, he fu s hI⟩) (fun fu s i hi hI => hs fu s i hi hI) F ρ0 0 (Nat.zero_le _) (by omega) agr_rfl
theorem sm_swap {f g : Nat → Nat} {k : Nat} : ∀ {n : Nat}, k < n → (∀ i, i < n → i ≠ k → f i = g i) → sm f n + g k = sm g n + f k
  | 0, h, _ => by omega
  | n + 1, h, he => by
    rw [sm, sm]
    rcases Nat.lt_succ_iff_lt_or_eq.mp h with z | z
    · have h1 := sm_swap (f := f) (g := g) z (fun i hi hk => he i (by omega) hk)
      have h2 := he n (by omega) (by omega)
      omega
    · subst z
      rw [sm_congr (fun i hi => he i (by omega) (by omega))]
      omega
section R3
variable {ρ : Mem} {G : Gm} {F p q x c : Nat}
theorem rX_ones {a : Nat} (ρ : Mem) (hF : 100 < F) (ha : a < 2147483648) : pX11_ones F ρ (nI a) = some (nI (pc a)) := by
  unfold pX11_ones pc
  refine lp_upE F (fun fu i => pX11_ones_4 F ρ (nI a) fu (nI (cnt (fun k => a.testBit k) i)) (nI i)) (0) (6) _ _ rfl (fun fu => ?_) (fun fu i hi1 hi2 => ?_) (by omega) (by omega)
  · show pX11_ones_4 F ρ (nI a) (fu + 1) (nI (cnt (fun k => a.testBit k) (6))) (nI (6)) = _
    rw [pX11_ones_4]
    simp (disch := omega) only [n_0, n_1, n_2, n_3, n_4, n_5, n_6, n_7, n_8, n_9, n_10, n_12, n_13, n_14, n_20, n_31, n_32, n_63, n_64, n_600, n_1024, n_4096, n_6157, n_add, n_mul, nm_def, Option.bind_some, Option.some.injEq, ck_in, ck_nz, ck_p, n_cl, n_lt, n_le, n_eq, n_div, n_rem, if_pos, if_neg, if_true, if_false, eq_self, n_192, n_256, n_20000, m1_n0, m1_np, m1_n0p, m1_lt0, m1_lt0p, mi_setIA, mi_setI, ml_setIA, ml_setI, mr_setI, mr_setIA]
  · show pX11_ones_4 F ρ (nI a) (fu + 1) (nI (cnt (fun k => a.testBit k) i)) (nI i) = pX11_ones_4 F ρ (nI a) fu (nI (cnt (fun k => a.testBit k) (i + 1))) (nI (i + 1))
    rw [pX11_ones_4]
    simp (disch := omega) only [n_0, n_1, n_2, n_3, n_4, n_5, n_6, n_7, n_8, n_9, n_10, n_12, n_13, n_14, n_20, n_31, n_32, n_63, n_64, n_600, n_1024, n_4096, n_6157, n_add, n_mul, nm_def, Option.bind_some, Option.some.injEq, ck_in, ck_nz, ck_p, n_cl, n_lt, n_le, n_eq, n_div, n_rem, if_pos, if_neg, if_true, if_false, eq_self, n_192, n_256, n_20000, m1_n0, m1_np, m1_n0p, m1_lt0, m1_lt0p, mi_setIA, mi_setI, ml_setIA, ml_setI, mr_setI, mr_setIA]
    rw [n_shr ha (by omega), n_bit]
    simp (disch := omega) only [n_0, n_1, n_2, n_3, n_4, n_5, n_6, n_7, n_8, n_9, n_10, n_12, n_13, n_14, n_20, n_31, n_32, n_63, n_64, n_600, n_1024, n_4096, n_6157, n_add, n_mul, nm_def, Option.bind_some, Option.some.injEq, ck_in, ck_nz, ck_p, n_cl, n_lt, n_le, n_eq, n_div, n_rem, if_pos, if_neg, if_true, if_false, eq_self, n_192, n_256, n_20000, m1_n0, m1_np, m1_n0p, m1_lt0, m1_lt0p, mi_setIA, mi_setI, ml_setIA, ml_setI, mr_setI, mr_setIA, cnt_s]
theorem rB_often {c0 : Nat} (h : RG ρ 1 G) (hw : WF G) (hF : 5000 < F) (hp : p < Gn G) (hc : c0 < 2147483648) : pX11_often_28 F ρ (nI p) (nI c0) F 0 0 = some (nI (cnt (fun σ => decide (Gt G p σ = c0)) (sit G p)), ρ) := by
  have hs := sit_le hw hp
  refine lp_upE F (fun fu i => pX11_often_28 F ρ (nI p) (nI c0) fu (nI (cnt (fun σ => decide (Gt G p σ = c0)) i)) (nI i)) (0) (sit G p) _ _ rfl (fun fu => ?_) (fun fu i hi1 hi2 => ?_) (by omega) (by omega)
  · show pX11_often_28 F ρ (nI p) (nI c0) (fu + 1) (nI (cnt (fun σ => decide (Gt G p σ = c0)) (sit G p))) (nI (sit G p)) = _
    rw [pX11_often_28, rX_situations h hw (by omega) hp]
    simp (disch := omega) only [n_0, n_1, n_2, n_3, n_4, n_5, n_6, n_7, n_8, n_9, n_10, n_12, n_13, n_14, n_20, n_31, n_32, n_63, n_64, n_600, n_1024, n_4096, n_6157, n_add, n_mul, nm_def, Option.bind_some, Option.some.injEq, ck_in, ck_nz, ck_p, n_cl, n_lt, n_le, n_eq, n_div, n_rem, if_pos, if_neg, if_true, if_false, eq_self, n_192, n_256, n_20000, m1_n0, m1_np, m1_n0p, m1_lt0, m1_lt0p, mi_setIA, mi_setI, ml_setIA, ml_setI, mr_setI, mr_setIA]
  · show pX11_often_28 F ρ (nI p) (nI c0) (fu + 1) (nI (cnt (fun σ => decide (Gt G p σ = c0)) i)) (nI i) = pX11_often_28 F ρ (nI p) (nI c0) fu (nI (cnt (fun σ => decide (Gt G p σ = c0)) (i + 1))) (nI (i + 1))
    have ht := hw.t hp hi2
    have h4 := hw.h4 hp
    rw [pX11_often_28, rX_situations h hw (by omega) hp]
    unfold pX11_often_55
    simp (disch := omega) only [n_0, n_1, n_2, n_3, n_4, n_5, n_6, n_7, n_8, n_9, n_10, n_12, n_13, n_14, n_20, n_31, n_32, n_63, n_64, n_600, n_1024, n_4096, n_6157, n_add, n_mul, nm_def, Option.bind_some, Option.some.injEq, ck_in, ck_nz, ck_p, n_cl, n_lt, n_le, n_eq, n_div, n_rem, if_pos, if_neg, if_true, if_false, eq_self, n_192, n_256, n_20000, m1_n0, m1_np, m1_n0p, m1_lt0, m1_lt0p, mi_setIA, mi_setI, ml_setIA, ml_setI, mr_setI, mr_setIA, rX_entry h hw hp hi2, cnt_s]
    by_cases z : Gt G p i = c0
    · simp [z]
    · simp [z]
/-- only colours that are seen count -/
theorem rX_situationOf2 {d : Nat → Nat} (h : RG ρ 1 G) (hw : WF G) (hF : 100 < F) (hp : p < Gn G) (hd : ∀ q, q < Gn G → sees G p q = true → mi ρ 5 q = nI (d q)) : pX11_situationOf F ρ (nI p) = some (nI (sO G p d)) := by
  have hn := hw.n6
  have hp6 := hw_lt hw hp
  unfold pX11_situationOf sO
  refine lp_upE F (fun fu i => pX11_situationOf_4 F ρ (nI p) fu (nI (hor (fac G p) (fun q => if sees G p q then d q else 0) i)) (nI i)) (0) (Gn G) _ _ rfl (fun fu => ?_) (fun fu i hi1 hi2 => ?_) (by omega) (by omega)
  · show pX11_situationOf_4 F ρ (nI p) (fu + 1) (nI (hor (fac G p) (fun q => if sees G p q then d q else 0) (Gn G))) (nI (Gn G)) = _
    rw [pX11_situationOf_4, rX_players h]
    simp (disch := omega) only [n_0, n_1, n_2, n_3, n_4, n_5, n_6, n_7, n_8, n_9, n_10, n_12, n_13, n_14, n_20, n_31, n_32, n_63, n_64, n_600, n_1024, n_4096, n_6157, n_add, n_mul, nm_def, Option.bind_some, Option.some.injEq, ck_in, ck_nz, ck_p, n_cl, n_lt, n_le, n_eq, n_div, n_rem, if_pos, if_neg, if_true, if_false, eq_self, n_192, n_256, n_20000, m1_n0, m1_np, m1_n0p, m1_lt0, m1_lt0p, mi_setIA, mi_setI, ml_setIA, ml_setI, mr_setI, mr_setIA]
  · show pX11_situationOf_4 F ρ (nI p) (fu + 1) (nI (hor (fac G p) (fun q => if sees G p q then d q else 0) i)) (nI i) = pX11_situationOf_4 F ρ (nI p) fu (nI (hor (fac G p) (fun q => if sees G p q then d q else 0) (i + 1))) (nI (i + 1))
    rw [pX11_situationOf_4, rX_players h, rX_sees h hw hp (by omega), rX_hats h hw hi2]
    unfold pX11_situationOf_39
    cases hc : sees G p i
    · simp (disch := omega) only [n_0, n_1, n_2, n_3, n_4, n_5, n_6, n_7, n_8, n_9, n_10, n_12, n_13, n_14, n_20, n_31, n_32, n_63, n_64, n_600, n_1024, n_4096, n_6157, n_add, n_mul, nm_def, Option.bind_some, Option.some.injEq, ck_in, ck_nz, ck_p, n_cl, n_lt, n_le, n_eq, n_div, n_rem, if_pos, if_neg, if_true, if_false, eq_self, n_192, n_256, n_20000, m1_n0, m1_np, m1_n0p, m1_lt0, m1_lt0p, mi_setIA, mi_setI, ml_setIA, ml_setI, mr_setI, mr_setIA, hor]
      rw [hc, fac_f hc]
      simp (disch := omega) only [n_0, n_1, n_2, n_3, n_4, n_5, n_6, n_7, n_8, n_9, n_10, n_12, n_13, n_14, n_20, n_31, n_32, n_63, n_64, n_600, n_1024, n_4096, n_6157, n_add, n_mul, nm_def, Option.bind_some, Option.some.injEq, ck_in, ck_nz, ck_p, n_cl, n_lt, n_le, n_eq, n_div, n_rem, if_pos, if_neg, if_true, if_false, eq_self, n_192, n_256, n_20000, m1_n0, m1_np, m1_n0p, m1_lt0, m1_lt0p, mi_setIA, mi_setI, ml_setIA, ml_setI, mr_setI, mr_setIA, Bool.toNat_false, Nat.mul_one]
      rfl
    · have e1 := hd i hi2 hc
      simp (disch := omega) only [n_0, n_1, n_2, n_3, n_4, n_5, n_6, n_7, n_8, n_9, n_10, n_12, n_13, n_14, n_20, n_31, n_32, n_63, n_64, n_600, n_1024, n_4096, n_6157, n_add, n_mul, nm_def, Option.bind_some, Option.some.injEq, ck_in, ck_nz, ck_p, n_cl, n_lt, n_le, n_eq, n_div, n_rem, if_pos, if_neg, if_true, if_false, eq_self, n_192, n_256, n_20000, m1_n0, m1_np, m1_n0p, m1_lt0, m1_lt0p, mi_setIA, mi_setI, ml_setIA, ml_setI, mr_setI, mr_setIA, e1, hor]
      rw [fac_t hc]
      simp (disch := omega) only [n_0, n_1, n_2, n_3, n_4, n_5, n_6, n_7, n_8, n_9, n_10, n_12, n_13, n_14, n_20, n_31, n_32, n_63, n_64, n_600, n_1024, n_4096, n_6157, n_add, n_mul, nm_def, Option.bind_some, Option.some.injEq, ck_in, ck_nz, ck_p, n_cl, n_lt, n_le, n_eq, n_div, n_rem, if_pos, if_neg, if_true, if_false, eq_self, n_192, n_256, n_20000, m1_n0, m1_np, m1_n0p, m1_lt0, m1_lt0p, mi_setIA, mi_setI, ml_setIA, ml_setI, mr_setI, mr_setIA, Bool.toNat_true]
theorem dig_fac (hp : p < Gn G) (σ q : Nat) : dig (fac G p) (Gn G) σ q = if sees G p q then cIn G p q σ else 0 := by
  unfold dig cIn wB
  cases hc : sees G p q
  · rw [fac_f hc, Nat.mod_one]; rfl
  · rw [fac_t hc]; rfl
theorem sO_cIn (hp : p < Gn G) {σ : Nat} (hs : σ < sit G p) : sO G p (fun q => cIn G p q σ) = σ := by
  unfold sO
  rw [hor_congr (f2 := fac G p) (d2 := dig (fac G p) (Gn G) σ) (fun _ _ => rfl) (fun i _ => (dig_fac hp σ i).symm)]
  refine hor_dig ?_
  unfold sit wB at hs
  rw [Nat.sub_zero] at hs
  exact hs
theorem sO_sum (d : Nat → Nat) : sO G p d = sm (fun q => d q * wgt G p q) (Gn G) := by
  unfold sO
  rw [hor_sum]
  refine sm_congr (fun r _ => ?_)
  unfold wgt wB
  by_cases c : sees G p r = true
  · rw [if_pos c, if_pos c]
  · rw [if_neg c, if_neg c]
    simp
theorem wgt_t (h : sees G p q = true) : wgt G p q = wB G p (q + 1) := by unfold wgt; rw [if_pos h]
theorem wgt_f (h : sees G p q = false) : wgt G p q = 0 := by unfold wgt; rw [h]; rfl
/-- one digit changed -/
theorem sO_upd {d e : Nat → Nat} (hq : q < Gn G) (he : ∀ r, r < Gn G → r ≠ q → e r = d r) : sO G p e + d q * wgt G p q = sO G p d + e q * wgt G p q := by
  rw [sO_sum, sO_sum]
  exact sm_swap (f := fun r => e r * wgt G p r) (g := fun r => d r * wgt G p r) hq (fun i hi hk => by rw [he i hi hk])
theorem sO_chg {e : Nat → Nat} {σ : Nat} (hw : WF G) (hp : p < Gn G) (hs : sees G p q = true) (hσ : σ < sit G p) (he : ∀ r, r < Gn G → r ≠ q → e r = cIn G p r σ) : sO G p e = chg G p q σ (e q) := by
  have hq := hw.see_lt hp hs
  have h1 := sO_upd (G := G) (p := p) (d := fun r => cIn G p r σ) hq he
  rw [sO_cIn hp hσ, wgt_t hs] at h1
  have h2 := cIn_le (G := G) (p := p) (q := q) σ
  unfold chg
  omega
theorem cIn_sOf (hw : WF G) (hp : p < Gn G) (hs : sees G p q = true) (x : Nat) : cIn G p q (sOf G p x) = col G q x := by
  have hq := hw.see_lt hp hs
  have h1 : dig (fac G p) (Gn G) (sOf G p x) q = _ := dig_hor (f := fac G p) (d := fun q => if sees G p q then col G q x else 0) (n := Gn G) (q := q) (fun i hi => sdig_lt hw hi) hq
  rw [dig_fac hp, hs] at h1
  exact h1
theorem sO_sOf {e : Nat → Nat} (hw : WF G) (hp : p < Gn G) (hs : sees G p q = true) (he : ∀ r, r < Gn G → r ≠ q → e r = col G r x) : sO G p e = chg G p q (sOf G p x) (e q) := by
  have hq := hw.see_lt hp hs
  have h1 := sO_upd (G := G) (p := p) (d := fun r => col G r x) hq he
  rw [sO_col, wgt_t hs, ← cIn_sOf hw hp hs x] at h1
  have h2 := cIn_le (G := G) (p := p) (q := q) (sOf G p x)
  unfold chg
  rw [cIn_sOf hw hp hs x] at h1 h2 ⊢
  omega
def hed (G : Gm) (p q : Nat) : Bool := exb (fun σ => decide (Gt G p (chg G p q σ 0) ≠ Gt G p σ)) (sit G p)
theorem exb_fnd (P : Nat → Bool) (n : Nat) : exb P n = decide (fnd P n < n) := by
  have h := ex01 P n
  by_cases c : fnd P n < n
  · rw [if_pos c] at h
    rw [decide_eq_true c]
    cases hc : exb P n
    · rw [hc] at h; exact absurd (Option.some.inj h) (by decide)
    · rfl
  · rw [if_neg c] at h
    rw [decide_eq_false c]
    cases hc : exb P n
    · rfl
    · rw [hc] at h; exact absurd (Option.some.inj h) (by decide)
theorem rX_isHeeding (h : RG ρ 1 G) (hw : WF G) (hF : 5000 < F) (hp : p < Gn G) (hs : sees G p q = true) : ∃ ρ1, agr (fun k => k = 5) ρ ρ1 ∧ pX11_isHeeding F ρ (nI p) (nI q) = some (nI (hed G p q).toNat, ρ1) := by
  have hq := hw.see_lt hp hs
  have hq6 := hw_lt hw hq
  have hsl := sit_le hw hp
  unfold pX11_isHeeding
  have key : ∀ fu s a, a ≤ sit G p → sit G p - a < fu → agr (fun k => k = 5) ρ s → (∀ j, j < a → Gt G p (chg G p q j 0) = Gt G p j) → ∃ ρ1, agr (fun k => k = 5) ρ ρ1 ∧ pX11_isHeeding_2 F (nI p) (nI q) fu s (nI a) = some (nI (hed G p q).toNat, ρ1) := by
    intro fu
    induction fu with
    | zero => intro s a _ h2; omega
    | succ fu ih =>
      intro s a h1 h2 hI hno
      have hR : RG s 1 G := h.agr hI (by omega)
      rcases Nat.lt_or_ge a (sit G p) with ha | ha
      · obtain ⟨s1, a1, a2, a3, a4⟩ := rX_laysSeen (s := a) hR hw (show 100 < F by omega) hp (by omega)
        have hI2 : agr (fun k => k = 5) ρ (setI s1 5 q (nI 0)) := agr_trans (agr_trans hI a1) (agr_setI rfl)
        have hR2 : RG (setI s1 5 q (nI 0)) 1 G := h.agr hI2 (by omega)
        have e1 := rX_situationOf2 (F := F) (p := p) (d := fun r => if r = q then 0 else cIn G p r a) hR2 hw (by omega) hp (fun r hr hsr => by
          rw [mi_setI]
          by_cases z : r = q
          · rw [if_pos ⟨rfl, z⟩, if_pos z]
          · rw [if_neg (fun y => z y.2), if_neg z, a2 r hr, if_pos hsr])
        have e2 : sO G p (fun r => if r = q then 0 else cIn G p r a) = chg G p q a 0 := by
          rw [sO_chg hw hp hs ha (e := fun r => if r = q then 0 else cIn G p r a) (fun r _ hr => if_neg hr), if_pos rfl]
        rw [e2] at e1
        have hc := chg_lt (σ := a) (c := 0) hw hp hs ha (hw.h1 hq)
        have t1 := hw.t hp ha
        have t2 := hw.t hp hc
        have h4 := hw.h4 hp
        rw [pX11_isHeeding_2, rX_situations hR hw (by omega) hp]
        simp (disch := omega) only [n_0, n_1, n_2, n_3, n_4, n_5, n_6, n_7, n_8, n_9, n_10, n_12, n_13, n_14, n_20, n_31, n_32, n_63, n_64, n_600, n_1024, n_4096, n_6157, n_add, n_mul, nm_def, Option.bind_some, Option.some.injEq, ck_in, ck_nz, ck_p, n_cl, n_lt, n_le, n_eq, n_div, n_rem, if_pos, if_neg, if_true, if_false, eq_self, n_192, n_256, n_20000, m1_n0, m1_np, m1_n0p, m1_lt0, m1_lt0p, mi_setIA, mi_setI, ml_setIA, ml_setI, mr_setI, mr_setIA, a4, rX_entry hR2 hw hp ha, e1, rX_entry hR2 hw hp hc]
        by_cases z : Gt G p a = Gt G p (chg G p q a 0)
        · rw [if_pos z]
          exact ih _ (a + 1) ha (by omega) hI2 (fun j hj => by
            rcases Nat.lt_or_ge j a with y | y
            · exact hno j y
            · have : j = a := by omega
              subst this; exact z.symm)
        · rw [if_neg z]
          have e3 : hed G p q = true := (exb_iff _ _).mpr ⟨a, ha, by simp; exact fun y => z y.symm⟩
          rw [e3]
          exact ⟨_, hI2, rfl⟩
      · have : a = sit G p := by omega
        subst this
        have e3 : hed G p q = false := by
          cases hc : hed G p q
          · rfl
          · obtain ⟨i, i1, i2⟩ := (exb_iff _ _).mp hc
            exact absurd (hno i i1) (by simpa using i2)
        rw [pX11_isHeeding_2, rX_situations hR hw (by omega) hp, e3]
        simp (disch := omega) only [n_0, n_1, n_2, n_3, n_4, n_5, n_6, n_7, n_8, n_9, n_10, n_12, n_13, n_14, n_20, n_31, n_32, n_63, n_64, n_600, n_1024, n_4096, n_6157, n_add, n_mul, nm_def, Option.bind_some, Option.some.injEq, ck_in, ck_nz, ck_p, n_cl, n_lt, n_le, n_eq, n_div, n_rem, if_pos, if_neg, if_true, if_false, eq_self, n_192, n_256, n_20000, m1_n0, m1_np, m1_n0p, m1_lt0, m1_lt0p, mi_setIA, mi_setI, ml_setIA, ml_setI, mr_setI, mr_setIA]
        exact ⟨s, hI, rfl⟩
  exact key F ρ 0 (Nat.zero_le _) (by omega) agr_rfl (fun j hj => by omega)
/-- whether what one guesses hangs on another: both ways of asking -/
theorem chg_chg (hw : WF G) (hp : p < Gn G) (hs : sees G p q = true) {σ c : Nat} (hσ : σ < sit G p) (hc : c < Gh G q) (c2 : Nat) : chg G p q (chg G p q σ c) c2 = chg G p q σ c2 := by
  have hq := hw.see_lt hp hs
  have hW := wB_pos (p := p) hw (q + 1)
  obtain ⟨a, r, h1, h2, h3⟩ := chg_parts (G := G) (p := p) (q := q) σ
  have e1 := chg_eq σ c h1
  have hr := h2 hW
  have e2 : cIn G p q (chg G p q σ c) = c := by
    unfold cIn
    rw [e1, Nat.mul_comm, Nat.mul_add_div hW, Nat.div_eq_of_lt hr, Nat.add_zero, Nat.mul_comm, Nat.mul_add_mod, Nat.mod_eq_of_lt hc]
  have e3 : chg G p q σ c = (a * Gh G q + cIn G p q (chg G p q σ c)) * wB G p (q + 1) + r := by rw [e2]; exact e1
  rw [chg_eq _ c2 e3, chg_eq σ c2 h1]
theorem chg_self (σ : Nat) : chg G p q σ (cIn G p q σ) = σ := by
  have := cIn_le (G := G) (p := p) (q := q) σ
  unfold chg
  omega
theorem hed_swy (hw : WF G) (hp : p < Gn G) (hs : sees G p q = true) : hed G p q = decide (0 < cnt (swy G p q) (sit G p)) := by
  have hq := hw.see_lt hp hs
  by_cases c : 0 < cnt (swy G p q) (sit G p)
  · rw [decide_eq_true c]
    obtain ⟨σ, h1, h2⟩ := cnt_ex c
    obtain ⟨c1, h3, h4⟩ := (exb_iff _ _).mp h2
    have h5 : Gt G p (chg G p q σ c1) ≠ Gt G p σ := by simpa using h4
    have hc := chg_lt hw hp hs h1 h3
    by_cases z : Gt G p (chg G p q σ 0) = Gt G p σ
    · refine (exb_iff _ _).mpr ⟨chg G p q σ c1, hc, ?_⟩
      rw [chg_chg hw hp hs h1 h3 0, z]
      simp
      exact fun y => h5 y.symm
    · exact (exb_iff _ _).mpr ⟨σ, h1, by simpa using z⟩
  · rw [decide_eq_false c]
    cases hc : hed G p q
    · rfl
    · obtain ⟨σ, h1, h2⟩ := (exb_iff _ _).mp hc
      refine absurd (cnt_pos (p := swy G p q) h1 ?_) c
      exact (exb_iff _ _).mpr ⟨0, hw.h1 hq, h2⟩
end R3
