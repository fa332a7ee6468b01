/-! CALLS: on whom it hangs; who is right -/
theorem gd {α : Type} {a c : Int32} {k : Nat} {x y : α} (hc : c = nI k) (hk : k < 2147483648) : (if a < 0 then x else if a ≤ c then y else x) = if ag a ≤ k then y else x := by
  subst hc
  rcases ag_cases a with ⟨h1, h2⟩ | ⟨j, h1, h2, h3⟩
  · rw [if_pos h1, if_neg (by omega)]
  · subst h2
    rw [h3]
    simp only [n_0, n_neg h1, if_false, n_le h1 hk]
theorem rX_inc (ρ : Mem) (a : Int32) {hi : Nat} {c : Int64} (hc : c = (nI hi).toInt64) (hh : hi < 2147483648) : pX11_isIn ρ a.toInt64 0 c = some (nI (decide (ag a ≤ hi)).toNat) := by
  rw [hc]; exact rX_in0 ρ a hh
section C2
variable {κ ρ : Mem} {G : Gm} {H : Nat → Gm} {m F p q x : Nat} {a b : Int32}
def hdd (G : Gm) (p q : Nat) : Bool := sees G p q && hed G p q
theorem xB_heeded (h : AR κ G) (hw : WF G) (hF : 5000 < F) (hp : p < Gn G) : pX10_heeded_18 F κ (nI p) F 0 0 = some (nI (msk (hdd G p) (Gn G)), setI κ 0 12 0) := by
  have hn := hw.n6
  have hsl := sit_le hw hp
  refine lp_upE F (fun fu i => pX10_heeded_18 F κ (nI p) fu (nI (msk (hdd G p) i)) (nI i)) (0) (Gn G) _ _ rfl (fun fu => ?_) (fun fu i hi1 hi2 => ?_) (by omega) (by omega)
  · show pX10_heeded_18 F κ (nI p) (fu + 1) (nI (msk (hdd G p) (Gn G))) (nI (Gn G)) = _
    rw [pX10_heeded_18, h.n, x_give]
    simp (disch := omega) only [n_0, n_1, n_2, n_3, n_4, n_5, n_6, n_7, n_8, n_9, n_10, n_12, n_13, n_14, n_20, n_31, n_32, n_63, n_64, n_600, n_1024, n_4096, n_6157, n_add, n_mul, nm_def, Option.bind_some, Option.some.injEq, ck_in, ck_nz, ck_p, n_cl, n_lt, n_le, n_eq, n_div, n_rem, if_pos, if_neg, if_true, if_false, eq_self, n_192, n_256, n_20000, m1_n0, m1_np, m1_n0p, m1_lt0, m1_lt0p, mi_setIA, mi_setI, ml_setIA, ml_setI, mr_setI, mr_setIA]
  · show pX10_heeded_18 F κ (nI p) (fu + 1) (nI (msk (hdd G p) i)) (nI i) = pX10_heeded_18 F κ (nI p) fu (nI (msk (hdd G p) (i + 1))) (nI (i + 1))
    rw [pX10_heeded_18, h.n, sX2_watches h.1 hw hp (by omega), msk]
    unfold pX10_heeded_59 hdd
    cases hs : sees G p i
    · simp (disch := omega) only [n_0, n_1, n_2, n_3, n_4, n_5, n_6, n_7, n_8, n_9, n_10, n_12, n_13, n_14, n_20, n_31, n_32, n_63, n_64, n_600, n_1024, n_4096, n_6157, n_add, n_mul, nm_def, Option.bind_some, Option.some.injEq, ck_in, ck_nz, ck_p, n_cl, n_lt, n_le, n_eq, n_div, n_rem, if_pos, if_neg, if_true, if_false, eq_self, n_192, n_256, n_20000, m1_n0, m1_np, m1_n0p, m1_lt0, m1_lt0p, mi_setIA, mi_setI, ml_setIA, ml_setI, mr_setI, mr_setIA, Bool.toNat_false, Bool.false_and]
      simp
    · have hl := cnt_le (swy G p i) (sit G p)
      simp (disch := omega) only [n_0, n_1, n_2, n_3, n_4, n_5, n_6, n_7, n_8, n_9, n_10, n_12, n_13, n_14, n_20, n_31, n_32, n_63, n_64, n_600, n_1024, n_4096, n_6157, n_add, n_mul, nm_def, Option.bind_some, Option.some.injEq, ck_in, ck_nz, ck_p, n_cl, n_lt, n_le, n_eq, n_div, n_rem, if_pos, if_neg, if_true, if_false, eq_self, n_192, n_256, n_20000, m1_n0, m1_np, m1_n0p, m1_lt0, m1_lt0p, mi_setIA, mi_setI, ml_setIA, ml_setI, mr_setI, mr_setIA, Bool.toNat_true, Bool.true_and, sX2_swayed h.1 hw (show 2000 < F by omega) hp hs, hed_swy hw hp hs, n_shl1, n_or]
      by_cases c : 0 < cnt (swy G p i) (sit G p)
      · rw [if_neg (by omega)]
        simp [c]
      · rw [if_pos (by omega)]
        simp [c]
theorem rB_heeded (h : RG ρ 1 G) (hw : WF G) (hF : 5000 < F) (hp : p < Gn G) : ∃ ρ1, agr (fun k => k = 5) ρ ρ1 ∧ pX11_heeded_26 F (nI p) F ρ 0 0 = some (nI (msk (hdd G p) (Gn G)), ρ1) := by
  have hn := hw.n6
  refine lp_memK (fun fu s i => pX11_heeded_26 F (nI p) fu s (nI (msk (hdd G p) i)) (nI i)) (Gn G) (fun s => some (nI (msk (hdd G p) (Gn G)), s)) (fun fu s hI => ?_) (fun fu s i hi hI => ?_) (by omega)
  · show pX11_heeded_26 F (nI p) (fu + 1) s _ (nI (Gn G)) = _
    rw [pX11_heeded_26, rX_players (RG5 h hI)]
    simp (disch := omega) only [n_0, n_1, n_2, n_3, n_4, n_5, n_6, n_7, n_8, n_9, n_10, n_12, n_13, n_14, n_20, n_31, n_32, n_63, n_64, n_600, n_1024, n_4096, n_6157, n_add, n_mul, nm_def, Option.bind_some, Option.some.injEq, ck_in, ck_nz, ck_p, n_cl, n_lt, n_le, n_eq, n_div, n_rem, if_pos, if_neg, if_true, if_false, eq_self, n_192, n_256, n_20000, m1_n0, m1_np, m1_n0p, m1_lt0, m1_lt0p, mi_setIA, mi_setI, ml_setIA, ml_setI, mr_setI, mr_setIA]
  · have hR := RG5 h hI
    cases hs : sees G p i
    · refine ⟨s, hI, ?_⟩
      show pX11_heeded_26 F (nI p) (fu + 1) s _ (nI i) = pX11_heeded_26 F (nI p) fu s (nI (msk (hdd G p) (i + 1))) (nI (i + 1))
      have e : hdd G p i = false := by unfold hdd; rw [hs]; rfl
      rw [pX11_heeded_26, rX_players hR, rX_sees hR hw hp (by omega), msk, e, hs]
      unfold pX11_heeded_59 pX11_heeded_60
      simp (disch := omega) only [n_0, n_1, n_2, n_3, n_4, n_5, n_6, n_7, n_8, n_9, n_10, n_12, n_13, n_14, n_20, n_31, n_32, n_63, n_64, n_600, n_1024, n_4096, n_6157, n_add, n_mul, nm_def, Option.bind_some, Option.some.injEq, ck_in, ck_nz, ck_p, n_cl, n_lt, n_le, n_eq, n_div, n_rem, if_pos, if_neg, if_true, if_false, eq_self, n_192, n_256, n_20000, m1_n0, m1_np, m1_n0p, m1_lt0, m1_lt0p, mi_setIA, mi_setI, ml_setIA, ml_setI, mr_setI, mr_setIA, Bool.toNat_false, n_or]
      rfl
    · obtain ⟨s1, a1, a2⟩ := rX_isHeeding (F := F) hR hw hF hp hs
      refine ⟨s1, agr_trans hI a1, ?_⟩
      show pX11_heeded_26 F (nI p) (fu + 1) s _ (nI i) = pX11_heeded_26 F (nI p) fu s1 (nI (msk (hdd G p) (i + 1))) (nI (i + 1))
      have e : hdd G p i = hed G p i := by unfold hdd; rw [hs]; rfl
      rw [pX11_heeded_26, rX_players hR, rX_sees hR hw hp (by omega), msk, e, hs]
      unfold pX11_heeded_59 pX11_heeded_60
      cases hh : hed G p i
      · simp (disch := omega) only [n_0, n_1, n_2, n_3, n_4, n_5, n_6, n_7, n_8, n_9, n_10, n_12, n_13, n_14, n_20, n_31, n_32, n_63, n_64, n_600, n_1024, n_4096, n_6157, n_add, n_mul, nm_def, Option.bind_some, Option.some.injEq, ck_in, ck_nz, ck_p, n_cl, n_lt, n_le, n_eq, n_div, n_rem, if_pos, if_neg, if_true, if_false, eq_self, n_192, n_256, n_20000, m1_n0, m1_np, m1_n0p, m1_lt0, m1_lt0p, mi_setIA, mi_setI, ml_setIA, ml_setI, mr_setI, mr_setIA, Bool.toNat_true, a2, hh, Bool.toNat_false, n_or]
        rfl
      · simp (disch := omega) only [n_0, n_1, n_2, n_3, n_4, n_5, n_6, n_7, n_8, n_9, n_10, n_12, n_13, n_14, n_20, n_31, n_32, n_63, n_64, n_600, n_1024, n_4096, n_6157, n_add, n_mul, nm_def, Option.bind_some, Option.some.injEq, ck_in, ck_nz, ck_p, n_cl, n_lt, n_le, n_eq, n_div, n_rem, if_pos, if_neg, if_true, if_false, eq_self, n_192, n_256, n_20000, m1_n0, m1_np, m1_n0p, m1_lt0, m1_lt0p, mi_setIA, mi_setI, ml_setIA, ml_setI, mr_setI, mr_setIA, Bool.toNat_true, a2, hh, n_or, n_shl1]
theorem c_heeded (h : IV G H m κ ρ) (hF : 50000 < F) (a : Int32) : Res (pX10_heeded F κ a) (pX11_heeded F ρ a) := by
  have hw := h.W
  unfold pX10_heeded pX11_heeded pX11_heeded_14
  rw [x_noPlayer h.A hw, rX_isPlayer h.R hw]
  by_cases c : ag a < Gn G
  · obtain ⟨p, hp, rfl, -⟩ := ply hw c
    obtain ⟨ρ1, a1, a2⟩ := rB_heeded (F := F) (RG_st0 (k := 0) h.R (by decide)) hw (by omega) hp
    rw [decide_eq_true c]
    simp only [x_give, x_refuse, rX_refuse, rX_is0, rX_is1, rX_is2, rX_is3, rX_is4, rX_is5, rX_is7, nBt, nBf, o10, Bool.not_true, Bool.not_false, if_true, if_false, eq_self, Option.bind_some, xB_heeded h.A hw (show 5000 < F by omega) hp, a2]
    exact res_ok h agr_rfl (agr5 a1)
  · rw [decide_eq_false c]
    simp only [x_give, x_refuse, rX_refuse, rX_is0, rX_is1, rX_is2, rX_is3, rX_is4, rX_is5, rX_is7, nBt, nBf, o10, Bool.not_true, Bool.not_false, if_true, if_false, eq_self, Option.bind_some]
    exact res_no h agr_rfl agr_rfl
/-- colourings of one situation are equally many -/
def sK (G : Gm) (p k x : Nat) : Nat := hor (fac G p) (fun q => if sees G p q then dig (Gh G) k x q else 0) k
def cf (G : Gm) (p q : Nat) : Nat := if sees G p q then 1 else Gh G q
theorem sK_s {k y j : Nat} (hj : j < Gh G k) : sK G p (k + 1) (y * Gh G k + j) = sK G p k y * fac G p k + (if sees G p k then j else 0) := by
  unfold sK
  rw [hor, dig_last k y j hj]
  congr 2
  refine hor_congr (fun _ _ => rfl) (fun i hi => ?_)
  rw [dig_front k y j i hj hi]
theorem fibK (f : Nat → Nat) (p : Nat) : ∀ k (f : Nat → Nat), sm (fun x => f (sK G p k x)) (pw (Gh G) 0 k) = sm f (pw (fac G p) 0 k) * pw (cf G p) 0 k := by
  intro k
  induction k with
  | zero => intro f; simp [pw, sm, sK, hor]
  | succ k ih =>
    intro f
    rw [pw, Nat.zero_add, sm_grid]
    cases hs : sees G p k
    · have e : sm (fun i => sm (fun j => f (sK G p (k + 1) (i * Gh G k + j))) (Gh G k)) (pw (Gh G) 0 k) = sm (fun i => Gh G k * f (sK G p k i)) (pw (Gh G) 0 k) := by
        refine sm_congr (fun i _ => ?_)
        rw [← sm_const (f (sK G p k i)) (Gh G k)]
        refine sm_congr (fun j hj => ?_)
        rw [sK_s hj, hs, fac_f hs, Nat.mul_one]
        rfl
      have e2 : cf G p k = Gh G k := by unfold cf; rw [hs]; rfl
      rw [e, sm_mul, ih f, pw, Nat.zero_add, fac_f hs, Nat.mul_one, pw, Nat.zero_add, e2, Nat.mul_comm (Gh G k), Nat.mul_assoc]
    · have e : sm (fun i => sm (fun j => f (sK G p (k + 1) (i * Gh G k + j))) (Gh G k)) (pw (Gh G) 0 k) = sm (fun i => (fun s => sm (fun j => f (s * Gh G k + j)) (Gh G k)) (sK G p k i)) (pw (Gh G) 0 k) := by
        refine sm_congr (fun i _ => sm_congr (fun j hj => ?_))
        rw [sK_s hj, hs, fac_t hs]
        rfl
      have e2 : cf G p k = 1 := by unfold cf; rw [hs]; rfl
      rw [e, ih (fun s => sm (fun j => f (s * Gh G k + j)) (Gh G k)), ← sm_grid, pw, Nat.zero_add, fac_t hs, pw, Nat.zero_add, e2, Nat.mul_one]
theorem fib (hw : WF G) (h0 : Gn G ≠ 0) (P : Nat → Bool) (p : Nat) : cnt (fun x => P (sOf G p x)) (ncol G) = cnt P (sit G p) * (ncol G / sit G p) := by
  have h1 := fibK (G := G) (fun _ => 1) p (Gn G)
  have es : pw (fac G p) 0 (Gn G) = sit G p := by unfold sit wB; rw [Nat.sub_zero]
  have en : pw (Gh G) 0 (Gn G) = ncol G := (ncol_pw h0).symm
  have h2 := h1 (fun _ => 1)
  rw [sm_const, sm_const, Nat.mul_one, Nat.mul_one, es, en] at h2
  have h3 : ncol G / sit G p = pw (cf G p) 0 (Gn G) := by
    rw [h2, Nat.mul_div_cancel_left _ (sit_pos hw)]
  rw [h3, cnt_sm, cnt_sm, ← es, ← h1 (fun s => (P s).toNat), en]
  rfl
theorem rB_fooled (h : RG ρ 1 G) (hw : WF G) (hF : 5000 < F) (hp : p < Gn G) (hs : sees G p q = true) : ∃ ρ1, agr (fun k => k = 5) ρ ρ1 ∧ pX11_fooled_20 F (nI p) (nI q) F ρ 0 0 = some (nI (cnt (fun x => swy G p q (sOf G p x)) (ncol G)), ρ1) := by
  have hc := ncol_le hw
  have hq := hw.see_lt hp hs
  have hq6 := hw_lt hw hq
  have h4 := hw.h4 hq
  refine lp_memK (fun fu s i => pX11_fooled_20 F (nI p) (nI q) fu s (nI (cnt (fun x => swy G p q (sOf G p x)) i)) (nI i)) (ncol G) (fun s => some (nI (cnt (fun x => swy G p q (sOf G p x)) (ncol G)), s)) (fun fu s hI => ?_) (fun fu s z0 hi hI => ?_) (by omega)
  · show pX11_fooled_20 F (nI p) (nI q) (fu + 1) s _ (nI (ncol G)) = _
    rw [pX11_fooled_20, rX_colourings (RG5 h hI) hw (by omega)]
    simp (disch := omega) only [n_0, n_1, n_2, n_3, n_4, n_5, n_6, n_7, n_8, n_9, n_10, n_12, n_13, n_14, n_20, n_31, n_32, n_63, n_64, n_600, n_1024, n_4096, n_6157, n_add, n_mul, nm_def, Option.bind_some, Option.some.injEq, ck_in, ck_nz, ck_p, n_cl, n_lt, n_le, n_eq, n_div, n_rem, if_pos, if_neg, if_true, if_false, eq_self, n_192, n_256, n_20000, m1_n0, m1_np, m1_n0p, m1_lt0, m1_lt0p, mi_setIA, mi_setI, ml_setIA, ml_setI, mr_setI, mr_setIA]
  · have hR := RG5 h hI
    obtain ⟨s1, a1, a2, a3⟩ := rX_laysE (x := z0) hR hw (show 100 < F by omega) (by omega)
    have hI1 := agr_trans hI a1
    have e1 := rX_situationOf (F := F) (RG5 h hI1) hw (by omega) hp a2
    rw [sO_col] at e1
    have hso := sOf_lt (p := p) (x := z0) hw
    have ht := hw.t hp hso
    have hp4 := hw.h4 hp
    have hk := lp_inv (fun fu2 (s2 : Mem) i => pX11_fooled_53 F (pX11_fooled_20 F (nI p) (nI q) fu) (nI p) (nI q) (nI (cnt (fun x => swy G p q (sOf G p x)) z0)) (nI z0) (nI (Gt G p (sOf G p z0))) fu2 s2 (nI (exb (fun c => decide (Gt G p (chg G p q (sOf G p z0) c) ≠ Gt G p (sOf G p z0))) i).toNat) (nI i))
      (fun s2 _ => agr (fun k => k = 5) ρ s2 ∧ ∀ r, r < Gn G → r ≠ q → mi s2 5 r = nI (col G r z0)) (Gh G q)
      (fun r => ∃ s2, agr (fun k => k = 5) ρ s2 ∧ r = pX11_fooled_20 F (nI p) (nI q) fu s2 (nI (cnt (fun x => swy G p q (sOf G p x)) (z0 + 1))) (nI (z0 + 1)))
      (fun fu2 s2 hI2 => by
        refine ⟨s2, hI2.1, ?_⟩
        show pX11_fooled_53 F _ (nI p) (nI q) _ (nI z0) _ (fu2 + 1) s2 _ (nI (Gh G q)) = _
        rw [pX11_fooled_53, rX_hats (RG5 h hI2.1) hw hq, cnt_s]
        unfold pX11_fooled_115
        have e9 : swy G p q (sOf G p z0) = exb (fun c => decide (Gt G p (chg G p q (sOf G p z0) c) ≠ Gt G p (sOf G p z0))) (Gh G q) := rfl
        rw [e9]
        simp (disch := omega) only [n_0, n_1, n_2, n_3, n_4, n_5, n_6, n_7, n_8, n_9, n_10, n_12, n_13, n_14, n_20, n_31, n_32, n_63, n_64, n_600, n_1024, n_4096, n_6157, n_add, n_mul, nm_def, Option.bind_some, Option.some.injEq, ck_in, ck_nz, ck_p, n_cl, n_lt, n_le, n_eq, n_div, n_rem, if_pos, if_neg, if_true, if_false, eq_self, n_192, n_256, n_20000, m1_n0, m1_np, m1_n0p, m1_lt0, m1_lt0p, mi_setIA, mi_setI, ml_setIA, ml_setI, mr_setI, mr_setIA]
        cases exb (fun c => decide (Gt G p (chg G p q (sOf G p z0) c) ≠ Gt G p (sOf G p z0))) (Gh G q)
        · simp (disch := omega) only [n_0, n_1, n_2, n_3, n_4, n_5, n_6, n_7, n_8, n_9, n_10, n_12, n_13, n_14, n_20, n_31, n_32, n_63, n_64, n_600, n_1024, n_4096, n_6157, n_add, n_mul, nm_def, Option.bind_some, Option.some.injEq, ck_in, ck_nz, ck_p, n_cl, n_lt, n_le, n_eq, n_div, n_rem, if_pos, if_neg, if_true, if_false, eq_self, n_192, n_256, n_20000, m1_n0, m1_np, m1_n0p, m1_lt0, m1_lt0p, mi_setIA, mi_setI, ml_setIA, ml_setI, mr_setI, mr_setIA, Bool.toNat_false, Nat.add_zero]
        · simp (disch := omega) only [n_0, n_1, n_2, n_3, n_4, n_5, n_6, n_7, n_8, n_9, n_10, n_12, n_13, n_14, n_20, n_31, n_32, n_63, n_64, n_600, n_1024, n_4096, n_6157, n_add, n_mul, nm_def, Option.bind_some, Option.some.injEq, ck_in, ck_nz, ck_p, n_cl, n_lt, n_le, n_eq, n_div, n_rem, if_pos, if_neg, if_true, if_false, eq_self, n_192, n_256, n_20000, m1_n0, m1_np, m1_n0p, m1_lt0, m1_lt0p, mi_setIA, mi_setI, ml_setIA, ml_setI, mr_setI, mr_setIA, Bool.toNat_true])
      (fun fu2 s2 i hi2 hI2 => by
        obtain ⟨b1, b2⟩ := hI2
        have hI3 : agr (fun k => k = 5) ρ (setI s2 5 q (nI i)) := agr_trans b1 (agr_setI rfl)
        have hR3 := RG5 h hI3
        have b3 : ∀ r, r < Gn G → r ≠ q → mi (setI s2 5 q (nI i)) 5 r = nI (col G r z0) := fun r hr hne => by
          rw [mi_setI, if_neg (fun y => hne y.2)]; exact b2 r hr hne
        have e2 := rX_situationOf (F := F) (p := p) (d := fun r => if r = q then i else col G r z0) hR3 hw (by omega) hp (fun r hr => by
          show _ = nI (if r = q then i else col G r z0)
          by_cases z : r = q
          · subst z
            rw [mi_setI, if_pos ⟨rfl, rfl⟩]
            simp
          · rw [b3 r hr z, if_neg z])
        have e3 : sO G p (fun r => if r = q then i else col G r z0) = chg G p q (sOf G p z0) i := by
          rw [sO_sOf (x := z0) hw hp hs (e := fun r => if r = q then i else col G r z0) (fun r _ hr => if_neg hr), if_pos rfl]
        rw [e3] at e2
        have hcl := chg_lt hw hp hs hso hi2
        have ht2 := hw.t hp hcl
        refine ⟨setI s2 5 q (nI i), ⟨hI3, b3⟩, ?_⟩
        show pX11_fooled_53 F _ (nI p) (nI q) _ (nI z0) _ (fu2 + 1) s2 _ (nI i) = pX11_fooled_53 F _ (nI p) (nI q) _ (nI z0) _ fu2 _ (nI (exb (fun c => decide (Gt G p (chg G p q (sOf G p z0) c) ≠ Gt G p (sOf G p z0))) (i + 1)).toNat) (nI (i + 1))
        rw [pX11_fooled_53, rX_hats (RG5 h b1) hw hq, exb]
        unfold pX11_fooled_91 pX11_fooled_96
        simp (disch := omega) only [n_0, n_1, n_2, n_3, n_4, n_5, n_6, n_7, n_8, n_9, n_10, n_12, n_13, n_14, n_20, n_31, n_32, n_63, n_64, n_600, n_1024, n_4096, n_6157, n_add, n_mul, nm_def, Option.bind_some, Option.some.injEq, ck_in, ck_nz, ck_p, n_cl, n_lt, n_le, n_eq, n_div, n_rem, if_pos, if_neg, if_true, if_false, eq_self, n_192, n_256, n_20000, m1_n0, m1_np, m1_n0p, m1_lt0, m1_lt0p, mi_setIA, mi_setI, ml_setIA, ml_setI, mr_setI, mr_setIA, e2, rX_entry hR3 hw hp hcl]
        cases exb (fun c => decide (Gt G p (chg G p q (sOf G p z0) c) ≠ Gt G p (sOf G p z0))) i
        · simp (disch := omega) only [n_0, n_1, n_2, n_3, n_4, n_5, n_6, n_7, n_8, n_9, n_10, n_12, n_13, n_14, n_20, n_31, n_32, n_63, n_64, n_600, n_1024, n_4096, n_6157, n_add, n_mul, nm_def, Option.bind_some, Option.some.injEq, ck_in, ck_nz, ck_p, n_cl, n_lt, n_le, n_eq, n_div, n_rem, if_pos, if_neg, if_true, if_false, eq_self, n_192, n_256, n_20000, m1_n0, m1_np, m1_n0p, m1_lt0, m1_lt0p, mi_setIA, mi_setI, ml_setIA, ml_setI, mr_setI, mr_setIA, Bool.toNat_false, Bool.false_or]
          by_cases z : Gt G p (chg G p q (sOf G p z0) i) = Gt G p (sOf G p z0)
          · simp [z]
          · simp [z]
        · simp (disch := omega) only [n_0, n_1, n_2, n_3, n_4, n_5, n_6, n_7, n_8, n_9, n_10, n_12, n_13, n_14, n_20, n_31, n_32, n_63, n_64, n_600, n_1024, n_4096, n_6157, n_add, n_mul, nm_def, Option.bind_some, Option.some.injEq, ck_in, ck_nz, ck_p, n_cl, n_lt, n_le, n_eq, n_div, n_rem, if_pos, if_neg, if_true, if_false, eq_self, n_192, n_256, n_20000, m1_n0, m1_np, m1_n0p, m1_lt0, m1_lt0p, mi_setIA, mi_setI, ml_setIA, ml_setI, mr_setI, mr_setIA, Bool.toNat_true, Bool.true_or])
      F s1 0 (Nat.zero_le _) (by omega) ⟨hI1, fun r hr _ => a2 r hr⟩
    obtain ⟨s2, c1, c2⟩ := hk
    refine ⟨s2, c1, ?_⟩
    show pX11_fooled_20 F (nI p) (nI q) (fu + 1) s _ (nI z0) = _
    rw [← c2, pX11_fooled_20, rX_colourings hR hw (by omega), a3]
    simp (disch := omega) only [n_0, n_1, n_2, n_3, n_4, n_5, n_6, n_7, n_8, n_9, n_10, n_12, n_13, n_14, n_20, n_31, n_32, n_63, n_64, n_600, n_1024, n_4096, n_6157, n_add, n_mul, nm_def, Option.bind_some, Option.some.injEq, ck_in, ck_nz, ck_p, n_cl, n_lt, n_le, n_eq, n_div, n_rem, if_pos, if_neg, if_true, if_false, eq_self, n_192, n_256, n_20000, m1_n0, m1_np, m1_n0p, m1_lt0, m1_lt0p, mi_setIA, mi_setI, ml_setIA, ml_setI, mr_setI, mr_setIA, e1, rX_entry (RG5 h hI1) hw hp hso]
    rfl
theorem c_fooled (h : IV G H m κ ρ) (hF : 50000 < F) (a b : Int32) : Res (pX10_fooled F κ a b) (pX11_fooled F ρ a b) := by
  have hw := h.W
  unfold pX10_fooled pX11_fooled
  rw [x_sightTrouble h.A hw, rX_whySight h.R hw]
  by_cases c : siT G a b = 0
  · obtain ⟨p, q, hp, hq, hpq, hs, rfl, rfl⟩ := siT_t hw c
    obtain ⟨ρ1, a1, a2⟩ := rB_fooled (F := F) (RG_st0 (k := 0) h.R (by decide)) hw (by omega) hp hs
    rw [fib hw (by omega)] at a2
    rw [c, show nI 0 = 0 from rfl]
    simp only [x_give, x_refuse, rX_refuse, rX_is0, rX_is1, rX_is2, rX_is3, rX_is4, rX_is5, rX_is7, nBt, nBf, o10, Bool.not_true, Bool.not_false, if_true, if_false, eq_self, Option.bind_some, sX2_swayed h.A.1 hw (show 2000 < F by omega) hp hs, a2, sX1_oneSit h.A hw (show 10 < F by omega) hp, n_mul]
    exact res_ok h agr_rfl (agr5 a1)
  · have hne := nI_nz siT_lt c
    rw [Option.bind_some, Option.bind_some, if_neg hne, rX_isk ρ hne]
    simp only [x_give, x_refuse, rX_refuse, rX_is0, rX_is1, rX_is2, rX_is3, rX_is4, rX_is5, rX_is7, nBt, nBf, o10, Bool.not_true, Bool.not_false, if_true, if_false, eq_self, Option.bind_some]
    exact res_no h agr_rfl agr_rfl
end C2
