/-! THE REFERENCE: best tables -/
section RB
variable {ρ : Mem} {G : Gm} {F p q x c : Nat} {t : Nat → Nat → Nat}
theorem rX_enters {v : Int32} {s : Nat} (ρ : Mem) (hp : p < 6) (hs : s < 1024) : pX11_enters ρ (nI p) (nI s) v = some (setI ρ 1 (13 + 1024 * p + s) v) := by
  unfold pX11_enters
  simp (disch := omega) only [n_0, n_1, n_2, n_3, n_4, n_5, n_6, n_7, n_8, n_9, n_10, n_12, n_13, n_14, n_20, n_31, n_32, n_63, n_64, n_600, n_1024, n_4096, n_6157, n_add, n_mul, nm_def, Option.bind_some, Option.some.injEq, ck_in, ck_nz, ck_p, n_cl, n_lt, n_le, n_eq, n_div, n_rem, if_pos, if_neg, if_true, if_false, eq_self, n_192, n_256, n_20000, m1_n0, m1_np, m1_n0p, m1_lt0, m1_lt0p, mi_setIA, mi_setI, ml_setIA, ml_setI, mr_setI, mr_setIA]
theorem RG_enter {s : Nat} (h : RG ρ 1 (withT G t)) (hw : WF G) (hp : p < Gn G) (hs : s < sit G p) (c : Nat) : RG (setI ρ 1 (13 + 1024 * p + s) (nI c)) 1 (withT G (fun q σ => if q = p ∧ σ = s then c else t q σ)) := by
  have hp6 := hw_lt hw hp
  have hsl := sit_le hw hp
  refine ⟨by rw [mi_setI, if_neg (by omega)]; exact h.1, fun q hq => ?_, fun q hq => ?_, fun q hq σ hσ => ?_⟩
  · have hq6 := hw_lt hw hq
    rw [mi_setI, if_neg (by omega)]; exact h.2.1 q hq
  · have hq6 := hw_lt hw hq
    rw [mi_setI, if_neg (by omega)]; exact h.2.2.1 q hq
  · have hsl2 := sit_le hw hq
    have hσ2 : σ < sit G q := hσ
    rw [mi_setI]
    by_cases e : q = p ∧ σ = s
    · rw [if_pos (by obtain ⟨e1, e2⟩ := e; subst e1; subst e2; exact ⟨rfl, rfl⟩)]
      show nI c = nI (if q = p ∧ σ = s then c else t q σ)
      rw [if_pos e]
    · rw [if_neg (by omega)]
      show _ = nI (if q = p ∧ σ = s then c else t q σ)
      rw [if_neg e]
      exact h.2.2.2 q hq σ hσ
theorem RG_same {t2 : Nat → Nat → Nat} (h : RG ρ c (withT G t)) (ht : ∀ p, p < Gn G → ∀ σ, σ < sit G p → t2 p σ = t p σ) : RG ρ c (withT G t2) :=
  ⟨h.1, h.2.1, h.2.2.1, fun p hp σ hs => by
    rw [h.2.2.2 p hp σ hs]
    exact congrArg nI (ht p hp σ hs).symm⟩
theorem RG_wT (h : RG ρ c G) : RG ρ c (withT G (Gt G)) := h
def ky4 (G : Gm) (p x : Nat) : Nat := 4 * sOf G p x + col G p x
theorem ky4_lt (hw : WF G) (hp : p < Gn G) (x : Nat) : ky4 G p x < 4096 := by
  have h1 := sOf_lt (p := p) (x := x) hw
  have h2 := sit_le hw hp
  have h3 := col_lt (x := x) hw hp
  have h4 := hw.h4 hp
  unfold ky4
  omega
theorem rsc_ky4 (hw : WF G) (hp : p < Gn G) {s c : Nat} (hc : c < Gh G p) : cnt (fun x => onl G p x && decide (ky4 G p x = 4 * s + c)) (ncol G) = rsc G p s c := by
  refine cnt_congr (fun x _ => ?_)
  have h3 := col_lt (x := x) hw hp
  have h4 := hw.h4 hp
  congr 1
  rw [← Bool.decide_and]
  refine decide_eq_decide.mpr ?_
  unfold ky4
  omega
def r568 (k : Nat) : Prop := k = 5 ∨ k = 6 ∨ k = 8
def LN (ρ : Mem) (G : Gm) (p : Nat) : Prop := ∀ s, s < sit G p → ∀ c, c < Gh G p → mi ρ 8 (4 * s + c) = nI (rsc G p s c)
theorem rX_laysLone (h : RG ρ 1 G) (hw : WF G) (hF : 5000 < F) (hp : p < Gn G) : ∃ ρ1, agr r568 ρ ρ1 ∧ LN ρ1 G p ∧ pX11_laysLone F ρ (nI p) = some ρ1 := by
  have hp6 := hw_lt hw hp
  have hn := ncol_le hw
  obtain ⟨s0, e0⟩ : ∃ s0, s0 = setIA ρ 8 (wr (ρ.1 8) 0 4096 (fun _ => nI 0)) := ⟨_, rfl⟩
  have a0 : agr r568 ρ s0 := by rw [e0]; exact agr_setIA (Or.inr (Or.inr rfl))
  have hR0 : RG s0 1 G := h.agr a0 (by unfold r568; omega)
  obtain ⟨s1, b1, hr, b3⟩ := rX_laysRight (F := F) hR0 hw hF
  have hR1 : RG s1 1 G := hR0.agr b1 (by unfold r56; omega)
  have h8 : ∀ y, y < 4096 → mi s1 8 y = nI 0 := fun y hy => by
    rw [agr_mi b1 (by unfold r56; omega), e0, mi_setIA, if_pos rfl, wr_in (Nat.zero_le _) hy]
  have key := lp_inv (fun fu (s : Mem) i => pX11_laysLone_28 F (nI p) fu s (nI i)) (fun s i => agr (fun k => k = 5 ∨ k = 8) s1 s ∧ ∀ y, y < 4096 → mi s 8 y = nI (cnt (fun x => onl G p x && decide (ky4 G p x = y)) i)) (ncol G) (fun r => ∃ ρ1, agr (fun k => k = 5 ∨ k = 8) s1 ρ1 ∧ LN ρ1 G p ∧ r = some ρ1)
    (fun fu s hI => by
      obtain ⟨c1, c2⟩ := hI
      have hR : RG s 1 G := hR1.agr c1 (by omega)
      refine ⟨s, c1, fun σ hs c hc => ?_, ?_⟩
      · have hsl := sit_le hw hp
        have h4 := hw.h4 hp
        rw [c2 _ (by omega), rsc_ky4 hw hp hc]
      · show pX11_laysLone_28 F (nI p) (fu + 1) s (nI (ncol G)) = _
        rw [pX11_laysLone_28, rX_colourings hR hw (by omega)]
        simp (disch := omega) only [n_0, n_1, n_2, n_3, n_4, n_5, n_6, n_7, n_8, n_9, n_10, n_12, n_13, n_14, n_20, n_31, n_32, n_63, n_64, n_600, n_1024, n_4096, n_6157, n_add, n_mul, nm_def, Option.bind_some, Option.some.injEq, ck_in, ck_nz, ck_p, n_cl, n_lt, n_le, n_eq, n_div, n_rem, if_pos, if_neg, if_true, if_false, eq_self, n_192, n_256, n_20000, m1_n0, m1_np, m1_n0p, m1_lt0, m1_lt0p, mi_setIA, mi_setI, ml_setIA, ml_setI, mr_setI, mr_setIA])
    (fun fu s i hi hI => by
      obtain ⟨c1, c2⟩ := hI
      have hR : RG s 1 G := hR1.agr c1 (by omega)
      have e1 : mi s 6 i = nI (rgt G i) := (agr_mi c1 (by omega) i).trans (hr i hi)
      have h2 := rgt_lt (x := i) hw
      have h3 := clr_lt h2 hp6
      by_cases z : clr (rgt G i) p = 0
      · obtain ⟨s2, d1, d2, d3⟩ := rX_laysE (x := i) hR hw (show 100 < F by omega) (by omega)
        have hR2 := RG5 hR d1
        have e2 := rX_situationOf (F := F) hR2 hw (by omega) hp d2
        rw [sO_col] at e2
        have e3 := d2 p hp
        have hk := ky4_lt hw hp i
        have e4 : mi s2 8 (ky4 G p i) = nI (cnt (fun x => onl G p x && decide (ky4 G p x = ky4 G p i)) i) := (agr_mi d1 (by omega) _).trans (c2 _ hk)
        have eo : onl G p i = true := by unfold onl; simp [z]
        refine ⟨setI s2 8 (ky4 G p i) (nI (cnt (fun x => onl G p x && decide (ky4 G p x = ky4 G p i)) i + 1)), ⟨agr_trans c1 (agr_trans (agr_mono d1 (fun k hk => Or.inl hk)) (agr_setI (Or.inr rfl))), fun y hy => ?_⟩, ?_⟩
        · rw [mi_setI]
          by_cases e : y = ky4 G p i
          · subst e
            rw [if_pos ⟨rfl, rfl⟩, cnt_s, eo]
            simp
          · rw [if_neg (fun w => e w.2), agr_mi d1 (by omega), c2 y hy, cnt_s]
            have e5 : decide (ky4 G p i = y) = false := by simp; exact fun w => e w.symm
            rw [e5]
            simp
        · show pX11_laysLone_28 F (nI p) (fu + 1) s (nI i) = pX11_laysLone_28 F (nI p) fu _ (nI (i + 1))
          have e6 : 4 * sOf G p i + col G p i = ky4 G p i := rfl
          rw [pX11_laysLone_28, rX_colourings hR hw (by omega), d3]
          unfold pX11_laysLone_82
          simp (disch := omega) only [n_0, n_1, n_2, n_3, n_4, n_5, n_6, n_7, n_8, n_9, n_10, n_12, n_13, n_14, n_20, n_31, n_32, n_63, n_64, n_600, n_1024, n_4096, n_6157, n_add, n_mul, nm_def, Option.bind_some, Option.some.injEq, ck_in, ck_nz, ck_p, n_cl, n_lt, n_le, n_eq, n_div, n_rem, if_pos, if_neg, if_true, if_false, eq_self, n_192, n_256, n_20000, m1_n0, m1_np, m1_n0p, m1_lt0, m1_lt0p, mi_setIA, mi_setI, ml_setIA, ml_setI, mr_setI, mr_setIA, e1, n_shl1, n_clr2, z, e2, e3, e6, e4]
      · refine ⟨s, ⟨c1, fun y hy => ?_⟩, ?_⟩
        · have eo : onl G p i = false := by unfold onl; simp [z]
          rw [c2 y hy, cnt_s, eo]
          simp
        · show pX11_laysLone_28 F (nI p) (fu + 1) s (nI i) = pX11_laysLone_28 F (nI p) fu s (nI (i + 1))
          rw [pX11_laysLone_28, rX_colourings hR hw (by omega)]
          unfold pX11_laysLone_82
          simp (disch := omega) only [n_0, n_1, n_2, n_3, n_4, n_5, n_6, n_7, n_8, n_9, n_10, n_12, n_13, n_14, n_20, n_31, n_32, n_63, n_64, n_600, n_1024, n_4096, n_6157, n_add, n_mul, nm_def, Option.bind_some, Option.some.injEq, ck_in, ck_nz, ck_p, n_cl, n_lt, n_le, n_eq, n_div, n_rem, if_pos, if_neg, if_true, if_false, eq_self, n_192, n_256, n_20000, m1_n0, m1_np, m1_n0p, m1_lt0, m1_lt0p, mi_setIA, mi_setI, ml_setIA, ml_setI, mr_setI, mr_setIA, e1, n_shl1, n_clr2, z])
    F s1 0 (Nat.zero_le _) (by omega) ⟨agr_rfl, fun y hy => h8 y hy⟩
  obtain ⟨ρ1, k1, k2, k3⟩ := key
  refine ⟨ρ1, agr_trans a0 (agr_trans (agr_mono b1 (fun k hk => by unfold r56 at hk; unfold r568; omega)) (agr_mono k1 (fun k hk => by unfold r568; omega))), k2, ?_⟩
  unfold pX11_laysLone
  have e9 : pX11_laysLone_2 F (nI p) F ρ 0 = (pX11_laysRight F s0).bind fun t2 => pX11_laysLone_28 F (nI p) F t2 0 := by
    rw [e0]
    refine lp_upE F (fun fu i => pX11_laysLone_2 F (nI p) fu (setIA ρ 8 (wr (ρ.1 8) 0 i (fun _ => nI 0))) (nI i)) (0) (4096) _ _ ?_ (fun fu => ?_) (fun fu i hi1 hi2 => ?_) (by omega) (by omega)
    · rw [setIA_wr0]; rfl
    · show pX11_laysLone_2 F (nI p) (fu + 1) (setIA ρ 8 (wr (ρ.1 8) 0 (4096) (fun _ => nI 0))) (nI (4096)) = _
      rw [pX11_laysLone_2]
      simp (disch := omega) only [n_0, n_1, n_2, n_3, n_4, n_5, n_6, n_7, n_8, n_9, n_10, n_12, n_13, n_14, n_20, n_31, n_32, n_63, n_64, n_600, n_1024, n_4096, n_6157, n_add, n_mul, nm_def, Option.bind_some, Option.some.injEq, ck_in, ck_nz, ck_p, n_cl, n_lt, n_le, n_eq, n_div, n_rem, if_pos, if_neg, if_true, if_false, eq_self, n_192, n_256, n_20000, m1_n0, m1_np, m1_n0p, m1_lt0, m1_lt0p, mi_setIA, mi_setI, ml_setIA, ml_setI, mr_setI, mr_setIA]
    · show pX11_laysLone_2 F (nI p) (fu + 1) (setIA ρ 8 (wr (ρ.1 8) 0 i (fun _ => nI 0))) (nI i) = pX11_laysLone_2 F (nI p) fu (setIA ρ 8 (wr (ρ.1 8) 0 (i + 1) (fun _ => nI 0))) (nI (i + 1))
      rw [pX11_laysLone_2]
      simp (disch := omega) only [n_0, n_1, n_2, n_3, n_4, n_5, n_6, n_7, n_8, n_9, n_10, n_12, n_13, n_14, n_20, n_31, n_32, n_63, n_64, n_600, n_1024, n_4096, n_6157, n_add, n_mul, nm_def, Option.bind_some, Option.some.injEq, ck_in, ck_nz, ck_p, n_cl, n_lt, n_le, n_eq, n_div, n_rem, if_pos, if_neg, if_true, if_false, eq_self, n_192, n_256, n_20000, m1_n0, m1_np, m1_n0p, m1_lt0, m1_lt0p, mi_setIA, mi_setI, ml_setIA, ml_setI, mr_setI, mr_setIA]
      rw [setI_wr_up (x := nI 0) (v := fun _ => nI 0) (Nat.zero_le _) rfl]
  rw [e9, b3]
  exact k3
theorem rX_bestIn0 {s : Nat} (hh : pX11_hats ρ (nI p) = some (nI (Gh G p))) (hw : WF G) (hF : 100 < F) (hp : p < Gn G) (hl : LN ρ G p) (hs : s < sit G p) : pX11_bestIn F ρ (nI p) (nI s) = some (nI (bst G p s)) := by
  have hp6 := hw_lt hw hp
  have h1 := hw.h1 hp
  have h4 := hw.h4 hp
  have hsl := sit_le hw hp
  unfold pX11_bestIn bst
  refine lp_upE F (fun fu i => pX11_bestIn_5 F ρ (nI p) (nI s) fu (nI (amx (rsc G p s) i)) (nI i)) (1) (Gh G p) _ _ ?_ (fun fu => ?_) (fun fu i hi1 hi2 => ?_) (by omega) (by omega)
  · rw [amx_1]; rfl
  · show pX11_bestIn_5 F ρ (nI p) (nI s) (fu + 1) (nI (amx (rsc G p s) (Gh G p))) (nI (Gh G p)) = _
    rw [pX11_bestIn_5, hh]
    simp (disch := omega) only [n_0, n_1, n_2, n_3, n_4, n_5, n_6, n_7, n_8, n_9, n_10, n_12, n_13, n_14, n_20, n_31, n_32, n_63, n_64, n_600, n_1024, n_4096, n_6157, n_add, n_mul, nm_def, Option.bind_some, Option.some.injEq, ck_in, ck_nz, ck_p, n_cl, n_lt, n_le, n_eq, n_div, n_rem, if_pos, if_neg, if_true, if_false, eq_self, n_192, n_256, n_20000, m1_n0, m1_np, m1_n0p, m1_lt0, m1_lt0p, mi_setIA, mi_setI, ml_setIA, ml_setI, mr_setI, mr_setIA]
  · show pX11_bestIn_5 F ρ (nI p) (nI s) (fu + 1) (nI (amx (rsc G p s) i)) (nI i) = pX11_bestIn_5 F ρ (nI p) (nI s) fu (nI (amx (rsc G p s) (i + 1))) (nI (i + 1))
    have hb := amx_lt (rsc G p s) hi1
    have e1 := hl s hs i hi2
    have e2 := hl s hs (amx (rsc G p s) i) (by omega)
    have hc1 : rsc G p s i ≤ 4096 := cnt_n hw _
    have hc2 : rsc G p s (amx (rsc G p s) i) ≤ 4096 := cnt_n hw _
    rw [pX11_bestIn_5, hh]
    unfold pX11_bestIn_45
    simp (disch := omega) only [n_0, n_1, n_2, n_3, n_4, n_5, n_6, n_7, n_8, n_9, n_10, n_12, n_13, n_14, n_20, n_31, n_32, n_63, n_64, n_600, n_1024, n_4096, n_6157, n_add, n_mul, nm_def, Option.bind_some, Option.some.injEq, ck_in, ck_nz, ck_p, n_cl, n_lt, n_le, n_eq, n_div, n_rem, if_pos, if_neg, if_true, if_false, eq_self, n_192, n_256, n_20000, m1_n0, m1_np, m1_n0p, m1_lt0, m1_lt0p, mi_setIA, mi_setI, ml_setIA, ml_setI, mr_setI, mr_setIA, e1, e2, amx]
    by_cases c : rsc G p s (amx (rsc G p s) i) < rsc G p s i
    · rw [if_neg (by omega), if_pos c]
    · rw [if_pos (by omega), if_neg c]
theorem rX_bestIn {s : Nat} (h : RG ρ 1 G) (hw : WF G) (hF : 100 < F) (hp : p < Gn G) (hl : LN ρ G p) (hs : s < sit G p) : pX11_bestIn F ρ (nI p) (nI s) = some (nI (bst G p s)) := rX_bestIn0 (rX_hats h hw hp) hw hF hp hl hs
theorem sm_but (f : Nat → Nat) {n b : Nat} (hb : b < n) : sm (fun c => if c = b then 0 else f c) n + f b = sm f n := by
  have h1 := sm_swap (f := fun c => if c = b then 0 else f c) (g := f) hb (fun i _ hk => by
    show (if i = b then 0 else f i) = f i
    rw [if_neg hk])
  simp only [if_true] at h1
  omega
theorem lw_sum (hw : WF G) (hp : p < Gn G) : sm (fun s => sm (fun c => if c = bst G p s then 0 else rsc G p s c) (Gh G p)) (sit G p) = lw G p := by
  unfold lw
  have h1 : sm (fun s => sm (fun c => if c = bst G p s then 0 else rsc G p s c) (Gh G p)) (sit G p) + sm (fun s => rsc G p s (bst G p s)) (sit G p) = cnt (onl G p) (ncol G) := by
    rw [← rsc_sum hw hp, ← sm_add]
    exact sm_congr (fun s _ => sm_but (fun c => rsc G p s c) (bst_lt hw hp s))
  omega
theorem rX_lostWithBest (h : RG ρ 1 G) (hw : WF G) (hF : 5000 < F) (hp : p < Gn G) : ∃ ρ1, agr r568 ρ ρ1 ∧ LN ρ1 G p ∧ pX11_lostWithBest F ρ (nI p) = some (nI (lw G p), ρ1) := by
  have hp6 := hw_lt hw hp
  have h1 := hw.h1 hp
  have h4 := hw.h4 hp
  have hsl := sit_le hw hp
  obtain ⟨ρ1, a1, a2, a3⟩ := rX_laysLone h hw hF hp
  have hR : RG ρ1 1 G := h.agr a1 (by unfold r568; omega)
  refine ⟨ρ1, a1, a2, ?_⟩
  have hin : ∀ (k9 : Int32 → Int32 → Option (Int32 × Mem)) (s v : Nat), s < sit G p → pX11_lostWithBest_21 F k9 ρ1 (nI p) (nI s) F (nI v) (nI 0) = k9 (nI (v + sm (fun c => if c = bst G p s then 0 else rsc G p s c) (Gh G p))) (nI (s + 1)) := fun k9 s v hs => by
    refine lp_upE F (fun fu i => pX11_lostWithBest_21 F k9 ρ1 (nI p) (nI s) fu (nI (v + sm (fun c => if c = bst G p s then 0 else rsc G p s c) i)) (nI i)) (0) (Gh G p) _ _ rfl (fun fu => ?_) (fun fu i hi1 hi2 => ?_) (by omega) (by omega)
    · show pX11_lostWithBest_21 F k9 ρ1 (nI p) (nI s) (fu + 1) (nI (v + sm (fun c => if c = bst G p s then 0 else rsc G p s c) (Gh G p))) (nI (Gh G p)) = _
      rw [pX11_lostWithBest_21, rX_hats hR hw hp]
      simp (disch := omega) only [n_0, n_1, n_2, n_3, n_4, n_5, n_6, n_7, n_8, n_9, n_10, n_12, n_13, n_14, n_20, n_31, n_32, n_63, n_64, n_600, n_1024, n_4096, n_6157, n_add, n_mul, nm_def, Option.bind_some, Option.some.injEq, ck_in, ck_nz, ck_p, n_cl, n_lt, n_le, n_eq, n_div, n_rem, if_pos, if_neg, if_true, if_false, eq_self, n_192, n_256, n_20000, m1_n0, m1_np, m1_n0p, m1_lt0, m1_lt0p, mi_setIA, mi_setI, ml_setIA, ml_setI, mr_setI, mr_setIA]
    · show pX11_lostWithBest_21 F k9 ρ1 (nI p) (nI s) (fu + 1) (nI (v + sm (fun c => if c = bst G p s then 0 else rsc G p s c) i)) (nI i) = pX11_lostWithBest_21 F k9 ρ1 (nI p) (nI s) fu (nI (v + sm (fun c => if c = bst G p s then 0 else rsc G p s c) (i + 1))) (nI (i + 1))
      have e1 := a2 s hs i hi2
      have hb := bst_lt hw hp s
      rw [pX11_lostWithBest_21, rX_hats hR hw hp, rX_bestIn hR hw (by omega) hp a2 hs, sm]
      unfold pX11_lostWithBest_58
      simp (disch := omega) only [n_0, n_1, n_2, n_3, n_4, n_5, n_6, n_7, n_8, n_9, n_10, n_12, n_13, n_14, n_20, n_31, n_32, n_63, n_64, n_600, n_1024, n_4096, n_6157, n_add, n_mul, nm_def, Option.bind_some, Option.some.injEq, ck_in, ck_nz, ck_p, n_cl, n_lt, n_le, n_eq, n_div, n_rem, if_pos, if_neg, if_true, if_false, eq_self, n_192, n_256, n_20000, m1_n0, m1_np, m1_n0p, m1_lt0, m1_lt0p, mi_setIA, mi_setI, ml_setIA, ml_setI, mr_setI, mr_setIA, e1]
      by_cases z : i = bst G p s
      · rw [if_pos z, if_pos z]
        rfl
      · rw [if_neg z, if_neg z, Nat.add_assoc]
  unfold pX11_lostWithBest
  rw [a3, Option.bind_some, ← lw_sum hw hp]
  refine lp_upE F (fun fu i => pX11_lostWithBest_9 F ρ1 (nI p) fu (nI (sm (fun s => sm (fun c => if c = bst G p s then 0 else rsc G p s c) (Gh G p)) i)) (nI i)) (0) (sit G p) _ _ rfl (fun fu => ?_) (fun fu i hi1 hi2 => ?_) (by omega) (by omega)
  · show pX11_lostWithBest_9 F ρ1 (nI p) (fu + 1) (nI (sm (fun s => sm (fun c => if c = bst G p s then 0 else rsc G p s c) (Gh G p)) (sit G p))) (nI (sit G p)) = _
    rw [pX11_lostWithBest_9, rX_situations hR hw (by omega) hp]
    simp (disch := omega) only [n_0, n_1, n_2, n_3, n_4, n_5, n_6, n_7, n_8, n_9, n_10, n_12, n_13, n_14, n_20, n_31, n_32, n_63, n_64, n_600, n_1024, n_4096, n_6157, n_add, n_mul, nm_def, Option.bind_some, Option.some.injEq, ck_in, ck_nz, ck_p, n_cl, n_lt, n_le, n_eq, n_div, n_rem, if_pos, if_neg, if_true, if_false, eq_self, n_192, n_256, n_20000, m1_n0, m1_np, m1_n0p, m1_lt0, m1_lt0p, mi_setIA, mi_setI, ml_setIA, ml_setI, mr_setI, mr_setIA]
  · show pX11_lostWithBest_9 F ρ1 (nI p) (fu + 1) (nI (sm (fun s => sm (fun c => if c = bst G p s then 0 else rsc G p s c) (Gh G p)) i)) (nI i) = pX11_lostWithBest_9 F ρ1 (nI p) fu (nI (sm (fun s => sm (fun c => if c = bst G p s then 0 else rsc G p s c) (Gh G p)) (i + 1))) (nI (i + 1))
    rw [pX11_lostWithBest_9, rX_situations hR hw (by omega) hp]
    simp (disch := omega) only [n_0, n_1, n_2, n_3, n_4, n_5, n_6, n_7, n_8, n_9, n_10, n_12, n_13, n_14, n_20, n_31, n_32, n_63, n_64, n_600, n_1024, n_4096, n_6157, n_add, n_mul, nm_def, Option.bind_some, Option.some.injEq, ck_in, ck_nz, ck_p, n_cl, n_lt, n_le, n_eq, n_div, n_rem, if_pos, if_neg, if_true, if_false, eq_self, n_192, n_256, n_20000, m1_n0, m1_np, m1_n0p, m1_lt0, m1_lt0p, mi_setIA, mi_setI, ml_setIA, ml_setI, mr_setI, mr_setIA, hin _ i _ hi2, sm]
theorem rX_takes (h : RG ρ 1 G) (hw : WF G) (hF : 5000 < F) (hp : p < Gn G) : ∃ ρ1, agr (fun k => k = 1 ∨ r568 k) ρ ρ1 ∧ RG ρ1 1 (tk G p) ∧ pX11_takes F ρ (nI p) = some (nI (tkc G p), ρ1) := by
  have hp6 := hw_lt hw hp
  have hsl := sit_le hw hp
  obtain ⟨s1, a1, a2, a3⟩ := rX_laysLone h hw hF hp
  have hR : RG s1 1 G := h.agr a1 (by unfold r568; omega)
  have key := lp_inv (fun fu (s : Mem) i => pX11_takes_9 F (nI p) fu s (nI (cnt (fun s => decide (Gt G p s ≠ bst G p s)) i)) (nI i)) (fun s i => agr (fun k => k = 1) s1 s ∧ RG s 1 (withT G (fun q σ => if q = p ∧ σ < i then bst G p σ else Gt G q σ))) (sit G p) (fun r => ∃ ρ1, agr (fun k => k = 1) s1 ρ1 ∧ RG ρ1 1 (tk G p) ∧ r = some (nI (tkc G p), ρ1))
    (fun fu s hI => by
      obtain ⟨b1, b2⟩ := hI
      refine ⟨s, b1, RG_same b2 (fun q hq σ hs => ?_), ?_⟩
      · show (if q = p then bst G p σ else Gt G q σ) = if q = p ∧ σ < sit G p then bst G p σ else Gt G q σ
        by_cases e : q = p
        · subst e; rw [if_pos rfl, if_pos ⟨rfl, hs⟩]
        · rw [if_neg e, if_neg (fun z => e z.1)]
      · have hw2 : WF (withT G (fun q σ => if q = p ∧ σ < sit G p then bst G p σ else Gt G q σ)) := WF_withT hw (fun q hq σ hs => by
          by_cases e : q = p ∧ σ < sit G p
          · rw [if_pos e, e.1]; exact bst_lt hw hp σ
          · rw [if_neg e]; exact hw.t hq hs)
        show pX11_takes_9 F (nI p) (fu + 1) s _ (nI (sit G p)) = _
        have e3 : pX11_situations_ F s (nI p) = some (nI (sit G p)) := by
          have := rX_situations (F := F) b2 hw2 (by omega) hp
          exact this
        rw [pX11_takes_9, e3]
        simp (disch := omega) only [n_0, n_1, n_2, n_3, n_4, n_5, n_6, n_7, n_8, n_9, n_10, n_12, n_13, n_14, n_20, n_31, n_32, n_63, n_64, n_600, n_1024, n_4096, n_6157, n_add, n_mul, nm_def, Option.bind_some, Option.some.injEq, ck_in, ck_nz, ck_p, n_cl, n_lt, n_le, n_eq, n_div, n_rem, if_pos, if_neg, if_true, if_false, eq_self, n_192, n_256, n_20000, m1_n0, m1_np, m1_n0p, m1_lt0, m1_lt0p, mi_setIA, mi_setI, ml_setIA, ml_setI, mr_setI, mr_setIA]
        rfl)
    (fun fu s i hi hI => by
      obtain ⟨b1, b2⟩ := hI
      have hw2 : WF (withT G (fun q σ => if q = p ∧ σ < i then bst G p σ else Gt G q σ)) := WF_withT hw (fun q hq σ hs => by
        by_cases e : q = p ∧ σ < i
        · rw [if_pos e, e.1]; exact bst_lt hw hp σ
        · rw [if_neg e]; exact hw.t hq hs)
      have hln : LN s G p := fun σ hs c hc => (agr_mi b1 (by omega) _).trans (a2 σ hs c hc)
      have e3 : pX11_situations_ F s (nI p) = some (nI (sit G p)) := by
        have := rX_situations (F := F) b2 hw2 (by omega) hp
        exact this
      have e4 : pX11_bestIn F s (nI p) (nI i) = some (nI (bst G p i)) := by
        have := rX_hats b2 hw2 hp
        exact rX_bestIn0 this hw (by omega) hp hln hi
      have e5 : pX11_entry s (nI p) (nI i) = some (nI (Gt G p i)) := by
        have := rX_entry b2 hw2 hp (show i < sit G p from hi)
        rw [this]
        show some (nI (if p = p ∧ i < i then bst G p i else Gt G p i)) = _
        rw [if_neg (by omega)]
      have hb := bst_lt hw hp i
      have h4 := hw.h4 hp
      have ht := hw.t hp hi
      have hR3 := RG_enter b2 hw hp hi (bst G p i)
      refine ⟨setI s 1 (13 + 1024 * p + i) (nI (bst G p i)), ⟨agr_trans b1 (agr_setI rfl), RG_same hR3 (fun q hq σ hs => ?_)⟩, ?_⟩
      · show (if q = p ∧ σ < i + 1 then bst G p σ else Gt G q σ) = if q = p ∧ σ = i then bst G p i else if q = p ∧ σ < i then bst G p σ else Gt G q σ
        by_cases e : q = p ∧ σ = i
        · rw [if_pos e, if_pos ⟨e.1, by omega⟩, e.2]
        · rw [if_neg e]
          by_cases e2 : q = p ∧ σ < i
          · rw [if_pos e2, if_pos ⟨e2.1, by omega⟩]
          · rw [if_neg e2, if_neg (by omega)]
      · show pX11_takes_9 F (nI p) (fu + 1) s (nI (cnt (fun s => decide (Gt G p s ≠ bst G p s)) i)) (nI i) = pX11_takes_9 F (nI p) fu _ (nI (cnt (fun s => decide (Gt G p s ≠ bst G p s)) (i + 1))) (nI (i + 1))
        rw [pX11_takes_9, e3, e4, e5, cnt_s]
        unfold pX11_takes_43
        simp (disch := omega) only [n_0, n_1, n_2, n_3, n_4, n_5, n_6, n_7, n_8, n_9, n_10, n_12, n_13, n_14, n_20, n_31, n_32, n_63, n_64, n_600, n_1024, n_4096, n_6157, n_add, n_mul, nm_def, Option.bind_some, Option.some.injEq, ck_in, ck_nz, ck_p, n_cl, n_lt, n_le, n_eq, n_div, n_rem, if_pos, if_neg, if_true, if_false, eq_self, n_192, n_256, n_20000, m1_n0, m1_np, m1_n0p, m1_lt0, m1_lt0p, mi_setIA, mi_setI, ml_setIA, ml_setI, mr_setI, mr_setIA, rX_enters s hp6]
        by_cases z : Gt G p i = bst G p i
        · simp [z]
        · have z2 : ¬ bst G p i = Gt G p i := fun y => z y.symm
          simp [z, z2])
    F s1 0 (Nat.zero_le _) (by omega) ⟨agr_rfl, RG_same (RG_wT hR) (fun q hq σ hs => by
      show (if q = p ∧ σ < 0 then bst G p σ else Gt G q σ) = Gt G q σ
      rw [if_neg (by omega)])⟩
  obtain ⟨ρ1, k1, k2, k3⟩ := key
  refine ⟨ρ1, agr_trans (agr_mono a1 (fun k hk => Or.inr hk)) (agr_mono k1 (fun k hk => Or.inl hk)), k2, ?_⟩
  unfold pX11_takes
  rw [a3]
  exact k3
end RB
