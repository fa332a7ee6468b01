/-! THE REFERENCE: who is right, who is lost -/
section R2
variable {ρ : Mem} {G : Gm} {F p q x c : Nat}
def rgC (G : Gm) (d : Nat → Nat) : Nat := msk (fun p => decide (Gt G p (sO G p d) = d p)) (Gn G)
theorem rgC_col (G : Gm) (x : Nat) : rgC G (fun q => col G q x) = rgt G x := rfl
theorem rX_rightNow {d : Nat → Nat} (h : RG ρ 1 G) (hw : WF G) (hF : 100 < F) (hd : LC5 ρ G d) (hd2 : ∀ q, q < Gn G → d q < Gh G q) : pX11_rightNow F ρ = some (nI (rgC G d)) := by
  have hn := hw.n6
  unfold pX11_rightNow rgC
  refine lp_upE F (fun fu i => pX11_rightNow_4 F ρ fu (nI (msk (fun p => decide (Gt G p (sO G p d) = d p)) i)) (nI i)) (0) (Gn G) _ _ rfl (fun fu => ?_) (fun fu i hi1 hi2 => ?_) (by omega) (by omega)
  · show pX11_rightNow_4 F ρ (fu + 1) (nI (msk (fun p => decide (Gt G p (sO G p d) = d p)) (Gn G))) (nI (Gn G)) = _
    rw [pX11_rightNow_4, rX_players h]
    simp (disch := omega) only [n_0, n_1, n_2, n_3, n_4, n_5, n_6, n_7, n_8, n_9, n_10, n_12, n_13, n_14, n_20, n_31, n_32, n_63, n_64, n_600, n_1024, n_4096, n_6157, n_add, n_mul, nm_def, Option.bind_some, Option.some.injEq, ck_in, ck_nz, ck_p, n_cl, n_lt, n_le, n_eq, n_div, n_rem, if_pos, if_neg, if_true, if_false, eq_self, n_192, n_256, n_20000, m1_n0, m1_np, m1_n0p, m1_lt0, m1_lt0p, mi_setIA, mi_setI, ml_setIA, ml_setI, mr_setI, mr_setIA]
  · show pX11_rightNow_4 F ρ (fu + 1) (nI (msk (fun p => decide (Gt G p (sO G p d) = d p)) i)) (nI i) = pX11_rightNow_4 F ρ fu (nI (msk (fun p => decide (Gt G p (sO G p d) = d p)) (i + 1))) (nI (i + 1))
    have e1 := hd i hi2
    have e2 := hd2 i hi2
    have h4 := hw.h4 hi2
    have hs := sO_lt (p := i) hw hd2
    have ht := hw.t hi2 hs
    rw [pX11_rightNow_4, rX_players h, rX_situationOf h hw hF hi2 hd]
    simp (disch := omega) only [n_0, n_1, n_2, n_3, n_4, n_5, n_6, n_7, n_8, n_9, n_10, n_12, n_13, n_14, n_20, n_31, n_32, n_63, n_64, n_600, n_1024, n_4096, n_6157, n_add, n_mul, nm_def, Option.bind_some, Option.some.injEq, ck_in, ck_nz, ck_p, n_cl, n_lt, n_le, n_eq, n_div, n_rem, if_pos, if_neg, if_true, if_false, eq_self, n_192, n_256, n_20000, m1_n0, m1_np, m1_n0p, m1_lt0, m1_lt0p, mi_setIA, mi_setI, ml_setIA, ml_setI, mr_setI, mr_setIA, rX_entry h hw hi2 hs, e1]
    unfold pX11_rightNow_39
    simp (disch := omega) only [n_0, n_1, n_2, n_3, n_4, n_5, n_6, n_7, n_8, n_9, n_10, n_12, n_13, n_14, n_20, n_31, n_32, n_63, n_64, n_600, n_1024, n_4096, n_6157, n_add, n_mul, nm_def, Option.bind_some, Option.some.injEq, ck_in, ck_nz, ck_p, n_cl, n_lt, n_le, n_eq, n_div, n_rem, if_pos, if_neg, if_true, if_false, eq_self, n_192, n_256, n_20000, m1_n0, m1_np, m1_n0p, m1_lt0, m1_lt0p, mi_setIA, mi_setI, ml_setIA, ml_setI, mr_setI, mr_setIA, msk, n_shl1, n_or]
    by_cases z : Gt G i (sO G i d) = d i
    · simp [z]
    · simp [z]
theorem LC5_lays (ρ : Mem) (x : Nat) : LC5 (setIA ρ 5 (wr (ρ.1 5) 0 (Gn G) (fun p => nI (col G p x)))) G (fun q => col G q x) := fun q hq => by
  rw [mi_setIA, if_pos rfl, wr_in (Nat.zero_le _) hq]
def r56 (k : Nat) : Prop := k = 5 ∨ k = 6
/-- the row of who is right -/
def RR (ρ : Mem) (G : Gm) : Prop := ∀ x, x < ncol G → mi ρ 6 x = nI (rgt G x)
theorem rX_laysRight (h : RG ρ 1 G) (hw : WF G) (hF : 5000 < F) : ∃ ρ1, agr r56 ρ ρ1 ∧ RR ρ1 G ∧ pX11_laysRight F ρ = some ρ1 := by
  have hc := ncol_le hw
  have key := lp_inv (fun fu (s : Mem) i => pX11_laysRight_2 F fu s (nI i)) (fun s i => agr r56 ρ s ∧ ∀ x, x < i → mi s 6 x = nI (rgt G x)) (ncol G) (fun r => ∃ ρ1, agr r56 ρ ρ1 ∧ RR ρ1 G ∧ r = some ρ1)
    (fun fu s hI => by
      obtain ⟨b1, b2⟩ := hI
      have hR : RG s 1 G := h.agr b1 (by unfold r56; omega)
      refine ⟨s, b1, b2, ?_⟩
      show pX11_laysRight_2 F (fu + 1) s (nI (ncol G)) = _
      rw [pX11_laysRight_2, rX_colourings hR hw (by omega)]
      simp (disch := omega) only [n_0, n_1, n_2, n_3, n_4, n_5, n_6, n_7, n_8, n_9, n_10, n_12, n_13, n_14, n_20, n_31, n_32, n_63, n_64, n_600, n_1024, n_4096, n_6157, n_add, n_mul, nm_def, Option.bind_some, Option.some.injEq, ck_in, ck_nz, ck_p, n_cl, n_lt, n_le, n_eq, n_div, n_rem, if_pos, if_neg, if_true, if_false, eq_self, n_192, n_256, n_20000, m1_n0, m1_np, m1_n0p, m1_lt0, m1_lt0p, mi_setIA, mi_setI, ml_setIA, ml_setI, mr_setI, mr_setIA])
    (fun fu s i hi hI => by
      obtain ⟨b1, b2⟩ := hI
      have hR : RG s 1 G := h.agr b1 (by unfold r56; omega)
      have hR2 : RG (setIA s 5 (wr (s.1 5) 0 (Gn G) (fun p => nI (col G p i)))) 1 G := hR.set (by decide)
      refine ⟨setI (setIA s 5 (wr (s.1 5) 0 (Gn G) (fun p => nI (col G p i)))) 6 i (nI (rgt G i)), ⟨agr_trans b1 (agr_trans (agr_setIA (Or.inl rfl)) (agr_setI (Or.inr rfl))), fun x hx => ?_⟩, ?_⟩
      · rw [mi_setI]
        by_cases z : x = i
        · subst z; rw [if_pos ⟨rfl, rfl⟩]
        · rw [if_neg (fun y => z y.2), mi_setIA, if_neg (by decide)]
          exact b2 x (by omega)
      · show pX11_laysRight_2 F (fu + 1) s (nI i) = pX11_laysRight_2 F fu _ (nI (i + 1))
        rw [pX11_laysRight_2, rX_colourings hR hw (by omega), rX_lays hR hw (by omega) (by omega)]
        simp (disch := omega) only [n_0, n_1, n_2, n_3, n_4, n_5, n_6, n_7, n_8, n_9, n_10, n_12, n_13, n_14, n_20, n_31, n_32, n_63, n_64, n_600, n_1024, n_4096, n_6157, n_add, n_mul, nm_def, Option.bind_some, Option.some.injEq, ck_in, ck_nz, ck_p, n_cl, n_lt, n_le, n_eq, n_div, n_rem, if_pos, if_neg, if_true, if_false, eq_self, n_192, n_256, n_20000, m1_n0, m1_np, m1_n0p, m1_lt0, m1_lt0p, mi_setIA, mi_setI, ml_setIA, ml_setI, mr_setI, mr_setIA, rX_rightNow hR2 hw (show 100 < F by omega) (LC5_lays s i) (fun q hq => col_lt hw hq), rgC_col])
    F ρ 0 (by omega) (by omega) ⟨agr_rfl, fun x hx => by omega⟩
  exact key
theorem rX_lostBy {u : Nat} (h : RG ρ 1 G) (hw : WF G) (hF : 5000 < F) (hr : RR ρ G) (hu : u < 2147483648) : pX11_lostBy F ρ (nI u) = some (nI (nrt G u)) := by
  have hc := ncol_le hw
  unfold pX11_lostBy nrt
  refine lp_upE F (fun fu i => pX11_lostBy_4 F ρ (nI u) fu (nI (cnt (fun x => decide (rgt G x &&& u = 0)) i)) (nI i)) (0) (ncol G) _ _ rfl (fun fu => ?_) (fun fu i hi1 hi2 => ?_) (by omega) (by omega)
  · show pX11_lostBy_4 F ρ (nI u) (fu + 1) (nI (cnt (fun x => decide (rgt G x &&& u = 0)) (ncol G))) (nI (ncol G)) = _
    rw [pX11_lostBy_4, rX_colourings h hw (by omega)]
    simp (disch := omega) only [n_0, n_1, n_2, n_3, n_4, n_5, n_6, n_7, n_8, n_9, n_10, n_12, n_13, n_14, n_20, n_31, n_32, n_63, n_64, n_600, n_1024, n_4096, n_6157, n_add, n_mul, nm_def, Option.bind_some, Option.some.injEq, ck_in, ck_nz, ck_p, n_cl, n_lt, n_le, n_eq, n_div, n_rem, if_pos, if_neg, if_true, if_false, eq_self, n_192, n_256, n_20000, m1_n0, m1_np, m1_n0p, m1_lt0, m1_lt0p, mi_setIA, mi_setI, ml_setIA, ml_setI, mr_setI, mr_setIA]
  · show pX11_lostBy_4 F ρ (nI u) (fu + 1) (nI (cnt (fun x => decide (rgt G x &&& u = 0)) i)) (nI i) = pX11_lostBy_4 F ρ (nI u) fu (nI (cnt (fun x => decide (rgt G x &&& u = 0)) (i + 1))) (nI (i + 1))
    have hb : rgt G i &&& u ≤ u := Nat.and_le_right
    have e1 := hr i hi2
    rw [pX11_lostBy_4, rX_colourings h hw (by omega)]
    unfold pX11_lostBy_29
    simp (disch := omega) only [n_0, n_1, n_2, n_3, n_4, n_5, n_6, n_7, n_8, n_9, n_10, n_12, n_13, n_14, n_20, n_31, n_32, n_63, n_64, n_600, n_1024, n_4096, n_6157, n_add, n_mul, nm_def, Option.bind_some, Option.some.injEq, ck_in, ck_nz, ck_p, n_cl, n_lt, n_le, n_eq, n_div, n_rem, if_pos, if_neg, if_true, if_false, eq_self, n_192, n_256, n_20000, m1_n0, m1_np, m1_n0p, m1_lt0, m1_lt0p, mi_setIA, mi_setI, ml_setIA, ml_setI, mr_setI, mr_setIA, e1, n_and, cnt_s]
    by_cases z : rgt G i &&& u = 0
    · simp [z]
    · simp [z]
theorem and_all (hw : WF G) (x : Nat) : rgt G x &&& (2 ^ Gn G - 1) = rgt G x := by
  rw [Nat.and_two_pow_sub_one_eq_mod]
  exact Nat.mod_eq_of_lt (msk_lt _ _)
theorem nrt_all (hw : WF G) : nrt G (2 ^ Gn G - 1) = lst G := by
  unfold nrt lst
  exact cnt_congr (fun x _ => by rw [and_all hw])
theorem rX_lostNow (h : RG ρ 1 G) (hw : WF G) (hF : 5000 < F) : ∃ ρ1, agr r56 ρ ρ1 ∧ RR ρ1 G ∧ pX11_lostNow F ρ = some (nI (lst G), ρ1) := by
  obtain ⟨ρ1, a1, a2, a3⟩ := rX_laysRight h hw hF
  have hR : RG ρ1 1 G := h.agr a1 (by unfold r56; omega)
  have h64 := pow_le_64 hw.n6
  refine ⟨ρ1, a1, a2, ?_⟩
  unfold pX11_lostNow
  rw [a3, Option.bind_some, rX_all hR hw, Option.bind_some, rX_lostBy hR hw hF a2 (by omega), nrt_all hw]
  rfl
/-- colours of those one sees -/
theorem rX_laysSeen {s : Nat} (h : RG ρ 1 G) (hw : WF G) (hF : 100 < F) (hp : p < Gn G) (hs : s < 2147483648) : ∃ ρ1, agr (fun k => k = 5) ρ ρ1 ∧ (∀ q, q < Gn G → mi ρ1 5 q = if sees G p q then nI (cIn G p q s) else mi ρ 5 q) ∧ (∀ q, Gn G ≤ q → mi ρ1 5 q = mi ρ 5 q) ∧ pX11_laysSeen F ρ (nI p) (nI s) = some ρ1 := by
  have hn := hw.n6
  refine ⟨setIA ρ 5 (wr (ρ.1 5) 0 (Gn G) (fun q => if sees G p q then nI (cIn G p q s) else mi ρ 5 q)), agr_setIA rfl, fun q hq => by rw [mi_setIA, if_pos rfl, wr_in (Nat.zero_le _) hq], fun q hq => by rw [mi_setIA, if_pos rfl, wr_out (Or.inr hq)]; rfl, ?_⟩
  unfold pX11_laysSeen
  rw [rX_players h]
  simp (disch := omega) only [n_0, n_1, n_2, n_3, n_4, n_5, n_6, n_7, n_8, n_9, n_10, n_12, n_13, n_14, n_20, n_31, n_32, n_63, n_64, n_600, n_1024, n_4096, n_6157, n_add, n_mul, nm_def, Option.bind_some, Option.some.injEq, ck_in, ck_nz, ck_p, n_cl, n_lt, n_le, n_eq, n_div, n_rem, if_pos, if_neg, if_true, if_false, eq_self, n_192, n_256, n_20000, m1_n0, m1_np, m1_n0p, m1_lt0, m1_lt0p, mi_setIA, mi_setI, ml_setIA, ml_setI, mr_setI, mr_setIA, n_sub1]
  refine lp_dnE F (fun fu i => pX11_laysSeen_10 F (nI p) fu (setIA ρ 5 (wr (ρ.1 5) i (Gn G) (fun q => if sees G p q then nI (cIn G p q s) else mi ρ 5 q))) (nI (s / wB G p i)) (predI i)) (Gn G) _ _ ?_ (fun fu => ?_) (fun fu i hi => ?_) (by omega)
  · rw [setIA_wr0, wB_end _ (Nat.le_refl _), Nat.div_one]
  · show pX11_laysSeen_10 F (nI p) (fu + 1) (setIA ρ 5 (wr (ρ.1 5) 0 (Gn G) (fun q => if sees G p q then nI (cIn G p q s) else mi ρ 5 q))) (nI (s / wB G p 0)) (predI 0) = _
    rw [pX11_laysSeen_10]
    simp (disch := omega) only [n_0, n_1, n_2, n_3, n_4, n_5, n_6, n_7, n_8, n_9, n_10, n_12, n_13, n_14, n_20, n_31, n_32, n_63, n_64, n_600, n_1024, n_4096, n_6157, n_add, n_mul, nm_def, Option.bind_some, Option.some.injEq, ck_in, ck_nz, ck_p, n_cl, n_lt, n_le, n_eq, n_div, n_rem, if_pos, if_neg, if_true, if_false, eq_self, n_192, n_256, n_20000, m1_n0, m1_np, m1_n0p, m1_lt0, m1_lt0p, mi_setIA, mi_setI, ml_setIA, ml_setI, mr_setI, mr_setIA]
  · show pX11_laysSeen_10 F (nI p) (fu + 1) (setIA ρ 5 (wr (ρ.1 5) (i + 1) (Gn G) (fun q => if sees G p q then nI (cIn G p q s) else mi ρ 5 q))) (nI (s / wB G p (i + 1))) (predI (i + 1)) = pX11_laysSeen_10 F (nI p) fu (setIA ρ 5 (wr (ρ.1 5) i (Gn G) (fun q => if sees G p q then nI (cIn G p q s) else mi ρ 5 q))) (nI (s / wB G p i)) (predI i)
    have h1 := hw.h1 hi
    have h4 := hw.h4 hi
    have e1 := Nat.div_le_self s (wB G p (i + 1))
    have hR : ∀ f, RG (setIA ρ 5 f) 1 G := fun f => h.set (by decide)
    have e0 : wr (ρ.1 5) (i + 1) (Gn G) (fun q => if sees G p q then nI (cIn G p q s) else mi ρ 5 q) i = mi ρ 5 i := wr_out (Or.inl (Nat.lt_succ_self i))
    rw [pX11_laysSeen_10, predI_s, rX_sees (hR _) hw hp (by omega)]
    unfold pX11_laysSeen_52
    cases hc : sees G p i
    · simp (disch := omega) only [n_0, n_1, n_2, n_3, n_4, n_5, n_6, n_7, n_8, n_9, n_10, n_12, n_13, n_14, n_20, n_31, n_32, n_63, n_64, n_600, n_1024, n_4096, n_6157, n_add, n_mul, nm_def, Option.bind_some, Option.some.injEq, ck_in, ck_nz, ck_p, n_cl, n_lt, n_le, n_eq, n_div, n_rem, if_pos, if_neg, if_true, if_false, eq_self, n_192, n_256, n_20000, m1_n0, m1_np, m1_n0p, m1_lt0, m1_lt0p, mi_setIA, mi_setI, ml_setIA, ml_setI, mr_setI, mr_setIA, Bool.toNat_false]
      have e2 : wr (ρ.1 5) (i + 1) (Gn G) (fun q => if sees G p q then nI (cIn G p q s) else mi ρ 5 q) = wr (ρ.1 5) i (Gn G) (fun q => if sees G p q then nI (cIn G p q s) else mi ρ 5 q) := by
        funext y
        unfold wr
        by_cases z : y = i
        · subst z
          rw [if_neg (by omega), if_pos ⟨Nat.le_refl _, hi⟩]
          show _ = if sees G p y = true then nI (cIn G p y s) else mi ρ 5 y
          rw [hc]
          rfl
        · by_cases z2 : i + 1 ≤ y ∧ y < Gn G
          · rw [if_pos z2, if_pos ⟨by omega, z2.2⟩]
          · rw [if_neg z2, if_neg (by omega)]
      rw [e2, wB_step i hi, fac_f hc, Nat.one_mul]
    · simp (disch := omega) only [n_0, n_1, n_2, n_3, n_4, n_5, n_6, n_7, n_8, n_9, n_10, n_12, n_13, n_14, n_20, n_31, n_32, n_63, n_64, n_600, n_1024, n_4096, n_6157, n_add, n_mul, nm_def, Option.bind_some, Option.some.injEq, ck_in, ck_nz, ck_p, n_cl, n_lt, n_le, n_eq, n_div, n_rem, if_pos, if_neg, if_true, if_false, eq_self, n_192, n_256, n_20000, m1_n0, m1_np, m1_n0p, m1_lt0, m1_lt0p, mi_setIA, mi_setI, ml_setIA, ml_setI, mr_setI, mr_setIA, Bool.toNat_true, rX_hats (hR _) hw hi]
      rw [show s / wB G p (i + 1) % Gh G i = cIn G p i s from rfl, setI_wr_dn hi (v := fun q => if sees G p q then nI (cIn G p q s) else mi ρ 5 q) (by rw [hc]; rfl), rX_hats (hR _) hw hi]
      simp (disch := omega) only [n_0, n_1, n_2, n_3, n_4, n_5, n_6, n_7, n_8, n_9, n_10, n_12, n_13, n_14, n_20, n_31, n_32, n_63, n_64, n_600, n_1024, n_4096, n_6157, n_add, n_mul, nm_def, Option.bind_some, Option.some.injEq, ck_in, ck_nz, ck_p, n_cl, n_lt, n_le, n_eq, n_div, n_rem, if_pos, if_neg, if_true, if_false, eq_self, n_192, n_256, n_20000, m1_n0, m1_np, m1_n0p, m1_lt0, m1_lt0p, mi_setIA, mi_setI, ml_setIA, ml_setI, mr_setI, mr_setIA]
      rw [Nat.div_div_eq_div_mul, Nat.mul_comm _ (Gh G i), wB_step i hi, fac_t hc]
end R2
