/-! CALLS: best tables -/
section CB
variable {κ ρ : Mem} {G : Gm} {H : Nat → Gm} {m F p q u : Nat} {a b : Int32}
theorem agr568 {s : Mem} (h : agr r568 ρ s) : agr scR ρ s := agr_mono h (fun k hk => by unfold scR; unfold r568 at hk; omega)
theorem agr5253 {s : Mem} (h : agr (fun k => k = 52 ∨ k = 53) κ s) : agr scX κ s := agr_mono h (fun k hk => by unfold scX; omega)
theorem c_best (h : IV G H m κ ρ) (hF : 50000 < F) (a : Int32) : Res (pX10_best F κ a) (pX11_best F ρ a) := by
  have hw := h.W
  unfold pX10_best pX11_best pX11_best_14 pX10_best_28 pX11_best_29
  rw [x_noPlayer h.A hw, rX_isPlayer h.R hw]
  by_cases c : ag a < Gn G
  · obtain ⟨p, hp, rfl, -⟩ := ply hw c
    obtain ⟨κ1, a1, a2, a3⟩ := sX1_weighBest (F := F) h.A h.J hw (by omega) hp
    obtain ⟨ρ1, b1, b2, b3⟩ := rX_lostWithBest (F := F) (R0 h (k := 0)) hw (by omega) hp
    rw [decide_eq_true c]
    simp only [x_give, x_refuse, rX_refuse, rX_is0, rX_is1, rX_is2, rX_is3, rX_is4, rX_is5, rX_is7, nBt, nBf, o10, Bool.not_true, Bool.not_false, if_true, if_false, eq_self, Option.bind_some, a3, b3]
    exact res_ok h (agr5253 a1) (agr568 b1)
  · rw [decide_eq_false c]
    simp only [x_give, x_refuse, rX_refuse, rX_is0, rX_is1, rX_is2, rX_is3, rX_is4, rX_is5, rX_is7, nBt, nBf, o10, Bool.not_true, Bool.not_false, if_true, if_false, eq_self, Option.bind_some]
    exact res_no h agr_rfl agr_rfl
theorem c_bestAt (h : IV G H m κ ρ) (hF : 50000 < F) (a b : Int32) : Res (pX10_bestAt F κ a b) (pX11_bestAt F ρ a b) := by
  have hw := h.W
  unfold pX10_bestAt pX11_bestAt pX11_bestAt_15
  rw [x_noSituation h.A hw (by omega), rX_isSituation h.R hw (by omega)]
  cases hc : isS G a b
  · simp only [x_give, x_refuse, rX_refuse, rX_is0, rX_is1, rX_is2, rX_is3, rX_is4, rX_is5, rX_is7, nBt, nBf, o10, Bool.not_true, Bool.not_false, if_true, if_false, eq_self, Option.bind_some]
    exact res_no h agr_rfl agr_rfl
  · obtain ⟨p, s, hp, hs, rfl, rfl⟩ := isS_t hw hc
    have hs2 := sit_le hw hp
    obtain ⟨κ1, a1, a2, a3⟩ := sX1_weighBest (F := F) h.A h.J hw (by omega) hp
    obtain ⟨ρ1, b1, b2, b3⟩ := rX_laysLone (F := F) (R0 h (k := 0)) hw (by omega) hp
    have hR1 : RG ρ1 1 G := (R0 h (k := 0)).agr b1 (by unfold r568; omega)
    have e3 : ∀ y : Option (Int32 × Mem), ckI (nI s) 1024 y = y := fun y => ck_in (by omega) (by decide)
    have e4 : (nI s).toNatClampNeg = s := n_cl (by omega)
    simp only [x_give, x_refuse, rX_refuse, rX_is0, rX_is1, rX_is2, rX_is3, rX_is4, rX_is5, rX_is7, nBt, nBf, o10, Bool.not_true, Bool.not_false, if_true, if_false, eq_self, Option.bind_some, a3, b3, e3, e4, a2 s hs, rX_bestIn hR1 hw (show 100 < F by omega) hp b2 hs]
    exact res_ok h (agr5253 a1) (agr568 b1)
/-- by whose best fewest are lost: how few, and one more than who -/
def btd (G : Gm) : Nat → Nat × Nat
  | 0 => (4097, 0)
  | p + 1 => if lw G p < (btd G p).1 then (lw G p, p + 1) else btd G p
theorem lw_le (hw : WF G) : lw G p ≤ 4096 := Nat.le_trans (Nat.sub_le _ _) (cnt_n hw _)
theorem btd_le (hw : WF G) : ∀ p, (btd G p).1 ≤ 4097 ∧ (btd G p).2 ≤ p ∧ (0 < p → 0 < (btd G p).2)
  | 0 => ⟨Nat.le_refl _, Nat.le_refl _, fun h => by omega⟩
  | p + 1 => by
    obtain ⟨h1, h2, h3⟩ := btd_le hw p
    have h4 := lw_le (p := p) hw
    rw [btd]
    split
    · exact ⟨by show lw G p ≤ 4097; omega, by show p + 1 ≤ p + 1; omega, fun _ => by show 0 < p + 1; omega⟩
    · rename_i c
      refine ⟨h1, by omega, fun _ => ?_⟩
      rcases Nat.eq_zero_or_pos p with z | z
      · subst z
        exact absurd (show lw G 0 < 4097 by omega) c
      · exact h3 z
theorem A5253 {s : Mem} (h : AR κ G) (hw : WF G) (ha : agr (fun k => k = 52 ∨ k = 53) κ s) : AR s G := h.agr hw ha (fun k hk => by omega)
theorem J5253 {s : Mem} (h : JD κ G) (ha : agr (fun k => k = 52 ∨ k = 53) κ s) : JD s G := ⟨fun x hx => by rw [agr_mi ha (by omega)]; exact h.r hx, fun w hw => by rw [agr_mi ha (by omega)]; exact h.b hw⟩
theorem xB_bettered (h : AR κ G) (hj : JD κ G) (hw : WF G) (hF : 5000 < F) (h0 : Gn G ≠ 0) : ∃ κ1, agr (fun k => k = 52 ∨ k = 53) κ κ1 ∧ pX10_bettered_8 F F κ (-1) 4097 0 = some (nI ((btd G (Gn G)).2 - 1), setI κ1 0 12 0) := by
  have hn := hw.n6
  refine lp_memK (fun fu s i => pX10_bettered_8 F fu s (predI (btd G i).2) (nI (btd G i).1) (nI i)) (Gn G) (fun s => some (nI ((btd G (Gn G)).2 - 1), setI s 0 12 0)) (fun fu s hI => ?_) (fun fu s i hi hI => ?_) (by omega)
  · have hle := btd_le hw (Gn G)
    have hA := (A5253 h hw hI).n
    have hp := hle.2.2 (by omega)
    have e1 : predI (btd G (Gn G)).2 = nI ((btd G (Gn G)).2 - 1) := by
      cases h9 : (btd G (Gn G)).2 with
      | zero => omega
      | succ k => rfl
    show pX10_bettered_8 F (fu + 1) s (predI (btd G (Gn G)).2) _ (nI (Gn G)) = _
    rw [pX10_bettered_8, hA, e1]
    unfold pX10_bettered_64
    simp (disch := omega) only [n_0, n_1, n_2, n_3, n_4, n_5, n_6, n_7, n_8, n_9, n_10, n_12, n_13, n_14, n_20, n_31, n_32, n_63, n_64, n_600, n_1024, n_4096, n_6157, n_add, n_mul, nm_def, Option.bind_some, Option.some.injEq, ck_in, ck_nz, ck_p, n_cl, n_lt, n_le, n_eq, n_div, n_rem, if_pos, if_neg, if_true, if_false, eq_self, n_192, n_256, n_20000, m1_n0, m1_np, m1_n0p, m1_lt0, m1_lt0p, mi_setIA, mi_setI, ml_setIA, ml_setI, mr_setI, mr_setIA, x_give, nI_ne_p0]
  · have hA := A5253 h hw hI
    have hJ := J5253 hj hI
    have hle := btd_le hw i
    have hll := lw_le (p := i) hw
    obtain ⟨s1, a1, a2, a3⟩ := sX1_weighBest (F := F) hA hJ hw hF hi
    refine ⟨s1, agr_trans hI a1, ?_⟩
    show pX10_bettered_8 F (fu + 1) s (predI (btd G i).2) (nI (btd G i).1) (nI i) = pX10_bettered_8 F fu s1 (predI (btd G (i + 1)).2) (nI (btd G (i + 1)).1) (nI (i + 1))
    rw [pX10_bettered_8, hA.n, a3, btd]
    unfold pX10_bettered_40
    simp (disch := omega) only [n_0, n_1, n_2, n_3, n_4, n_5, n_6, n_7, n_8, n_9, n_10, n_12, n_13, n_14, n_20, n_31, n_32, n_63, n_64, n_600, n_1024, n_4096, n_6157, n_add, n_mul, nm_def, Option.bind_some, Option.some.injEq, ck_in, ck_nz, ck_p, n_cl, n_lt, n_le, n_eq, n_div, n_rem, if_pos, if_neg, if_true, if_false, eq_self, n_192, n_256, n_20000, m1_n0, m1_np, m1_n0p, m1_lt0, m1_lt0p, mi_setIA, mi_setI, ml_setIA, ml_setI, mr_setI, mr_setIA]
    by_cases c : lw G i < (btd G i).1
    · rw [if_pos c, if_pos c]
      rfl
    · rw [if_neg c, if_neg c]
theorem rB_bettered (h : RG ρ 1 G) (hw : WF G) (hF : 5000 < F) : ∃ ρ1, agr r568 ρ ρ1 ∧ pX11_bettered_29 F F ρ 0 4097 0 = some (nI ((btd G (Gn G)).2 - 1), ρ1) := by
  have hn := hw.n6
  refine lp_memK (fun fu s i => pX11_bettered_29 F fu s (nI ((btd G i).2 - 1)) (nI (btd G i).1) (nI i)) (Gn G) (fun s => some (nI ((btd G (Gn G)).2 - 1), s)) (fun fu s hI => ?_) (fun fu s i hi hI => ?_) (by omega)
  · show pX11_bettered_29 F (fu + 1) s _ _ (nI (Gn G)) = _
    rw [pX11_bettered_29, rX_players (h.agr hI (by unfold r568; omega))]
    simp (disch := omega) only [n_0, n_1, n_2, n_3, n_4, n_5, n_6, n_7, n_8, n_9, n_10, n_12, n_13, n_14, n_20, n_31, n_32, n_63, n_64, n_600, n_1024, n_4096, n_6157, n_add, n_mul, nm_def, Option.bind_some, Option.some.injEq, ck_in, ck_nz, ck_p, n_cl, n_lt, n_le, n_eq, n_div, n_rem, if_pos, if_neg, if_true, if_false, eq_self, n_192, n_256, n_20000, m1_n0, m1_np, m1_n0p, m1_lt0, m1_lt0p, mi_setIA, mi_setI, ml_setIA, ml_setI, mr_setI, mr_setIA]
  · have hR : RG s 1 G := h.agr hI (by unfold r568; omega)
    have hle := btd_le hw i
    have hll := lw_le (p := i) hw
    obtain ⟨s1, a1, a2, a3⟩ := rX_lostWithBest (F := F) hR hw hF hi
    refine ⟨s1, agr_trans hI a1, ?_⟩
    show pX11_bettered_29 F (fu + 1) s _ _ (nI i) = pX11_bettered_29 F fu s1 (nI ((btd G (i + 1)).2 - 1)) (nI (btd G (i + 1)).1) (nI (i + 1))
    rw [pX11_bettered_29, rX_players hR, a3, btd]
    unfold pX11_bettered_58
    simp (disch := omega) only [n_0, n_1, n_2, n_3, n_4, n_5, n_6, n_7, n_8, n_9, n_10, n_12, n_13, n_14, n_20, n_31, n_32, n_63, n_64, n_600, n_1024, n_4096, n_6157, n_add, n_mul, nm_def, Option.bind_some, Option.some.injEq, ck_in, ck_nz, ck_p, n_cl, n_lt, n_le, n_eq, n_div, n_rem, if_pos, if_neg, if_true, if_false, eq_self, n_192, n_256, n_20000, m1_n0, m1_np, m1_n0p, m1_lt0, m1_lt0p, mi_setIA, mi_setI, ml_setIA, ml_setI, mr_setI, mr_setIA]
    by_cases c : lw G i < (btd G i).1
    · rw [if_pos c, if_pos c]
      rfl
    · rw [if_neg c, if_neg c]
theorem c_bettered (h : IV G H m κ ρ) (hF : 50000 < F) : Res (pX10_bettered F κ) (pX11_bettered F ρ) := by
  have hw := h.W
  have hn := hw.n6
  unfold pX10_bettered pX11_bettered pX11_bettered_13
  rw [rX_players h.R]
  by_cases z : Gn G = 0
  · have e1 : pX10_bettered_8 F F κ (-1) 4097 0 = some (-1, setI κ 0 12 5) := by
      cases F with
      | zero => omega
      | succ F =>
        have e0 := h.A.n
        rw [z] at e0
        rw [pX10_bettered_8, e0]
        unfold pX10_bettered_64
        simp (disch := omega) only [n_0, n_1, n_2, n_3, n_4, n_5, n_6, n_7, n_8, n_9, n_10, n_12, n_13, n_14, n_20, n_31, n_32, n_63, n_64, n_600, n_1024, n_4096, n_6157, n_add, n_mul, nm_def, Option.bind_some, Option.some.injEq, ck_in, ck_nz, ck_p, n_cl, n_lt, n_le, n_eq, n_div, n_rem, if_pos, if_neg, if_true, if_false, eq_self, n_192, n_256, n_20000, m1_n0, m1_np, m1_n0p, m1_lt0, m1_lt0p, mi_setIA, mi_setI, ml_setIA, ml_setI, mr_setI, mr_setIA, x_refuse]
    rw [e1, z]
    simp only [x_give, x_refuse, rX_refuse, rX_is0, rX_is1, rX_is2, rX_is3, rX_is4, rX_is5, rX_is7, nBt, nBf, o10, Bool.not_true, Bool.not_false, if_true, if_false, eq_self, Option.bind_some, show (nI 0 = (0 : Int32)) = True from eq_true rfl]
    exact res_no h agr_rfl agr_rfl
  · have z2 : ¬ nI (Gn G) = 0 := nI_nz (by omega) z
    obtain ⟨κ1, a1, a2⟩ := xB_bettered (F := F) h.A h.J hw (by omega) z
    obtain ⟨ρ1, b1, b2⟩ := rB_bettered (F := F) (R0 h (k := 0)) hw (by omega)
    rw [Option.bind_some, if_neg z2, a2]
    simp only [x_give, x_refuse, rX_refuse, rX_is0, rX_is1, rX_is2, rX_is3, rX_is4, rX_is5, rX_is7, nBt, nBf, o10, Bool.not_true, Bool.not_false, if_true, if_false, eq_self, Option.bind_some, b2]
    exact res_ok h (agr5253 a1) (agr568 b1)
end CB
/-! THE REFERENCE: what is remembered; acts -/
/-- what has been done, oldest first: one more, of six at the most -/
def hpush (H : Nat → Gm) (m : Nat) (G : Gm) : Nat → Gm := fun j => if m < 6 then (if j = m then G else H j) else (if j = 5 then G else H (j + 1))
def hm1 (m : Nat) : Nat := if m < 6 then m + 1 else 6
section RA
variable {ρ ρ1 : Mem} {G G2 : Gm} {H : Nat → Gm} {m F p q c : Nat} {t : Nat → Nat → Nat}
theorem rX_copies {r1 r2 : Nat} (hne : r1 ≠ r2) (h1 : lenM r1 = 6157) (h2 : lenM r2 = 6157) (hF : 7000 < F) : pX11_copies F r1 r2 ρ = some (setIA ρ r2 (wr (ρ.1 r2) 0 6157 (ρ.1 r1))) := by
  unfold pX11_copies
  refine lp_upE F (fun fu i => pX11_copies_2 F r1 r2 fu (setIA ρ r2 (wr (ρ.1 r2) 0 i (ρ.1 r1))) (nI i)) (0) (6157) _ _ ?_ (fun fu => ?_) (fun fu i hi1 hi2 => ?_) (by omega) (by omega)
  · rw [setIA_wr0]; rfl
  · show pX11_copies_2 F r1 r2 (fu + 1) (setIA ρ r2 (wr (ρ.1 r2) 0 (6157) (ρ.1 r1))) (nI (6157)) = _
    rw [pX11_copies_2]
    simp (disch := omega) only [n_0, n_1, n_2, n_3, n_4, n_5, n_6, n_7, n_8, n_9, n_10, n_12, n_13, n_14, n_20, n_31, n_32, n_63, n_64, n_600, n_1024, n_4096, n_6157, n_add, n_mul, nm_def, Option.bind_some, Option.some.injEq, ck_in, ck_nz, ck_p, n_cl, n_lt, n_le, n_eq, n_div, n_rem, if_pos, if_neg, if_true, if_false, eq_self, n_192, n_256, n_20000, m1_n0, m1_np, m1_n0p, m1_lt0, m1_lt0p, mi_setIA, mi_setI, ml_setIA, ml_setI, mr_setI, mr_setIA]
  · show pX11_copies_2 F r1 r2 (fu + 1) (setIA ρ r2 (wr (ρ.1 r2) 0 i (ρ.1 r1))) (nI i) = pX11_copies_2 F r1 r2 fu (setIA ρ r2 (wr (ρ.1 r2) 0 (i + 1) (ρ.1 r1))) (nI (i + 1))
    rw [pX11_copies_2, h1, h2]
    simp (disch := omega) only [n_0, n_1, n_2, n_3, n_4, n_5, n_6, n_7, n_8, n_9, n_10, n_12, n_13, n_14, n_20, n_31, n_32, n_63, n_64, n_600, n_1024, n_4096, n_6157, n_add, n_mul, nm_def, Option.bind_some, Option.some.injEq, ck_in, ck_nz, ck_p, n_cl, n_lt, n_le, n_eq, n_div, n_rem, if_pos, if_neg, if_true, if_false, eq_self, n_192, n_256, n_20000, m1_n0, m1_np, m1_n0p, m1_lt0, m1_lt0p, mi_setIA, mi_setI, ml_setIA, ml_setI, mr_setI, mr_setIA, hne]
    rw [show mi ρ r1 i = ρ.1 r1 i from rfl, setI_wr_up (v := ρ.1 r1) (Nat.zero_le _) rfl]
theorem RG_copied {r1 r2 : Nat} (h : RG ρ r1 G) (hw : WF G) : RG (setIA ρ r2 (wr (ρ.1 r2) 0 6157 (ρ.1 r1))) r2 G := by
  refine ⟨?_, fun p hp => ?_, fun p hp => ?_, fun p hp σ hs => ?_⟩
  · rw [mi_setIA, if_pos rfl, wr_in (Nat.zero_le _) (by decide)]; exact h.1
  · have := hw_lt hw hp
    rw [mi_setIA, if_pos rfl, wr_in (Nat.zero_le _) (by omega)]; exact h.h hp
  · have := hw_lt hw hp
    rw [mi_setIA, if_pos rfl, wr_in (Nat.zero_le _) (by omega)]; exact h.s hp
  · have := hw_lt hw hp
    have := sit_le hw hp
    rw [mi_setIA, if_pos rfl, wr_in (Nat.zero_le _) (by omega)]; exact h.t hp hs
/-- two cells alike where the game lies -/
theorem RG_eq {r : Nat} (h : RG ρ c G) (hw : WF G) (he : ∀ i, i < 6157 → mi ρ1 r i = mi ρ c i) : RG ρ1 r G := by
  refine ⟨(he 0 (by decide)).trans h.1, fun p hp => ?_, fun p hp => ?_, fun p hp σ hs => ?_⟩
  · have := hw_lt hw hp
    rw [he _ (by omega)]; exact h.h hp
  · have := hw_lt hw hp
    rw [he _ (by omega)]; exact h.s hp
  · have := hw_lt hw hp
    have := sit_le hw hp
    rw [he _ (by omega)]; exact h.t hp hs
theorem RP_of {o : Nat} (h : RG ρ c G) (hw : WF G) (he : ∀ i, i < 6157 → mi ρ1 3 (o + i) = mi ρ c i) : RP ρ1 o G := by
  refine ⟨(he 0 (by decide)).trans h.1, fun p hp => ?_, fun p hp => ?_, fun p hp σ hs => ?_⟩
  · have := hw_lt hw hp
    rw [he _ (by omega)]; exact h.h hp
  · have := hw_lt hw hp
    rw [he _ (by omega)]; exact h.s hp
  · have := hw_lt hw hp
    have := sit_le hw hp
    rw [he _ (by omega)]; exact h.t hp hs
theorem RP_mv {o o2 : Nat} (h : RP ρ o G) (hw : WF G) (he : ∀ i, i < 6157 → mi ρ1 3 (o2 + i) = mi ρ 3 (o + i)) : RP ρ1 o2 G := by
  refine ⟨(he 0 (by decide)).trans h.1, fun p hp => ?_, fun p hp => ?_, fun p hp σ hs => ?_⟩
  · have := hw_lt hw hp
    rw [he _ (by omega)]; exact h.2.1 p hp
  · have := hw_lt hw hp
    rw [he _ (by omega)]; exact h.2.2.1 p hp
  · have := hw_lt hw hp
    have := sit_le hw hp
    rw [he _ (by omega)]; exact h.2.2.2 p hp σ hs
theorem RG_RP {o : Nat} (h : RP ρ o G) (hw : WF G) (he : ∀ i, i < 6157 → mi ρ1 c i = mi ρ 3 (o + i)) : RG ρ1 c G := by
  refine ⟨(he 0 (by decide)).trans h.1, fun p hp => ?_, fun p hp => ?_, fun p hp σ hs => ?_⟩
  · have := hw_lt hw hp
    rw [he _ (by omega)]; exact h.2.1 p hp
  · have := hw_lt hw hp
    rw [he _ (by omega)]; exact h.2.2.1 p hp
  · have := hw_lt hw hp
    have := sit_le hw hp
    rw [he _ (by omega)]; exact h.2.2.2 p hp σ hs
/-- kept: all that no act and no question of the reference changes -/
def kpR (ρ ρ1 : Mem) : Prop := (∀ k, 12 ≤ k → ρ1.1 k = ρ.1 k ∧ ρ1.2.1 k = ρ.2.1 k ∧ ρ1.2.2 k = ρ.2.2 k) ∧ ∀ i, i ≠ 6 → mi ρ1 0 i = mi ρ 0 i
theorem kpR_rfl : kpR ρ ρ := ⟨fun _ _ => ⟨rfl, rfl, rfl⟩, fun _ _ => rfl⟩
theorem kpR_trans {ρ2 : Mem} (h : kpR ρ ρ1) (h2 : kpR ρ1 ρ2) : kpR ρ ρ2 := ⟨fun k hk => ⟨(h2.1 k hk).1.trans (h.1 k hk).1, (h2.1 k hk).2.1.trans (h.1 k hk).2.1, (h2.1 k hk).2.2.trans (h.1 k hk).2.2⟩, fun i hi => (h2.2 i hi).trans (h.2 i hi)⟩
theorem kpR_of {S : Nat → Prop} (h : agr S ρ ρ1) (hS : ∀ k, S k → k ≠ 0 ∧ k < 12) : kpR ρ ρ1 :=
  ⟨fun k hk => h k (fun z => by have := hS k z; omega), fun i _ => agr_mi h (fun z => (hS 0 z).1 rfl) i⟩
theorem rX_remembers_52 {m : Nat} (hm : m < 6) (hs : mi ρ 0 6 = nI m) (hF : 7000 < F) : pX11_remembers_52 F F ρ 0 = some (setI (setIA ρ 3 (wr (ρ.1 3) (6157 * m) (6157 * m + 6157) (fun y => ρ.1 1 (y - 6157 * m)))) 0 6 (nI (m + 1))) := by
  refine lp_upE F (fun fu i => pX11_remembers_52 F fu (setIA ρ 3 (wr (ρ.1 3) (6157 * m) (6157 * m + i) (fun y => ρ.1 1 (y - 6157 * m)))) (nI i)) (0) (6157) _ _ ?_ (fun fu => ?_) (fun fu i hi1 hi2 => ?_) (by omega) (by omega)
  · rw [Nat.add_zero, setIA_wr0]; rfl
  · show pX11_remembers_52 F (fu + 1) (setIA ρ 3 (wr (ρ.1 3) (6157 * m) (6157 * m + (6157)) (fun y => ρ.1 1 (y - 6157 * m)))) (nI (6157)) = _
    rw [pX11_remembers_52]
    simp (disch := omega) only [n_0, n_1, n_2, n_3, n_4, n_5, n_6, n_7, n_8, n_9, n_10, n_12, n_13, n_14, n_20, n_31, n_32, n_63, n_64, n_600, n_1024, n_4096, n_6157, n_add, n_mul, nm_def, Option.bind_some, Option.some.injEq, ck_in, ck_nz, ck_p, n_cl, n_lt, n_le, n_eq, n_div, n_rem, if_pos, if_neg, if_true, if_false, eq_self, n_192, n_256, n_20000, m1_n0, m1_np, m1_n0p, m1_lt0, m1_lt0p, mi_setIA, mi_setI, ml_setIA, ml_setI, mr_setI, mr_setIA, hs]
  · show pX11_remembers_52 F (fu + 1) (setIA ρ 3 (wr (ρ.1 3) (6157 * m) (6157 * m + i) (fun y => ρ.1 1 (y - 6157 * m)))) (nI i) = pX11_remembers_52 F fu (setIA ρ 3 (wr (ρ.1 3) (6157 * m) (6157 * m + (i + 1)) (fun y => ρ.1 1 (y - 6157 * m)))) (nI (i + 1))
    rw [pX11_remembers_52]
    simp (disch := omega) only [n_0, n_1, n_2, n_3, n_4, n_5, n_6, n_7, n_8, n_9, n_10, n_12, n_13, n_14, n_20, n_31, n_32, n_63, n_64, n_600, n_1024, n_4096, n_6157, n_add, n_mul, nm_def, Option.bind_some, Option.some.injEq, ck_in, ck_nz, ck_p, n_cl, n_lt, n_le, n_eq, n_div, n_rem, if_pos, if_neg, if_true, if_false, eq_self, n_192, n_256, n_20000, m1_n0, m1_np, m1_n0p, m1_lt0, m1_lt0p, mi_setIA, mi_setI, ml_setIA, ml_setI, mr_setI, mr_setIA, hs]
    rw [setI_wr_up (v := fun y => ρ.1 1 (y - 6157 * m)) (by omega) (by show _ = ρ.1 1 (6157 * m + i - 6157 * m); rw [show 6157 * m + i - 6157 * m = i by omega]; rfl)]
    rfl
theorem rX_remembers_11 (hs : mi ρ 0 6 = nI 6) (hF : 40000 < F) : pX11_remembers_11 F F ρ 0 = pX11_remembers_50 F (setI (setIA ρ 3 (wr (ρ.1 3) 0 30785 (fun y => ρ.1 3 (y + 6157)))) 0 6 (nI 5)) := by
  refine lp_upE F (fun fu i => pX11_remembers_11 F fu (setIA ρ 3 (wr (ρ.1 3) 0 i (fun y => ρ.1 3 (y + 6157)))) (nI i)) (0) (30785) _ _ ?_ (fun fu => ?_) (fun fu i hi1 hi2 => ?_) (by omega) (by omega)
  · rw [setIA_wr0]; rfl
  · show pX11_remembers_11 F (fu + 1) (setIA ρ 3 (wr (ρ.1 3) 0 (30785) (fun y => ρ.1 3 (y + 6157)))) (nI (30785)) = _
    have e1 : (30785 : Int32) = nI 30785 := rfl
    rw [pX11_remembers_11]
    simp (disch := omega) only [n_0, n_1, n_2, n_3, n_4, n_5, n_6, n_7, n_8, n_9, n_10, n_12, n_13, n_14, n_20, n_31, n_32, n_63, n_64, n_600, n_1024, n_4096, n_6157, n_add, n_mul, nm_def, Option.bind_some, Option.some.injEq, ck_in, ck_nz, ck_p, n_cl, n_lt, n_le, n_eq, n_div, n_rem, if_pos, if_neg, if_true, if_false, eq_self, n_192, n_256, n_20000, m1_n0, m1_np, m1_n0p, m1_lt0, m1_lt0p, mi_setIA, mi_setI, ml_setIA, ml_setI, mr_setI, mr_setIA, hs, e1, n_sub]
  · show pX11_remembers_11 F (fu + 1) (setIA ρ 3 (wr (ρ.1 3) 0 i (fun y => ρ.1 3 (y + 6157)))) (nI i) = pX11_remembers_11 F fu (setIA ρ 3 (wr (ρ.1 3) 0 (i + 1) (fun y => ρ.1 3 (y + 6157)))) (nI (i + 1))
    have e1 : (30785 : Int32) = nI 30785 := rfl
    have e2 : wr (ρ.1 3) 0 i (fun y => ρ.1 3 (y + 6157)) (i + 6157) = ρ.1 3 (i + 6157) := wr_out (Or.inr (by omega))
    rw [pX11_remembers_11]
    simp (disch := omega) only [n_0, n_1, n_2, n_3, n_4, n_5, n_6, n_7, n_8, n_9, n_10, n_12, n_13, n_14, n_20, n_31, n_32, n_63, n_64, n_600, n_1024, n_4096, n_6157, n_add, n_mul, nm_def, Option.bind_some, Option.some.injEq, ck_in, ck_nz, ck_p, n_cl, n_lt, n_le, n_eq, n_div, n_rem, if_pos, if_neg, if_true, if_false, eq_self, n_192, n_256, n_20000, m1_n0, m1_np, m1_n0p, m1_lt0, m1_lt0p, mi_setIA, mi_setI, ml_setIA, ml_setI, mr_setI, mr_setIA, hs, e1, e2]
    rw [setI_wr_up (v := fun y => ρ.1 3 (y + 6157)) (Nat.zero_le _) rfl]
theorem rX_remembers (h : RG ρ 1 G) (hw : WF G) (hh : IHr ρ H m) (hm : m ≤ 6) (hH : ∀ j, j < m → WF (H j)) (hF : 40000 < F) : ∃ ρ1, pX11_remembers F ρ = some ρ1 ∧ IHr ρ1 (hpush H m G) (hm1 m) ∧ kpR ρ ρ1 ∧ ∀ k, k ≠ 0 → k ≠ 3 → ρ1.1 k = ρ.1 k := by
  obtain ⟨h1, h2⟩ := hh
  have e6 : (mi ρ 0 6 = 6) = (m = 6) := by rw [h1, n_6, n_eq (by omega) (by decide)]
  unfold pX11_remembers
  rcases Nat.lt_or_ge m 6 with c | c
  · refine ⟨setI (setIA ρ 3 (wr (ρ.1 3) (6157 * m) (6157 * m + 6157) (fun y => ρ.1 1 (y - 6157 * m)))) 0 6 (nI (m + 1)), ?_, ⟨?_, fun j hj => ?_⟩, ⟨fun k hk => ⟨by simp [setI, setIA, show k ≠ 0 by omega, show k ≠ 3 by omega], rfl, rfl⟩, fun i hi => ?_⟩, fun k h0 h3 => by simp [setI, setIA, h0, h3]⟩
    · simp only [e6]
      rw [if_neg (by omega)]
      unfold pX11_remembers_50
      exact rX_remembers_52 c h1 (by omega)
    · unfold hm1
      rw [mi_setI, if_pos ⟨rfl, rfl⟩, if_pos c]
    · unfold hm1 at hj
      rw [if_pos c] at hj
      unfold hpush
      rw [if_pos c]
      by_cases e : j = m
      · subst e
        rw [if_pos rfl]
        refine RP_of h hw (fun i hi => ?_)
        rw [mi_setI, if_neg (by omega), mi_setIA, if_pos rfl, wr_in (by omega) (by omega), show 6157 * j + i - 6157 * j = i by omega]
        rfl
      · rw [if_neg e]
        refine RP_mv (h2 j (by omega)) (hH j (by omega)) (fun i hi => ?_)
        rw [mi_setI, if_neg (by omega), mi_setIA, if_pos rfl, wr_out (Or.inl (by omega))]
        rfl
    · rw [mi_setI, if_neg (fun z => hi z.2), mi_setIA, if_neg (by omega)]
  · have e : m = 6 := by omega
    subst e
    obtain ⟨s0, e0⟩ : ∃ s0, s0 = setI (setIA ρ 3 (wr (ρ.1 3) 0 30785 (fun y => ρ.1 3 (y + 6157)))) 0 6 (nI 5) := ⟨_, rfl⟩
    have hs0 : mi s0 0 6 = nI 5 := by rw [e0, mi_setI, if_pos ⟨rfl, rfl⟩]
    have e3 : ∀ i, mi s0 3 i = if i < 30785 then mi ρ 3 (i + 6157) else mi ρ 3 i := fun i => by
      rw [e0, mi_setI, if_neg (by omega), mi_setIA, if_pos rfl]
      unfold wr
      by_cases z : i < 30785
      · rw [if_pos ⟨Nat.zero_le _, z⟩, if_pos z]; rfl
      · rw [if_neg (by omega), if_neg z]; rfl
    have e1 : ∀ k, k ≠ 0 → k ≠ 3 → s0.1 k = ρ.1 k := fun k h0 h3 => by rw [e0]; simp [setI, setIA, h0, h3]
    have e12 : ∀ k, s0.2.1 k = ρ.2.1 k ∧ s0.2.2 k = ρ.2.2 k := fun k => by rw [e0]; exact ⟨rfl, rfl⟩
    have er := rX_remembers_52 (F := F) (m := 5) (by decide) hs0 (by omega)
    refine ⟨setI (setIA s0 3 (wr (s0.1 3) (6157 * 5) (6157 * 5 + 6157) (fun y => s0.1 1 (y - 6157 * 5)))) 0 6 (nI 6), ?_, ⟨?_, fun j hj => ?_⟩, ⟨fun k hk => ⟨?_, (e12 k).1, (e12 k).2⟩, fun i hi => ?_⟩, fun k h0 h3 => ?_⟩
    · simp only [e6]
      rw [if_pos trivial, rX_remembers_11 h1 hF, ← e0]
      unfold pX11_remembers_50
      exact er
    · rw [mi_setI, if_pos ⟨rfl, rfl⟩]; rfl
    · unfold hm1 at hj
      rw [if_neg (by decide)] at hj
      unfold hpush
      rw [if_neg (by decide)]
      by_cases e : j = 5
      · subst e
        rw [if_pos rfl]
        refine RP_of h hw (fun i hi => ?_)
        rw [mi_setI, if_neg (by omega), mi_setIA, if_pos rfl, wr_in (by omega) (by omega), show 6157 * 5 + i - 6157 * 5 = i by omega, e1 1 (by decide) (by decide)]
        rfl
      · rw [if_neg e]
        refine RP_mv (h2 (j + 1) (by omega)) (hH (j + 1) (by omega)) (fun i hi => ?_)
        rw [mi_setI, if_neg (by omega), mi_setIA, if_pos rfl, wr_out (Or.inl (by omega))]
        show mi s0 3 (6157 * j + i) = _
        rw [e3, if_pos (by omega), show 6157 * j + i + 6157 = 6157 * (j + 1) + i by omega]
    · rw [← e1 k (by omega) (by omega)]
      simp [setI, setIA, show k ≠ 0 by omega, show k ≠ 3 by omega]
    · rw [mi_setI, if_neg (fun z => hi z.2), mi_setIA, if_neg (by omega), e0, mi_setI, if_neg (fun z => hi z.2), mi_setIA, if_neg (by omega)]
    · rw [← e1 k h0 h3]
      simp [setI, setIA, h0, h3]
theorem hpush_WF (hw : WF G) (hH : ∀ j, j < m → WF (H j)) (hm : m ≤ 6) : hm1 m ≤ 6 ∧ ∀ j, j < hm1 m → WF (hpush H m G j) := by
  unfold hm1 hpush
  rcases Nat.lt_or_ge m 6 with c | c
  · rw [if_pos c]
    refine ⟨by omega, fun j hj => ?_⟩
    rw [if_pos c]
    by_cases e : j = m
    · rw [if_pos e]; exact hw
    · rw [if_neg e]; exact hH j (by omega)
  · rw [if_neg (by omega)]
    refine ⟨Nat.le_refl _, fun j hj => ?_⟩
    rw [if_neg (by omega)]
    by_cases e : j = 5
    · rw [if_pos e]; exact hw
    · rw [if_neg e]; exact hH (j + 1) (by omega)
theorem rX_isAct (h : RG ρ 1 G2) (hw2 : WF G2) (h4 : RG ρ 4 G) (hw : WF G) (hh : IHr ρ H m) (hm : m ≤ 6) (hH : ∀ j, j < m → WF (H j)) (hF : 40000 < F) : ∃ ρ1, pX11_isAct F ρ = some ρ1 ∧ RG ρ1 1 G2 ∧ IHr ρ1 (hpush H m G) (hm1 m) ∧ kpR ρ ρ1 := by
  have c1 := rX_copies (ρ := ρ) (F := F) (r1 := 1) (r2 := 2) (by decide) rfl rfl (by omega)
  obtain ⟨s1, e1⟩ : ∃ s1, s1 = setIA ρ 2 (wr (ρ.1 2) 0 6157 (ρ.1 1)) := ⟨_, rfl⟩
  rw [← e1] at c1
  have g1 : RG s1 2 G2 := by rw [e1]; exact RG_copied h hw2
  have k1 : agr (fun k => k = 2) ρ s1 := by rw [e1]; exact agr_setIA rfl
  have c2 := rX_copies (ρ := s1) (F := F) (r1 := 4) (r2 := 1) (by decide) rfl rfl (by omega)
  obtain ⟨s2, e2⟩ : ∃ s2, s2 = setIA s1 1 (wr (s1.1 1) 0 6157 (s1.1 4)) := ⟨_, rfl⟩
  rw [← e2] at c2
  have g2 : RG s2 1 G := by rw [e2]; exact RG_copied (h4.agr k1 (by omega)) hw
  have k2 : agr (fun k => k = 1) s1 s2 := by rw [e2]; exact agr_setIA rfl
  have k12 : agr (fun k => k = 1 ∨ k = 2) ρ s2 := agr_trans (agr_mono k1 (fun k hk => Or.inr hk)) (agr_mono k2 (fun k hk => Or.inl hk))
  have hh2 : IHr s2 H m := ⟨(agr_mi k12 (by omega) 6).trans hh.1, fun j hj => RP_mv (hh.2 j hj) (hH j hj) (fun i _ => agr_mi k12 (by omega) _)⟩
  obtain ⟨s3, c3, g3, k3, d3⟩ := rX_remembers g2 hw hh2 hm hH hF
  have g4 : RG s3 2 G2 := RG_eq (g1.agr k2 (by omega)) hw2 (fun i _ => congrFun (d3 2 (by decide) (by decide)) i)
  have c4 := rX_copies (ρ := s3) (F := F) (r1 := 2) (r2 := 1) (by decide) rfl rfl (by omega)
  have k4 : agr (fun k => k = 1) s3 (setIA s3 1 (wr (s3.1 1) 0 6157 (s3.1 2))) := agr_setIA rfl
  refine ⟨_, ?_, RG_copied g4 hw2, ⟨(agr_mi k4 (by omega) 6).trans g3.1, fun j hj => RP_mv (g3.2 j hj) ((hpush_WF hw hH hm).2 j hj) (fun i _ => agr_mi k4 (by omega) _)⟩, kpR_trans (kpR_of k12 (fun k hk => by omega)) (kpR_trans k3 (kpR_of k4 (fun k hk => by omega)))⟩
  unfold pX11_isAct
  rw [c1, Option.bind_some, c2, Option.bind_some, c3, Option.bind_some, c4]
  rfl
end RA
