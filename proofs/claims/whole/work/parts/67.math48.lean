/-! RENUMBERINGS COUNTED: the class goes through them -/
section RHX
variable {κ κ1 : Mem} {G : Gm} {F p q : Nat} {f : Nat → Nat} {k : Bool}
theorem sX7_bringForward {to fr : Nat} (hw : WF G) (hF : 100 < F) (hI : IM κ G f) (h : to ≤ fr) (hf : fr < Gn G) : ∃ κ1, agr (fun k => k = 56) κ κ1 ∧ IM κ1 G (bf f to fr) ∧ pX7_bringForward F κ (nI to) (nI fr) = some κ1 := by
  have hfr6 := hw_lt hw hf
  have e1 := hI fr hf
  obtain ⟨k0, rfl⟩ : ∃ k0, fr = to + k0 := ⟨fr - to, by omega⟩
  unfold pX7_bringForward
  simp (disch := omega) only [n_0, n_1, n_2, n_3, n_4, n_5, n_6, n_7, n_8, n_9, n_10, n_12, n_13, n_14, n_20, n_31, n_32, n_63, n_64, n_600, n_1024, n_4096, n_6157, n_add, n_mul, nm_def, Option.bind_some, Option.some.injEq, ck_in, ck_nz, ck_p, n_cl, n_lt, n_le, n_eq, n_div, n_rem, if_pos, if_neg, if_true, if_false, eq_self, n_192, n_256, n_20000, m1_n0, m1_np, m1_n0p, m1_lt0, m1_lt0p, mi_setIA, mi_setI, ml_setIA, ml_setI, mr_setI, mr_setIA, e1]
  refine lp_dinv (fun fu (s : Mem) k => pX7_bringForward_10 F (nI to) (nI (f (to + k0))) fu s (nI (to + k))) (fun s k => agr (fun k => k = 56) κ s ∧ ∀ i, i < Gn G → mi s 56 i = nI (if to + k < i ∧ i ≤ to + k0 then f (i - 1) else f i)) k0 (fun x => ∃ κ1, agr (fun k => k = 56) κ κ1 ∧ IM κ1 G (bf f to (to + k0)) ∧ x = some κ1) (fun fu s hS => ?_) (fun fu s k hk hS => ?_) F κ k0 (Nat.le_refl _) (by omega) ⟨agr_rfl, fun i hi => by rw [if_neg (by omega)]; exact hI i hi⟩
  · obtain ⟨b1, b2⟩ := hS
    refine ⟨setI s 56 to (nI (f (to + k0))), agr_trans b1 (agr_setI rfl), fun i hi => ?_, ?_⟩
    · rw [mi_setI]
      unfold bf bfc
      by_cases z : i = to
      · rw [if_pos ⟨rfl, z⟩, if_pos z]
      · rw [if_neg (fun w => z w.2), if_neg z, b2 i hi]
        by_cases z2 : to < i ∧ i ≤ to + k0
        · rw [if_pos z2, if_pos (by omega)]
        · rw [if_neg z2, if_neg (by omega)]
    · show pX7_bringForward_10 F (nI to) (nI (f (to + k0))) (fu + 1) s (nI to) = _
      rw [pX7_bringForward_10]
      simp (disch := omega) only [n_0, n_1, n_2, n_3, n_4, n_5, n_6, n_7, n_8, n_9, n_10, n_12, n_13, n_14, n_20, n_31, n_32, n_63, n_64, n_600, n_1024, n_4096, n_6157, n_add, n_mul, nm_def, Option.bind_some, Option.some.injEq, ck_in, ck_nz, ck_p, n_cl, n_lt, n_le, n_eq, n_div, n_rem, if_pos, if_neg, if_true, if_false, eq_self, n_192, n_256, n_20000, m1_n0, m1_np, m1_n0p, m1_lt0, m1_lt0p, mi_setIA, mi_setI, ml_setIA, ml_setI, mr_setI, mr_setIA]
  · obtain ⟨b1, b2⟩ := hS
    have e2 : mi s 56 (to + k) = nI (f (to + k)) := by
      rw [b2 _ (by omega), if_neg (by omega)]
    refine ⟨setI s 56 (to + (k + 1)) (nI (f (to + k))), ⟨agr_trans b1 (agr_setI rfl), fun i hi => ?_⟩, ?_⟩
    · rw [mi_setI]
      by_cases z : i = to + (k + 1)
      · rw [if_pos ⟨rfl, z⟩, if_pos (by omega), show i - 1 = to + k by omega]
      · rw [if_neg (fun w => z w.2), b2 i hi]
        by_cases z2 : to + (k + 1) < i ∧ i ≤ to + k0
        · rw [if_pos z2, if_pos (by omega)]
        · rw [if_neg z2, if_neg (by omega)]
    · show pX7_bringForward_10 F (nI to) (nI (f (to + k0))) (fu + 1) s (nI (to + k + 1)) = pX7_bringForward_10 F (nI to) (nI (f (to + k0))) fu _ (nI (to + k))
      rw [pX7_bringForward_10]
      simp (disch := omega) only [n_0, n_1, n_2, n_3, n_4, n_5, n_6, n_7, n_8, n_9, n_10, n_12, n_13, n_14, n_20, n_31, n_32, n_63, n_64, n_600, n_1024, n_4096, n_6157, n_add, n_mul, nm_def, Option.bind_some, Option.some.injEq, ck_in, ck_nz, ck_p, n_cl, n_lt, n_le, n_eq, n_div, n_rem, if_pos, if_neg, if_true, if_false, eq_self, n_192, n_256, n_20000, m1_n0, m1_np, m1_n0p, m1_lt0, m1_lt0p, mi_setIA, mi_setI, ml_setIA, ml_setI, mr_setI, mr_setIA, n_sub, Nat.add_sub_cancel, e2]
      rfl
theorem sX7_orderBehind {r : Nat} (hG : XG κ 1 G) (hw : WF G) (hF : 100 < F) (hI : IM κ G f) (hf : PI (Gn G) f) (hp : p < Gn G) (hr : r < 5000) : ∃ κ1, agr (fun k => k = 56) κ κ1 ∧ IM κ1 G (ob (Gn G) (Gn G - (p + 1)) f r) ∧ pX7_orderBehind F κ (nI p) (nI r) = some κ1 := by
  have hn := hw.n6
  unfold pX7_orderBehind
  rw [nm_def, show nI p + 1 = nI (p + 1) from n_add p 1]
  refine lp_inv (fun fu (x : Mem × Int32) i => pX7_orderBehind_7 F fu x.1 x.2 (nI i)) (fun x i => agr (fun k => k = 56) κ x.1 ∧ ∃ g r2, r2 < 5000 ∧ IM x.1 G g ∧ x.2 = nI r2 ∧ ob (Gn G) (Gn G - i) g r2 = ob (Gn G) (Gn G - (p + 1)) f r) (Gn G) (fun y => ∃ κ1, agr (fun k => k = 56) κ κ1 ∧ IM κ1 G (ob (Gn G) (Gn G - (p + 1)) f r) ∧ y = some κ1) (fun fu s hS => ?_) (fun fu s i hi hS => ?_) F (κ, nI r) (p + 1) (by omega) (by omega) ⟨agr_rfl, f, r, hr, hI, rfl, rfl⟩
  · obtain ⟨b1, g, r2, c1, c2, c3, c4⟩ := hS
    have e0 : mi s.1 1 0 = nI (Gn G) := (hG.agr b1 (by omega) (by omega) (by omega) (by omega)).1
    rw [Nat.sub_self] at c4
    have c5 : g = ob (Gn G) (Gn G - (p + 1)) f r := c4
    refine ⟨s.1, b1, by rw [← c5]; exact c2, ?_⟩
    show pX7_orderBehind_7 F (fu + 1) s.1 s.2 (nI (Gn G)) = _
    rw [pX7_orderBehind_7]
    simp (disch := omega) only [n_0, n_1, n_2, n_3, n_4, n_5, n_6, n_7, n_8, n_9, n_10, n_12, n_13, n_14, n_20, n_31, n_32, n_63, n_64, n_600, n_1024, n_4096, n_6157, n_add, n_mul, nm_def, Option.bind_some, Option.some.injEq, ck_in, ck_nz, ck_p, n_cl, n_lt, n_le, n_eq, n_div, n_rem, if_pos, if_neg, if_true, if_false, eq_self, n_192, n_256, n_20000, m1_n0, m1_np, m1_n0p, m1_lt0, m1_lt0p, mi_setIA, mi_setI, ml_setIA, ml_setI, mr_setI, mr_setIA, e0]
  · obtain ⟨b1, g, r2, c1, c2, c3, c4⟩ := hS
    have e0 : mi s.1 1 0 = nI (Gn G) := (hG.agr b1 (by omega) (by omega) (by omega) (by omega)).1
    have hm : r2 % (Gn G - i) < Gn G - i := Nat.mod_lt _ (by omega)
    obtain ⟨κ1, d1, d2, d3⟩ := sX7_bringForward (F := F) (to := i) (fr := i + r2 % (Gn G - i)) hw hF c2 (by omega) (by omega)
    refine ⟨(κ1, nI (r2 / (Gn G - i))), ⟨agr_trans b1 d1, bf g i (i + r2 % (Gn G - i)), r2 / (Gn G - i), Nat.lt_of_le_of_lt (Nat.div_le_self _ _) c1, d2, rfl, ?_⟩, ?_⟩
    · rw [← c4]
      obtain ⟨d, ed⟩ : ∃ d, Gn G - i = d + 1 := ⟨Gn G - i - 1, by omega⟩
      rw [ed, ob, show Gn G - (i + 1) = d by omega, show Gn G - (d + 1) = i by omega]
    · show pX7_orderBehind_7 F (fu + 1) s.1 s.2 (nI i) = pX7_orderBehind_7 F fu κ1 _ (nI (i + 1))
      rw [pX7_orderBehind_7, c3]
      simp (disch := omega) only [n_0, n_1, n_2, n_3, n_4, n_5, n_6, n_7, n_8, n_9, n_10, n_12, n_13, n_14, n_20, n_31, n_32, n_63, n_64, n_600, n_1024, n_4096, n_6157, n_add, n_mul, nm_def, Option.bind_some, Option.some.injEq, ck_in, ck_nz, ck_p, n_cl, n_lt, n_le, n_eq, n_div, n_rem, if_pos, if_neg, if_true, if_false, eq_self, n_192, n_256, n_20000, m1_n0, m1_np, m1_n0p, m1_lt0, m1_lt0p, mi_setIA, mi_setI, ml_setIA, ml_setI, mr_setI, mr_setIA, e0, n_sub, d3]
theorem fct_le : ∀ d, d ≤ 5 → fct d ≤ 120 := by decide
theorem sX7_someBrings (hG : XG κ 1 G) (hw : WF G) (hF : 7000 < F) (hp : p < Gn G) (hq : q < Gn G) (hpq : p ≤ q) : ∃ κ1, agr (fun k => k = 56 ∨ k = 57) κ κ1 ∧ pX7_someBrings F κ (nI p) (nI q) (nI k.toNat) = some (nI (sB (Gn G) (Qk G k) p q).toNat, κ1) := by
  have hn := hw.n6
  have hp6 := hw_lt hw hp
  have e0 : mi κ 1 0 = nI (Gn G) := hG.1
  have hfc := fct_le (Gn G - (p + 1)) (by omega)
  have e6 : pX7_someBrings F κ (nI p) (nI q) (nI k.toNat) = pX7_someBrings_36 F (nI p) (nI q) (nI k.toNat) (nI (fct (Gn G - (p + 1)))) F κ 0 := by
    unfold pX7_someBrings
    have key : ∀ fu a, 2 ≤ a → Gn G - p - a < fu → (a ≤ Gn G - p ∨ a = 2) → pX7_someBrings_6 F κ (nI p) (nI q) (nI k.toNat) fu (nI (fct (a - 1))) (nI a) = pX7_someBrings_36 F (nI p) (nI q) (nI k.toNat) (nI (fct (Gn G - (p + 1)))) F κ 0 := by
      intro fu
      induction fu with
      | zero => intro a _ h; omega
      | succ fu ih =>
        intro a h1 h2 h3
        rw [pX7_someBrings_6, e0]
        by_cases z : a < Gn G - p
        · simp (disch := omega) only [n_0, n_1, n_2, n_3, n_4, n_5, n_6, n_7, n_8, n_9, n_10, n_12, n_13, n_14, n_20, n_31, n_32, n_63, n_64, n_600, n_1024, n_4096, n_6157, n_add, n_mul, nm_def, Option.bind_some, Option.some.injEq, ck_in, ck_nz, ck_p, n_cl, n_lt, n_le, n_eq, n_div, n_rem, if_pos, if_neg, if_true, if_false, eq_self, n_192, n_256, n_20000, m1_n0, m1_np, m1_n0p, m1_lt0, m1_lt0p, mi_setIA, mi_setI, ml_setIA, ml_setI, mr_setI, mr_setIA, n_sub]
          have := ih (a + 1) (by omega) (by omega) (by omega)
          rw [Nat.add_sub_cancel] at this
          refine Eq.trans ?_ this
          obtain ⟨d, rfl⟩ : ∃ d, a = d + 1 := ⟨a - 1, by omega⟩
          rw [Nat.add_sub_cancel, fct, Nat.mul_comm]
        · simp (disch := omega) only [n_0, n_1, n_2, n_3, n_4, n_5, n_6, n_7, n_8, n_9, n_10, n_12, n_13, n_14, n_20, n_31, n_32, n_63, n_64, n_600, n_1024, n_4096, n_6157, n_add, n_mul, nm_def, Option.bind_some, Option.some.injEq, ck_in, ck_nz, ck_p, n_cl, n_lt, n_le, n_eq, n_div, n_rem, if_pos, if_neg, if_true, if_false, eq_self, n_192, n_256, n_20000, m1_n0, m1_np, m1_n0p, m1_lt0, m1_lt0p, mi_setIA, mi_setI, ml_setIA, ml_setI, mr_setI, mr_setIA, n_sub]
          have : fct (a - 1) = fct (Gn G - (p + 1)) := by
            rcases h3 with h3 | h3
            · rw [show a - 1 = Gn G - (p + 1) by omega]
            · subst h3
              rcases Nat.lt_or_ge (Gn G - (p + 1)) 1 with y | y
              · rw [show Gn G - (p + 1) = 0 by omega]; rfl
              · rw [show Gn G - (p + 1) = 1 by omega]
          rw [this]
    exact key F 2 (by omega) (by omega) (Or.inr rfl)
  rw [e6]
  obtain ⟨gen, egen⟩ : ∃ gen : Nat → Nat → Nat, gen = fun r => ob (Gn G) (Gn G - (p + 1)) (bf (fun i => i) p q) r := ⟨_, rfl⟩
  have hb : PI (Gn G) (bf (fun i => i) p q) := PI_comp (f := fun i => i) (g := bfc p q) (PI_id _) (PI_bfc hpq hq)
  have hgen : ∀ r, PI (Gn G) (gen r) := fun r => by rw [egen]; exact (ob_ok _ (by omega) _ r hb).1
  obtain ⟨κ1, a1, a2⟩ := lp_allS (fun fu (s : Mem) i => pX7_someBrings_36 F (nI p) (nI q) (nI k.toNat) (nI (fct (Gn G - (p + 1)))) fu s (nI i)) (fun s => agr (fun k => k = 56 ∨ k = 57) κ s) (fun r => !Qk G k (gen r)) (fct (Gn G - (p + 1))) (fun s => some ((0 : Int32), s)) (fun s => some ((1 : Int32), s)) (fun fu s hS => by
    show pX7_someBrings_36 F (nI p) (nI q) (nI k.toNat) (nI (fct (Gn G - (p + 1)))) (fu + 1) s (nI (fct (Gn G - (p + 1)))) = _
    rw [pX7_someBrings_36]
    simp (disch := omega) only [n_0, n_1, n_2, n_3, n_4, n_5, n_6, n_7, n_8, n_9, n_10, n_12, n_13, n_14, n_20, n_31, n_32, n_63, n_64, n_600, n_1024, n_4096, n_6157, n_add, n_mul, nm_def, Option.bind_some, Option.some.injEq, ck_in, ck_nz, ck_p, n_cl, n_lt, n_le, n_eq, n_div, n_rem, if_pos, if_neg, if_true, if_false, eq_self, n_192, n_256, n_20000, m1_n0, m1_np, m1_n0p, m1_lt0, m1_lt0p, mi_setIA, mi_setI, ml_setIA, ml_setI, mr_setI, mr_setIA]) (fun fu s r hr hS => by
    show ∃ s', agr (fun k => k = 56 ∨ k = 57) κ s' ∧ pX7_someBrings_36 F (nI p) (nI q) (nI k.toNat) (nI (fct (Gn G - (p + 1)))) (fu + 1) s (nI r) = if (!Qk G k (gen r)) = true then pX7_someBrings_36 F (nI p) (nI q) (nI k.toNat) (nI (fct (Gn G - (p + 1)))) fu s' (nI (r + 1)) else some (1, s')
    obtain ⟨s1, es1⟩ : ∃ s1, s1 = setIA s 56 (wr (s.1 56) 0 6 (fun i => nI i)) := ⟨_, rfl⟩
    have b1 : agr (fun k => k = 56 ∨ k = 57) s s1 := by rw [es1]; exact agr_setIA (Or.inl rfl)
    have hI1 : IM s1 G (fun i => i) := fun i hi => by
      have := hw_lt hw hi
      rw [es1, mi_setIA, if_pos rfl, wr_in (Nat.zero_le _) this]
    obtain ⟨s2, c1, c2, c3⟩ := sX7_bringForward (F := F) (to := p) (fr := q) hw (by omega) hI1 hpq hq
    have g2 := agr_trans hS (agr_trans b1 (agr_mono c1 (fun k hk => Or.inl hk)))
    have hG2 := hG.agr g2 (by omega) (by omega) (by omega) (by omega)
    obtain ⟨s3, d1, d2, d3⟩ := sX7_orderBehind (F := F) (r := r) hG2 hw (by omega) c2 hb hp (by omega)
    have g3 := agr_trans g2 (agr_mono d1 (fun k hk => Or.inl hk))
    have hG3 := hG.agr g3 (by omega) (by omega) (by omega) (by omega)
    have hI3 : IM s3 G (gen r) := by rw [egen]; exact d2
    have e4 := sX7_fits (F := F) hG3 hw (by omega) hI3 (hgen r).1
    obtain ⟨ψ, hP⟩ := PI_Pm (hgen r)
    rw [pX7_someBrings_36]
    unfold pX7_someBrings_80 pX7_someBrings_78
    simp (disch := omega) only [n_0, n_1, n_2, n_3, n_4, n_5, n_6, n_7, n_8, n_9, n_10, n_12, n_13, n_14, n_20, n_31, n_32, n_63, n_64, n_600, n_1024, n_4096, n_6157, n_add, n_mul, nm_def, Option.bind_some, Option.some.injEq, ck_in, ck_nz, ck_p, n_cl, n_lt, n_le, n_eq, n_div, n_rem, if_pos, if_neg, if_true, if_false, eq_self, n_192, n_256, n_20000, m1_n0, m1_np, m1_n0p, m1_lt0, m1_lt0p, mi_setIA, mi_setI, ml_setIA, ml_setI, mr_setI, mr_setIA, sX7_stay s (show 100 < F by omega), ← es1, c3, d3, e4]
    cases hf : fitB G (gen r)
    · refine ⟨s3, g3, ?_⟩
      have e5 : Qk G k (gen r) = false := by unfold Qk; rw [hf]; rfl
      rw [e5]
      simp (disch := omega) only [n_0, n_1, n_2, n_3, n_4, n_5, n_6, n_7, n_8, n_9, n_10, n_12, n_13, n_14, n_20, n_31, n_32, n_63, n_64, n_600, n_1024, n_4096, n_6157, n_add, n_mul, nm_def, Option.bind_some, Option.some.injEq, ck_in, ck_nz, ck_p, n_cl, n_lt, n_le, n_eq, n_div, n_rem, if_pos, if_neg, if_true, if_false, eq_self, n_192, n_256, n_20000, m1_n0, m1_np, m1_n0p, m1_lt0, m1_lt0p, mi_setIA, mi_setI, ml_setIA, ml_setI, mr_setI, mr_setIA, Bool.toNat_false, Bool.not_false]
    · cases hk : k
      · refine ⟨s3, g3, ?_⟩
        have e5 : Qk G false (gen r) = true := by unfold Qk; rw [hf]; rfl
        rw [e5]
        simp (disch := omega) only [n_0, n_1, n_2, n_3, n_4, n_5, n_6, n_7, n_8, n_9, n_10, n_12, n_13, n_14, n_20, n_31, n_32, n_63, n_64, n_600, n_1024, n_4096, n_6157, n_add, n_mul, nm_def, Option.bind_some, Option.some.injEq, ck_in, ck_nz, ck_p, n_cl, n_lt, n_le, n_eq, n_div, n_rem, if_pos, if_neg, if_true, if_false, eq_self, n_192, n_256, n_20000, m1_n0, m1_np, m1_n0p, m1_lt0, m1_lt0p, mi_setIA, mi_setI, ml_setIA, ml_setI, mr_setI, mr_setIA, Bool.toNat_false, Bool.toNat_true, Bool.not_true, Bool.false_eq_true]
      · obtain ⟨s4, f1, f2⟩ := sX7_keepsAll (F := F) hG3 hw (by omega) hI3 hf hP
        refine ⟨s4, agr_trans g3 (agr_mono f1 (fun k hk => Or.inr hk)), ?_⟩
        simp (disch := omega) only [n_0, n_1, n_2, n_3, n_4, n_5, n_6, n_7, n_8, n_9, n_10, n_12, n_13, n_14, n_20, n_31, n_32, n_63, n_64, n_600, n_1024, n_4096, n_6157, n_add, n_mul, nm_def, Option.bind_some, Option.some.injEq, ck_in, ck_nz, ck_p, n_cl, n_lt, n_le, n_eq, n_div, n_rem, if_pos, if_neg, if_true, if_false, eq_self, n_192, n_256, n_20000, m1_n0, m1_np, m1_n0p, m1_lt0, m1_lt0p, mi_setIA, mi_setI, ml_setIA, ml_setI, mr_setI, mr_setIA, Bool.toNat_true, f2]
        have e5 : Qk G true (gen r) = keepA G (gen r) := by unfold Qk; rw [hf]; rfl
        rw [e5]
        cases keepA G (gen r)
        · simp (disch := omega) only [n_0, n_1, n_2, n_3, n_4, n_5, n_6, n_7, n_8, n_9, n_10, n_12, n_13, n_14, n_20, n_31, n_32, n_63, n_64, n_600, n_1024, n_4096, n_6157, n_add, n_mul, nm_def, Option.bind_some, Option.some.injEq, ck_in, ck_nz, ck_p, n_cl, n_lt, n_le, n_eq, n_div, n_rem, if_pos, if_neg, if_true, if_false, eq_self, n_192, n_256, n_20000, m1_n0, m1_np, m1_n0p, m1_lt0, m1_lt0p, mi_setIA, mi_setI, ml_setIA, ml_setI, mr_setI, mr_setIA, Bool.toNat_false, Bool.not_false]
        · simp (disch := omega) only [n_0, n_1, n_2, n_3, n_4, n_5, n_6, n_7, n_8, n_9, n_10, n_12, n_13, n_14, n_20, n_31, n_32, n_63, n_64, n_600, n_1024, n_4096, n_6157, n_add, n_mul, nm_def, Option.bind_some, Option.some.injEq, ck_in, ck_nz, ck_p, n_cl, n_lt, n_le, n_eq, n_div, n_rem, if_pos, if_neg, if_true, if_false, eq_self, n_192, n_256, n_20000, m1_n0, m1_np, m1_n0p, m1_lt0, m1_lt0p, mi_setIA, mi_setI, ml_setIA, ml_setI, mr_setI, mr_setIA, Bool.toNat_true, Bool.not_true, Bool.false_eq_true]) F κ (by omega) agr_rfl
  refine ⟨κ1, a1, Eq.trans a2 ?_⟩
  have e7 : sB (Gn G) (Qk G k) p q = !alb (fun r => !Qk G k (gen r)) (fct (Gn G - (p + 1))) := by
    refine bool_iff ?_
    rw [sB_iff (GQ_Qk hw k) hp hq]
    have e8 : (!alb (fun r => !Qk G k (gen r)) (fct (Gn G - (p + 1)))) = exb (fun r => Qk G k (gen r)) (fct (Gn G - (p + 1))) := by
      unfold alb
      rw [Bool.not_not]
      exact exb_congr (fun i _ => Bool.not_not _)
    rw [e8, exb_iff]
    constructor
    · rintro ⟨π, h1, h2, h3, h4⟩
      obtain ⟨r, r1, r2⟩ := ob_all (n := Gn G) (Gn G - (p + 1)) (by omega) (bf (fun i => i) p q) π hb h1 (fun i hi => by
        show bfc p q i = π i
        by_cases z : i = p
        · rw [z, bfc_to, h4]
        · rw [bfc_lt (by omega), h3 i (by omega)])
      refine ⟨r, r1, ?_⟩
      rw [(GQ_Qk hw k).co (gen r) π (fun i hi => by rw [egen]; exact r2 i hi)]
      exact h2
    · rintro ⟨r, r1, r2⟩
      have h5 := (ob_ok (n := Gn G) (Gn G - (p + 1)) (by omega) (bf (fun i => i) p q) r hb).2
      refine ⟨gen r, hgen r, r2, fun i hi => ?_, ?_⟩
      · rw [egen]
        show ob (Gn G) (Gn G - (p + 1)) (bf (fun i => i) p q) r i = i
        rw [h5 i (by omega)]
        exact bfc_lt hi
      · rw [egen]
        show ob (Gn G) (Gn G - (p + 1)) (bf (fun i => i) p q) r p = q
        rw [h5 p (by omega)]
        exact bfc_to
  rw [e7]
  cases alb (fun r => !Qk G k (gen r)) (fct (Gn G - (p + 1))) <;> rfl
theorem sX7_howMany (hG : XG κ 1 G) (hw : WF G) (hF : 7000 < F) : ∃ κ1, agr (fun k => k = 56 ∨ k = 57) κ κ1 ∧ pX7_howMany F κ (nI k.toNat) = some (nI (pl (Gn G) (Qk G k) (Gn G)), κ1) := by
  have hn := hw.n6
  unfold pX7_howMany
  refine lp_inv (fun fu (x : Mem × Int32) i => pX7_howMany_4 F (nI k.toNat) fu x.1 x.2 (nI i)) (fun x i => agr (fun k => k = 56 ∨ k = 57) κ x.1 ∧ x.2 = nI (pl (Gn G) (Qk G k) i)) (Gn G) (fun y => ∃ κ1, agr (fun k => k = 56 ∨ k = 57) κ κ1 ∧ y = some (nI (pl (Gn G) (Qk G k) (Gn G)), κ1)) (fun fu s hS => ?_) (fun fu s p hp hS => ?_) F (κ, 1) 0 (Nat.zero_le _) (by omega) ⟨agr_rfl, rfl⟩
  · obtain ⟨b1, b2⟩ := hS
    have e0 : mi s.1 1 0 = nI (Gn G) := (hG.agr b1 (by omega) (by omega) (by omega) (by omega)).1
    refine ⟨s.1, b1, ?_⟩
    show pX7_howMany_4 F (nI k.toNat) (fu + 1) s.1 s.2 (nI (Gn G)) = _
    rw [pX7_howMany_4, b2]
    simp (disch := omega) only [n_0, n_1, n_2, n_3, n_4, n_5, n_6, n_7, n_8, n_9, n_10, n_12, n_13, n_14, n_20, n_31, n_32, n_63, n_64, n_600, n_1024, n_4096, n_6157, n_add, n_mul, nm_def, Option.bind_some, Option.some.injEq, ck_in, ck_nz, ck_p, n_cl, n_lt, n_le, n_eq, n_div, n_rem, if_pos, if_neg, if_true, if_false, eq_self, n_192, n_256, n_20000, m1_n0, m1_np, m1_n0p, m1_lt0, m1_lt0p, mi_setIA, mi_setI, ml_setIA, ml_setI, mr_setI, mr_setIA, e0]
  · obtain ⟨b1, b2⟩ := hS
    have e0 : mi s.1 1 0 = nI (Gn G) := (hG.agr b1 (by omega) (by omega) (by omega) (by omega)).1
    have key := lp_inv (fun fu2 (x : Mem × Int32) i => pX7_howMany_21 F (pX7_howMany_4 F (nI k.toNat) fu) (nI k.toNat) s.2 (nI p) fu2 x.1 x.2 (nI i)) (fun x i => agr (fun k => k = 56 ∨ k = 57) κ x.1 ∧ x.2 = nI (cnt (sB (Gn G) (Qk G k) p) i) ∧ p ≤ i) (Gn G) (fun y => ∃ κ1, agr (fun k => k = 56 ∨ k = 57) κ κ1 ∧ y = pX7_howMany_4 F (nI k.toNat) fu κ1 (nI (pl (Gn G) (Qk G k) (p + 1))) (nI (p + 1))) (fun fu2 x hX => by
      obtain ⟨c1, c2, c3⟩ := hX
      have e1 : mi x.1 1 0 = nI (Gn G) := (hG.agr c1 (by omega) (by omega) (by omega) (by omega)).1
      refine ⟨x.1, c1, ?_⟩
      show pX7_howMany_21 F (pX7_howMany_4 F (nI k.toNat) fu) (nI k.toNat) s.2 (nI p) (fu2 + 1) x.1 x.2 (nI (Gn G)) = _
      rw [pX7_howMany_21, c2, b2]
      simp (disch := omega) only [n_0, n_1, n_2, n_3, n_4, n_5, n_6, n_7, n_8, n_9, n_10, n_12, n_13, n_14, n_20, n_31, n_32, n_63, n_64, n_600, n_1024, n_4096, n_6157, n_add, n_mul, nm_def, Option.bind_some, Option.some.injEq, ck_in, ck_nz, ck_p, n_cl, n_lt, n_le, n_eq, n_div, n_rem, if_pos, if_neg, if_true, if_false, eq_self, n_192, n_256, n_20000, m1_n0, m1_np, m1_n0p, m1_lt0, m1_lt0p, mi_setIA, mi_setI, ml_setIA, ml_setI, mr_setI, mr_setIA, e1]
      unfold pl
      rw [pw, Nat.zero_add]) (fun fu2 x q hq hX => by
      obtain ⟨c1, c2, c3⟩ := hX
      have hG1 := hG.agr c1 (by omega) (by omega) (by omega) (by omega)
      have e1 : mi x.1 1 0 = nI (Gn G) := hG1.1
      obtain ⟨κ1, d1, d2⟩ := sX7_someBrings (F := F) (k := k) hG1 hw hF hp hq c3
      refine ⟨(κ1, nI (cnt (sB (Gn G) (Qk G k) p) (q + 1))), ⟨agr_trans c1 d1, rfl, by omega⟩, ?_⟩
      show pX7_howMany_21 F (pX7_howMany_4 F (nI k.toNat) fu) (nI k.toNat) s.2 (nI p) (fu2 + 1) x.1 x.2 (nI q) = pX7_howMany_21 F (pX7_howMany_4 F (nI k.toNat) fu) (nI k.toNat) s.2 (nI p) fu2 κ1 (nI (cnt (sB (Gn G) (Qk G k) p) (q + 1))) (nI (q + 1))
      rw [pX7_howMany_21, c2, cnt_s]
      unfold pX7_howMany_47
      simp (disch := omega) only [n_0, n_1, n_2, n_3, n_4, n_5, n_6, n_7, n_8, n_9, n_10, n_12, n_13, n_14, n_20, n_31, n_32, n_63, n_64, n_600, n_1024, n_4096, n_6157, n_add, n_mul, nm_def, Option.bind_some, Option.some.injEq, ck_in, ck_nz, ck_p, n_cl, n_lt, n_le, n_eq, n_div, n_rem, if_pos, if_neg, if_true, if_false, eq_self, n_192, n_256, n_20000, m1_n0, m1_np, m1_n0p, m1_lt0, m1_lt0p, mi_setIA, mi_setI, ml_setIA, ml_setI, mr_setI, mr_setIA, e1, d2]
      cases sB (Gn G) (Qk G k) p q
      · simp (disch := omega) only [n_0, n_1, n_2, n_3, n_4, n_5, n_6, n_7, n_8, n_9, n_10, n_12, n_13, n_14, n_20, n_31, n_32, n_63, n_64, n_600, n_1024, n_4096, n_6157, n_add, n_mul, nm_def, Option.bind_some, Option.some.injEq, ck_in, ck_nz, ck_p, n_cl, n_lt, n_le, n_eq, n_div, n_rem, if_pos, if_neg, if_true, if_false, eq_self, n_192, n_256, n_20000, m1_n0, m1_np, m1_n0p, m1_lt0, m1_lt0p, mi_setIA, mi_setI, ml_setIA, ml_setI, mr_setI, mr_setIA, Bool.toNat_false, Nat.add_zero]
      · simp (disch := omega) only [n_0, n_1, n_2, n_3, n_4, n_5, n_6, n_7, n_8, n_9, n_10, n_12, n_13, n_14, n_20, n_31, n_32, n_63, n_64, n_600, n_1024, n_4096, n_6157, n_add, n_mul, nm_def, Option.bind_some, Option.some.injEq, ck_in, ck_nz, ck_p, n_cl, n_lt, n_le, n_eq, n_div, n_rem, if_pos, if_neg, if_true, if_false, eq_self, n_192, n_256, n_20000, m1_n0, m1_np, m1_n0p, m1_lt0, m1_lt0p, mi_setIA, mi_setI, ml_setIA, ml_setI, mr_setI, mr_setIA, Bool.toNat_true]) F (s.1, 0) p (by omega) (by omega) ⟨b1, by
        show (0 : Int32) = _
        have : cnt (sB (Gn G) (Qk G k) p) p = 0 := by
          rw [cnt_sm]
          refine sm_zero (fun i hi => ?_)
          unfold sB
          rw [decide_eq_false (by omega)]
          rfl
        rw [this]
        rfl, Nat.le_refl _⟩
    obtain ⟨κ1, f1, f2⟩ := key
    refine ⟨(κ1, nI (pl (Gn G) (Qk G k) (p + 1))), ⟨f1, rfl⟩, ?_⟩
    show pX7_howMany_4 F (nI k.toNat) (fu + 1) s.1 s.2 (nI p) = _
    rw [pX7_howMany_4]
    simp (disch := omega) only [n_0, n_1, n_2, n_3, n_4, n_5, n_6, n_7, n_8, n_9, n_10, n_12, n_13, n_14, n_20, n_31, n_32, n_63, n_64, n_600, n_1024, n_4096, n_6157, n_add, n_mul, nm_def, Option.bind_some, Option.some.injEq, ck_in, ck_nz, ck_p, n_cl, n_lt, n_le, n_eq, n_div, n_rem, if_pos, if_neg, if_true, if_false, eq_self, n_192, n_256, n_20000, m1_n0, m1_np, m1_n0p, m1_lt0, m1_lt0p, mi_setIA, mi_setI, ml_setIA, ml_setI, mr_setI, mr_setIA, e0]
    exact f2
end RHX
