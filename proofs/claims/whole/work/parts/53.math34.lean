/-! CALLS: feed, out -/
section CF
variable {κ κ1 ρ ρ1 : Mem} {G G2 : Gm} {H : Nat → Gm} {m F p q : Nat} {a b c : Int32} {S : Nat → Prop}
/-- the tape of both sides, so many bytes on it -/
def TP (κ ρ : Mem) (n : Nat) : Prop := mi κ 0 11 = nI n ∧ mi ρ 0 22 = nI n ∧ ∀ i, i < n → mi κ 137 i = mi ρ 13 i
/-- all else as it was -/
def tpX (κ κ1 : Mem) : Prop := (∀ k, k ≠ 0 → k ≠ 137 → κ1.1 k = κ.1 k) ∧ (∀ k, κ1.2.1 k = κ.2.1 k ∧ κ1.2.2 k = κ.2.2 k) ∧ ∀ i, i ≠ 11 → mi κ1 0 i = mi κ 0 i
def tpR (ρ ρ1 : Mem) : Prop := (∀ k, k ≠ 0 → k ≠ 13 → ρ1.1 k = ρ.1 k) ∧ (∀ k, ρ1.2.1 k = ρ.2.1 k ∧ ρ1.2.2 k = ρ.2.2 k) ∧ ∀ i, i ≠ 22 → mi ρ1 0 i = mi ρ 0 i
theorem tpX_trans {κ2 : Mem} (h : tpX κ κ1) (h2 : tpX κ1 κ2) : tpX κ κ2 := ⟨fun k a b => (h2.1 k a b).trans (h.1 k a b), fun k => ⟨(h2.2.1 k).1.trans (h.2.1 k).1, (h2.2.1 k).2.trans (h.2.1 k).2⟩, fun i hi => (h2.2.2 i hi).trans (h.2.2 i hi)⟩
theorem tpR_trans {ρ2 : Mem} (h : tpR ρ ρ1) (h2 : tpR ρ1 ρ2) : tpR ρ ρ2 := ⟨fun k a b => (h2.1 k a b).trans (h.1 k a b), fun k => ⟨(h2.2.1 k).1.trans (h.2.1 k).1, (h2.2.1 k).2.trans (h.2.1 k).2⟩, fun i hi => (h2.2.2 i hi).trans (h.2.2 i hi)⟩
theorem tape_int {n : Nat} (h : TP κ ρ n) (hn : n + 4 ≤ 600) (hF : 50 < F) (v : Int32) : ∃ κ1 ρ1, TP κ1 ρ1 (n + 4) ∧ tpX κ κ1 ∧ tpR ρ ρ1 ∧ pX10_tapeInt F κ v = some κ1 ∧ pX11_feeds F ρ v = some ρ1 := by
  have key : ∀ (k fx fm : Nat) (s : Int32) (κ ρ : Mem) (n : Nat), (k = 4 ∧ s = 24 ∨ k = 3 ∧ s = 16 ∨ k = 2 ∧ s = 8 ∨ k = 1 ∧ s = 0 ∨ k = 0 ∧ s = -8) → TP κ ρ n → n + k ≤ 600 → k < fx → k < fm → ∃ κ1 ρ1, TP κ1 ρ1 (n + k) ∧ tpX κ κ1 ∧ tpR ρ ρ1 ∧ pX10_tapeInt_3 F v fx κ s = some κ1 ∧ pX11_feeds_3 F v fm ρ s = some ρ1 := by
    intro k
    induction k with
    | zero =>
      intro fx fm s κ ρ n hs h hn h1 h2
      have e : s = -8 := by
        rcases hs with z | z | z | z | z
        · omega
        · omega
        · omega
        · omega
        · exact z.2
      subst e
      refine ⟨κ, ρ, h, ⟨fun _ _ _ => rfl, fun _ => ⟨rfl, rfl⟩, fun _ _ => rfl⟩, ⟨fun _ _ _ => rfl, fun _ => ⟨rfl, rfl⟩, fun _ _ => rfl⟩, ?_, ?_⟩
      · cases fx with
        | zero => omega
        | succ fx => rw [pX10_tapeInt_3, if_pos (by decide)]; rfl
      · cases fm with
        | zero => omega
        | succ fm => rw [pX11_feeds_3, if_pos (by decide)]
    | succ k ih =>
      intro fx fm s κ ρ n hs h hn h1 h2
      cases fx with
      | zero => omega
      | succ fx =>
        cases fm with
        | zero => omega
        | succ fm =>
          have hs2 : (k = 4 ∧ s + (-8) = 24 ∨ k = 3 ∧ s + (-8) = 16 ∨ k = 2 ∧ s + (-8) = 8 ∨ k = 1 ∧ s + (-8) = 0 ∨ k = 0 ∧ s + (-8) = -8) ∧ ¬ s < 0 := by
            rcases hs with z | z | z | z | z
            · obtain ⟨z1, rfl⟩ := z
              exact ⟨Or.inr (Or.inl ⟨by omega, by decide⟩), by decide⟩
            · obtain ⟨z1, rfl⟩ := z
              exact ⟨Or.inr (Or.inr (Or.inl ⟨by omega, by decide⟩)), by decide⟩
            · obtain ⟨z1, rfl⟩ := z
              exact ⟨Or.inr (Or.inr (Or.inr (Or.inl ⟨by omega, by decide⟩))), by decide⟩
            · obtain ⟨z1, rfl⟩ := z
              exact ⟨Or.inr (Or.inr (Or.inr (Or.inr ⟨by omega, by decide⟩))), by decide⟩
            · omega
          obtain ⟨t1, t2, t3⟩ := h
          have hT : TP (setI (setI κ 137 n ((v >>> (s &&& 31)).toInt8.toInt32).toInt8.toInt32) 0 11 (nI (n + 1))) (setI (setI ρ 13 n ((v >>> (s &&& 31)).toInt8.toInt32).toInt8.toInt32) 0 22 (nI (n + 1))) (n + 1) := by
            refine ⟨by rw [mi_setI, if_pos ⟨rfl, rfl⟩], by rw [mi_setI, if_pos ⟨rfl, rfl⟩], fun i hi => ?_⟩
            by_cases e : i = n
            · subst e; simp [mi_setI]
            · simp only [mi_setI, e, and_false, if_false]
              rw [if_neg (by omega), if_neg (by omega)]
              exact t3 i (by omega)
          obtain ⟨κ1, ρ1, b1, b2, b3, b4, b5⟩ := ih fx fm (s + (-8)) _ _ (n + 1) hs2.1 hT (by omega) (by omega) (by omega)
          have q1 : tpX κ (setI (setI κ 137 n ((v >>> (s &&& 31)).toInt8.toInt32).toInt8.toInt32) 0 11 (nI (n + 1))) := ⟨fun k a b => by simp [setI, a, b], fun _ => ⟨rfl, rfl⟩, fun i hi => by rw [mi_setI, if_neg (fun z => hi z.2), mi_setI, if_neg (by omega)]⟩
          have q2 : tpR ρ (setI (setI ρ 13 n ((v >>> (s &&& 31)).toInt8.toInt32).toInt8.toInt32) 0 22 (nI (n + 1))) := ⟨fun k a b => by simp [setI, a, b], fun _ => ⟨rfl, rfl⟩, fun i hi => by rw [mi_setI, if_neg (fun z => hi z.2), mi_setI, if_neg (by omega)]⟩
          refine ⟨κ1, ρ1, by rw [show n + (k + 1) = n + 1 + k by omega]; exact b1, tpX_trans q1 b2, tpR_trans q2 b3, ?_, ?_⟩
          · rw [pX10_tapeInt_3, if_neg hs2.2, ← b4]
            generalize ((v >>> (s &&& 31)).toInt8.toInt32).toInt8.toInt32 = bv
            generalize s + (-8) = s2
            simp (disch := omega) only [n_0, n_1, n_2, n_3, n_4, n_5, n_6, n_7, n_8, n_9, n_10, n_12, n_13, n_14, n_20, n_31, n_32, n_63, n_64, n_600, n_1024, n_4096, n_6157, n_add, n_mul, nm_def, Option.bind_some, Option.some.injEq, ck_in, ck_nz, ck_p, n_cl, n_lt, n_le, n_eq, n_div, n_rem, if_pos, if_neg, if_true, if_false, eq_self, n_192, n_256, n_20000, m1_n0, m1_np, m1_n0p, m1_lt0, m1_lt0p, mi_setIA, mi_setI, ml_setIA, ml_setI, mr_setI, mr_setIA, t1]
          · rw [pX11_feeds_3, if_neg hs2.2, ← b5]
            generalize ((v >>> (s &&& 31)).toInt8.toInt32).toInt8.toInt32 = bv
            generalize s + (-8) = s2
            simp (disch := omega) only [n_0, n_1, n_2, n_3, n_4, n_5, n_6, n_7, n_8, n_9, n_10, n_12, n_13, n_14, n_20, n_31, n_32, n_63, n_64, n_600, n_1024, n_4096, n_6157, n_add, n_mul, nm_def, Option.bind_some, Option.some.injEq, ck_in, ck_nz, ck_p, n_cl, n_lt, n_le, n_eq, n_div, n_rem, if_pos, if_neg, if_true, if_false, eq_self, n_192, n_256, n_20000, m1_n0, m1_np, m1_n0p, m1_lt0, m1_lt0p, mi_setIA, mi_setI, ml_setIA, ml_setI, mr_setI, mr_setIA, t2]
  exact key 4 F F 24 κ ρ n (Or.inl ⟨rfl, rfl⟩) h hn (by omega) (by omega)
theorem IV.tp {n : Nat} (h : IV G H m κ ρ) (hn : n ≤ 600) (ht : TP κ1 ρ1 n) (hx : tpX κ κ1) (hr : tpR ρ ρ1) : IV G H m κ1 ρ1 := by
  have hX : ∀ k, k ≠ 0 → k ≠ 137 → κ1.1 k = κ.1 k ∧ κ1.2.1 k = κ.2.1 k ∧ κ1.2.2 k = κ.2.2 k := fun k a b => ⟨hx.1 k a b, (hx.2.1 k).1, (hx.2.1 k).2⟩
  have hM : ∀ k, k ≠ 0 → k ≠ 13 → ρ1.1 k = ρ.1 k ∧ ρ1.2.1 k = ρ.2.1 k ∧ ρ1.2.2 k = ρ.2.2 k := fun k a b => ⟨hr.1 k a b, (hr.2.1 k).1, (hr.2.1 k).2⟩
  have aX : agr (fun k => k = 0 ∨ k = 137) κ κ1 := fun k hk => hX k (fun z => hk (Or.inl z)) (fun z => hk (Or.inr z))
  have aM : agr (fun k => k = 0 ∨ k = 13) ρ ρ1 := fun k hk => hM k (fun z => hk (Or.inl z)) (fun z => hk (Or.inr z))
  obtain ⟨⟨hw, hA, hJ, hR⟩, ⟨hh1, hh2, hh3⟩, ⟨⟨n0, q1, q2, q3, q4⟩, ⟨l, p1, p2, p3, p4, p5⟩, ⟨f1, f2⟩, hwd⟩, hs⟩ := h
  have e0 : mr κ1 144 0 = mr κ 144 0 := agr_mr aX (by omega) 0
  have e2 : mr κ1 144 2 = mr κ 144 2 := agr_mr aX (by omega) 2
  refine ⟨⟨hw, ⟨hA.1.agr aX (by omega) (by omega) (by omega) (by omega), by rw [agr_mi aX (by omega)]; exact hA.c, fun p hp => by rw [agr_mi aX (by omega)]; exact hA.pl hp, fun p hp x hx => by have := hw_lt hw hp; rw [agr_mi aX (by omega)]; exact hA.si hp hx⟩, hJ.ag aX (by omega) (by omega), hR.agr aM (by omega)⟩, ⟨hh1, hh2.ag aX (fun k hk => by unfold hC; omega), ⟨(hr.2.2 6 (by omega)).trans hh3.1, fun j hj => RP_mv (hh3.2 j hj) (hh1.2 j hj) (fun i _ => agr_mi aM (by omega) _)⟩⟩, ⟨⟨n, hn, ht.1, ht.2.1, ht.2.2⟩, ⟨l, p1, by rw [agr_mi aX (by omega)]; exact p2, by rw [hr.2.2 19 (by omega)]; exact p3, by rw [e0, e2]; exact p4, fun i hi => ?_⟩, ⟨by rw [hx.2.2 13 (by omega), hr.2.2 23 (by omega)]; exact f1, by rw [hx.2.2 14 (by omega), hr.2.2 24 (by omega)]; exact f2⟩, fun i hi => ?_⟩, by rw [hx.2.2 12 (by omega), hr.2.2 0 (by omega)]; exact hs⟩
  · rw [e0, agr_mi aX (by omega), agr_mi aM (by omega)]; exact p5 i hi
  · rw [agr_ml aM (by omega)]; exact hwd i hi
theorem c_feed (h : IV G H m κ ρ) (hF : 50000 < F) (a b c d e : Int32) : Res (pX10_feed F κ a b c d e) (pX11_feed F ρ a b c d e) := by
  have h0 : IV G H m κ (setI ρ 0 1 0) := h.fr agX_rfl (agR_0 (by omega)) (by rw [mi_setI, if_neg (by omega)]; exact h.2.2.2)
  obtain ⟨n, t1, t2, t3, t4⟩ := h0.2.2.1.1
  have e20 : (20 : Int32) = nI 20 := rfl
  unfold pX10_feed pX11_feed
  rw [nm_def]
  generalize setI ρ 0 1 0 = ρ0 at h0 t3 t4
  by_cases c1 : n + 20 ≤ 600
  · obtain ⟨k1, r1, a1, a2, a3, a4, a5⟩ := tape_int (F := F) (n := n) (κ := κ) (ρ := ρ0) ⟨t2, t3, t4⟩ (by omega) (by omega) a
    obtain ⟨k2, r2, b1, b2, b3, b4, b5⟩ := tape_int (F := F) a1 (by omega) (by omega) b
    obtain ⟨k3, r3, d1, d2, d3, d4, d5⟩ := tape_int (F := F) b1 (by omega) (by omega) c
    obtain ⟨k4, r4, e1, e2, e3, e4, e5⟩ := tape_int (F := F) d1 (by omega) (by omega) d
    obtain ⟨k5, r5, f1, f2, f3, f4, f5⟩ := tape_int (F := F) e1 (by omega) (by omega) e
    have eX : mi κ 0 11 + 20 ≤ 600 := by rw [t2, e20, n_add, n_600, n_le (by omega) (by decide)]; exact c1
    have eM : mi ρ0 0 22 + 20 ≤ 600 := by rw [t3, e20, n_add, n_600, n_le (by omega) (by decide)]; exact c1
    rw [if_pos eX, if_pos eM, a4, a5]
    simp only [Option.bind_some]
    rw [b4, b5]
    simp only [Option.bind_some]
    rw [d4, d5]
    simp only [Option.bind_some]
    rw [e4, e5]
    simp only [Option.bind_some]
    rw [f4, f5]
    simp only [Option.bind_some]
    rw [f1.1, f1.2.1]
    exact ⟨_, k5, r5, ⟨G, H, m, h0.tp (n := n + 4 + 4 + 4 + 4 + 4) (by omega) f1 (tpX_trans a2 (tpX_trans b2 (tpX_trans d2 (tpX_trans e2 f2)))) (tpR_trans a3 (tpR_trans b3 (tpR_trans d3 (tpR_trans e3 f3))))⟩, rfl, rfl⟩
  · have eX : ¬ mi κ 0 11 + 20 ≤ 600 := by rw [t2, e20, n_add, n_600, n_le (by omega) (by decide)]; exact c1
    have eM : ¬ mi ρ0 0 22 + 20 ≤ 600 := by rw [t3, e20, n_add, n_600, n_le (by omega) (by decide)]; exact c1
    rw [if_neg eX, if_neg eM]
    exact ⟨-1, κ, ρ0, ⟨G, H, m, h0⟩, rfl, rfl⟩
theorem c_out (h : IV G H m κ ρ) (hF : 50000 < F) (a : Int32) : Res (pX10_out κ a) (pX11_out ρ a) := by
  obtain ⟨l, p1, p2, p3, p4, p5⟩ := h.2.2.1.2.1
  unfold pX10_out pX11_out pX10_out_42 pX11_out_22 pX11_out_38
  rw [p2, p3]
  rcases ag_cases a with ⟨h1, -⟩ | ⟨k, h1, rfl, -⟩
  · rw [if_pos h1, if_pos h1]
    simp only [x_give, x_refuse, rX_refuse, rX_is0, rX_is1, rX_is2, rX_is3, rX_is4, rX_is5, rX_is7, nBt, nBf, o10, Bool.not_true, Bool.not_false, if_true, if_false, eq_self, Option.bind_some]
    exact res_no h agr_rfl agr_rfl
  · have hneg : ¬ nI k < 0 := by rw [n_0, n_neg h1]; exact fun z => z
    rw [if_neg hneg, if_neg hneg]
    by_cases c : k < l
    · have c2 : nI k < nI l := by rw [n_lt h1 (by omega)]; exact c
      have e1 : isPB (mr κ 144 0) = true := by
        unfold isPB
        rcases p4 with z | z
        · rw [z.1]; rfl
        · rw [z.1]; rfl
      have e2 : ∀ x : Option (Int32 × Mem), ckI (nI k) 600 x = x := fun x => ck_in (by omega) (by decide)
      have e3 : (nI k).toNatClampNeg = k := n_cl h1
      have e4 : mi (st0 ρ 0) 12 k = mi κ (mr κ 144 0) k := by
        have : mi (st0 ρ 0) 12 k = mi ρ 12 k := congrFun (st0_c (by decide)) k
        rw [this, p5 k c]
      rw [if_pos c2, if_pos c2, e1]
      simp only [x_give, x_refuse, rX_refuse, rX_is0, rX_is1, rX_is2, rX_is3, rX_is4, rX_is5, rX_is7, nBt, nBf, o10, Bool.not_true, Bool.not_false, if_true, if_false, eq_self, Option.bind_some, ck_p, e2, e3, e4]
      exact res_ok h agr_rfl agr_rfl
    · have c2 : ¬ nI k < nI l := by rw [n_lt h1 (by omega)]; exact c
      rw [if_neg c2, if_neg c2]
      simp only [x_give, x_refuse, rX_refuse, rX_is0, rX_is1, rX_is2, rX_is3, rX_is4, rX_is5, rX_is7, nBt, nBf, o10, Bool.not_true, Bool.not_false, if_true, if_false, eq_self, Option.bind_some]
      exact res_no h agr_rfl agr_rfl
end CF
