/-! ALL WAYS TO GUESS: the class goes from one to the next -/
theorem i_lt {α : Type} {a b : Nat} {x y : α} (ha : a < 2147483648) (hb : b < 2147483648) : (if nI a < nI b then x else y) = if a < b then x else y := by simp only [n_lt ha hb]
theorem i_le {α : Type} {a b : Nat} {x y : α} (ha : a < 2147483648) (hb : b < 2147483648) : (if nI a ≤ nI b then x else y) = if a ≤ b then x else y := by simp only [n_le ha hb]
theorem i_eq {α : Type} {a b : Nat} {x y : α} (ha : a < 2147483648) (hb : b < 2147483648) : (if nI a = nI b then x else y) = if a = b then x else y := by simp only [n_eq ha hb]
section GNX
variable {f : Nat → Nat} {N w e q : Nat}
theorem dig_parts (hf : ∀ i, i < N → 0 < f i) (he : e < N) (hz : (w + 1) % pw f (e + 1) (N - (e + 1)) = 0) : 0 < pw f (e + 1) (N - (e + 1)) ∧ ∃ k, w + 1 = pw f (e + 1) (N - (e + 1)) * (k + 1) ∧ w / pw f (e + 1) (N - (e + 1)) = k := by
  have hP : 0 < pw f (e + 1) (N - (e + 1)) := pw_pos (fun i _ h => hf i (by omega))
  refine ⟨hP, ?_⟩
  obtain ⟨k, ek⟩ : ∃ k, w + 1 = pw f (e + 1) (N - (e + 1)) * k := ⟨(w + 1) / pw f (e + 1) (N - (e + 1)), (Nat.mul_div_cancel' (Nat.dvd_of_mod_eq_zero hz)).symm⟩
  have hk : 0 < k := by
    rcases Nat.eq_zero_or_pos k with z | z
    · subst z; rw [Nat.mul_zero] at ek; omega
    · exact z
  obtain ⟨k, rfl⟩ : ∃ k', k = k' + 1 := ⟨k - 1, by omega⟩
  refine ⟨k, ek, ?_⟩
  have ew : w = pw f (e + 1) (N - (e + 1)) * k + (pw f (e + 1) (N - (e + 1)) - 1) := by rw [Nat.mul_succ] at ek; omega
  rw [ew, Nat.mul_add_div hP, Nat.div_eq_of_lt (by omega), Nat.add_zero]
theorem dig_up (hf : ∀ i, i < N → 0 < f i) (he : e < N) (hz : (w + 1) % pw f (e + 1) (N - (e + 1)) = 0) (hd : dig f N w e + 1 < f e) (hq : q < N) : dig f N (w + 1) q = if q < e then dig f N w q else if q = e then dig f N w e + 1 else 0 := by
  obtain ⟨hP, k, ek, e1⟩ := dig_parts hf he hz
  have e2 : (w + 1) / pw f (e + 1) (N - (e + 1)) = k + 1 := by rw [ek, Nat.mul_div_cancel_left _ hP]
  have hfe := hf e he
  unfold dig at hd ⊢
  rw [e1] at hd
  by_cases h1 : q < e
  · rw [if_pos h1]
    have e3 : (k + 1) / f e = k / f e := by
      have h3 := Nat.div_add_mod k (f e)
      have h4 : k + 1 = f e * (k / f e) + (k % f e + 1) := by omega
      rw [h4, Nat.mul_add_div hfe, Nat.div_eq_of_lt hd, Nat.add_zero]
    have e4 : pw f (q + 1) (N - (q + 1)) = pw f (e + 1) (N - (e + 1)) * (f e * pw f (q + 1) (e - (q + 1))) := by
      rw [show N - (q + 1) = (e - (q + 1)) + ((N - (e + 1)) + 1) by omega, pw_split, show q + 1 + (e - (q + 1)) = e by omega, pw_cons]
      rw [Nat.mul_comm, Nat.mul_comm (f e), Nat.mul_assoc]
    rw [e4, ← Nat.div_div_eq_div_mul, ← Nat.div_div_eq_div_mul, ← Nat.div_div_eq_div_mul, ← Nat.div_div_eq_div_mul, e1, e2, e3]
  · rw [if_neg h1]
    by_cases h2 : q = e
    · subst h2
      rw [if_pos rfl, e1, e2, Nat.add_mod, Nat.mod_eq_of_lt (show 1 < f q by omega), Nat.mod_eq_of_lt hd]
    · rw [if_neg h2]
      have hQ : 0 < pw f (q + 1) (N - (q + 1)) := pw_pos (fun i _ h => hf i (by omega))
      have e4 : pw f (e + 1) (N - (e + 1)) = pw f (q + 1) (N - (q + 1)) * (f q * pw f (e + 1) (q - (e + 1))) := by
        rw [show N - (e + 1) = (q - (e + 1)) + ((N - (q + 1)) + 1) by omega, pw_split, show e + 1 + (q - (e + 1)) = q by omega, pw_cons]
        rw [Nat.mul_comm, Nat.mul_comm (f q), Nat.mul_assoc]
      rw [ek, e4, Nat.mul_assoc, Nat.mul_div_cancel_left _ hQ, Nat.mul_assoc, Nat.mul_mod_right]
theorem dig_max (hf : ∀ i, i < N → 0 < f i) (he : e < N) (hz : (w + 1) % pw f (e + 1) (N - (e + 1)) = 0) (hd : ¬ dig f N w e + 1 < f e) : (w + 1) % pw f e (N - e) = 0 := by
  obtain ⟨hP, k, ek, e1⟩ := dig_parts hf he hz
  have hfe := hf e he
  have hm := Nat.mod_lt k hfe
  unfold dig at hd
  rw [e1] at hd
  have h3 := Nat.div_add_mod k (f e)
  have h4 : k + 1 = f e * (k / f e + 1) := by rw [Nat.mul_add, Nat.mul_one]; omega
  rw [show N - e = (N - (e + 1)) + 1 by omega, pw_cons, ek, h4, Nat.mul_left_comm, ← Nat.mul_assoc, Nat.mul_mod_right]
end GNX
section GTH
variable {κ κ1 : Mem} {G : Gm} {S : Nat → Prop} {F p q c c2 W x i N w e : Nat} {P P2 : Nat → Bool} {d d2 : Nat → Nat}
/-- still open when some entries are settled -/
def OP (G : Gm) (d : Nat → Nat) (j x : Nat) : Bool := decide (x < ncol G) && !exb (fun e => rI G e (d e) x) j
theorem OP_congr {j : Nat} (h : ∀ e, e < j → d e = d2 e) : OP G d j x = OP G d2 j x := by
  unfold OP
  rw [exb_congr (fun e he => by rw [h e he])]
theorem OP_s (j : Nat) : OP G d (j + 1) x = (OP G d j x && !PR G j (d j) x) := by
  unfold OP PR
  rw [exb]
  cases decide (x < ncol G) <;> cases exb (fun e => rI G e (d e) x) j <;> cases rI G j (d j) x <;> rfl
theorem msk_z {f : Nat → Bool} {n : Nat} : msk f n = 0 ↔ ∀ i, i < n → f i = false := by
  constructor
  · intro h i hi
    have h2 := msk_bit f i n
    rw [h, Nat.zero_testBit, decide_eq_true hi, Bool.true_and] at h2
    exact h2.symm
  · intro h
    apply Nat.eq_of_testBit_eq
    intro i
    rw [msk_bit, Nat.zero_testBit]
    by_cases hi : i < n
    · rw [h i hi, Bool.and_false]
    · rw [decide_eq_false hi, Bool.false_and]
theorem OP_lst (hw : WF G) (hx : x < ncol G) : OP G d (bs G (Gn G)) x = decide (rgt (withT G (tb G d)) x = 0) := by
  have key : exb (fun e => rI G e (d e) x) (bs G (Gn G)) = true ↔ ¬ rgt (withT G (tb G d)) x = 0 := by
    rw [exb_iff]
    unfold rgt
    rw [msk_z]
    constructor
    · rintro ⟨e, he, h2⟩ h3
      obtain ⟨p, s, h4, h5, rfl⟩ := bs_onto (Gn G) (Nat.le_refl _) e he
      have h6 := of_decide_eq_true h2
      rw [own_eq h4 h5] at h6
      have h7 := h3 p h4
      have h8 : decide (d (bs G p + sOf G p x) = col G p x) = false := h7
      rw [h6.1, h6.2, decide_eq_true rfl] at h8
      cases h8
    · intro h3
      apply Classical.byContradiction
      intro h4
      refine h3 (fun p hp => ?_)
      show decide (d (bs G p + sOf G p x) = col G p x) = false
      refine decide_eq_false (fun h5 => h4 ⟨bs G p + sOf G p x, bs_lt (G := G) hp (sOf_lt (G := G) hw), ?_⟩)
      show decide _ = true
      rw [own_eq (G := G) hp (sOf_lt (G := G) (x := x) hw)]
      exact decide_eq_true ⟨rfl, h5.symm⟩
  unfold OP
  rw [decide_eq_true hx, Bool.true_and]
  cases hc : exb (fun e => rI G e (d e) x) (bs G (Gn G))
  · have : rgt (withT G (tb G d)) x = 0 := Classical.byContradiction (fun z => by rw [key.mpr z] at hc; cases hc)
    rw [decide_eq_true this]
    rfl
  · rw [decide_eq_false (key.mp hc)]
    rfl
theorem OP_cnt (hw : WF G) (hn : ncol G ≤ 64 * W) : cnt (OP G d (bs G (Gn G))) (64 * W) = lW G d := by
  rw [cnt_cut hn (fun i h1 _ => by unfold OP; rw [decide_eq_false (by omega)]; rfl)]
  unfold lW lst
  exact cnt_congr (fun x hx => OP_lst hw hx)
/-- what stands while ways are gone through -/
def LW (κ : Mem) (G : Gm) (N W : Nat) (d : Nat → Nat) : Prop := (mi κ 59 6 = nI N ∧ mi κ 59 7 = nI W) ∧ (∀ j, j < N → mi κ 62 j = nI (fS G j)) ∧ (∀ j, j < N → mi κ 63 j = nI (d j)) ∧ ∀ j, j < N → ∀ c, c < fS G j → RBit κ (64 + (j * 4 + c)) W (PR G j c)
theorem LW_agr (h : LW κ G N W d) (hN : N ≤ 14) (h4 : ∀ j, j < N → fS G j ≤ 4) (ha : agr (fun k => 120 ≤ k) κ κ1) : LW κ1 G N W d := ⟨⟨(agr_mi ha (by omega) 6).trans h.1.1, (agr_mi ha (by omega) 7).trans h.1.2⟩, fun j hj => (agr_mi ha (by omega) j).trans (h.2.1 j hj), fun j hj => (agr_mi ha (by omega) j).trans (h.2.2.1 j hj), fun j hj c hc => (h.2.2.2 j hj c hc).agr ha (by have := h4 j hj; omega)⟩
theorem sX9_settle_36 {r2 r3 r4 : Nat} (hF : 5000 < F) (hW : W ≤ 64) (h7 : mi κ 59 7 = nI W) (h3 : r3 ≠ 59) (h2 : r2 ≠ r3) (h4 : r4 ≠ r3) : ∃ κ1, agr (fun k => k = r3) κ κ1 ∧ (∀ j, j < W → ml κ1 r3 j = ml κ r2 j &&& (ml κ r4 j ^^^ (-1))) ∧ pX9_settle_36 F r2 r3 r4 F κ 0 = some κ1 := by
  refine lp_inv (fun fu (s : Mem) i => pX9_settle_36 F r2 r3 r4 fu s (nI i)) (fun s i => agr (fun k => k = r3) κ s ∧ ∀ j, j < i → ml s r3 j = ml κ r2 j &&& (ml κ r4 j ^^^ (-1))) W (fun y => ∃ κ1, agr (fun k => k = r3) κ κ1 ∧ (∀ j, j < W → ml κ1 r3 j = ml κ r2 j &&& (ml κ r4 j ^^^ (-1))) ∧ y = some κ1) (fun fu s hS => ?_) (fun fu s i hi hS => ?_) F κ 0 (Nat.zero_le _) (by omega) ⟨agr_rfl, fun j hj => absurd hj (Nat.not_lt_zero _)⟩
  · have e7 : mi s 59 7 = nI W := (agr_mi hS.1 (fun z => h3 z.symm) 7).trans h7
    refine ⟨s, hS.1, hS.2, ?_⟩
    show pX9_settle_36 F r2 r3 r4 (fu + 1) s (nI W) = _
    rw [pX9_settle_36, e7]
    simp (disch := omega) only [n_0, n_1, n_2, n_3, n_4, n_5, n_6, n_7, n_8, n_9, n_10, n_12, n_13, n_14, n_20, n_31, n_32, n_63, n_64, n_600, n_1024, n_4096, n_6157, n_add, n_mul, nm_def, Option.bind_some, Option.some.injEq, ck_in, ck_nz, ck_p, n_cl, n_lt, n_le, n_eq, n_div, n_rem, if_pos, if_neg, if_true, if_false, eq_self, n_192, n_256, n_20000, m1_n0, m1_np, m1_n0p, m1_lt0, m1_lt0p, mi_setIA, mi_setI, ml_setIA, ml_setI, mr_setI, mr_setIA]
  · have e7 : mi s 59 7 = nI W := (agr_mi hS.1 (fun z => h3 z.symm) 7).trans h7
    refine ⟨setL s r3 i (ml s r2 i &&& (ml s r4 i ^^^ (-1))), ⟨agr_trans hS.1 (agr_setL rfl), fun j hj => ?_⟩, ?_⟩
    · rw [ml_setL]
      by_cases y : j = i
      · rw [if_pos ⟨rfl, y⟩, y, agr_ml hS.1 h2, agr_ml hS.1 h4]
      · rw [if_neg (fun z => y z.2)]; exact hS.2 j (by omega)
    · show pX9_settle_36 F r2 r3 r4 (fu + 1) s (nI i) = pX9_settle_36 F r2 r3 r4 fu _ (nI (i + 1))
      rw [pX9_settle_36, e7]
      simp (disch := omega) only [n_0, n_1, n_2, n_3, n_4, n_5, n_6, n_7, n_8, n_9, n_10, n_12, n_13, n_14, n_20, n_31, n_32, n_63, n_64, n_600, n_1024, n_4096, n_6157, n_add, n_mul, nm_def, Option.bind_some, Option.some.injEq, ck_in, ck_nz, ck_p, n_cl, n_lt, n_le, n_eq, n_div, n_rem, if_pos, if_neg, if_true, if_false, eq_self, n_192, n_256, n_20000, m1_n0, m1_np, m1_n0p, m1_lt0, m1_lt0p, mi_setIA, mi_setI, ml_setIA, ml_setI, mr_setI, mr_setIA]
theorem sX9_settle (hF : 5000 < F) (hW : W ≤ 64) (hN : N ≤ 14) (hL : LW κ G N W d) (h4 : ∀ j, j < N → fS G j ≤ 4) (hd : ∀ j, j < N → d j < fS G j) (he : e < N) (hR : RBit κ (120 + e) W (OP G d e)) : ∃ κ1, agr (fun k => k = 120 + (e + 1)) κ κ1 ∧ RBit κ1 (120 + (e + 1)) W (OP G d (e + 1)) ∧ pX9_settle F κ (nI e) = some κ1 := by
  have hd1 := hd e he
  have hf4 := h4 e he
  obtain ⟨s, a1, a2, a3⟩ := sX9_settle_36 (κ := κ) (F := F) (r2 := 120 + e) (r3 := 120 + (e + 1)) (r4 := 64 + (e * 4 + d e)) hF hW hL.1.2 (by omega) (by omega) (by omega)
  refine ⟨s, a1, fun x hx => ?_, ?_⟩
  · rw [a2 _ (by omega), bt_andn (Nat.mod_lt _ (by decide)), hR x hx, hL.2.2.2 e he (d e) hd1 x hx, OP_s]
  · have e3 := hL.2.2.1 e he
    unfold pX9_settle
    simp (disch := omega) only [n_0, n_1, n_2, n_3, n_4, n_5, n_6, n_7, n_8, n_9, n_10, n_12, n_13, n_14, n_20, n_31, n_32, n_63, n_64, n_600, n_1024, n_4096, n_6157, n_add, n_mul, nm_def, Option.bind_some, Option.some.injEq, ck_in, ck_nz, ck_p, n_cl, n_lt, n_le, n_eq, n_div, n_rem, if_pos, if_neg, if_true, if_false, eq_self, n_192, n_256, n_20000, m1_n0, m1_np, m1_n0p, m1_lt0, m1_lt0p, mi_setIA, mi_setI, ml_setIA, ml_setI, mr_setI, mr_setIA, e3, Nat.mul_one]
    exact a3
theorem sX9_stillOpen (hF : 5000 < F) (hW : W ≤ 64) (hN : N ≤ 14) (h6 : mi κ 59 6 = nI N) (h7 : mi κ 59 7 = nI W) (hR : RBit κ (120 + N) W P) : pX9_stillOpen F κ = some (nI (cnt P (64 * W))) := by
  unfold pX9_stillOpen
  refine lp_upE F (fun fu i => pX9_stillOpen_4 F κ fu (nI (cnt P (64 * i))) (nI i)) (0) (W) _ _ rfl (fun fu => ?_) (fun fu i hi1 hi2 => ?_) (by omega) (by omega)
  · show pX9_stillOpen_4 F κ (fu + 1) (nI (cnt P (64 * (W)))) (nI (W)) = _
    rw [pX9_stillOpen_4, h7]
    simp (disch := omega) only [n_0, n_1, n_2, n_3, n_4, n_5, n_6, n_7, n_8, n_9, n_10, n_12, n_13, n_14, n_20, n_31, n_32, n_63, n_64, n_600, n_1024, n_4096, n_6157, n_add, n_mul, nm_def, Option.bind_some, Option.some.injEq, ck_in, ck_nz, ck_p, n_cl, n_lt, n_le, n_eq, n_div, n_rem, if_pos, if_neg, if_true, if_false, eq_self, n_192, n_256, n_20000, m1_n0, m1_np, m1_n0p, m1_lt0, m1_lt0p, mi_setIA, mi_setI, ml_setIA, ml_setI, mr_setI, mr_setIA]
  · show pX9_stillOpen_4 F κ (fu + 1) (nI (cnt P (64 * i))) (nI i) = pX9_stillOpen_4 F κ fu (nI (cnt P (64 * (i + 1)))) (nI (i + 1))
    have hc : cnt P (64 * i) + cnt (bt (ml κ (120 + N) i)) 64 = cnt P (64 * (i + 1)) := by
      rw [Nat.mul_succ, cnt_app]
      congr 1
      refine cnt_congr (fun j hj => ?_)
      have h9 := hR (64 * i + j) (by omega)
      rw [show (64 * i + j) / 64 = i by omega, show (64 * i + j) % 64 = j by omega] at h9
      exact h9
    rw [pX9_stillOpen_4, h7, h6]
    simp (disch := omega) only [n_0, n_1, n_2, n_3, n_4, n_5, n_6, n_7, n_8, n_9, n_10, n_12, n_13, n_14, n_20, n_31, n_32, n_63, n_64, n_600, n_1024, n_4096, n_6157, n_add, n_mul, nm_def, Option.bind_some, Option.some.injEq, ck_in, ck_nz, ck_p, n_cl, n_lt, n_le, n_eq, n_div, n_rem, if_pos, if_neg, if_true, if_false, eq_self, n_192, n_256, n_20000, m1_n0, m1_np, m1_n0p, m1_lt0, m1_lt0p, mi_setIA, mi_setI, ml_setIA, ml_setI, mr_setI, mr_setIA, Nat.mul_one, x_bitCount, hc]
theorem sX9_pickNext_7 {f : Nat → Nat} (hN : N ≤ 14) (hf : ∀ i, i < N → 0 < f i) (hf4 : ∀ i, i < N → f i ≤ 4) (h6 : mi κ 59 6 = nI N) (h62 : ∀ j, j < N → mi κ 62 j = nI (f j)) : ∀ (a fu : Nat) (s : Mem), a ≤ N → a < fu → agr (fun k => k = 63) κ s → (∀ j, j < a → mi s 63 j = nI (dig f N w j)) → (∀ j, a ≤ j → j < N → mi s 63 j = nI 0) → (w + 1) % pw f a (N - a) = 0 → ∃ s1 e, agr (fun k => k = 63) κ s1 ∧ e ≤ N ∧ (w + 1 < pw f 0 N → (∀ j, j < N → mi s1 63 j = nI (dig f N (w + 1) j)) ∧ ∀ j, j < e → dig f N (w + 1) j = dig f N w j) ∧ pX9_pickNext_7 F fu s (predI a) = some (nI e, s1) := by
  intro a
  induction a with
  | zero =>
    intro fu s _ hfu ha _ _ hz
    obtain ⟨fu, rfl⟩ : ∃ f, fu = f + 1 := ⟨fu - 1, by omega⟩
    refine ⟨s, N, ha, Nat.le_refl _, fun hl => ?_, ?_⟩
    · rw [Nat.sub_zero, Nat.mod_eq_of_lt hl] at hz
      omega
    · have e6 : mi s 59 6 = nI N := (agr_mi ha (by omega) 6).trans h6
      rw [pX9_pickNext_7, predI_0, e6]
      simp (disch := omega) only [n_0, n_1, n_2, n_3, n_4, n_5, n_6, n_7, n_8, n_9, n_10, n_12, n_13, n_14, n_20, n_31, n_32, n_63, n_64, n_600, n_1024, n_4096, n_6157, n_add, n_mul, nm_def, Option.bind_some, Option.some.injEq, ck_in, ck_nz, ck_p, n_cl, n_lt, n_le, n_eq, n_div, n_rem, if_pos, if_neg, if_true, if_false, eq_self, n_192, n_256, n_20000, m1_n0, m1_np, m1_n0p, m1_lt0, m1_lt0p, mi_setIA, mi_setI, ml_setIA, ml_setI, mr_setI, mr_setIA]
  | succ a ih =>
    intro fu s haN hfu ha hb hc hz
    obtain ⟨fu, rfl⟩ : ∃ f, fu = f + 1 := ⟨fu - 1, by omega⟩
    have e2 := hb a (Nat.lt_succ_self a)
    have e1 : mi s 62 a = nI (f a) := (agr_mi ha (by omega) a).trans (h62 a (by omega))
    have h4 := hf4 a (by omega)
    have hdl : dig f N w a < f a := dig_lt (hf a (by omega))
    by_cases z : dig f N w a + 1 < f a
    · have hu := fun q hq => dig_up (f := f) (N := N) (w := w) (e := a) (q := q) hf (by omega) hz z hq
      refine ⟨setI s 63 a (nI (dig f N w a + 1)), a, agr_trans ha (agr_setI rfl), by omega, fun _ => ⟨fun j hj => ?_, fun j hj => ?_⟩, ?_⟩
      · rw [mi_setI, hu j hj]
        by_cases y : j = a
        · rw [if_pos ⟨rfl, y⟩, if_neg (by omega), if_pos y]
        · rw [if_neg (fun z => y z.2), if_neg y]
          by_cases y2 : j < a
          · rw [if_pos y2]; exact hb j (by omega)
          · rw [if_neg y2]; exact hc j (by omega) hj
      · rw [hu j (by omega), if_pos hj]
      · have k1 : ∀ v, mi (setI s 63 a v) 63 a = v := fun v => by rw [mi_setI, if_pos ⟨rfl, rfl⟩]
        have k2 : ∀ v, mi (setI s 63 a v) 62 a = nI (f a) := fun v => by rw [mi_setI, if_neg (by omega)]; exact e1
        rw [pX9_pickNext_7, predI_s]
        simp (disch := omega) only [n_0, n_1, n_2, n_3, n_4, n_5, n_6, n_7, n_8, n_9, n_10, n_12, n_13, n_14, n_20, n_31, n_32, n_63, n_64, n_600, n_1024, n_4096, n_6157, n_add, n_mul, nm_def, Option.bind_some, Option.some.injEq, ck_in, ck_nz, ck_p, n_cl, n_lt, n_le, n_eq, n_div, n_rem, if_pos, if_neg, if_true, if_false, eq_self, n_192, n_256, n_20000, m1_n0, m1_np, m1_n0p, m1_lt0, m1_lt0p, mi_setIA, mi_setI, ml_setIA, ml_setI, mr_setI, mr_setIA, e2, k1, k2, z]
    · obtain ⟨s1, e, g1, g2, g3, g4⟩ := ih fu (setI (setI s 63 a (nI (dig f N w a + 1))) 63 a (nI 0)) (by omega) (by omega) (agr_trans ha (agr_trans (agr_setI rfl) (agr_setI rfl))) (fun j hj => by rw [mi_setI, if_neg (by omega), mi_setI, if_neg (by omega)]; exact hb j (by omega)) (fun j h1 h2 => by
        rw [mi_setI]
        by_cases y : j = a
        · rw [if_pos ⟨rfl, y⟩]
        · rw [if_neg (fun z => y z.2), mi_setI, if_neg (fun z => y z.2)]; exact hc j (by omega) h2) (dig_max (e := a) hf (by omega) hz z)
      refine ⟨s1, e, g1, g2, g3, ?_⟩
      have k1 : ∀ v, mi (setI s 63 a v) 63 a = v := fun v => by rw [mi_setI, if_pos ⟨rfl, rfl⟩]
      have k2 : ∀ v, mi (setI s 63 a v) 62 a = nI (f a) := fun v => by rw [mi_setI, if_neg (by omega)]; exact e1
      rw [pX9_pickNext_7, predI_s]
      simp (disch := omega) only [n_0, n_1, n_2, n_3, n_4, n_5, n_6, n_7, n_8, n_9, n_10, n_12, n_13, n_14, n_20, n_31, n_32, n_63, n_64, n_600, n_1024, n_4096, n_6157, n_add, n_mul, nm_def, Option.bind_some, Option.some.injEq, ck_in, ck_nz, ck_p, n_cl, n_lt, n_le, n_eq, n_div, n_rem, if_pos, if_neg, if_true, if_false, eq_self, n_192, n_256, n_20000, m1_n0, m1_np, m1_n0p, m1_lt0, m1_lt0p, mi_setIA, mi_setI, ml_setIA, ml_setI, mr_setI, mr_setIA, e2, k1, k2, z]
      exact g4
theorem sX9_pickNext (hF : 5000 < F) (hN : N ≤ 14) (hf : ∀ i, i < N → 0 < fS G i) (hf4 : ∀ i, i < N → fS G i ≤ 4) (hL : LW κ G N W (dig (fS G) N w)) : ∃ s1 e, agr (fun k => k = 63) κ s1 ∧ e ≤ N ∧ (w + 1 < pw (fS G) 0 N → (∀ j, j < N → mi s1 63 j = nI (dig (fS G) N (w + 1) j)) ∧ ∀ j, j < e → dig (fS G) N (w + 1) j = dig (fS G) N w j) ∧ pX9_pickNext F κ = some (nI e, s1) := by
  have h := sX9_pickNext_7 (w := w) (F := F) hN hf hf4 hL.1.1 hL.2.1 N F κ (Nat.le_refl _) (by omega) agr_rfl hL.2.2.1 (fun j h1 h2 => by omega) (by rw [Nat.sub_self]; exact Nat.mod_one _)
  unfold pX9_pickNext
  rw [hL.1.1, nm_def, show nI N - 1 = predI N from n_sub1 N]
  exact h
def wonC (G : Gm) (N w : Nat) : Nat := sm (fun w => if lW G (dig (fS G) N w) = 0 then 1 else 0) w
def fewC (G : Gm) (N w : Nat) : Nat := mnF (fun w => lW G (dig (fS G) N w)) w
theorem sX9_54 {k46 : Mem → Int32 → Int32 → Option Mem} {v1 v3 : Int32} {ch : Nat} (hF : 5000 < F) (hW : W ≤ 64) (hN : N ≤ 14) (hL : LW κ G N W d) (h4 : ∀ j, j < N → fS G j ≤ 4) (hd : ∀ j, j < N → d j < fS G j) (hch : ch ≤ N) (hR : ∀ j, j ≤ ch → RBit κ (120 + j) W (OP G d j)) : ∃ κ1, agr (fun k => 121 ≤ k ∧ k ≤ 134) κ κ1 ∧ (∀ j, j ≤ N → RBit κ1 (120 + j) W (OP G d j)) ∧ pX9_goThrough_54 F k46 v1 v3 F κ (nI ch) = (pX9_stillOpen F κ1).bind fun t7 => if t7 = 0 then pX9_goThrough_96 F k46 κ1 v1 v3 t7 1 (mi κ1 59 8) else pX9_goThrough_96 F k46 κ1 v1 v3 t7 0 (mi κ1 59 8) := by
  refine lp_inv (fun fu (s : Mem) i => pX9_goThrough_54 F k46 v1 v3 fu s (nI i)) (fun s i => agr (fun k => 121 ≤ k ∧ k ≤ 134) κ s ∧ ∀ j, j ≤ i → RBit s (120 + j) W (OP G d j)) N (fun y => ∃ κ1, agr (fun k => 121 ≤ k ∧ k ≤ 134) κ κ1 ∧ (∀ j, j ≤ N → RBit κ1 (120 + j) W (OP G d j)) ∧ y = (pX9_stillOpen F κ1).bind fun t7 => if t7 = 0 then pX9_goThrough_96 F k46 κ1 v1 v3 t7 1 (mi κ1 59 8) else pX9_goThrough_96 F k46 κ1 v1 v3 t7 0 (mi κ1 59 8)) (fun fu s hS => ?_) (fun fu s i hi hS => ?_) F κ ch hch (by omega) ⟨agr_rfl, hR⟩
  · have e6 : mi s 59 6 = nI N := (agr_mi hS.1 (by omega) 6).trans hL.1.1
    refine ⟨s, hS.1, hS.2, ?_⟩
    show pX9_goThrough_54 F k46 v1 v3 (fu + 1) s (nI N) = _
    rw [pX9_goThrough_54, e6, i_lt (by omega) (by omega), if_neg (Nat.lt_irrefl _)]
  · have e6 : mi s 59 6 = nI N := (agr_mi hS.1 (by omega) 6).trans hL.1.1
    obtain ⟨s2, b1, b2, b3⟩ := sX9_settle (F := F) (e := i) hF hW hN (LW_agr hL hN h4 (agr_mono hS.1 (fun k hk => by omega))) h4 hd hi (hS.2 i (Nat.le_refl _))
    refine ⟨s2, ⟨agr_trans hS.1 (agr_mono b1 (fun k hk => by omega)), fun j hj => ?_⟩, ?_⟩
    · by_cases y : j = i + 1
      · rw [y]; exact b2
      · exact (hS.2 j (by omega)).agr b1 (by omega)
    · show pX9_goThrough_54 F k46 v1 v3 (fu + 1) s (nI i) = pX9_goThrough_54 F k46 v1 v3 fu _ (nI (i + 1))
      rw [pX9_goThrough_54, e6, i_lt (by omega) (by omega), if_pos hi, b3, Option.bind_some, show nI i + 1 = nI (i + 1) from n_add i 1]
end GTH
