/-! ALL WAYS TO GUESS: the class lays out what is right -/
theorem bt_or1 {w : Int64} {k i : Nat} (hk : k < 64) (hi : i < 64) : bt (w ||| (1 <<< ((nI k).toInt64 &&& 63))) i = (bt w i || decide (i = k)) := by
  show (w ||| (1 <<< ((nI k).toInt64 &&& 63))).toBitVec.getLsbD i = (w.toBitVec.getLsbD i || decide (i = k))
  rw [Int64.toBitVec_or, tl_shl _ hk, BitVec.getLsbD_or, BitVec.getLsbD_shiftLeft, show (1 : Int64).toBitVec = 1#64 from rfl, BitVec.getLsbD_ofNat]
  congr 1
  have t1 : ∀ j, Nat.testBit 1 j = decide (j = 0) := fun j => by
    cases j with
    | zero => rfl
    | succ j => rw [Nat.testBit_succ, show (1 : Nat) / 2 = 0 from rfl, Nat.zero_testBit]; simp
  rw [t1]
  by_cases h : i < k
  · simp [h, show ¬ i = k by omega]
  · simp [h, hi, show i - k < 64 by omega]
    omega
theorem bt_andn {a b : Int64} {i : Nat} (hi : i < 64) : bt (a &&& (b ^^^ (-1))) i = (bt a i && !bt b i) := by
  show (a &&& (b ^^^ (-1))).toBitVec.getLsbD i = (a.toBitVec.getLsbD i && !b.toBitVec.getLsbD i)
  rw [Int64.toBitVec_and, Int64.toBitVec_xor, BitVec.getLsbD_and, BitVec.getLsbD_xor, show (-1 : Int64).toBitVec = BitVec.allOnes 64 by decide, BitVec.getLsbD_allOnes]
  simp [hi]
theorem bt_0 (i : Nat) : bt 0 i = false := Nat.zero_testBit i
def RBit (κ : Mem) (c W : Nat) (P : Nat → Bool) : Prop := ∀ x, x < 64 * W → bt (ml κ c (x / 64)) (x % 64) = P x
section RBS
variable {κ κ1 : Mem} {G : Gm} {S : Nat → Prop} {F p q c c2 W x i : Nat} {P P2 : Nat → Bool}
theorem RBit.agr (h : RBit κ c W P) (ha : agr S κ κ1) (hc : ¬ S c) : RBit κ1 c W P := fun x hx => by rw [agr_ml ha hc]; exact h x hx
theorem RBit.congr (h : RBit κ c W P) (he : ∀ x, x < 64 * W → P x = P2 x) : RBit κ c W P2 := fun x hx => (h x hx).trans (he x hx)
theorem RBit_zero (h : ∀ i, i < W → ml κ c i = 0) : RBit κ c W (fun _ => false) := fun x hx => by rw [h _ (by omega), bt_0]
theorem RBit_set (h : RBit κ c W P) : RBit (setL κ c (x / 64) (ml κ c (x / 64) ||| (1 <<< ((nI (x % 64)).toInt64 &&& 63)))) c W (fun y => P y || decide (y = x)) := fun y hy => by
  rw [ml_setL]
  by_cases e : y / 64 = x / 64
  · rw [if_pos ⟨rfl, e⟩, bt_or1 (Nat.mod_lt _ (by decide)) (Nat.mod_lt _ (by decide)), ← e, h y hy]
    congr 1
    exact decide_eq_decide.mpr (by omega)
  · rw [if_neg (fun z => e z.2), h y hy]
    show P y = (P y || decide (y = x))
    rw [decide_eq_false (show ¬ y = x from fun z => e (by rw [z])), Bool.or_false]
theorem RBit_ne {w : Int64} {k i : Nat} (h : RBit κ c W P) (hk : c ≠ k) : RBit (setL κ k i w) c W P := h.agr (agr_setL (S := fun z => z = k) rfl) hk
theorem sX9_layOut_24 (hF : 5000 < F) (hW : W ≤ 64) (h7 : mi κ 59 7 = nI W) : ∃ κ1, agr (fun k => k = 120) κ κ1 ∧ RBit κ1 120 W (fun _ => false) ∧ pX9_layOut_24 F F κ 0 = pX9_layOut_49 F F κ1 0 := by
  refine lp_inv (fun fu (s : Mem) i => pX9_layOut_24 F fu s (nI i)) (fun s i => agr (fun k => k = 120) κ s ∧ ∀ j, j < i → ml s 120 j = 0) W (fun y => ∃ κ1, agr (fun k => k = 120) κ κ1 ∧ RBit κ1 120 W (fun _ => false) ∧ y = pX9_layOut_49 F F κ1 0) (fun fu s hS => ?_) (fun fu s i hi hS => ?_) F κ 0 (Nat.zero_le _) (by omega) ⟨agr_rfl, fun j hj => absurd hj (Nat.not_lt_zero _)⟩
  · have e7 : mi s 59 7 = nI W := (agr_mi hS.1 (by decide) 7).trans h7
    refine ⟨s, hS.1, RBit_zero hS.2, ?_⟩
    show pX9_layOut_24 F (fu + 1) s (nI W) = _
    rw [pX9_layOut_24, e7]
    simp (disch := omega) only [n_0, n_1, n_2, n_3, n_4, n_5, n_6, n_7, n_8, n_9, n_10, n_12, n_13, n_14, n_20, n_31, n_32, n_63, n_64, n_600, n_1024, n_4096, n_6157, n_add, n_mul, nm_def, Option.bind_some, Option.some.injEq, ck_in, ck_nz, ck_p, n_cl, n_lt, n_le, n_eq, n_div, n_rem, if_pos, if_neg, if_true, if_false, eq_self, n_192, n_256, n_20000, m1_n0, m1_np, m1_n0p, m1_lt0, m1_lt0p, mi_setIA, mi_setI, ml_setIA, ml_setI, mr_setI, mr_setIA]
  · have e7 : mi s 59 7 = nI W := (agr_mi hS.1 (by decide) 7).trans h7
    refine ⟨setL s 120 i 0, ⟨agr_trans hS.1 (agr_setL rfl), fun j hj => ?_⟩, ?_⟩
    · rw [ml_setL]
      by_cases e : j = i
      · rw [if_pos ⟨rfl, e⟩]
      · rw [if_neg (fun z => e z.2)]; exact hS.2 j (by omega)
    · show pX9_layOut_24 F (fu + 1) s (nI i) = pX9_layOut_24 F fu _ (nI (i + 1))
      rw [pX9_layOut_24, e7]
      simp (disch := omega) only [n_0, n_1, n_2, n_3, n_4, n_5, n_6, n_7, n_8, n_9, n_10, n_12, n_13, n_14, n_20, n_31, n_32, n_63, n_64, n_600, n_1024, n_4096, n_6157, n_add, n_mul, nm_def, Option.bind_some, Option.some.injEq, ck_in, ck_nz, ck_p, n_cl, n_lt, n_le, n_eq, n_div, n_rem, if_pos, if_neg, if_true, if_false, eq_self, n_192, n_256, n_20000, m1_n0, m1_np, m1_n0p, m1_lt0, m1_lt0p, mi_setIA, mi_setI, ml_setIA, ml_setI, mr_setI, mr_setIA]
theorem sX9_layOut_49 (hF : 5000 < F) (hW : W ≤ 64) (hn : ncol G ≤ 64 * W) (hc : mi κ 41 1 = nI (ncol G)) (hR : RBit κ 120 W (fun _ => false)) : ∃ κ1, agr (fun k => k = 120) κ κ1 ∧ RBit κ1 120 W (fun x => decide (x < ncol G)) ∧ pX9_layOut_49 F F κ 0 = pX9_layOut_88 F F κ1 0 := by
  refine lp_inv (fun fu (s : Mem) i => pX9_layOut_49 F fu s (nI i)) (fun s i => agr (fun k => k = 120) κ s ∧ RBit s 120 W (fun x => decide (x < i))) (ncol G) (fun y => ∃ κ1, agr (fun k => k = 120) κ κ1 ∧ RBit κ1 120 W (fun x => decide (x < ncol G)) ∧ y = pX9_layOut_88 F F κ1 0) (fun fu s hS => ?_) (fun fu s i hi hS => ?_) F κ 0 (Nat.zero_le _) (by omega) ⟨agr_rfl, hR.congr (fun x _ => (decide_eq_false (Nat.not_lt_zero x)).symm)⟩
  · have e7 : mi s 41 1 = nI (ncol G) := (agr_mi hS.1 (by decide) 1).trans hc
    refine ⟨s, hS.1, hS.2, ?_⟩
    show pX9_layOut_49 F (fu + 1) s (nI (ncol G)) = _
    rw [pX9_layOut_49, e7]
    simp (disch := omega) only [n_0, n_1, n_2, n_3, n_4, n_5, n_6, n_7, n_8, n_9, n_10, n_12, n_13, n_14, n_20, n_31, n_32, n_63, n_64, n_600, n_1024, n_4096, n_6157, n_add, n_mul, nm_def, Option.bind_some, Option.some.injEq, ck_in, ck_nz, ck_p, n_cl, n_lt, n_le, n_eq, n_div, n_rem, if_pos, if_neg, if_true, if_false, eq_self, n_192, n_256, n_20000, m1_n0, m1_np, m1_n0p, m1_lt0, m1_lt0p, mi_setIA, mi_setI, ml_setIA, ml_setI, mr_setI, mr_setIA]
  · have e7 : mi s 41 1 = nI (ncol G) := (agr_mi hS.1 (by decide) 1).trans hc
    refine ⟨setL s 120 (i / 64) (ml s 120 (i / 64) ||| (1 <<< ((nI (i % 64)).toInt64 &&& 63))), ⟨agr_trans hS.1 (agr_setL rfl), (RBit_set (x := i) hS.2).congr (fun y _ => ?_)⟩, ?_⟩
    · by_cases e : y < i
      · rw [decide_eq_true e, decide_eq_true (show y < i + 1 by omega)]; rfl
      · rw [decide_eq_false e, Bool.false_or]
        exact decide_eq_decide.mpr (by omega)
    · show pX9_layOut_49 F (fu + 1) s (nI i) = pX9_layOut_49 F fu _ (nI (i + 1))
      have h64 : i / 64 < 64 := by omega
      rw [pX9_layOut_49, e7]
      simp (disch := omega) only [n_0, n_1, n_2, n_3, n_4, n_5, n_6, n_7, n_8, n_9, n_10, n_12, n_13, n_14, n_20, n_31, n_32, n_63, n_64, n_600, n_1024, n_4096, n_6157, n_add, n_mul, nm_def, Option.bind_some, Option.some.injEq, ck_in, ck_nz, ck_p, n_cl, n_lt, n_le, n_eq, n_div, n_rem, if_pos, if_neg, if_true, if_false, eq_self, n_192, n_256, n_20000, m1_n0, m1_np, m1_n0p, m1_lt0, m1_lt0p, mi_setIA, mi_setI, ml_setIA, ml_setI, mr_setI, mr_setIA]
/-- a row is cleared -/
theorem sX9_80 {k63 : Mem → Int32 → Option Mem} {v1 v2 v3 v4 : Int32} {e : Nat} (hF : 5000 < F) (hW : W ≤ 64) (h7 : mi κ 59 7 = nI W) (h6 : mi κ 59 6 = nI e) (he : e < 14) (hc : c < 4) : ∃ κ1, agr (fun k => k = 64 + (e * 4 + c)) κ κ1 ∧ (∀ j, j < W → ml κ1 (64 + (e * 4 + c)) j = 0) ∧ pX9_layOutPlayer_80 F k63 v1 v2 v3 v4 (nI c) F κ 0 = k63 κ1 (nI (c + 1)) := by
  have hne : ¬ 59 = 64 + (e * 4 + c) := by omega
  refine lp_inv (fun fu (s : Mem) i => pX9_layOutPlayer_80 F k63 v1 v2 v3 v4 (nI c) fu s (nI i)) (fun s i => agr (fun k => k = 64 + (e * 4 + c)) κ s ∧ ∀ j, j < i → ml s (64 + (e * 4 + c)) j = 0) W (fun y => ∃ κ1, agr (fun k => k = 64 + (e * 4 + c)) κ κ1 ∧ (∀ j, j < W → ml κ1 (64 + (e * 4 + c)) j = 0) ∧ y = k63 κ1 (nI (c + 1))) (fun fu s hS => ?_) (fun fu s i hi hS => ?_) F κ 0 (Nat.zero_le _) (by omega) ⟨agr_rfl, fun j hj => absurd hj (Nat.not_lt_zero _)⟩
  · have e7 : mi s 59 7 = nI W := (agr_mi hS.1 hne 7).trans h7
    refine ⟨s, hS.1, hS.2, ?_⟩
    show pX9_layOutPlayer_80 F k63 v1 v2 v3 v4 (nI c) (fu + 1) s (nI W) = _
    rw [pX9_layOutPlayer_80, e7]
    simp (disch := omega) only [n_0, n_1, n_2, n_3, n_4, n_5, n_6, n_7, n_8, n_9, n_10, n_12, n_13, n_14, n_20, n_31, n_32, n_63, n_64, n_600, n_1024, n_4096, n_6157, n_add, n_mul, nm_def, Option.bind_some, Option.some.injEq, ck_in, ck_nz, ck_p, n_cl, n_lt, n_le, n_eq, n_div, n_rem, if_pos, if_neg, if_true, if_false, eq_self, n_192, n_256, n_20000, m1_n0, m1_np, m1_n0p, m1_lt0, m1_lt0p, mi_setIA, mi_setI, ml_setIA, ml_setI, mr_setI, mr_setIA]
  · have e7 : mi s 59 7 = nI W := (agr_mi hS.1 hne 7).trans h7
    have e6 : mi s 59 6 = nI e := (agr_mi hS.1 hne 6).trans h6
    refine ⟨setL s (64 + (e * 4 + c)) i 0, ⟨agr_trans hS.1 (agr_setL rfl), fun j hj => ?_⟩, ?_⟩
    · rw [ml_setL]
      by_cases y : j = i
      · rw [if_pos ⟨rfl, y⟩]
      · rw [if_neg (fun z => y z.2)]; exact hS.2 j (by omega)
    · show pX9_layOutPlayer_80 F k63 v1 v2 v3 v4 (nI c) (fu + 1) s (nI i) = pX9_layOutPlayer_80 F k63 v1 v2 v3 v4 (nI c) fu _ (nI (i + 1))
      rw [pX9_layOutPlayer_80, e7, e6]
      simp (disch := omega) only [n_0, n_1, n_2, n_3, n_4, n_5, n_6, n_7, n_8, n_9, n_10, n_12, n_13, n_14, n_20, n_31, n_32, n_63, n_64, n_600, n_1024, n_4096, n_6157, n_add, n_mul, nm_def, Option.bind_some, Option.some.injEq, ck_in, ck_nz, ck_p, n_cl, n_lt, n_le, n_eq, n_div, n_rem, if_pos, if_neg, if_true, if_false, eq_self, n_192, n_256, n_20000, m1_n0, m1_np, m1_n0p, m1_lt0, m1_lt0p, mi_setIA, mi_setI, ml_setIA, ml_setI, mr_setI, mr_setIA, Nat.mul_one]
/-- the rows of an entry are cleared -/
theorem sX9_63 {k17 : Mem → Int32 → Option Mem} {v2 v3 : Int32} {e h s0 : Nat} (hF : 5000 < F) (hW : W ≤ 64) (h7 : mi κ 59 7 = nI W) (h6 : mi κ 59 6 = nI e) (he : e < 14) (hp : p < 6) (hh : mi κ 2 p = nI h) (h4 : h ≤ 4) : ∃ κ1, agr (fun k => k = 59 ∨ (64 + e * 4 ≤ k ∧ k < 64 + e * 4 + 4)) κ κ1 ∧ (∀ c, c < h → ∀ j, j < W → ml κ1 (64 + (e * 4 + c)) j = 0) ∧ mi κ1 59 6 = nI (e + 1) ∧ (∀ i, i ≠ 6 → mi κ1 59 i = mi κ 59 i) ∧ pX9_layOutPlayer_63 F k17 (nI p) v2 v3 (nI s0) F κ 0 = k17 κ1 (nI (s0 + 1)) := by
  refine lp_inv (fun fu (s : Mem) i => pX9_layOutPlayer_63 F k17 (nI p) v2 v3 (nI s0) fu s (nI i)) (fun s i => agr (fun k => 64 + e * 4 ≤ k ∧ k < 64 + e * 4 + 4) κ s ∧ ∀ c, c < i → ∀ j, j < W → ml s (64 + (e * 4 + c)) j = 0) h (fun y => ∃ κ1, agr (fun k => k = 59 ∨ (64 + e * 4 ≤ k ∧ k < 64 + e * 4 + 4)) κ κ1 ∧ (∀ c, c < h → ∀ j, j < W → ml κ1 (64 + (e * 4 + c)) j = 0) ∧ mi κ1 59 6 = nI (e + 1) ∧ (∀ i, i ≠ 6 → mi κ1 59 i = mi κ 59 i) ∧ y = k17 κ1 (nI (s0 + 1))) (fun fu s hS => ?_) (fun fu s i hi hS => ?_) F κ 0 (Nat.zero_le _) (by omega) ⟨agr_rfl, fun j hj => absurd hj (Nat.not_lt_zero _)⟩
  · have e6 : mi s 59 6 = nI e := (agr_mi hS.1 (by omega) 6).trans h6
    have e2 : mi s 2 p = nI h := (agr_mi hS.1 (by omega) p).trans hh
    refine ⟨setI s 59 6 (nI (e + 1)), agr_trans (agr_mono hS.1 (fun k hk => Or.inr hk)) (agr_setI (Or.inl rfl)), fun c hc j hj => hS.2 c hc j hj, by rw [mi_setI, if_pos ⟨rfl, rfl⟩], fun i hi => by rw [mi_setI, if_neg (fun z => hi z.2)]; exact agr_mi hS.1 (by omega) i, ?_⟩
    show pX9_layOutPlayer_63 F k17 (nI p) v2 v3 (nI s0) (fu + 1) s (nI h) = _
    rw [pX9_layOutPlayer_63, e6]
    simp (disch := omega) only [n_0, n_1, n_2, n_3, n_4, n_5, n_6, n_7, n_8, n_9, n_10, n_12, n_13, n_14, n_20, n_31, n_32, n_63, n_64, n_600, n_1024, n_4096, n_6157, n_add, n_mul, nm_def, Option.bind_some, Option.some.injEq, ck_in, ck_nz, ck_p, n_cl, n_lt, n_le, n_eq, n_div, n_rem, if_pos, if_neg, if_true, if_false, eq_self, n_192, n_256, n_20000, m1_n0, m1_np, m1_n0p, m1_lt0, m1_lt0p, mi_setIA, mi_setI, ml_setIA, ml_setI, mr_setI, mr_setIA, e2]
  · have e6 : mi s 59 6 = nI e := (agr_mi hS.1 (by omega) 6).trans h6
    have e7 : mi s 59 7 = nI W := (agr_mi hS.1 (by omega) 7).trans h7
    have e2 : mi s 2 p = nI h := (agr_mi hS.1 (by omega) p).trans hh
    obtain ⟨s1, a1, a2, a3⟩ := sX9_80 (κ := s) (F := F) (k63 := pX9_layOutPlayer_63 F k17 (nI p) v2 v3 (nI s0) fu) (v1 := nI p) (v2 := v2) (v3 := v3) (v4 := nI s0) (c := i) hF hW e7 e6 he (by omega)
    refine ⟨s1, ⟨agr_trans hS.1 (agr_mono a1 (fun k hk => by omega)), fun c hc j hj => ?_⟩, ?_⟩
    · by_cases y : c = i
      · rw [y]; exact a2 j hj
      · rw [agr_ml a1 (by omega)]; exact hS.2 c (by omega) j hj
    · show pX9_layOutPlayer_63 F k17 (nI p) v2 v3 (nI s0) (fu + 1) s (nI i) = pX9_layOutPlayer_63 F k17 (nI p) v2 v3 (nI s0) fu _ (nI (i + 1))
      rw [pX9_layOutPlayer_63]
      simp (disch := omega) only [n_0, n_1, n_2, n_3, n_4, n_5, n_6, n_7, n_8, n_9, n_10, n_12, n_13, n_14, n_20, n_31, n_32, n_63, n_64, n_600, n_1024, n_4096, n_6157, n_add, n_mul, nm_def, Option.bind_some, Option.some.injEq, ck_in, ck_nz, ck_p, n_cl, n_lt, n_le, n_eq, n_div, n_rem, if_pos, if_neg, if_true, if_false, eq_self, n_192, n_256, n_20000, m1_n0, m1_np, m1_n0p, m1_lt0, m1_lt0p, mi_setIA, mi_setI, ml_setIA, ml_setI, mr_setI, mr_setIA, e2]
      exact a3
/-- what is laid out: entries, and the rows of each -/
def LO (κ : Mem) (G : Gm) (N W : Nat) (Q : Nat → Nat → Nat → Bool) : Prop := mi κ 59 6 = nI N ∧ mi κ 59 7 = nI W ∧ ∀ j, j < N → mi κ 62 j = nI (fS G j) ∧ mi κ 63 j = nI 0 ∧ ∀ c, c < fS G j → RBit κ (64 + (j * 4 + c)) W (Q j c)
def SW (k : Nat) : Prop := k = 59 ∨ (62 ≤ k ∧ k ≤ 134)
theorem sX9_17 {Q : Nat → Nat → Nat → Bool} {v2 : Int32} (hA : AR κ G) (hw : WF G) (hF : 5000 < F) (hW : W ≤ 64) (hp : p < Gn G) (hN : bs G (Gn G) ≤ 14) (hL : LO κ G (bs G p) W Q) : ∃ κ1, agr (fun k => k = 59 ∨ (62 ≤ k ∧ k < 120)) κ κ1 ∧ (∀ i, i ≠ 6 → mi κ1 59 i = mi κ 59 i) ∧ LO κ1 G (bs G (p + 1)) W (fun j c x => if j < bs G p then Q j c x else false) ∧ pX9_layOutPlayer_17 F (nI p) v2 (nI (sit G p)) F κ 0 = pX9_layOutPlayer_135 F κ1 (nI p) v2 := by
  have hp6 := hw_lt hw hp
  have hsl := sit_le hw hp
  have h4 := hw.h4 hp
  have hb := bs_mono (G := G) (show p + 1 ≤ Gn G by omega)
  have hbs := bs_s (G := G) p
  refine lp_inv (fun fu (s : Mem) i => pX9_layOutPlayer_17 F (nI p) v2 (nI (sit G p)) fu s (nI i)) (fun s i => agr (fun k => k = 59 ∨ (62 ≤ k ∧ k < 120)) κ s ∧ (∀ i, i ≠ 6 → mi s 59 i = mi κ 59 i) ∧ LO s G (bs G p + i) W (fun j c x => if j < bs G p then Q j c x else false)) (sit G p) (fun y => ∃ κ1, agr (fun k => k = 59 ∨ (62 ≤ k ∧ k < 120)) κ κ1 ∧ (∀ i, i ≠ 6 → mi κ1 59 i = mi κ 59 i) ∧ LO κ1 G (bs G (p + 1)) W (fun j c x => if j < bs G p then Q j c x else false) ∧ y = pX9_layOutPlayer_135 F κ1 (nI p) v2) (fun fu s hS => ?_) (fun fu s i hi hS => ?_) F κ 0 (Nat.zero_le _) (by omega) ⟨agr_rfl, fun _ _ => rfl, hL.1, hL.2.1, fun j hj => ⟨(hL.2.2 j hj).1, (hL.2.2 j hj).2.1, fun c hc => ((hL.2.2 j hj).2.2 c hc).congr (fun x _ => (if_pos hj).symm)⟩⟩
  · refine ⟨s, hS.1, hS.2.1, by rw [hbs]; exact hS.2.2, ?_⟩
    show pX9_layOutPlayer_17 F (nI p) v2 (nI (sit G p)) (fu + 1) s (nI (sit G p)) = _
    rw [pX9_layOutPlayer_17]
    simp (disch := omega) only [n_0, n_1, n_2, n_3, n_4, n_5, n_6, n_7, n_8, n_9, n_10, n_12, n_13, n_14, n_20, n_31, n_32, n_63, n_64, n_600, n_1024, n_4096, n_6157, n_add, n_mul, nm_def, Option.bind_some, Option.some.injEq, ck_in, ck_nz, ck_p, n_cl, n_lt, n_le, n_eq, n_div, n_rem, if_pos, if_neg, if_true, if_false, eq_self, n_192, n_256, n_20000, m1_n0, m1_np, m1_n0p, m1_lt0, m1_lt0p, mi_setIA, mi_setI, ml_setIA, ml_setI, mr_setI, mr_setIA]
  · obtain ⟨b1, b5, b6, b7, b8⟩ := hS
    obtain ⟨e, ee⟩ : ∃ e, e = bs G p + i := ⟨_, rfl⟩
    have he : e < 14 := by omega
    have hf : fS G e = Gh G p := by rw [ee]; exact fS_eq hp hi
    rw [← ee] at b6 b8
    obtain ⟨s2, es2⟩ : ∃ s2, s2 = setI (setI s 62 e (nI (Gh G p))) 63 e (nI 0) := ⟨_, rfl⟩
    have a2 : agr (fun k => k = 62 ∨ k = 63) s s2 := by rw [es2]; exact agr_trans (agr_setI (Or.inl rfl)) (agr_setI (Or.inr rfl))
    have m62 : ∀ j, mi s2 62 j = if j = e then nI (Gh G p) else mi s 62 j := fun j => by
      rw [es2, mi_setI, if_neg (by omega), mi_setI]
      by_cases y : j = e
      · rw [if_pos ⟨rfl, y⟩, if_pos y]
      · rw [if_neg (fun z => y z.2), if_neg y]
    have m63 : ∀ j, mi s2 63 j = if j = e then nI 0 else mi s 63 j := fun j => by
      rw [es2, mi_setI]
      by_cases y : j = e
      · rw [if_pos ⟨rfl, y⟩, if_pos y]
      · rw [if_neg (fun z => y z.2), if_neg y, mi_setI, if_neg (by omega)]
    have e2 : mi s 2 p = nI (Gh G p) := (agr_mi b1 (by omega) p).trans (hA.h hp)
    obtain ⟨s3, c1, c2, c3, c4, c5⟩ := sX9_63 (κ := s2) (F := F) (k17 := pX9_layOutPlayer_17 F (nI p) v2 (nI (sit G p)) fu) (v2 := v2) (v3 := nI (sit G p)) (e := e) (s0 := i) hF hW ((agr_mi a2 (by omega) 7).trans b7) ((agr_mi a2 (by omega) 6).trans b6) he hp6 ((agr_mi a2 (by omega) p).trans e2) h4
    refine ⟨s3, ⟨agr_trans b1 (agr_trans (agr_mono a2 (fun k hk => by omega)) (agr_mono c1 (fun k hk => by omega))), fun i hi => (c4 i hi).trans ((agr_mi a2 (by omega) i).trans (b5 i hi)), by rw [← Nat.add_assoc, ← ee]; exact c3, by rw [c4 7 (by decide), agr_mi a2 (by omega)]; exact b7, fun j hj => ?_⟩, ?_⟩
    · rw [← Nat.add_assoc, ← ee] at hj
      by_cases y : j = e
      · subst y
        refine ⟨by rw [agr_mi c1 (by omega), m62, if_pos rfl, hf], by rw [agr_mi c1 (by omega), m63, if_pos rfl], fun c hc => ?_⟩
        rw [hf] at hc
        exact (RBit_zero (c2 c hc)).congr (fun x _ => (if_neg (by omega)).symm)
      · obtain ⟨d1, d2, d3⟩ := b8 j (by omega)
        refine ⟨by rw [agr_mi c1 (by omega), m62, if_neg y]; exact d1, by rw [agr_mi c1 (by omega), m63, if_neg y]; exact d2, fun c hc => ?_⟩
        have hc4 : c < 4 := by
          have hj2 : j < bs G (Gn G) := by omega
          obtain ⟨p2, s5, g1, g2, g3⟩ := bs_onto (Gn G) (Nat.le_refl _) j hj2
          rw [g3, fS_eq g1 g2] at hc
          have := hw.h4 g1
          omega
        exact ((d3 c hc).agr a2 (by omega)).agr c1 (by omega)
    · show pX9_layOutPlayer_17 F (nI p) v2 (nI (sit G p)) (fu + 1) s (nI i) = pX9_layOutPlayer_17 F (nI p) v2 (nI (sit G p)) fu _ (nI (i + 1))
      have k6 : mi (setI s 62 e (nI (Gh G p))) 59 6 = nI e := by rw [mi_setI, if_neg (by omega)]; exact b6
      rw [pX9_layOutPlayer_17, b6]
      simp (disch := omega) only [n_0, n_1, n_2, n_3, n_4, n_5, n_6, n_7, n_8, n_9, n_10, n_12, n_13, n_14, n_20, n_31, n_32, n_63, n_64, n_600, n_1024, n_4096, n_6157, n_add, n_mul, nm_def, Option.bind_some, Option.some.injEq, ck_in, ck_nz, ck_p, n_cl, n_lt, n_le, n_eq, n_div, n_rem, if_pos, if_neg, if_true, if_false, eq_self, n_192, n_256, n_20000, m1_n0, m1_np, m1_n0p, m1_lt0, m1_lt0p, mi_setIA, mi_setI, ml_setIA, ml_setI, mr_setI, mr_setIA, e2, k6]
      rw [← es2]
      exact c5
end RBS
