/-! INTS OF THE MACHINE AS NUMBERS -/
theorem n_0 : (0 : Int32) = nI 0 := rfl
theorem n_1 : (1 : Int32) = nI 1 := rfl
theorem n_2 : (2 : Int32) = nI 2 := rfl
theorem n_3 : (3 : Int32) = nI 3 := rfl
theorem n_4 : (4 : Int32) = nI 4 := rfl
theorem n_5 : (5 : Int32) = nI 5 := rfl
theorem n_6 : (6 : Int32) = nI 6 := rfl
theorem n_7 : (7 : Int32) = nI 7 := rfl
theorem n_8 : (8 : Int32) = nI 8 := rfl
theorem n_9 : (9 : Int32) = nI 9 := rfl
theorem n_10 : (10 : Int32) = nI 10 := rfl
theorem n_12 : (12 : Int32) = nI 12 := rfl
theorem n_13 : (13 : Int32) = nI 13 := rfl
theorem n_14 : (14 : Int32) = nI 14 := rfl
theorem n_20 : (20 : Int32) = nI 20 := rfl
theorem n_32 : (32 : Int32) = nI 32 := rfl
theorem n_63 : (63 : Int32) = nI 63 := rfl
theorem n_64 : (64 : Int32) = nI 64 := rfl
theorem n_600 : (600 : Int32) = nI 600 := rfl
theorem n_1024 : (1024 : Int32) = nI 1024 := rfl
theorem n_4096 : (4096 : Int32) = nI 4096 := rfl
theorem n_6157 : (6157 : Int32) = nI 6157 := rfl
theorem n_192 : (192 : Int32) = nI 192 := rfl
theorem n_256 : (256 : Int32) = nI 256 := rfl
theorem n_20000 : (20000 : Int32) = nI 20000 := rfl
theorem n_add (a b : Nat) : nI a + nI b = nI (a + b) := nI_add a b
theorem n_mul (a b : Nat) : nI a * nI b = nI (a * b) := pk_mul a b
theorem n_sub {a b : Nat} (h : b ≤ a) : nI a - nI b = nI (a - b) := pk_sub h
theorem n_div {a d : Nat} (ha : a < 2147483648) (h0 : 0 < d) (hd : d < 2147483648) : nI a / nI d = nI (a / d) := pk_div ha h0 hd
theorem n_rem (a d : Nat) : nI a - nI (a / d * d) = nI (a % d) := by
  rw [pk_sub (Nat.div_mul_le_self a d)]
  exact congrArg nI (by have := Nat.div_add_mod' a d; omega)
theorem n_eq {a b : Nat} (ha : a < 2147483648) (hb : b < 2147483648) : (nI a = nI b) = (a = b) := propext (nI_eq ha hb)
theorem n_lt {a b : Nat} (ha : a < 2147483648) (hb : b < 2147483648) : (nI a < nI b) = (a < b) := propext (nI_ltI ha hb)
theorem n_le {a b : Nat} (ha : a < 2147483648) (hb : b < 2147483648) : (nI a ≤ nI b) = (a ≤ b) := propext (nI_leI ha hb)
theorem n_cl {a : Nat} (ha : a < 2147483648) : (nI a).toNatClampNeg = a := nI_clamp ha
theorem n_and (a b : Nat) : nI a &&& nI b = nI (a &&& b) := by
  apply Int32.toBitVec_inj.1
  show BitVec.ofNat 32 a &&& BitVec.ofNat 32 b = BitVec.ofNat 32 (a &&& b)
  apply BitVec.eq_of_getLsbD_eq
  intro i hi
  simp [hi]
theorem n_or (a b : Nat) : nI a ||| nI b = nI (a ||| b) := by
  apply Int32.toBitVec_inj.1
  show BitVec.ofNat 32 a ||| BitVec.ofNat 32 b = BitVec.ofNat 32 (a ||| b)
  apply BitVec.eq_of_getLsbD_eq
  intro i hi
  simp [hi]
theorem n_xor (a b : Nat) : nI a ^^^ nI b = nI (a ^^^ b) := by
  apply Int32.toBitVec_inj.1
  show BitVec.ofNat 32 a ^^^ BitVec.ofNat 32 b = BitVec.ofNat 32 (a ^^^ b)
  apply BitVec.eq_of_getLsbD_eq
  intro i hi
  simp [hi]
theorem n_sl : ∀ n, n < 32 → ((nI n &&& nI 31).toBitVec.smod 32).toNat = n := by decide +kernel
theorem n_shl {a k : Nat} (hk : k < 32) (h : a * 2 ^ k < 4294967296) : nI a <<< (nI k &&& nI 31) = nI (a * 2 ^ k) := pk_shlN _ k (n_sl k hk) h
theorem n_shl1 {k : Nat} (hk : k < 31) : nI 1 <<< (nI k &&& nI 31) = nI (2 ^ k) := by
  have h : 2 ^ k < 2 ^ 31 := Nat.pow_lt_pow_right (by decide) hk
  rw [n_shl (by omega) (by omega), Nat.one_mul]
theorem n_shr {a k : Nat} (ha : a < 2147483648) (hk : k < 32) : nI a >>> (nI k &&& nI 31) = nI (a / 2 ^ k) := pk_shrN ha _ k (n_sl k hk)
theorem n_31 : (31 : Int32) = nI 31 := rfl
theorem n_bit (a k : Nat) : nI (a / 2 ^ k) &&& nI 1 = nI (a.testBit k).toNat := by
  rw [n_and]
  congr 1
  rw [Nat.testBit_eq_decide_div_mod_eq, Nat.and_one_is_mod]
  rcases Nat.mod_two_eq_zero_or_one (a / 2 ^ k) with h | h <;> simp [h]
/-- the machine's question for a bit -/
theorem n_hasbit {a k : Nat} (ha : a < 2147483648) (hk : k < 32) : ((nI a >>> (nI k &&& nI 31)) &&& nI 1 = nI 1) = (a.testBit k = true) := by
  rw [n_shr ha hk, n_bit, n_eq (by cases a.testBit k <;> decide) (by decide)]
  cases a.testBit k <;> simp
theorem n_m1 (n : Nat) : nI (n + 1) + (-1) = nI n := pk_m1 n
theorem n_neg {a : Nat} (ha : a < 2147483648) : (nI a < nI 0) = False := by rw [n_lt ha (by decide)]; simp
theorem m1_lt {a : Nat} (ha : a < 2147483648) : ((-1 : Int32) < nI a) = True := by
  refine eq_true ?_
  rw [Int32.lt_iff_toInt_lt, nI_toInt ha]
  have : (-1 : Int32).toInt = -1 := by decide
  omega
theorem n_ltm1 {a : Nat} (ha : a < 2147483648) : (nI a < (-1 : Int32)) = False := by
  refine eq_false ?_
  rw [Int32.lt_iff_toInt_lt, nI_toInt ha]
  have : (-1 : Int32).toInt = -1 := by decide
  omega
theorem n_nem1 {a : Nat} (ha : a < 2147483648) : (nI a = (-1 : Int32)) = False := by
  refine eq_false fun h => ?_
  have h2 := congrArg Int32.toInt h
  rw [nI_toInt ha] at h2
  have : (-1 : Int32).toInt = -1 := by decide
  omega
theorem m1_add (n : Nat) : (-1 : Int32) + nI (n + 1) = nI n := by
  rw [Int32.add_comm]; exact pk_m1 n
theorem ck_in {ρ : Type} {k n : Nat} {x : Option ρ} (h : k < n) (hn : n < 2147483648) : ckI (nI k) n x = x := by
  unfold ckI
  rw [if_neg]
  rw [nI_clamp (by omega)]
  intro q
  rcases q with q | q
  · exact nI_pos (by omega : k < 2147483648) q
  · omega
theorem ck_nz {ρ : Type} {k : Nat} {x : Option ρ} (h : 0 < k) (hn : k < 2147483648) : ckZ (nI k) x = x := by
  unfold ckZ
  rw [if_neg]
  rw [n_0, n_eq hn (by decide)]
  omega
theorem ck_p {ρ : Type} {x : Option ρ} : ckP true x = x := rfl
theorem nm_def {α β : Type} (a : α) (f : α → β) : nm a f = f a := rfl
/-- what an int may be: a number, or below 0 -/
theorem int_cases (x : Int32) : (∃ n : Nat, n < 2147483648 ∧ x = nI n) ∨ x < 0 := by
  by_cases h : x < 0
  · exact Or.inr h
  · obtain ⟨j, hj, e⟩ := nI_of h
    exact Or.inl ⟨j, hj, e⟩
-- memories
theorem mi_setI (κ : Mem) (k i a b : Nat) (x : Int32) : mi (setI κ k i x) a b = if a = k ∧ b = i then x else mi κ a b := by
  unfold mi setI upd
  by_cases h : a = k
  · by_cases h2 : b = i
    · simp [h, h2]
    · simp [h, h2]
  · simp [h]
theorem ml_setI (κ : Mem) (k i a b : Nat) (x : Int32) : ml (setI κ k i x) a b = ml κ a b := rfl
theorem mr_setI (κ : Mem) (k i a b : Nat) (x : Int32) : mr (setI κ k i x) a b = mr κ a b := rfl
theorem mi_setL (κ : Mem) (k i a b : Nat) (x : Int64) : mi (setL κ k i x) a b = mi κ a b := rfl
theorem mr_setL (κ : Mem) (k i a b : Nat) (x : Int64) : mr (setL κ k i x) a b = mr κ a b := rfl
theorem ml_setL (κ : Mem) (k i a b : Nat) (x : Int64) : ml (setL κ k i x) a b = if a = k ∧ b = i then x else ml κ a b := by
  unfold ml setL vp_updL
  by_cases h : a = k
  · by_cases h2 : b = i
    · simp [h, h2]
    · simp [h, h2]
  · simp [h]
theorem mi_setR (κ : Mem) (k i a b x : Nat) : mi (setR κ k i x) a b = mi κ a b := rfl
theorem ml_setR (κ : Mem) (k i a b x : Nat) : ml (setR κ k i x) a b = ml κ a b := rfl
theorem mr_setR (κ : Mem) (k i a b x : Nat) : mr (setR κ k i x) a b = if a = k ∧ b = i then x else mr κ a b := rfl
/-- two memories agree but on some cells -/
def agr (S : Nat → Prop) (κ κ1 : Mem) : Prop := ∀ k, ¬ S k → κ1.1 k = κ.1 k ∧ κ1.2.1 k = κ.2.1 k ∧ κ1.2.2 k = κ.2.2 k
theorem agr_rfl {S : Nat → Prop} {κ : Mem} : agr S κ κ := fun _ _ => ⟨rfl, rfl, rfl⟩
theorem agr_trans {S : Nat → Prop} {κ κ1 κ2 : Mem} (h : agr S κ κ1) (h2 : agr S κ1 κ2) : agr S κ κ2 := fun k hk => ⟨(h2 k hk).1.trans (h k hk).1, (h2 k hk).2.1.trans (h k hk).2.1, (h2 k hk).2.2.trans (h k hk).2.2⟩
theorem agr_mono {S T : Nat → Prop} {κ κ1 : Mem} (h : agr S κ κ1) (hS : ∀ k, S k → T k) : agr T κ κ1 := fun k hk => h k (fun z => hk (hS k z))
theorem agr_setI {S : Nat → Prop} {κ : Mem} {k i : Nat} {x : Int32} (h : S k) : agr S κ (setI κ k i x) := fun a ha => by
  have : a ≠ k := fun e => ha (e ▸ h)
  exact ⟨by simp [setI, this], rfl, rfl⟩
theorem agr_setL {S : Nat → Prop} {κ : Mem} {k i : Nat} {x : Int64} (h : S k) : agr S κ (setL κ k i x) := fun a ha => by
  have : a ≠ k := fun e => ha (e ▸ h)
  exact ⟨rfl, by simp [setL, this], rfl⟩
theorem agr_mi {S : Nat → Prop} {κ κ1 : Mem} (h : agr S κ κ1) {k : Nat} (hk : ¬ S k) (i : Nat) : mi κ1 k i = mi κ k i := congrFun (h k hk).1 i
theorem agr_ml {S : Nat → Prop} {κ κ1 : Mem} (h : agr S κ κ1) {k : Nat} (hk : ¬ S k) (i : Nat) : ml κ1 k i = ml κ k i := congrFun (h k hk).2.1 i
theorem agr_mr {S : Nat → Prop} {κ κ1 : Mem} (h : agr S κ κ1) {k : Nat} (hk : ¬ S k) (i : Nat) : mr κ1 k i = mr κ k i := congrFun (h k hk).2.2 i
def predI (k : Nat) : Int32 := match k with
  | 0 => -1
  | k + 1 => nI k
theorem predI_0 : predI 0 = -1 := rfl
theorem predI_s (k : Nat) : predI (k + 1) = nI k := rfl
theorem n_dec (k : Nat) : nI k + (-1) = predI k := by
  cases k with
  | zero => rfl
  | succ k => exact pk_m1 k
theorem n_sub1 (k : Nat) : nI k - nI 1 = predI k := by
  cases k with
  | zero => rfl
  | succ k => rw [n_sub (by omega)]; rfl
theorem m1_neg : ((-1 : Int32) < nI 0) = True := by
  refine eq_true ?_
  decide
theorem setI_setIA (κ : Mem) (k i : Nat) (f : Nat → Int32) (x : Int32) : setI (setIA κ k f) k i x = setIA κ k (upd f i x) := by
  unfold setI setIA
  congr 1
  funext a
  by_cases h : a = k <;> simp [h]
theorem mi_setIA (κ : Mem) (k a i : Nat) (f : Nat → Int32) : mi (setIA κ k f) a i = if a = k then f i else mi κ a i := by
  unfold mi setIA
  by_cases h : a = k <;> simp [h]
theorem ml_setIA (κ : Mem) (k a i : Nat) (f : Nat → Int32) : ml (setIA κ k f) a i = ml κ a i := rfl
theorem mr_setIA (κ : Mem) (k a i : Nat) (f : Nat → Int32) : mr (setIA κ k f) a i = mr κ a i := rfl
theorem setIA_setIA (κ : Mem) (k : Nat) (f g : Nat → Int32) : setIA (setIA κ k f) k g = setIA κ k g := by
  unfold setIA
  congr 1
  funext a
  by_cases h : a = k <;> simp [h]
theorem setIA_self (κ : Mem) (k : Nat) : setIA κ k (κ.1 k) = κ := by
  unfold setIA
  refine Prod.ext ?_ rfl
  funext a
  by_cases h : a = k <;> simp [h]
theorem setI_eq (κ : Mem) (k i : Nat) (x : Int32) : setI κ k i x = setIA κ k (upd (κ.1 k) i x) := by
  unfold setI setIA
  rfl
theorem agr_setIA {S : Nat → Prop} {κ : Mem} {k : Nat} {f : Nat → Int32} (h : S k) : agr S κ (setIA κ k f) := fun a ha => by
  have : a ≠ k := fun e => ha (e ▸ h)
  exact ⟨by simp [setIA, this], rfl, rfl⟩
theorem agr_setLA {S : Nat → Prop} {κ : Mem} {k : Nat} {f : Nat → Int64} (h : S k) : agr S κ (setLA κ k f) := fun a ha => by
  have : a ≠ k := fun e => ha (e ▸ h)
  exact ⟨rfl, by simp [setLA, this], rfl⟩
def exb (f : Nat → Bool) : Nat → Bool
  | 0 => false
  | n + 1 => exb f n || f n
theorem exb_iff (f : Nat → Bool) : ∀ n, exb f n = true ↔ ∃ i, i < n ∧ f i = true
  | 0 => by simp [exb]
  | n + 1 => by
    rw [exb, Bool.or_eq_true, exb_iff f n]
    constructor
    · rintro (⟨i, h, h2⟩ | h)
      · exact ⟨i, Nat.lt_succ_of_lt h, h2⟩
      · exact ⟨n, Nat.lt_succ_self n, h⟩
    · rintro ⟨i, h, h2⟩
      rcases Nat.lt_succ_iff_lt_or_eq.mp h with q | q
      · exact Or.inl ⟨i, q, h2⟩
      · subst q; exact Or.inr h2
theorem exb_congr {f g : Nat → Bool} : ∀ {n : Nat}, (∀ i, i < n → f i = g i) → exb f n = exb g n
  | 0, _ => rfl
  | n + 1, h => by rw [exb, exb, exb_congr (fun i hi => h i (Nat.lt_succ_of_lt hi)), h n (Nat.lt_succ_self n)]
theorem n_orB (a b : Bool) : nI a.toNat ||| nI b.toNat = nI (a || b).toNat := by cases a <;> cases b <;> decide
theorem m1_n0 : -nI 1 = predI 0 := rfl
theorem m1_np (k : Nat) : nI k + predI 0 = predI k := n_dec k
theorem m1_n0p (k : Nat) : nI (k + 1) + predI 0 = nI k := n_dec (k + 1)
theorem m1_lt0 : (predI 0 < nI 0) = True := m1_neg
theorem m1_lt0p {k : Nat} (h : k < 2147483648) : (predI 0 < nI k) = True := m1_lt h
