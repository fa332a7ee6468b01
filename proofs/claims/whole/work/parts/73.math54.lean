/-! HOW MANY BITS -/
def Hh (c : Nat → Nat) : Nat → Nat → Nat
  | 0, _ => 0
  | k + 1, i => c i + 256 * Hh c k (i + 1)
theorem Hh_sm (c : Nat → Nat) : ∀ k i, sm (fun j => c (i + j) * 256 ^ j) k = Hh c k i
  | 0, _ => rfl
  | k + 1, i => by
    rw [Hh, ← Hh_sm c k (i + 1), show k + 1 = 1 + k by omega, sm_app, ← sm_mul, sm, sm, Nat.zero_add, Nat.pow_zero, Nat.mul_one, Nat.add_zero]
    congr 1
    refine sm_congr (fun j _ => ?_)
    show c (i + (1 + j)) * 256 ^ (1 + j) = 256 * (c (i + 1 + j) * 256 ^ j)
    rw [show i + (1 + j) = i + 1 + j by omega, Nat.pow_add, Nat.pow_one, Nat.mul_left_comm]
theorem Hh_add (c : Nat → Nat) (s : Nat) : ∀ k i, Hh (fun j => c j + c (j + s)) k i = Hh c k i + Hh c k (i + s)
  | 0, _ => rfl
  | k + 1, i => by
    rw [Hh, Hh, Hh, Hh_add c s k (i + 1), show i + 1 + s = i + s + 1 by omega]
    omega
theorem Hh_div {c : Nat → Nat} {i : Nat} (h : c i < 256) (k : Nat) : Hh c (k + 1) i / 256 = Hh c k (i + 1) := by
  rw [Hh]
  omega
theorem Hh_z {c : Nat → Nat} (h : ∀ j, 8 ≤ j → c j = 0) : ∀ k i, 8 ≤ i + k → Hh c (k + 1) i = Hh c k i
  | 0, i, hi => by
    rw [Hh, Hh, h i (by omega)]
    rfl
  | k + 1, i, hi => by rw [Hh, Hh_z h k (i + 1) (by omega), ← Hh]
theorem Hh_lt {c : Nat → Nat} (h : ∀ j, c j < 256) : ∀ k i, Hh c k i < 256 ^ k
  | 0, _ => Nat.one_pos
  | k + 1, i => by
    have h1 := Hh_lt h k (i + 1)
    have h2 := h i
    rw [Hh, Nat.pow_succ]
    omega
theorem fold8 {c : Nat → Nat} (hc : ∀ j, c j ≤ 8) (h8 : ∀ j, 8 ≤ j → c j = 0) : ∃ u w z, u = Hh c 8 0 + Hh c 8 0 / 256 ∧ w = u + u / 65536 ∧ z = w + w / 4294967296 ∧ u < 256 ^ 8 ∧ w < 256 ^ 8 ∧ z < 256 ^ 8 ∧ z % 128 = sm c 8 := by
  obtain ⟨d, ed⟩ : ∃ d : Nat → Nat, d = fun j => c j + c (j + 1) := ⟨_, rfl⟩
  obtain ⟨e, ee⟩ : ∃ e : Nat → Nat, e = fun j => d j + d (j + 2) := ⟨_, rfl⟩
  obtain ⟨g, eg⟩ : ∃ g : Nat → Nat, g = fun j => e j + e (j + 4) := ⟨_, rfl⟩
  have d16 : ∀ j, d j ≤ 16 := fun j => by
    have h1 := hc j
    have h2 := hc (j + 1)
    rw [ed]
    show c j + c (j + 1) ≤ 16
    omega
  have e32 : ∀ j, e j ≤ 32 := fun j => by
    have h1 := d16 j
    have h2 := d16 (j + 2)
    rw [ee]
    show d j + d (j + 2) ≤ 32
    omega
  have g64 : ∀ j, g j ≤ 64 := fun j => by
    have h1 := e32 j
    have h2 := e32 (j + 4)
    rw [eg]
    show e j + e (j + 4) ≤ 64
    omega
  have d8 : ∀ j, 8 ≤ j → d j = 0 := fun j hj => by rw [ed]; show c j + c (j + 1) = 0; rw [h8 j hj, h8 (j + 1) (by omega)]
  have e8 : ∀ j, 8 ≤ j → e j = 0 := fun j hj => by rw [ee]; show d j + d (j + 2) = 0; rw [d8 j hj, d8 (j + 2) (by omega)]
  have lc : ∀ j, c j < 256 := fun j => Nat.lt_of_le_of_lt (hc j) (by decide)
  have ld : ∀ j, d j < 256 := fun j => Nat.lt_of_le_of_lt (d16 j) (by decide)
  have le : ∀ j, e j < 256 := fun j => Nat.lt_of_le_of_lt (e32 j) (by decide)
  have lg : ∀ j, g j < 256 := fun j => Nat.lt_of_le_of_lt (g64 j) (by decide)
  have u1 : Hh c 8 0 / 256 = Hh c 8 1 := by rw [Hh_div (lc 0), Hh_z h8 7 1 (by decide)]
  have u2 : Hh d 8 0 = Hh c 8 0 + Hh c 8 0 / 256 := by rw [u1, ed, Hh_add]
  have w1 : Hh d 8 0 / 65536 = Hh d 8 2 := by
    rw [show 65536 = 256 * 256 from rfl, ← Nat.div_div_eq_div_mul, Hh_div (ld 0), Hh_div (ld 1), Hh_z d8 7 2 (by decide), Hh_z d8 6 2 (by decide)]
  have w2 : Hh e 8 0 = Hh d 8 0 + Hh d 8 0 / 65536 := by rw [w1, ee, Hh_add]
  have z1 : Hh e 8 0 / 4294967296 = Hh e 8 4 := by
    rw [show 4294967296 = 256 * 256 * 256 * 256 from rfl, ← Nat.div_div_eq_div_mul, ← Nat.div_div_eq_div_mul, ← Nat.div_div_eq_div_mul, Hh_div (le 0), Hh_div (le 1), Hh_div (le 2), Hh_div (le 3), Hh_z e8 7 4 (by decide), Hh_z e8 6 4 (by decide), Hh_z e8 5 4 (by decide), Hh_z e8 4 4 (by decide)]
  have z2 : Hh g 8 0 = Hh e 8 0 + Hh e 8 0 / 4294967296 := by rw [z1, eg, Hh_add]
  refine ⟨Hh d 8 0, Hh e 8 0, Hh g 8 0, u2, w2, z2, Hh_lt ld 8 0, Hh_lt le 8 0, Hh_lt lg 8 0, ?_⟩
  have t1 : Hh g 8 0 % 128 = g 0 := by
    have := g64 0
    rw [show (8 : Nat) = 7 + 1 from rfl, Hh]
    omega
  rw [t1]
  subst eg ee ed
  show (c 0 + c 1 + (c 2 + c 3)) + (c 4 + c 5 + (c 6 + c 7)) = 0 + c 0 + c 1 + c 2 + c 3 + c 4 + c 5 + c 6 + c 7
  clear u1 u2 w1 w2 z1 z2 t1 lc ld le lg d16 e32 g64 d8 e8
  omega
theorem cnt8_le (f : Nat → Bool) : cnt f 8 ≤ 8 := cnt_le f 8
/-- the library counts them -/
def bt (w : Int64) (k : Nat) : Bool := w.toBitVec.toNat.testBit k
theorem tn_and (a b : Int64) : (a &&& b).toBitVec.toNat = a.toBitVec.toNat &&& b.toBitVec.toNat := rfl
theorem tn_add {a b : Int64} (h : a.toBitVec.toNat + b.toBitVec.toNat < 18446744073709551616) : (a + b).toBitVec.toNat = a.toBitVec.toNat + b.toBitVec.toNat := by
  show (a.toBitVec + b.toBitVec).toNat = _
  rw [BitVec.toNat_add]
  exact Nat.mod_eq_of_lt h
theorem tn_sub {a b : Int64} (h : b.toBitVec.toNat ≤ a.toBitVec.toNat) : (a - b).toBitVec.toNat = a.toBitVec.toNat - b.toBitVec.toNat := by
  show (a.toBitVec - b.toBitVec).toNat = _
  rw [BitVec.toNat_sub_of_le h]
theorem tn_shr (a : Int64) {s : UInt64} {k : Nat} (hs : s.toNat = k) (hk : k < 64) : ((a.toUInt64 >>> s).toInt64).toBitVec.toNat = a.toBitVec.toNat / 2 ^ k := by
  show (a.toUInt64 >>> s).toNat = _
  rw [UInt64.toNat_shiftRight, hs, Nat.mod_eq_of_lt hk, Nat.shiftRight_eq_div_pow]
  rfl
theorem lit85 : (6148914691236517205 : Int64).toBitVec.toNat = mK 85 8 := by decide +kernel
theorem lit51 : (3689348814741910323 : Int64).toBitVec.toNat = mK 51 8 := by decide +kernel
theorem lit15 : (1085102592571150095 : Int64).toBitVec.toNat = mK 15 8 := by decide +kernel
theorem i32_127 (x : Int64) : x.toInt32 &&& 127 = nI (x.toBitVec.toNat % 128) := by
  apply Int32.toBitVec_inj.mp
  apply BitVec.eq_of_toNat_eq
  show ((x.toBitVec.signExtend 32) &&& 127#32).toNat = (BitVec.ofNat 32 (x.toBitVec.toNat % 128)).toNat
  rw [BitVec.toNat_and, BitVec.toNat_ofNat, BitVec.signExtend_eq_setWidth_of_le _ (by decide), BitVec.toNat_setWidth]
  rw [show 127 % 2 ^ 32 = 2 ^ 7 - 1 from rfl, Nat.and_two_pow_sub_one_eq_mod, BitVec.toNat_ofNat]
  omega
theorem x_bitCount (κ : Mem) (w : Int64) : pJ13_bitCount_95d88 κ w = some (nI (cnt (bt w) 64)) := by
  obtain ⟨v, ev⟩ : ∃ v, v = w.toBitVec.toNat := ⟨_, rfl⟩
  have hv : v < 256 ^ 8 := by rw [ev]; exact w.toBitVec.isLt
  obtain ⟨p1, p2, p3, c, p4, p5⟩ := px 8 v hv
  obtain ⟨c', ec'⟩ : ∃ c' : Nat → Nat, c' = fun j => if j < 8 then c j else 0 := ⟨_, rfl⟩
  have hc : ∀ j, c' j ≤ 8 := fun j => by
    rw [ec']
    show (if j < 8 then c j else 0) ≤ 8
    by_cases z : j < 8
    · rw [if_pos z, p4]; exact cnt_le _ 8
    · rw [if_neg z]; exact Nat.zero_le _
  have h8 : ∀ j, 8 ≤ j → c' j = 0 := fun j hj => by rw [ec']; exact if_neg (by omega)
  have hs : sm c' 8 = cnt (bt w) 64 := by
    rw [show (64 : Nat) = 8 * 8 from rfl, cnt_8s]
    refine sm_congr (fun i hi => ?_)
    rw [ec']
    show (if i < 8 then c i else 0) = _
    rw [if_pos hi, p4]
    unfold bt
    rw [ev]
  have hH : x3 8 (x2 8 (x1 8 v)) = Hh c' 8 0 := by
    rw [p5, ← Hh_sm]
    refine sm_congr (fun i hi => ?_)
    rw [ec']
    show c i * 256 ^ i = (if 0 + i < 8 then c (0 + i) else 0) * 256 ^ i
    rw [Nat.zero_add, if_pos hi]
  obtain ⟨u, t, z, q1, q2, q3, q4, q5, q6, q7⟩ := fold8 hc h8
  unfold pJ13_bitCount_95d88
  simp only [nm_def]
  obtain ⟨a1, ea1⟩ : ∃ a1, a1 = w - ((w.toUInt64 >>> ((1 : Int32).toInt64.toUInt64 &&& Int64.toUInt64 63)).toInt64 &&& 6148914691236517205) := ⟨_, rfl⟩
  have n1 : a1.toBitVec.toNat = x1 8 v := by
    have e : (((w.toUInt64 >>> ((1 : Int32).toInt64.toUInt64 &&& Int64.toUInt64 63)).toInt64 &&& 6148914691236517205).toBitVec.toNat) = v / 2 &&& mK 85 8 := by
      rw [tn_and, tn_shr w (k := 1) (by decide) (by decide), lit85, ← ev]
    rw [ea1, tn_sub (by rw [e, ← ev]; exact p1), e, ← ev]
    rfl
  rw [← ea1]
  obtain ⟨a2, ea2⟩ : ∃ a2, a2 = (a1 &&& 3689348814741910323) + ((a1.toUInt64 >>> ((2 : Int32).toInt64.toUInt64 &&& Int64.toUInt64 63)).toInt64 &&& 3689348814741910323) := ⟨_, rfl⟩
  have n2 : a2.toBitVec.toNat = x2 8 (x1 8 v) := by
    have e1 : (a1 &&& 3689348814741910323).toBitVec.toNat = x1 8 v &&& mK 51 8 := by rw [tn_and, lit51, n1]
    have e2 : ((a1.toUInt64 >>> ((2 : Int32).toInt64.toUInt64 &&& Int64.toUInt64 63)).toInt64 &&& 3689348814741910323).toBitVec.toNat = x1 8 v / 4 &&& mK 51 8 := by
      rw [tn_and, tn_shr a1 (k := 2) (by decide) (by decide), lit51, n1]
    rw [ea2, tn_add (by rw [e1, e2]; exact Nat.lt_of_le_of_lt (Nat.le_add_right _ _) p3), e1, e2]
    rfl
  rw [← ea2]
  obtain ⟨a3, ea3⟩ : ∃ a3, a3 = (a2 + (a2.toUInt64 >>> ((4 : Int32).toInt64.toUInt64 &&& Int64.toUInt64 63)).toInt64) &&& 1085102592571150095 := ⟨_, rfl⟩
  have n3 : a3.toBitVec.toNat = Hh c' 8 0 := by
    have e1 : ((a2.toUInt64 >>> ((4 : Int32).toInt64.toUInt64 &&& Int64.toUInt64 63)).toInt64).toBitVec.toNat = x2 8 (x1 8 v) / 16 := by
      rw [tn_shr a2 (k := 4) (by decide) (by decide), n2]
    have hno : x2 8 (x1 8 v) + x2 8 (x1 8 v) / 16 < 18446744073709551616 := p3
    rw [ea3, tn_and, tn_add (by rw [e1, n2]; exact hno), e1, n2, lit15]
    exact hH
  rw [← ea3]
  obtain ⟨a4, ea4⟩ : ∃ a4, a4 = a3 + (a3.toUInt64 >>> ((8 : Int32).toInt64.toUInt64 &&& Int64.toUInt64 63)).toInt64 := ⟨_, rfl⟩
  have n4 : a4.toBitVec.toNat = u := by
    have e1 : ((a3.toUInt64 >>> ((8 : Int32).toInt64.toUInt64 &&& Int64.toUInt64 63)).toInt64).toBitVec.toNat = Hh c' 8 0 / 256 := by
      rw [tn_shr a3 (k := 8) (by decide) (by decide), n3]
    rw [ea4, tn_add (by rw [e1, n3, ← q1]; exact q4), e1, n3, ← q1]
  rw [← ea4]
  obtain ⟨a5, ea5⟩ : ∃ a5, a5 = a4 + (a4.toUInt64 >>> ((16 : Int32).toInt64.toUInt64 &&& Int64.toUInt64 63)).toInt64 := ⟨_, rfl⟩
  have n5 : a5.toBitVec.toNat = t := by
    have e1 : ((a4.toUInt64 >>> ((16 : Int32).toInt64.toUInt64 &&& Int64.toUInt64 63)).toInt64).toBitVec.toNat = u / 65536 := by
      rw [tn_shr a4 (k := 16) (by decide) (by decide), n4]
    rw [ea5, tn_add (by rw [e1, n4, ← q2]; exact q5), e1, n4, ← q2]
  rw [← ea5]
  obtain ⟨a6, ea6⟩ : ∃ a6, a6 = a5 + (a5.toUInt64 >>> ((32 : Int32).toInt64.toUInt64 &&& Int64.toUInt64 63)).toInt64 := ⟨_, rfl⟩
  have n6 : a6.toBitVec.toNat = z := by
    have e1 : ((a5.toUInt64 >>> ((32 : Int32).toInt64.toUInt64 &&& Int64.toUInt64 63)).toInt64).toBitVec.toNat = t / 4294967296 := by
      rw [tn_shr a5 (k := 32) (by decide) (by decide), n5]
    rw [ea6, tn_add (by rw [e1, n5, ← q3]; exact q6), e1, n5, ← q3]
  rw [← ea6, i32_127, n6, q7, hs]
