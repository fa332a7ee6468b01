def pJ6_bitCount_0f7a4 (κ : Mem) (v0 : Int32) : Option Int32 := nm (v0 - ((v0.toUInt32 >>> ((1 : Int32).toUInt32 &&& Int32.toUInt32 31)).toInt32 &&& 1431655765)) fun x1 => nm ((x1 &&& 858993459) + ((x1.toUInt32 >>> ((2 : Int32).toUInt32 &&& Int32.toUInt32 31)).toInt32 &&& 858993459)) fun x2 => nm ((x2 + (x2.toUInt32 >>> ((4 : Int32).toUInt32 &&& Int32.toUInt32 31)).toInt32) &&& 252645135) fun x3 => nm (x3 + (x3.toUInt32 >>> ((8 : Int32).toUInt32 &&& Int32.toUInt32 31)).toInt32) fun x4 => nm (x4 + (x4.toUInt32 >>> ((16 : Int32).toUInt32 &&& Int32.toUInt32 31)).toInt32) fun x5 => some (x5 &&& 63)
def pJ6_numberOfTrailingZeros_0f7a4_74 (κ : Mem) (v0 : Int32) (v1 : Int32) : Option Int32 := some (v1 + (v0.toUInt32 >>> ((1 : Int32).toUInt32 &&& Int32.toUInt32 31)).toInt32)
def pJ6_numberOfTrailingZeros_0f7a4_62 (κ : Mem) (v0 : Int32) (v1 : Int32) : Option Int32 := if v0 ≤ 4 then pJ6_numberOfTrailingZeros_0f7a4_74 κ v0 v1 else nm ((v0.toUInt32 >>> ((2 : Int32).toUInt32 &&& Int32.toUInt32 31)).toInt32) fun x2 => pJ6_numberOfTrailingZeros_0f7a4_74 κ x2 (v1 + 2)
def pJ6_numberOfTrailingZeros_0f7a4_49 (κ : Mem) (v0 : Int32) (v1 : Int32) : Option Int32 := if v0 ≤ 16 then pJ6_numberOfTrailingZeros_0f7a4_62 κ v0 v1 else nm ((v0.toUInt32 >>> ((4 : Int32).toUInt32 &&& Int32.toUInt32 31)).toInt32) fun x3 => pJ6_numberOfTrailingZeros_0f7a4_62 κ x3 (v1 + 4)
def pJ6_numberOfTrailingZeros_0f7a4_34 (κ : Mem) (v0 : Int32) (v1 : Int32) : Option Int32 := if v0 ≤ 256 then pJ6_numberOfTrailingZeros_0f7a4_49 κ v0 v1 else nm ((v0.toUInt32 >>> ((8 : Int32).toUInt32 &&& Int32.toUInt32 31)).toInt32) fun x4 => pJ6_numberOfTrailingZeros_0f7a4_49 κ x4 (v1 + 8)
def pJ6_numberOfTrailingZeros_0f7a4 (κ : Mem) (v0 : Int32) : Option Int32 := nm ((v0 ^^^ (-1)) &&& (v0 - 1)) fun x1 => if x1 ≤ 0 then some (x1 &&& 32) else if x1 ≤ 65536 then pJ6_numberOfTrailingZeros_0f7a4_34 κ x1 1 else nm ((x1.toUInt32 >>> ((16 : Int32).toUInt32 &&& Int32.toUInt32 31)).toInt32) fun x5 => pJ6_numberOfTrailingZeros_0f7a4_34 κ x5 (1 + 16)
def pJ13_bitCount_95d88 (κ : Mem) (v0 : Int64) : Option Int32 := nm (v0 - ((v0.toUInt64 >>> ((1 : Int32).toInt64.toUInt64 &&& Int64.toUInt64 63)).toInt64 &&& 6148914691236517205)) fun x1 => nm ((x1 &&& 3689348814741910323) + ((x1.toUInt64 >>> ((2 : Int32).toInt64.toUInt64 &&& Int64.toUInt64 63)).toInt64 &&& 3689348814741910323)) fun x2 => nm ((x2 + (x2.toUInt64 >>> ((4 : Int32).toInt64.toUInt64 &&& Int64.toUInt64 63)).toInt64) &&& 1085102592571150095) fun x3 => nm (x3 + (x3.toUInt64 >>> ((8 : Int32).toInt64.toUInt64 &&& Int64.toUInt64 63)).toInt64) fun x4 => nm (x4 + (x4.toUInt64 >>> ((16 : Int32).toInt64.toUInt64 &&& Int64.toUInt64 63)).toInt64) fun x5 => nm (x5 + (x5.toUInt64 >>> ((32 : Int32).toInt64.toUInt64 &&& Int64.toUInt64 63)).toInt64) fun x6 => some (x6.toInt32 &&& 127)
def pJ9_floorMod_7cf53_18 (κ : Mem) (v2 : Int32) : Option Int32 := some v2
def pJ9_floorMod_7cf53 (κ : Mem) (v0 : Int32) (v1 : Int32) : Option Int32 := ckZ v1 (nm (v0 - v0 / v1 * v1) fun x1 => if (v0 ^^^ v1) < 0 then if x1 = 0 then pJ9_floorMod_7cf53_18 κ x1 else some (x1 + v1) else pJ9_floorMod_7cf53_18 κ x1)
def pX10_status (κ : Mem) : Option Int32 := some (mi κ 0 12)
def pX10_tapeInt_46 (F : Nat) (κ : Mem) : Option Mem := some κ
def pX10_tapeInt_3 (F : Nat) (v1 : Int32) : Nat → Mem → Int32 → Option Mem
  | 0, _, _ => none
  | fu + 1, κ, v2 => if v2 < 0 then pX10_tapeInt_46 F κ else if (mi κ 0 11) < 600 then ckI (mi κ 0 11) 600 (nm (setI κ 137 (mi κ 0 11).toNatClampNeg ((v1 >>> (v2 &&& 31)).toInt8.toInt32).toInt8.toInt32) fun κ1 => nm (setI κ1 0 11 ((mi κ1 0 11) + 1)) fun κ2 => (pX10_tapeInt_3 F v1 fu) κ2 (v2 + (-8))) else pX10_tapeInt_46 F κ
def pX10_tapeInt (F : Nat) (κ : Mem) (v1 : Int32) : Option Mem := pX10_tapeInt_3 F v1 F κ 24
def pX10_feed (F : Nat) (κ : Mem) (v1 : Int32) (v2 : Int32) (v3 : Int32) (v4 : Int32) (v5 : Int32) : Option (Int32 × Mem) := if ((mi κ 0 11) + 20) ≤ 600 then (pX10_tapeInt F κ v1).bind fun t1 => (pX10_tapeInt F t1 v2).bind fun t2 => (pX10_tapeInt F t2 v3).bind fun t3 => (pX10_tapeInt F t3 v4).bind fun t4 => (pX10_tapeInt F t4 v5).bind fun t5 => some ((mi t5 0 11), t5) else some ((-1), κ)
def pX10_refuse (κ : Mem) (v1 : Int32) : Option (Int32 × Mem) := nm (setI κ 0 12 v1) fun κ1 => some ((-1), κ1)
def pX8_afterBlanks_32 (F : Nat) (κ : Mem) (k2 : Int32 → Option Int32) (v2 : Int32) : Option Int32 := k2 (v2 + 1)
def pX8_afterBlanks_38 (F : Nat) (κ : Mem) (v2 : Int32) : Option Int32 := some v2
def pX8_afterBlanks_2 (F : Nat) (κ : Mem) : Nat → Int32 → Option Int32
  | 0, _ => none
  | fu + 1, v2 => if v2 < (mi κ 140 4) then ckI v2 600 (if (mi κ 137 v2.toNatClampNeg) = 10 then pX8_afterBlanks_32 F κ (pX8_afterBlanks_2 F κ fu) v2 else ckI v2 600 (if (mi κ 137 v2.toNatClampNeg) = 32 then pX8_afterBlanks_32 F κ (pX8_afterBlanks_2 F κ fu) v2 else pX8_afterBlanks_38 F κ v2)) else pX8_afterBlanks_38 F κ v2
def pX8_afterBlanks (F : Nat) (κ : Mem) (v1 : Int32) : Option Int32 := pX8_afterBlanks_2 F κ F v1
def pX8_isLetter_17 (κ : Mem) (y0 : Int32) : Option Int32 := ckP (isB y0) (some y0)
def pX8_isLetter_16 (κ : Mem) : Option Int32 := pX8_isLetter_17 κ 0
def pX8_isLetter (κ : Mem) (v0 : Int32) : Option Int32 := if v0 < 97 then pX8_isLetter_16 κ else if v0 ≤ 122 then pX8_isLetter_17 κ 1 else pX8_isLetter_16 κ
def pX8_spelling (κ : Mem) (v0 : Int32) : Option Nat := if v0 = 1 then some 0 else if v0 = 2 then some 1 else if v0 = 3 then some 2 else if v0 = 4 then some 3 else if v0 = 5 then some 4 else if v0 = 6 then some 5 else if v0 = 7 then some 6 else if v0 = 8 then some 7 else if v0 = 9 then some 8 else some 9
def pX8_isWord_15 (F : Nat) (z3 : Nat) (κ : Mem) (v1 : Int32) : Nat → Int32 → Option Int32
  | 0, _ => none
  | fu + 1, v4 => (pJ0_length_8abf5 z3 κ).bind fun t2 => if v4 < t2 then ckI (v1 + v4) 600 ((pJ0_charAt_5068e z3 κ v4).bind fun t3 => if (mi κ 137 (v1 + v4).toNatClampNeg) = t3 then (pX8_isWord_15 F z3 κ v1 fu) (v4 + 1) else some 0) else some 1
def pX8_isWord (F : Nat) (z3 : Nat) (κ : Mem) (v1 : Int32) (v2 : Int32) : Option Int32 := (pJ0_length_8abf5 z3 κ).bind fun t1 => if (v2 - v1) = t1 then pX8_isWord_15 F z3 κ v1 F 0 else some 0
def pX8_meaning_2 (F : Nat) (κ : Mem) (v1 : Int32) (v2 : Int32) : Nat → Int32 → Option Int32
  | 0, _ => none
  | fu + 1, v3 => if v3 ≤ 10 then (pX8_spelling κ v3).bind fun t1 => ckP (decide (t1 < nJS)) ((pX8_isWord F t1 κ v1 v2).bind fun t3 => if t3 = 0 then (pX8_meaning_2 F κ v1 v2 fu) (v3 + 1) else some v3) else some 0
def pX8_meaning (F : Nat) (κ : Mem) (v1 : Int32) (v2 : Int32) : Option Int32 := pX8_meaning_2 F κ v1 v2 F 1
def pX8_takeWord_46 (F : Nat) (κ : Mem) (v1 : Int32) (v2 : Int32) (v3 : Int32) (y0 : Int32) (y1 : Int32) : Option (Int32 × Mem) := ckI y1 601 (nm (setI κ 141 y1.toNatClampNeg y0) fun κ2 => (pX8_meaning F κ2 v2 v3).bind fun t3 => ckI v1 601 (nm (setI κ2 143 v1.toNatClampNeg t3) fun κ4 => some (v3, κ4)))
def pX8_takeWord_28 (F : Nat) (κ : Mem) (v1 : Int32) (v2 : Int32) (v3 : Int32) : Option (Int32 × Mem) := if (v3 - v2) ≤ 8 then pX8_takeWord_46 F κ v1 v2 v3 1 v1 else pX8_takeWord_46 F κ v1 v2 v3 4 v1
def pX8_takeWord_2 (F : Nat) (κ : Mem) (v1 : Int32) (v2 : Int32) : Nat → Int32 → Option (Int32 × Mem)
  | 0, _ => none
  | fu + 1, v3 => if v3 < (mi κ 140 4) then ckI v3 600 ((pX8_isLetter κ (mi κ 137 v3.toNatClampNeg)).bind fun t1 => if t1 = 0 then pX8_takeWord_28 F κ v1 v2 v3 else (pX8_takeWord_2 F κ v1 v2 fu) (v3 + 1)) else pX8_takeWord_28 F κ v1 v2 v3
def pX8_takeWord (F : Nat) (κ : Mem) (v1 : Int32) (v2 : Int32) : Option (Int32 × Mem) := pX8_takeWord_2 F κ v1 v2 F v2
def pX8_isDigit_17 (κ : Mem) (y0 : Int32) : Option Int32 := ckP (isB y0) (some y0)
def pX8_isDigit_16 (κ : Mem) : Option Int32 := pX8_isDigit_17 κ 0
def pX8_isDigit (κ : Mem) (v0 : Int32) : Option Int32 := if v0 < 48 then pX8_isDigit_16 κ else if v0 ≤ 57 then pX8_isDigit_17 κ 1 else pX8_isDigit_16 κ
def pX8_takeNumber_68 (F : Nat) (κ : Mem) (v1 : Int32) (v3 : Int32) (v4 : Int32) (y0 : Int32) (y1 : Int32) : Option (Int32 × Mem) := ckI y1 601 (nm (setI κ 141 y1.toNatClampNeg y0) fun κ2 => ckI v1 601 (nm (setI κ2 143 v1.toNatClampNeg v4) fun κ3 => some (v3, κ3)))
def pX8_takeNumber_51 (F : Nat) (κ : Mem) (v1 : Int32) (v2 : Int32) (v3 : Int32) (v4 : Int32) : Option (Int32 × Mem) := if (v3 - v2) ≤ 2 then pX8_takeNumber_68 F κ v1 v3 v4 2 v1 else pX8_takeNumber_68 F κ v1 v3 v4 4 v1
def pX8_takeNumber_5 (F : Nat) (κ : Mem) (v1 : Int32) (v2 : Int32) : Nat → Int32 → Int32 → Option (Int32 × Mem)
  | 0, _, _ => none
  | fu + 1, v3, v4 => if v3 < (mi κ 140 4) then ckI v3 600 ((pX8_isDigit κ (mi κ 137 v3.toNatClampNeg)).bind fun t1 => if t1 = 0 then pX8_takeNumber_51 F κ v1 v2 v3 v4 else ckI v3 600 (ckZ 100 (nm ((((v4 * 10) + (mi κ 137 v3.toNatClampNeg)) - 48) - (((v4 * 10) + (mi κ 137 v3.toNatClampNeg)) - 48) / 100 * 100) fun x4 => (pX8_takeNumber_5 F κ v1 v2 fu) (v3 + 1) x4))) else pX8_takeNumber_51 F κ v1 v2 v3 v4
def pX8_takeNumber (F : Nat) (κ : Mem) (v1 : Int32) (v2 : Int32) : Option (Int32 × Mem) := pX8_takeNumber_5 F κ v1 v2 F v2 0
def pX8_takeToken_59 (F : Nat) (κ : Mem) (v2 : Int32) (y0 : Int32) (y1 : Int32) : Option (Int32 × Mem) := ckI y1 601 (nm (setI κ 141 y1.toNatClampNeg y0) fun κ3 => some ((v2 + 1), κ3))
def pX8_takeToken (F : Nat) (κ : Mem) (v1 : Int32) (v2 : Int32) : Option (Int32 × Mem) := ckI v2 600 ((pX8_isLetter κ (mi κ 137 v2.toNatClampNeg)).bind fun t1 => if t1 = 0 then ckI v2 600 ((pX8_isDigit κ (mi κ 137 v2.toNatClampNeg)).bind fun t2 => if t2 = 0 then ckI v2 600 (if (mi κ 137 v2.toNatClampNeg) = 59 then pX8_takeToken_59 F κ v2 3 v1 else pX8_takeToken_59 F κ v2 4 v1) else (pX8_takeNumber F κ v1 v2).bind fun t4 => some (t4.1, t4.2)) else (pX8_takeWord F κ v1 v2).bind fun t5 => some (t5.1, t5.2))
def pX8_split_60 (F : Nat) (κ : Mem) (v2 : Int32) : Option Mem := ckI v2 601 (nm (setI κ 141 v2.toNatClampNeg 0) fun κ6 => ckI v2 601 (nm (setI κ6 142 v2.toNatClampNeg (mi κ6 140 4)) fun κ7 => some κ7))
def pX8_split_21 (F : Nat) : Nat → Mem → Int32 → Int32 → Option Mem
  | 0, _, _, _ => none
  | fu + 1, κ, v2, v3 => if v3 < (mi κ 140 4) then if v2 < 600 then ckI v2 601 (nm (setI κ 142 v2.toNatClampNeg v3) fun κ3 => (pX8_takeToken F κ3 v2 v3).bind fun t4 => (pX8_afterBlanks F t4.2 t4.1).bind fun t5 => (pX8_split_21 F fu) t4.2 (v2 + 1) t5) else pX8_split_60 F κ v2 else pX8_split_60 F κ v2
def pX8_split (F : Nat) (κ : Mem) (v1 : Int32) : Option Mem := nm (setI κ 140 4 (if 600 < v1 then 600 else v1)) fun κ1 => (pX8_afterBlanks F κ1 0).bind fun t2 => pX8_split_21 F F κ1 0 t2
def pX2_clear_35 (F : Nat) (g : Nat) : Nat → Mem → Int32 → Option Mem
  | 0, _, _ => none
  | fu + 1, κ, v2 => if v2 < 192 then ckI v2 192 (nm (setL κ (g + 3) v2.toNatClampNeg 0) fun κ4 => (pX2_clear_35 F g fu) κ4 (v2 + 1)) else some κ
def pX2_clear_7 (F : Nat) (g : Nat) : Nat → Mem → Int32 → Option Mem
  | 0, _, _ => none
  | fu + 1, κ, v2 => if v2 < 6 then ckI v2 6 (nm (setI κ (g + 1) v2.toNatClampNeg 2) fun κ2 => ckI v2 6 (nm (setI κ2 (g + 2) v2.toNatClampNeg 0) fun κ3 => (pX2_clear_7 F g fu) κ3 (v2 + 1))) else pX2_clear_35 F g F κ 0
def pX2_clear (F : Nat) (g : Nat) (κ : Mem) (v1 : Int32) : Option Mem := nm (setI κ g 0 v1) fun κ1 => pX2_clear_7 F g F κ1 0
def pX6_wordHere_32 (κ : Mem) (y0 : Int32) : Option Int32 := some y0
def pX6_wordHere (κ : Mem) : Option Int32 := ckI (mi κ 138 4) 601 (if (mi κ 141 (mi κ 138 4).toNatClampNeg) = 1 then ckI (mi κ 138 4) 601 (pX6_wordHere_32 κ (mi κ 143 (mi κ 138 4).toNatClampNeg)) else pX6_wordHere_32 κ 0)
def pX6_mayBegin_20 (κ : Mem) (y0 : Int32) : Option Int32 := ckP (isB y0) (some y0)
def pX6_mayBegin_41 (κ : Mem) (y0 : Int32) : Option Int32 := ckP (isB y0) (some y0)
def pX6_mayBegin_89 (κ : Mem) (y0 : Int32) : Option Int32 := ckP (isB y0) (some y0)
def pX6_mayBegin_88 (κ : Mem) : Option Int32 := pX6_mayBegin_89 κ 0
def pX6_mayBegin_62 (κ : Mem) (y0 : Int32) : Option Int32 := if y0 = 0 then pX6_mayBegin_88 κ else if (mi κ 9 0) ≤ 0 then pX6_mayBegin_88 κ else if (mi κ 138 8) = 0 then pX6_mayBegin_89 κ 1 else pX6_mayBegin_88 κ
def pX6_mayBegin_57 (κ : Mem) : Option Int32 := pX6_mayBegin_62 κ 1
def pX6_mayBegin (κ : Mem) (v1 : Int32) : Option Int32 := if v1 = 1 then if (mi κ 9 0) = 0 then pX6_mayBegin_20 κ 1 else pX6_mayBegin_20 κ 0 else if v1 = 5 then if (mi κ 9 0) ≤ 0 then pX6_mayBegin_41 κ 0 else pX6_mayBegin_41 κ 1 else if v1 = 2 then pX6_mayBegin_57 κ else if v1 = 3 then pX6_mayBegin_57 κ else if v1 = 4 then pX6_mayBegin_57 κ else pX6_mayBegin_62 κ 0
def pX6_misplaced_22 (κ : Mem) (y0 : Int32) : Option (Int32 × Mem) := nm (setI κ 138 1 y0) fun κ1 => ckI (mi κ1 138 4) 601 (nm (setI κ1 138 2 (mi κ1 142 (mi κ1 138 4).toNatClampNeg)) fun κ2 => some (0, κ2))
def pX6_misplaced (κ : Mem) : Option (Int32 × Mem) := ckI (mi κ 138 4) 601 (if (mi κ 141 (mi κ 138 4).toNatClampNeg) = 4 then pX6_misplaced_22 κ 1 else pX6_misplaced_22 κ 2)
def pX6_fail (κ : Mem) (v1 : Int32) (v2 : Int32) : Option (Int32 × Mem) := nm (setI κ 138 1 v1) fun κ1 => ckI v2 601 (nm (setI κ1 138 2 (mi κ1 142 v2.toNatClampNeg)) fun κ2 => some (0, κ2))
def pX6_readNumber_53 (κ : Mem) : Option (Int32 × Mem) := (pX6_fail κ 3 (mi κ 138 4)).bind fun t2 => ckP (isB t2.1) (some (t2.1, t2.2))
def pX6_readNumber (κ : Mem) (v1 : Int32) (v2 : Int32) : Option (Int32 × Mem) := ckI (mi κ 138 4) 601 (if (mi κ 141 (mi κ 138 4).toNatClampNeg) = 2 then ckI (mi κ 138 4) 601 (nm (setI κ 138 5 (mi κ 143 (mi κ 138 4).toNatClampNeg)) fun κ1 => if (mi κ1 138 5) < v1 then pX6_readNumber_53 κ1 else if (mi κ1 138 5) ≤ v2 then nm (setI κ1 138 4 ((mi κ1 138 4) + 1)) fun κ4 => some (1, κ4) else pX6_readNumber_53 κ1) else (pX6_misplaced κ).bind fun t5 => ckP (isB t5.1) (some (t5.1, t5.2)))
def pX6_readPlayers (κ : Mem) : Option (Int32 × Mem) := (pX6_readNumber κ 1 6).bind fun t1 => if t1.1 = 0 then some (0, t1.2) else nm (setI t1.2 9 0 (mi t1.2 138 5)) fun κ2 => some (1, κ2)
def pX6_readSign (κ : Mem) : Option (Int32 × Mem) := ckI (mi κ 138 4) 601 (if (mi κ 141 (mi κ 138 4).toNatClampNeg) = 3 then nm (setI κ 138 4 ((mi κ 138 4) + 1)) fun κ1 => some (1, κ1) else (pX6_misplaced κ).bind fun t2 => ckP (isB t2.1) (some (t2.1, t2.2)))
def pX6_readPlayer (κ : Mem) : Option (Int32 × Mem) := (pX6_readNumber κ 0 ((mi κ 9 0) - 1)).bind fun t1 => ckP (isB t1.1) (some (t1.1, t1.2))
def pX6_readHats (κ : Mem) : Option (Int32 × Mem) := (pX6_readPlayer κ).bind fun t1 => if t1.1 = 0 then some (0, t1.2) else nm (mi t1.2 138 5) fun x2 => if (((mi t1.2 138 7) >>> (x2 &&& 31)) &&& 1) = 1 then (pX6_fail t1.2 4 ((mi t1.2 138 4) - 1)).bind fun t3 => ckP (isB t3.1) (some (t3.1, t3.2)) else nm (setI t1.2 138 7 ((mi t1.2 138 7) ||| (1 <<< (x2 &&& 31)))) fun κ5 => (pX6_readNumber κ5 1 4).bind fun t6 => if t6.1 = 0 then some (0, t6.2) else ckI x2 6 (nm (setI t6.2 10 x2.toNatClampNeg (mi t6.2 138 5)) fun κ7 => some (1, κ7))
def pX2_watches_19 (g : Nat) (κ : Mem) (y0 : Int32) : Option Int32 := ckP (isB y0) (some y0)
def pX2_watches (g : Nat) (κ : Mem) (v1 : Int32) (v2 : Int32) : Option Int32 := ckI v1 6 (if (((mi κ (g + 2) v1.toNatClampNeg) >>> (v2 &&& 31)) &&& 1) = 1 then pX2_watches_19 g κ 1 else pX2_watches_19 g κ 0)
def pX6_readSight_119 (κ : Mem) : Option (Int32 × Mem) := some (1, κ)
def pX6_readSight_85 (κ : Mem) (v1 : Int32) (v2 : Int32) (v3 : Int32) : Option (Int32 × Mem) := ckI v2 6 (ckI v2 6 (nm (setI κ 11 v2.toNatClampNeg ((mi κ 11 v2.toNatClampNeg) ||| (1 <<< (v3 &&& 31)))) fun κ8 => if v1 = 0 then pX6_readSight_119 κ8 else ckI v3 6 (ckI v3 6 (nm (setI κ8 11 v3.toNatClampNeg ((mi κ8 11 v3.toNatClampNeg) ||| (1 <<< (v2 &&& 31)))) fun κ9 => pX6_readSight_119 κ9))))
def pX6_readSight_73 (κ : Mem) : Option (Int32 × Mem) := (pX6_fail κ 4 ((mi κ 138 4) - 1)).bind fun t11 => ckP (isB t11.1) (some (t11.1, t11.2))
def pX6_readSight (κ : Mem) (v1 : Int32) : Option (Int32 × Mem) := (pX6_readPlayer κ).bind fun t1 => if t1.1 = 0 then some (0, t1.2) else nm (mi t1.2 138 5) fun x2 => (pX6_readPlayer t1.2).bind fun t3 => if t3.1 = 0 then some (0, t3.2) else nm (mi t3.2 138 5) fun x4 => if x4 = x2 then (pX6_fail t3.2 3 ((mi t3.2 138 4) - 1)).bind fun t5 => ckP (isB t5.1) (some (t5.1, t5.2)) else (pX2_watches 9 t3.2 x2 x4).bind fun t7 => if t7 = 0 then if v1 = 0 then pX6_readSight_85 t3.2 v1 x2 x4 else (pX2_watches 9 t3.2 x4 x2).bind fun t10 => if t10 = 0 then pX6_readSight_85 t3.2 v1 x2 x4 else pX6_readSight_73 t3.2 else pX6_readSight_73 t3.2
def pX2_weightBehind_41 (F : Nat) (g : Nat) (κ : Mem) (k7 : Int32 → Int32 → Option Int32) (v1 : Int32) (v3 : Int32) (v4 : Int32) : Option Int32 := k7 v3 (v4 + 1)
def pX2_weightBehind_7 (F : Nat) (g : Nat) (κ : Mem) (v1 : Int32) : Nat → Int32 → Int32 → Option Int32
  | 0, _, _ => none
  | fu + 1, v3, v4 => if v4 < (mi κ g 0) then ckI v1 6 (if (((mi κ (g + 2) v1.toNatClampNeg) >>> (v4 &&& 31)) &&& 1) = 1 then ckI v4 6 (nm (v3 * (mi κ (g + 1) v4.toNatClampNeg)) fun x2 => pX2_weightBehind_41 F g κ (pX2_weightBehind_7 F g κ v1 fu) v1 x2 v4) else pX2_weightBehind_41 F g κ (pX2_weightBehind_7 F g κ v1 fu) v1 v3 v4) else some v3
def pX2_weightBehind (F : Nat) (g : Nat) (κ : Mem) (v1 : Int32) (v2 : Int32) : Option Int32 := nm (v2 + 1) fun x1 => pX2_weightBehind_7 F g κ v1 F 1 x1
def pX2_situations (F : Nat) (g : Nat) (κ : Mem) (v1 : Int32) : Option Int32 := (pX2_weightBehind F g κ v1 (-1)).bind fun t1 => some t1
def pX2_tell_30 (g : Nat) (κ : Mem) : Option Mem := some κ
def pX2_tell (g : Nat) (κ : Mem) (v1 : Int32) (v2 : Int32) (v3 : Int32) : Option Mem := ckZ 32 (nm ((v1 * 32) + (v2 / 32)) fun x1 => if v2 < 0 then pX2_tell_30 g κ else if x1 < 0 then pX2_tell_30 g κ else if x1 < 192 then ckZ 32 (nm (2 * (v2 - v2 / 32 * 32)) fun x2 => ckI x1 192 (ckI x1 192 (nm (setL κ (g + 3) x1.toNatClampNeg (((ml κ (g + 3) x1.toNatClampNeg) &&& ((3 <<< (x2.toInt64 &&& 63)) ^^^ (-1))) ||| ((v3 &&& 3).toInt64 <<< (x2.toInt64 &&& 63)))) fun κ3 => some κ3))) else pX2_tell_30 g κ)
def pX6_readTable_11 (F : Nat) (v1 : Int32) (v2 : Int32) : Nat → Mem → Int32 → Option (Int32 × Mem)
  | 0, _, _ => none
  | fu + 1, κ, v3 => if v3 < v2 then ckI v1 6 ((pX6_readNumber κ 0 ((mi κ 10 v1.toNatClampNeg) - 1)).bind fun t2 => if t2.1 = 0 then some (0, t2.2) else (pX2_tell 9 t2.2 v1 v3 (mi t2.2 138 5)).bind fun t3 => (pX6_readTable_11 F v1 v2 fu) t3 (v3 + 1)) else some (1, κ)
def pX6_readTable (F : Nat) (κ : Mem) (v1 : Int32) : Option (Int32 × Mem) := (pX2_situations F 9 κ v1).bind fun t1 => pX6_readTable_11 F v1 t1 F κ 0
def pX6_readOfRule_90 (κ : Mem) (y0 : Int32) : Option (Int32 × Mem) := ckP (isB y0) (some (y0, κ))
def pX6_readOfRule_85 (κ : Mem) : Option (Int32 × Mem) := pX6_readOfRule_90 κ 1
def pX6_readOfRule (κ : Mem) (v1 : Int32) (v2 : Int32) : Option (Int32 × Mem) := if v2 = 6 then (pX6_readNumber κ 0 99).bind fun t1 => ckP (isB t1.1) (some (t1.1, t1.2)) else if v2 = 9 then ckI v1 6 ((pX6_readNumber κ 0 ((mi κ 10 v1.toNatClampNeg) - 1)).bind fun t3 => ckP (isB t3.1) (some (t3.1, t3.2))) else (pX6_readNumber κ 0 ((mi κ 9 0) - 1)).bind fun t5 => if t5.1 = 0 then some (0, t5.2) else (pX2_watches 9 t5.2 v1 (mi t5.2 138 5)).bind fun t6 => if t6 = 0 then (pX6_fail t5.2 3 ((mi t5.2 138 4) - 1)).bind fun t7 => if t7.1 = 0 then pX6_readOfRule_90 t7.2 0 else pX6_readOfRule_85 t7.2 else pX6_readOfRule_85 t5.2
def pX10_lengthen_17 (F : Nat) (r0 : Nat) (κ : Mem) (v1 : Int32) : Option (Int32 × Mem) := some (v1, κ)
def pX10_lengthen_40 (F : Nat) (r0 : Nat) (k24 : Mem → Int32 → Option (Int32 × Mem)) (v1 : Int32) (v2 : Int32) (v3 : Int32) (v4 : Int32) (v5 : Int32) : Nat → Mem → Int32 → Option (Int32 × Mem)
  | 0, _, _ => none
  | fu + 1, κ, v6 => if v6 < 0 then k24 κ (v4 + (-1)) else ckI ((v4 * v2) + v6) (lenX r0) (nm (setI κ r0 ((v4 * v2) + v6).toNatClampNeg (v5 + (v6 * v3))) fun κ4 => (pX10_lengthen_40 F r0 k24 v1 v2 v3 v4 v5 fu) κ4 (v6 + (-1)))
def pX10_lengthen_24 (F : Nat) (r0 : Nat) (v1 : Int32) (v2 : Int32) (v3 : Int32) : Nat → Mem → Int32 → Option (Int32 × Mem)
  | 0, _, _ => none
  | fu + 1, κ, v4 => if v4 < 0 then some ((v1 * v2), κ) else ckI v4 (lenX r0) (nm (mi κ r0 v4.toNatClampNeg) fun x2 => nm (v2 - 1) fun x3 => pX10_lengthen_40 F r0 (pX10_lengthen_24 F r0 v1 v2 v3 fu) v1 v2 v3 v4 x2 F κ x3)
def pX10_lengthen (F : Nat) (r0 : Nat) (κ : Mem) (v1 : Int32) (v2 : Int32) (v3 : Int32) : Option (Int32 × Mem) := if v1 < 0 then pX10_lengthen_17 F r0 κ v1 else if v2 < 1 then pX10_lengthen_17 F r0 κ v1 else if (v1 * v2) ≤ (Int32.ofNat (lenX r0)) then nm (v1 - 1) fun x1 => pX10_lengthen_24 F r0 v1 v2 v3 F κ x1 else pX10_lengthen_17 F r0 κ v1
def pX6_tellByRule_134 (F : Nat) (k56 : Mem → Int32 → Int32 → Option Mem) (κ : Mem) (v1 : Int32) (v2 : Int32) (v3 : Int32) (v5 : Int32) (v6 : Int32) : Option Mem := k56 κ v5 (v6 + 1)
def pX6_tellByRule_129 (F : Nat) (k56 : Mem → Int32 → Int32 → Option Mem) (κ : Mem) (v1 : Int32) (v2 : Int32) (v3 : Int32) (v6 : Int32) (y0 : Int32) (y1 : Int32) (y2 : Int32) : Option Mem := (pX10_lengthen F 139 κ y2 y1 y0).bind fun t3 => pX6_tellByRule_134 F k56 t3.2 v1 v2 v3 t3.1 v6
def pX6_tellByRule_99 (F : Nat) (k56 : Mem → Int32 → Int32 → Option Mem) (κ : Mem) (v1 : Int32) (v2 : Int32) (v3 : Int32) (v5 : Int32) (v6 : Int32) (y0 : Int32) : Option Mem := ckI v6 6 (if v2 = 6 then pX6_tellByRule_129 F k56 κ v1 v2 v3 v6 (-1) (mi κ 10 v6.toNatClampNeg) v5 else pX6_tellByRule_129 F k56 κ v1 v2 v3 v6 y0 (mi κ 10 v6.toNatClampNeg) v5)
def pX6_tellByRule_98 (F : Nat) (k56 : Mem → Int32 → Int32 → Option Mem) (κ : Mem) (v1 : Int32) (v2 : Int32) (v3 : Int32) (v5 : Int32) (v6 : Int32) : Option Mem := pX6_tellByRule_99 F k56 κ v1 v2 v3 v5 v6 0
def pX6_tellByRule_143 (F : Nat) (v1 : Int32) (v5 : Int32) : Nat → Mem → Int32 → Option Mem
  | 0, _, _ => none
  | fu + 1, κ, v6 => if v6 < v5 then ckI v6 1024 (ckI v1 6 ((pJ9_floorMod_7cf53 κ (mi κ 139 v6.toNatClampNeg) (mi κ 10 v1.toNatClampNeg)).bind fun t4 => (pX2_tell 9 κ v1 v6 t4).bind fun t5 => (pX6_tellByRule_143 F v1 v5 fu) t5 (v6 + 1))) else some κ
def pX6_tellByRule_56 (F : Nat) (v1 : Int32) (v2 : Int32) (v3 : Int32) : Nat → Mem → Int32 → Int32 → Option Mem
  | 0, _, _, _ => none
  | fu + 1, κ, v5, v6 => if v6 < (mi κ 9 0) then (pX2_watches 9 κ v1 v6).bind fun t2 => if t2 = 0 then pX6_tellByRule_134 F (pX6_tellByRule_56 F v1 v2 v3 fu) κ v1 v2 v3 v5 v6 else if v3 = 0 then pX6_tellByRule_98 F (pX6_tellByRule_56 F v1 v2 v3 fu) κ v1 v2 v3 v5 v6 else if v6 = (mi κ 138 5) then pX6_tellByRule_99 F (pX6_tellByRule_56 F v1 v2 v3 fu) κ v1 v2 v3 v5 v6 1 else pX6_tellByRule_98 F (pX6_tellByRule_56 F v1 v2 v3 fu) κ v1 v2 v3 v5 v6 else pX6_tellByRule_143 F v1 v5 F κ 0
def pX6_tellByRule_52 (F : Nat) (κ : Mem) (v1 : Int32) (v2 : Int32) (v3 : Int32) (v5 : Int32) (y0 : Int32) (y1 : Int32) : Option Mem := ckI y1 1024 (nm (setI κ 139 y1.toNatClampNeg y0) fun κ1 => pX6_tellByRule_56 F v1 v2 v3 F κ1 v5 0)
def pX6_tellByRule_29 (F : Nat) (κ : Mem) (v1 : Int32) (v2 : Int32) (v3 : Int32) (y0 : Int32) : Option Mem := if v3 = 0 then pX6_tellByRule_52 F κ v1 v2 v3 1 (mi κ 138 5) 0 else pX6_tellByRule_52 F κ v1 v2 v3 1 y0 0
def pX6_tellByRule_17 (F : Nat) (κ : Mem) (v1 : Int32) (v2 : Int32) (y0 : Int32) : Option Mem := if v2 = 8 then pX6_tellByRule_29 F κ v1 v2 y0 1 else pX6_tellByRule_29 F κ v1 v2 y0 0
def pX6_tellByRule_12 (F : Nat) (κ : Mem) (v1 : Int32) (v2 : Int32) : Option Mem := pX6_tellByRule_17 F κ v1 v2 1
def pX6_tellByRule (F : Nat) (κ : Mem) (v1 : Int32) (v2 : Int32) : Option Mem := if v2 = 7 then pX6_tellByRule_12 F κ v1 v2 else if v2 = 8 then pX6_tellByRule_12 F κ v1 v2 else pX6_tellByRule_17 F κ v1 v2 0
def pX6_readGuess (F : Nat) (κ : Mem) : Option (Int32 × Mem) := (pX6_readPlayer κ).bind fun t1 => if t1.1 = 0 then some (0, t1.2) else nm (mi t1.2 138 5) fun x2 => if (((mi t1.2 138 8) >>> (x2 &&& 31)) &&& 1) = 1 then (pX6_fail t1.2 4 ((mi t1.2 138 4) - 1)).bind fun t3 => ckP (isB t3.1) (some (t3.1, t3.2)) else nm (setI t1.2 138 8 ((mi t1.2 138 8) ||| (1 <<< (x2 &&& 31)))) fun κ5 => (pX6_wordHere κ5).bind fun t6 => if t6 < 6 then (pX6_misplaced κ5).bind fun t7 => ckP (isB t7.1) (some (t7.1, t7.2)) else nm (setI κ5 138 4 ((mi κ5 138 4) + 1)) fun κ9 => if t6 = 10 then (pX6_readTable F κ9 x2).bind fun t10 => ckP (isB t10.1) (some (t10.1, t10.2)) else (pX6_readOfRule κ9 x2 t6).bind fun t12 => if t12.1 = 0 then some (0, t12.2) else (pX6_tellByRule F t12.2 x2 t6).bind fun t13 => some (1, t13)
def pX6_readLine_79 (F : Nat) (κ : Mem) (y0 : Int32) : Option (Int32 × Mem) := ckP (isB y0) (some (y0, κ))
def pX6_readLine_78 (F : Nat) (κ : Mem) : Option (Int32 × Mem) := pX6_readLine_79 F κ 0
def pX6_readLine_99 (F : Nat) (κ : Mem) (y0 : Int32) : Option (Int32 × Mem) := ckP (isB y0) (some (y0, κ))
def pX6_readLine_98 (F : Nat) (κ : Mem) : Option (Int32 × Mem) := pX6_readLine_99 F κ 0
def pX6_readLine_120 (F : Nat) (κ : Mem) (y0 : Int32) : Option (Int32 × Mem) := ckP (isB y0) (some (y0, κ))
def pX6_readLine_119 (F : Nat) (κ : Mem) : Option (Int32 × Mem) := pX6_readLine_120 F κ 0
def pX6_readLine_141 (F : Nat) (κ : Mem) (y0 : Int32) : Option (Int32 × Mem) := ckP (isB y0) (some (y0, κ))
def pX6_readLine_140 (F : Nat) (κ : Mem) : Option (Int32 × Mem) := pX6_readLine_141 F κ 0
def pX6_readLine_161 (F : Nat) (κ : Mem) (y0 : Int32) : Option (Int32 × Mem) := ckP (isB y0) (some (y0, κ))
def pX6_readLine_160 (F : Nat) (κ : Mem) : Option (Int32 × Mem) := pX6_readLine_161 F κ 0
def pX6_readLine (F : Nat) (κ : Mem) : Option (Int32 × Mem) := (pX6_wordHere κ).bind fun t1 => (pX6_mayBegin κ t1).bind fun t2 => if t2 = 0 then (pX6_misplaced κ).bind fun t3 => ckP (isB t3.1) (some (t3.1, t3.2)) else nm (setI κ 138 4 ((mi κ 138 4) + 1)) fun κ5 => if t1 = 1 then (pX6_readPlayers κ5).bind fun t6 => if t6.1 = 0 then pX6_readLine_78 F t6.2 else (pX6_readSign t6.2).bind fun t8 => if t8.1 = 0 then pX6_readLine_78 F t8.2 else pX6_readLine_79 F t8.2 1 else if t1 = 2 then (pX6_readHats κ5).bind fun t9 => if t9.1 = 0 then pX6_readLine_98 F t9.2 else (pX6_readSign t9.2).bind fun t11 => if t11.1 = 0 then pX6_readLine_98 F t11.2 else pX6_readLine_99 F t11.2 1 else if t1 = 3 then (pX6_readSight κ5 1).bind fun t12 => if t12.1 = 0 then pX6_readLine_119 F t12.2 else (pX6_readSign t12.2).bind fun t14 => if t14.1 = 0 then pX6_readLine_119 F t14.2 else pX6_readLine_120 F t14.2 1 else if t1 = 4 then (pX6_readSight κ5 0).bind fun t15 => if t15.1 = 0 then pX6_readLine_140 F t15.2 else (pX6_readSign t15.2).bind fun t17 => if t17.1 = 0 then pX6_readLine_140 F t17.2 else pX6_readLine_141 F t17.2 1 else (pX6_readGuess F κ5).bind fun t18 => if t18.1 = 0 then pX6_readLine_160 F t18.2 else (pX6_readSign t18.2).bind fun t20 => if t20.1 = 0 then pX6_readLine_160 F t20.2 else pX6_readLine_161 F t20.2 1
def pX6_read_84 (F : Nat) (κ : Mem) : Option (Int32 × Mem) := some (0, κ)
def pX6_read_45 (F : Nat) : Nat → Mem → Int32 → Int32 → Option (Int32 × Mem)
  | 0, _, _, _ => none
  | fu + 1, κ, v2, v3 => if v2 = 0 then pX6_read_84 F κ else if v3 ≤ 600 then ckI (mi κ 138 4) 601 (if (mi κ 141 (mi κ 138 4).toNatClampNeg) = 0 then some (1, κ) else (pX6_readLine F κ).bind fun t8 => (pX6_read_45 F fu) t8.2 t8.1 (v3 + 1)) else pX6_read_84 F κ
def pX6_read (F : Nat) (κ : Mem) (v1 : Int32) : Option (Int32 × Mem) := (pX8_split F κ v1).bind fun t1 => (pX2_clear F 9 t1 0).bind fun t2 => nm (setI t2 138 1 0) fun κ3 => nm (setI κ3 138 2 (-1)) fun κ4 => nm (setI κ4 138 4 0) fun κ5 => nm (setI κ5 138 7 0) fun κ6 => nm (setI κ6 138 8 0) fun κ7 => pX6_read_45 F F κ7 1 0
def pX2_copy (g : Nat) (g1 : Nat) (κ : Mem) : Option Mem := nm (setI κ g 0 (mi κ g1 0)) fun κ1 => ckC 0 0 6 6 6 (nm (cpI κ1 (g1 + 1) (g + 1) (0 : Int32).toNatClampNeg (0 : Int32).toNatClampNeg (6 : Int32).toNatClampNeg) fun κ2 => ckC 0 0 6 6 6 (nm (cpI κ2 (g1 + 2) (g + 2) (0 : Int32).toNatClampNeg (0 : Int32).toNatClampNeg (6 : Int32).toNatClampNeg) fun κ3 => ckC 0 0 192 192 192 (nm (cpL κ3 (g1 + 3) (g + 3) (0 : Int32).toNatClampNeg (0 : Int32).toNatClampNeg (192 : Int32).toNatClampNeg) fun κ4 => some κ4)))
def pX3_forget (κ : Mem) : Option Mem := nm (setI κ 135 2 0) fun κ1 => some κ1
def pX2_weight_19 (F : Nat) (g : Nat) (κ : Mem) (y0 : Int32) : Option Int32 := some y0
def pX2_weight (F : Nat) (g : Nat) (κ : Mem) (v1 : Int32) (v2 : Int32) : Option Int32 := (pX2_watches g κ v1 v2).bind fun t1 => if t1 = 0 then pX2_weight_19 F g κ 0 else (pX2_weightBehind F g κ v1 v2).bind fun t2 => pX2_weight_19 F g κ t2
def pX2_told_27 (g : Nat) (κ : Mem) : Option Int32 := some 0
def pX2_told (g : Nat) (κ : Mem) (v1 : Int32) (v2 : Int32) : Option Int32 := ckZ 32 (nm ((v1 * 32) + (v2 / 32)) fun x1 => if v2 < 0 then pX2_told_27 g κ else if x1 < 0 then pX2_told_27 g κ else if x1 < 192 then ckI x1 192 (ckZ 32 (some ((((ml κ (g + 3) x1.toNatClampNeg).toUInt64 >>> ((2 * (v2 - v2 / 32 * 32)).toInt64.toUInt64 &&& Int64.toUInt64 63)).toInt64).toInt32 &&& 3))) else pX2_told_27 g κ)
def pX1_colourOf (κ : Mem) (v1 : Int32) (v2 : Int32) : Option Int32 := ckI v1 6 (ckZ (mi κ 42 v1.toNatClampNeg) (ckI v1 6 (ckZ (mi κ 2 v1.toNatClampNeg) (some ((v2 / (mi κ 42 v1.toNatClampNeg)) - (v2 / (mi κ 42 v1.toNatClampNeg)) / (mi κ 2 v1.toNatClampNeg) * (mi κ 2 v1.toNatClampNeg))))))
def pX1_judge_86 (F : Nat) (k14 : Mem → Int32 → Option Mem) (κ : Mem) (v1 : Int32) (v2 : Int32) (v3 : Nat) (v4 : Int32) (y0 : Int32) (y1 : Int32) : Option Mem := ckI y1 4096 (nm (setI κ 50 y1.toNatClampNeg y0) fun κ5 => k14 κ5 (v4 + 1))
def pX1_judge_50 (F : Nat) (k14 : Mem → Int32 → Option Mem) (κ : Mem) (v1 : Int32) (v2 : Int32) (v3 : Nat) (v4 : Int32) (y0 : Int32) : Option Mem := if y0 = 0 then ckI v4 4096 (pX1_judge_86 F k14 κ v1 v2 v3 v4 ((mi κ 50 v4.toNatClampNeg) &&& (v2 ^^^ (-1))) v4) else ckI v4 4096 (pX1_judge_86 F k14 κ v1 v2 v3 v4 ((mi κ 50 v4.toNatClampNeg) ||| v2) v4)
def pX1_judge_14 (F : Nat) (v1 : Int32) (v2 : Int32) (v3 : Nat) : Nat → Mem → Int32 → Option Mem
  | 0, _, _ => none
  | fu + 1, κ, v4 => if v4 < (mi κ 41 1) then ckI v4 4096 ((pX2_told 1 κ v1 (mi κ v3 v4.toNatClampNeg)).bind fun t3 => (pX1_colourOf κ v1 v4).bind fun t4 => if t3 = t4 then pX1_judge_50 F (pX1_judge_14 F v1 v2 v3 fu) κ v1 v2 v3 v4 1 else pX1_judge_50 F (pX1_judge_14 F v1 v2 v3 fu) κ v1 v2 v3 v4 0) else some κ
def pX1_judge (F : Nat) (κ : Mem) (v1 : Int32) : Option Mem := nm (1 <<< (v1 &&& 31)) fun x1 => ckI v1 6 (pX1_judge_14 F v1 x1 (44 + v1.toNatClampNeg * 1) F κ 0)
def pX1_tally_26 (F : Nat) : Nat → Mem → Int32 → Option Mem
  | 0, _, _ => none
  | fu + 1, κ, v1 => if v1 < (mi κ 41 1) then ckI v1 4096 (nm (mi κ 50 v1.toNatClampNeg) fun x2 => ckI x2 64 (ckI x2 64 (nm (setI κ 51 x2.toNatClampNeg ((mi κ 51 x2.toNatClampNeg) + 1)) fun κ3 => (pX1_tally_26 F fu) κ3 (v1 + 1)))) else some κ
def pX1_tally_2 (F : Nat) : Nat → Mem → Int32 → Option Mem
  | 0, _, _ => none
  | fu + 1, κ, v1 => if v1 < 64 then ckI v1 64 (nm (setI κ 51 v1.toNatClampNeg 0) fun κ1 => (pX1_tally_2 F fu) κ1 (v1 + 1)) else pX1_tally_26 F F κ 0
def pX1_tally (F : Nat) (κ : Mem) : Option Mem := pX1_tally_2 F F κ 0
def pX1_judgeAll_25 (F : Nat) : Nat → Mem → Int32 → Option Mem
  | 0, _, _ => none
  | fu + 1, κ, v1 => if v1 < (mi κ 1 0) then (pX1_judge F κ v1).bind fun t2 => (pX1_judgeAll_25 F fu) t2 (v1 + 1) else (pX1_tally F κ).bind fun t3 => some t3
def pX1_judgeAll_2 (F : Nat) : Nat → Mem → Int32 → Option Mem
  | 0, _, _ => none
  | fu + 1, κ, v1 => if v1 < (mi κ 41 1) then ckI v1 4096 (nm (setI κ 50 v1.toNatClampNeg 0) fun κ1 => (pX1_judgeAll_2 F fu) κ1 (v1 + 1)) else pX1_judgeAll_25 F F κ 0
def pX1_judgeAll (F : Nat) (κ : Mem) : Option Mem := pX1_judgeAll_2 F F κ 0
def pX1_arrange_87 (F : Nat) (k62 : Mem → Int32 → Option Mem) (v2 : Int32) : Nat → Mem → Int32 → Int32 → Option Mem
  | 0, _, _, _ => none
  | fu + 1, κ, v3, v4 => if v4 < (mi κ 1 0) then ckI v2 6 (ckI v4 6 ((pX2_weight F 1 κ v2 v4).bind fun t6 => (pX10_lengthen F (44 + v2.toNatClampNeg * 1) κ v3 (mi κ 2 v4.toNatClampNeg) t6).bind fun t7 => (pX1_arrange_87 F k62 v2 fu) t7.2 t7.1 (v4 + 1))) else k62 κ (v2 + 1)
def pX1_arrange_62 (F : Nat) : Nat → Mem → Int32 → Option Mem
  | 0, _, _ => none
  | fu + 1, κ, v2 => if v2 < (mi κ 1 0) then ckI v2 6 (ckI 0 4096 (nm (setI κ (44 + v2.toNatClampNeg * 1) (0 : Int32).toNatClampNeg 0) fun κ4 => pX1_arrange_87 F (pX1_arrange_62 F fu) v2 F κ4 1 0)) else (pX1_judgeAll F κ).bind fun t8 => some t8
def pX1_arrange_57 (F : Nat) (κ : Mem) (y0 : Int32) : Option Mem := nm (setI κ 41 1 y0) fun κ2 => pX1_arrange_62 F F κ2 0
def pX1_arrange_12 (F : Nat) : Nat → Mem → Int32 → Int32 → Option Mem
  | 0, _, _, _ => none
  | fu + 1, κ, v1, v2 => if v2 < 0 then if (mi κ 1 0) = 0 then pX1_arrange_57 F κ 0 else pX1_arrange_57 F κ v1 else ckI v2 6 (nm (setI κ 42 v2.toNatClampNeg v1) fun κ9 => ckI v2 6 (nm (v1 * (mi κ9 2 v2.toNatClampNeg)) fun x10 => (pX1_arrange_12 F fu) κ9 x10 (v2 + (-1))))
def pX1_arrange (F : Nat) (κ : Mem) : Option Mem := nm ((mi κ 1 0) - 1) fun x1 => pX1_arrange_12 F F κ 1 x1
def pX10_give (κ : Mem) (v1 : Int32) : Option (Int32 × Mem) := nm (setI κ 0 12 0) fun κ1 => some (v1, κ1)
def pX10_load_12 (F : Nat) (κ : Mem) : Option (Int32 × Mem) := (pX10_refuse κ 1).bind fun t1 => some (t1.1, t1.2)
def pX10_load (F : Nat) (κ : Mem) (v1 : Int32) : Option (Int32 × Mem) := if v1 < 0 then pX10_load_12 F κ else if v1 ≤ (mi κ 0 11) then nm (setI κ 0 11 0) fun κ2 => (pX6_read F κ2 v1).bind fun t3 => nm (setI t3.2 0 13 (mi t3.2 138 1)) fun κ4 => nm (setI κ4 0 14 (mi κ4 138 2)) fun κ5 => if t3.1 = 0 then (pX10_refuse κ5 9).bind fun t6 => some (t6.1, t6.2) else (pX2_copy 1 9 κ5).bind fun t7 => (pX3_forget t7).bind fun t8 => (pX1_arrange F t8).bind fun t9 => (pX10_give t9 (mi t9 1 0)).bind fun t10 => some (t10.1, t10.2) else pX10_load_12 F κ
def pX10_fault_22 (κ : Mem) (y0 : Int32) : Option Int32 := some y0
def pX10_fault (κ : Mem) (v1 : Int32) : Option Int32 := if v1 = 0 then some (mi κ 0 13) else if v1 = 1 then pX10_fault_22 κ (mi κ 0 14) else pX10_fault_22 κ (-1)
def pX4_sights_4 (F : Nat) (κ : Mem) : Nat → Int32 → Int32 → Option Int32
  | 0, _, _ => none
  | fu + 1, v1, v2 => if v2 < (mi κ 1 0) then ckI v2 6 ((pJ6_bitCount_0f7a4 κ (mi κ 3 v2.toNatClampNeg)).bind fun t1 => nm (v1 + t1) fun x2 => (pX4_sights_4 F κ fu) x2 (v2 + 1)) else some v1
def pX4_sights (F : Nat) (κ : Mem) : Option Int32 := pX4_sights_4 F κ F 0 0
def pX2_seenBy_32 (F : Nat) (g : Nat) (κ : Mem) (k4 : Int32 → Int32 → Option Int32) (v1 : Int32) (v2 : Int32) (v3 : Int32) : Option Int32 := k4 v2 (v3 + 1)
def pX2_seenBy_4 (F : Nat) (g : Nat) (κ : Mem) (v1 : Int32) : Nat → Int32 → Int32 → Option Int32
  | 0, _, _ => none
  | fu + 1, v2, v3 => if v3 < (mi κ g 0) then ckI v3 6 (if (((mi κ (g + 2) v3.toNatClampNeg) >>> (v1 &&& 31)) &&& 1) = 1 then nm (v2 ||| (1 <<< (v3 &&& 31))) fun x1 => pX2_seenBy_32 F g κ (pX2_seenBy_4 F g κ v1 fu) v1 x1 v3 else pX2_seenBy_32 F g κ (pX2_seenBy_4 F g κ v1 fu) v1 v2 v3) else some v2
def pX2_seenBy (F : Nat) (g : Nat) (κ : Mem) (v1 : Int32) : Option Int32 := pX2_seenBy_4 F g κ v1 F 0 0
def pX4_linked (F : Nat) (κ : Mem) (v1 : Int32) : Option Int32 := ckI v1 6 ((pX2_seenBy F 1 κ v1).bind fun t1 => some ((mi κ 3 v1.toNatClampNeg) &&& t1))
def pX4_links_4 (F : Nat) (κ : Mem) : Nat → Int32 → Int32 → Option Int32
  | 0, _, _ => none
  | fu + 1, v1, v2 => if v2 < (mi κ 1 0) then (pX4_linked F κ v2).bind fun t1 => (pJ6_bitCount_0f7a4 κ t1).bind fun t2 => nm (v1 + t2) fun x3 => (pX4_links_4 F κ fu) x3 (v2 + 1) else ckZ 2 (some (v1 / 2))
def pX4_links (F : Nat) (κ : Mem) : Option Int32 := pX4_links_4 F κ F 0 0
def pX4_isMutual_18 (F : Nat) (κ : Mem) (y0 : Int32) : Option Int32 := ckP (isB y0) (some y0)
def pX4_isMutual (F : Nat) (κ : Mem) : Option Int32 := (pX4_sights F κ).bind fun t1 => (pX4_links F κ).bind fun t2 => if t1 = (2 * t2) then pX4_isMutual_18 F κ 1 else pX4_isMutual_18 F κ 0
def pX10_many_116 (F : Nat) (κ : Mem) (y0 : Int32) : Option (Int32 × Mem) := (pX10_give κ y0).bind fun t9 => some (t9.1, t9.2)
def pX10_many (F : Nat) (κ : Mem) (v1 : Int32) : Option (Int32 × Mem) := if v1 = 0 then (pX10_give κ (mi κ 1 0)).bind fun t1 => some (t1.1, t1.2) else if v1 = 1 then (pX10_give κ (mi κ 41 1)).bind fun t2 => some (t2.1, t2.2) else if v1 = 2 then (pX4_sights F κ).bind fun t3 => (pX10_give κ t3).bind fun t4 => some (t4.1, t4.2) else if v1 = 3 then (pX4_links F κ).bind fun t5 => (pX10_give κ t5).bind fun t6 => some (t6.1, t6.2) else if v1 = 4 then (pX10_give κ (mi κ 135 2)).bind fun t7 => some (t7.1, t7.2) else if v1 = 5 then (pX4_isMutual F κ).bind fun t8 => if t8 = 0 then pX10_many_116 F κ 0 else pX10_many_116 F κ 1 else (pX10_refuse κ 1).bind fun t10 => some (t10.1, t10.2)
def pX10_noPlayer_20 (κ : Mem) (y0 : Int32) : Option Int32 := ckP (isB y0) (some y0)
def pX10_noPlayer_15 (κ : Mem) : Option Int32 := pX10_noPlayer_20 κ 1
def pX10_noPlayer (κ : Mem) (v1 : Int32) : Option Int32 := if v1 < 0 then pX10_noPlayer_15 κ else if v1 < (mi κ 1 0) then pX10_noPlayer_20 κ 0 else pX10_noPlayer_15 κ
def pX10_player_9 (F : Nat) (κ : Mem) : Option (Int32 × Mem) := (pX10_refuse κ 1).bind fun t1 => some (t1.1, t1.2)
def pX10_player (F : Nat) (κ : Mem) (v1 : Int32) (v2 : Int32) : Option (Int32 × Mem) := if v2 < 0 then pX10_player_9 F κ else if v2 ≤ 3 then (pX10_noPlayer κ v1).bind fun t2 => if t2 = 0 then if v2 = 0 then ckI v1 6 ((pX10_give κ (mi κ 2 v1.toNatClampNeg)).bind fun t3 => some (t3.1, t3.2)) else if v2 = 1 then ckI v1 6 ((pX10_give κ (mi κ 3 v1.toNatClampNeg)).bind fun t4 => some (t4.1, t4.2)) else if v2 = 2 then (pX2_seenBy F 1 κ v1).bind fun t5 => (pX10_give κ t5).bind fun t6 => some (t6.1, t6.2) else (pX2_situations F 1 κ v1).bind fun t7 => (pX10_give κ t7).bind fun t8 => some (t8.1, t8.2) else (pX10_refuse κ 2).bind fun t12 => some (t12.1, t12.2) else pX10_player_9 F κ
def pX10_noSituation_29 (F : Nat) (κ : Mem) (y0 : Int32) : Option Int32 := ckP (isB y0) (some y0)
def pX10_noSituation_24 (F : Nat) (κ : Mem) : Option Int32 := pX10_noSituation_29 F κ 1
def pX10_noSituation (F : Nat) (κ : Mem) (v1 : Int32) (v2 : Int32) : Option Int32 := (pX10_noPlayer κ v1).bind fun t1 => if t1 = 0 then if v2 < 0 then pX10_noSituation_24 F κ else (pX2_situations F 1 κ v1).bind fun t3 => if v2 < t3 then pX10_noSituation_29 F κ 0 else pX10_noSituation_24 F κ else pX10_noSituation_24 F κ
def pX10_guess_30 (F : Nat) (κ : Mem) (y0 : Int32) : Option (Int32 × Mem) := some (y0, κ)
def pX10_guess (F : Nat) (κ : Mem) (v1 : Int32) (v2 : Int32) : Option (Int32 × Mem) := (pX10_noSituation F κ v1 v2).bind fun t1 => if t1 = 0 then (pX2_told 1 κ v1 v2).bind fun t2 => (pX10_give κ t2).bind fun t3 => pX10_guess_30 F t3.2 t3.1 else (pX10_refuse κ 2).bind fun t4 => pX10_guess_30 F t4.2 t4.1
def pX10_noColouring_20 (κ : Mem) (y0 : Int32) : Option Int32 := ckP (isB y0) (some y0)
def pX10_noColouring_15 (κ : Mem) : Option Int32 := pX10_noColouring_20 κ 1
def pX10_noColouring (κ : Mem) (v1 : Int32) : Option Int32 := if v1 < 0 then pX10_noColouring_15 κ else if v1 < (mi κ 41 1) then pX10_noColouring_20 κ 0 else pX10_noColouring_15 κ
def pX1_situationOf (κ : Mem) (v1 : Int32) (v2 : Int32) : Option Int32 := ckI v1 6 (ckI v2 4096 (some (mi κ (44 + v1.toNatClampNeg * 1) v2.toNatClampNeg)))
def pX10_situation_16 (κ : Mem) : Option (Int32 × Mem) := (pX10_refuse κ 2).bind fun t5 => some (t5.1, t5.2)
def pX10_situation (κ : Mem) (v1 : Int32) (v2 : Int32) : Option (Int32 × Mem) := (pX10_noPlayer κ v1).bind fun t1 => if t1 = 0 then (pX10_noColouring κ v2).bind fun t2 => if t2 = 0 then (pX1_situationOf κ v1 v2).bind fun t3 => (pX10_give κ t3).bind fun t4 => some (t4.1, t4.2) else pX10_situation_16 κ else pX10_situation_16 κ
def pX10_colour_16 (κ : Mem) : Option (Int32 × Mem) := (pX10_refuse κ 2).bind fun t5 => some (t5.1, t5.2)
def pX10_colour (κ : Mem) (v1 : Int32) (v2 : Int32) : Option (Int32 × Mem) := (pX10_noPlayer κ v1).bind fun t1 => if t1 = 0 then (pX10_noColouring κ v2).bind fun t2 => if t2 = 0 then (pX1_colourOf κ v1 v2).bind fun t3 => (pX10_give κ t3).bind fun t4 => some (t4.1, t4.2) else pX10_colour_16 κ else pX10_colour_16 κ
def pX10_noColour_30 (κ : Mem) (y0 : Int32) : Option Int32 := ckP (isB y0) (some y0)
def pX10_noColour_25 (κ : Mem) : Option Int32 := pX10_noColour_30 κ 1
def pX10_noColour (κ : Mem) (v1 : Int32) (v2 : Int32) : Option Int32 := (pX10_noPlayer κ v1).bind fun t1 => if t1 = 0 then if v2 < 0 then pX10_noColour_25 κ else ckI v1 6 (if v2 < (mi κ 2 v1.toNatClampNeg) then pX10_noColour_30 κ 0 else pX10_noColour_25 κ) else pX10_noColour_25 κ
def pX2_timesTold_33 (F : Nat) (g : Nat) (κ : Mem) (k12 : Int32 → Int32 → Option Int32) (v1 : Int32) (v2 : Int32) (v3 : Int32) (v4 : Int32) (v5 : Int32) : Option Int32 := k12 v3 (v5 + 1)
def pX2_timesTold_12 (F : Nat) (g : Nat) (κ : Mem) (v1 : Int32) (v2 : Int32) (v4 : Int32) : Nat → Int32 → Int32 → Option Int32
  | 0, _, _ => none
  | fu + 1, v3, v5 => if v5 < v4 then (pX2_told g κ v1 v5).bind fun t2 => if t2 = v2 then pX2_timesTold_33 F g κ (pX2_timesTold_12 F g κ v1 v2 v4 fu) v1 v2 (v3 + 1) v4 v5 else pX2_timesTold_33 F g κ (pX2_timesTold_12 F g κ v1 v2 v4 fu) v1 v2 v3 v4 v5 else some v3
def pX2_timesTold (F : Nat) (g : Nat) (κ : Mem) (v1 : Int32) (v2 : Int32) : Option Int32 := (pX2_situations F g κ v1).bind fun t1 => pX2_timesTold_12 F g κ v1 v2 t1 F 0 0
def pX10_often_30 (F : Nat) (κ : Mem) (y0 : Int32) : Option (Int32 × Mem) := some (y0, κ)
def pX10_often (F : Nat) (κ : Mem) (v1 : Int32) (v2 : Int32) : Option (Int32 × Mem) := (pX10_noColour κ v1 v2).bind fun t1 => if t1 = 0 then (pX2_timesTold F 1 κ v1 v2).bind fun t2 => (pX10_give κ t2).bind fun t3 => pX10_often_30 F t3.2 t3.1 else (pX10_refuse κ 2).bind fun t4 => pX10_often_30 F t4.2 t4.1
def pX10_pairTrouble_28 (κ : Mem) (y0 : Int32) : Option Int32 := some y0
def pX10_pairTrouble_16 (κ : Mem) : Option Int32 := some 2
def pX10_pairTrouble (κ : Mem) (v1 : Int32) (v2 : Int32) : Option Int32 := (pX10_noPlayer κ v1).bind fun t1 => if t1 = 0 then (pX10_noPlayer κ v2).bind fun t2 => if t2 = 0 then if v1 = v2 then pX10_pairTrouble_28 κ 4 else pX10_pairTrouble_28 κ 0 else pX10_pairTrouble_16 κ else pX10_pairTrouble_16 κ
def pX10_sightTrouble_31 (κ : Mem) (y0 : Int32) : Option Int32 := some y0
def pX10_sightTrouble (κ : Mem) (v1 : Int32) (v2 : Int32) : Option Int32 := (pX10_pairTrouble κ v1 v2).bind fun t1 => if t1 = 0 then (pX2_watches 1 κ v1 v2).bind fun t2 => if t2 = 0 then pX10_sightTrouble_31 κ 7 else pX10_sightTrouble_31 κ 0 else some t1
def pX2_colourIn (F : Nat) (g : Nat) (κ : Mem) (v1 : Int32) (v2 : Int32) (v3 : Int32) : Option Int32 := (pX2_weightBehind F g κ v1 v3).bind fun t1 => ckZ t1 (ckI v3 6 (ckZ (mi κ (g + 1) v3.toNatClampNeg) (some ((v2 / t1) - (v2 / t1) / (mi κ (g + 1) v3.toNatClampNeg) * (mi κ (g + 1) v3.toNatClampNeg)))))
def pX2_swayed_88 (F : Nat) (g : Nat) (κ : Mem) (k48 : Int32 → Int32 → Option Int32) (v1 : Int32) (v2 : Int32) (v3 : Int32) (v4 : Int32) (v5 : Int32) (v6 : Int32) (v7 : Int32) (v9 : Int32) (y0 : Int32) (y1 : Int32) : Option Int32 := nm (y1 ||| y0) fun x7 => k48 x7 (v9 + 1)
def pX2_swayed_105 (F : Nat) (g : Nat) (κ : Mem) (k20 : Int32 → Int32 → Option Int32) (v1 : Int32) (v2 : Int32) (v3 : Int32) (v4 : Int32) (v5 : Int32) (v6 : Int32) : Option Int32 := k20 v4 (v6 + 1)
def pX2_swayed_48 (F : Nat) (g : Nat) (κ : Mem) (k20 : Int32 → Int32 → Option Int32) (v1 : Int32) (v2 : Int32) (v3 : Int32) (v4 : Int32) (v5 : Int32) (v6 : Int32) (v7 : Int32) : Nat → Int32 → Int32 → Option Int32
  | 0, _, _ => none
  | fu + 1, v8, v9 => ckI v2 6 (if v9 < (mi κ (g + 1) v2.toNatClampNeg) then (pX2_told g κ v1 (v7 + (v9 * v3))).bind fun t5 => (pX2_told g κ v1 v6).bind fun t6 => if t5 = t6 then pX2_swayed_88 F g κ (pX2_swayed_48 F g κ k20 v1 v2 v3 v4 v5 v6 v7 fu) v1 v2 v3 v4 v5 v6 v7 v9 0 v8 else pX2_swayed_88 F g κ (pX2_swayed_48 F g κ k20 v1 v2 v3 v4 v5 v6 v7 fu) v1 v2 v3 v4 v5 v6 v7 v9 1 v8 else if v8 = 0 then pX2_swayed_105 F g κ k20 v1 v2 v3 v4 v5 v6 else pX2_swayed_105 F g κ k20 v1 v2 v3 (v4 + 1) v5 v6)
def pX2_swayed_20 (F : Nat) (g : Nat) (κ : Mem) (v1 : Int32) (v2 : Int32) (v3 : Int32) (v5 : Int32) : Nat → Int32 → Int32 → Option Int32
  | 0, _, _ => none
  | fu + 1, v4, v6 => if v6 < v5 then (pX2_colourIn F g κ v1 v6 v2).bind fun t3 => nm (v6 - (t3 * v3)) fun x4 => pX2_swayed_48 F g κ (pX2_swayed_20 F g κ v1 v2 v3 v5 fu) v1 v2 v3 v4 v5 v6 x4 F 0 0 else some v4
def pX2_swayed (F : Nat) (g : Nat) (κ : Mem) (v1 : Int32) (v2 : Int32) : Option Int32 := (pX2_weight F g κ v1 v2).bind fun t1 => (pX2_situations F g κ v1).bind fun t2 => pX2_swayed_20 F g κ v1 v2 t1 t2 F 0 0
def pX10_heeds_35 (F : Nat) (κ : Mem) (y0 : Int32) : Option (Int32 × Mem) := (pX10_give κ y0).bind fun t3 => some (t3.1, t3.2)
def pX10_heeds (F : Nat) (κ : Mem) (v1 : Int32) (v2 : Int32) : Option (Int32 × Mem) := (pX10_sightTrouble κ v1 v2).bind fun t1 => if t1 = 0 then (pX2_swayed F 1 κ v1 v2).bind fun t2 => if t2 ≤ 0 then pX10_heeds_35 F κ 0 else pX10_heeds_35 F κ 1 else (pX10_refuse κ t1).bind fun t4 => some (t4.1, t4.2)
def pX10_heeded_59 (F : Nat) (k18 : Int32 → Int32 → Option (Int32 × Mem)) (κ : Mem) (v1 : Int32) (v2 : Int32) (v3 : Int32) : Option (Int32 × Mem) := k18 v2 (v3 + 1)
def pX10_heeded_18 (F : Nat) (κ : Mem) (v1 : Int32) : Nat → Int32 → Int32 → Option (Int32 × Mem)
  | 0, _, _ => none
  | fu + 1, v2, v3 => if v3 < (mi κ 1 0) then (pX2_watches 1 κ v1 v3).bind fun t2 => if t2 = 0 then pX10_heeded_59 F (pX10_heeded_18 F κ v1 fu) κ v1 v2 v3 else (pX2_swayed F 1 κ v1 v3).bind fun t3 => if t3 ≤ 0 then pX10_heeded_59 F (pX10_heeded_18 F κ v1 fu) κ v1 v2 v3 else nm (v2 ||| (1 <<< (v3 &&& 31))) fun x4 => pX10_heeded_59 F (pX10_heeded_18 F κ v1 fu) κ v1 x4 v3 else (pX10_give κ v2).bind fun t5 => some (t5.1, t5.2)
def pX10_heeded (F : Nat) (κ : Mem) (v1 : Int32) : Option (Int32 × Mem) := (pX10_noPlayer κ v1).bind fun t1 => if t1 = 0 then pX10_heeded_18 F κ v1 F 0 0 else (pX10_refuse κ 2).bind fun t6 => some (t6.1, t6.2)
def pX1_colouringsOfOneSituation (F : Nat) (κ : Mem) (v1 : Int32) : Option Int32 := (pX2_situations F 1 κ v1).bind fun t1 => ckZ t1 (some ((mi κ 41 1) / t1))
def pX10_fooled (F : Nat) (κ : Mem) (v1 : Int32) (v2 : Int32) : Option (Int32 × Mem) := (pX10_sightTrouble κ v1 v2).bind fun t1 => if t1 = 0 then (pX2_swayed F 1 κ v1 v2).bind fun t2 => (pX1_colouringsOfOneSituation F κ v1).bind fun t3 => (pX10_give κ (t2 * t3)).bind fun t4 => some (t4.1, t4.2) else (pX10_refuse κ t1).bind fun t5 => some (t5.1, t5.2)
def pX10_right_29 (κ : Mem) (y0 : Int32) : Option (Int32 × Mem) := some (y0, κ)
def pX10_right (κ : Mem) (v1 : Int32) : Option (Int32 × Mem) := (pX10_noColouring κ v1).bind fun t1 => if t1 = 0 then ckI v1 4096 ((pX10_give κ (mi κ 50 v1.toNatClampNeg)).bind fun t2 => pX10_right_29 t2.2 t2.1) else (pX10_refuse κ 2).bind fun t3 => pX10_right_29 t3.2 t3.1
def pX1_lostInAll (κ : Mem) : Option Int32 := ckI 0 64 (some (mi κ 51 (0 : Int32).toNatClampNeg))
def pX1_lostAt_31 (F : Nat) (κ : Mem) (k4 : Int32 → Int32 → Option Int32) (v1 : Int32) (v2 : Int32) (v3 : Int32) : Option Int32 := k4 v2 (v3 + 1)
def pX1_lostAt_4 (F : Nat) (κ : Mem) (v1 : Int32) : Nat → Int32 → Int32 → Option Int32
  | 0, _, _ => none
  | fu + 1, v2, v3 => if v3 < (mi κ 41 1) then ckI v3 4096 (if (mi κ 50 v3.toNatClampNeg) = 0 then if v2 = v1 then some v3 else pX1_lostAt_31 F κ (pX1_lostAt_4 F κ v1 fu) v1 (v2 + 1) v3 else pX1_lostAt_31 F κ (pX1_lostAt_4 F κ v1 fu) v1 v2 v3) else some (-1)
def pX1_lostAt (F : Nat) (κ : Mem) (v1 : Int32) : Option Int32 := pX1_lostAt_4 F κ v1 F 0 0
def pX10_lost_55 (F : Nat) (κ : Mem) (y0 : Int32) : Option (Int32 × Mem) := some (y0, κ)
def pX10_lost (F : Nat) (κ : Mem) (v1 : Int32) : Option (Int32 × Mem) := if v1 < (-1) then (pX10_refuse κ 1).bind fun t1 => some (t1.1, t1.2) else if v1 = (-1) then (pX1_lostInAll κ).bind fun t2 => (pX10_give κ t2).bind fun t3 => some (t3.1, t3.2) else (pX1_lostAt F κ v1).bind fun t4 => if t4 = (-1) then (pX10_refuse κ 5).bind fun t5 => pX10_lost_55 F t5.2 t5.1 else (pX10_give κ t4).bind fun t6 => pX10_lost_55 F t6.2 t6.1
def pX10_noRightCount_15 (κ : Mem) (y0 : Int32) : Option Int32 := ckP (isB y0) (some y0)
def pX10_noRightCount_10 (κ : Mem) : Option Int32 := pX10_noRightCount_15 κ 1
def pX10_noRightCount (κ : Mem) (v1 : Int32) : Option Int32 := if v1 < 0 then pX10_noRightCount_10 κ else if v1 ≤ 6 then pX10_noRightCount_15 κ 0 else pX10_noRightCount_10 κ
def pX1_withRight_44 (F : Nat) (κ : Mem) (k5 : Int32 → Int32 → Option Int32) (v1 : Int32) (v2 : Int32) (v3 : Int32) (v4 : Int32) : Option Int32 := k5 v3 (v4 + 1)
def pX1_withRight_5 (F : Nat) (κ : Mem) (v1 : Int32) (v2 : Int32) : Nat → Int32 → Int32 → Option Int32
  | 0, _, _ => none
  | fu + 1, v3, v4 => if v4 < 64 then (pJ6_bitCount_0f7a4 κ v4).bind fun t1 => if t1 < v1 then pX1_withRight_44 F κ (pX1_withRight_5 F κ v1 v2 fu) v1 v2 v3 v4 else if t1 ≤ v2 then ckI v4 64 (nm (v3 + (mi κ 51 v4.toNatClampNeg)) fun x2 => pX1_withRight_44 F κ (pX1_withRight_5 F κ v1 v2 fu) v1 v2 x2 v4) else pX1_withRight_44 F κ (pX1_withRight_5 F κ v1 v2 fu) v1 v2 v3 v4 else some v3
def pX1_withRight (F : Nat) (κ : Mem) (v1 : Int32) (v2 : Int32) : Option Int32 := pX1_withRight_5 F κ v1 v2 F 0 0
def pX10_exact_29 (F : Nat) (κ : Mem) (y0 : Int32) : Option (Int32 × Mem) := some (y0, κ)
def pX10_exact (F : Nat) (κ : Mem) (v1 : Int32) : Option (Int32 × Mem) := (pX10_noRightCount κ v1).bind fun t1 => if t1 = 0 then (pX1_withRight F κ v1 v1).bind fun t2 => (pX10_give κ t2).bind fun t3 => pX10_exact_29 F t3.2 t3.1 else (pX10_refuse κ 1).bind fun t4 => pX10_exact_29 F t4.2 t4.1
def pX10_alone_31 (κ : Mem) (y0 : Int32) : Option (Int32 × Mem) := some (y0, κ)
def pX10_alone (κ : Mem) (v1 : Int32) : Option (Int32 × Mem) := (pX10_noPlayer κ v1).bind fun t1 => if t1 = 0 then ckI (1 <<< (v1 &&& 31)) 64 ((pX10_give κ (mi κ 51 (1 <<< (v1 &&& 31)).toNatClampNeg)).bind fun t2 => pX10_alone_31 t2.2 t2.1) else (pX10_refuse κ 2).bind fun t3 => pX10_alone_31 t3.2 t3.1
def pX1_allRightOf_29 (F : Nat) (κ : Mem) (k4 : Int32 → Int32 → Option Int32) (v1 : Int32) (v2 : Int32) (v3 : Int32) : Option Int32 := k4 v2 (v3 + 1)
def pX1_allRightOf_4 (F : Nat) (κ : Mem) (v1 : Int32) : Nat → Int32 → Int32 → Option Int32
  | 0, _, _ => none
  | fu + 1, v2, v3 => if v3 < 64 then if (v3 &&& v1) = v1 then ckI v3 64 (nm (v2 + (mi κ 51 v3.toNatClampNeg)) fun x1 => pX1_allRightOf_29 F κ (pX1_allRightOf_4 F κ v1 fu) v1 x1 v3) else pX1_allRightOf_29 F κ (pX1_allRightOf_4 F κ v1 fu) v1 v2 v3 else some v2
def pX1_allRightOf (F : Nat) (κ : Mem) (v1 : Int32) : Option Int32 := pX1_allRightOf_4 F κ v1 F 0 0
def pX10_both (F : Nat) (κ : Mem) (v1 : Int32) (v2 : Int32) : Option (Int32 × Mem) := (pX10_pairTrouble κ v1 v2).bind fun t1 => if t1 = 0 then (pX1_allRightOf F κ ((1 <<< (v1 &&& 31)) ||| (1 <<< (v2 &&& 31)))).bind fun t2 => (pX10_give κ t2).bind fun t3 => some (t3.1, t3.2) else (pX10_refuse κ t1).bind fun t4 => some (t4.1, t4.2)
def pX10_noSet_22 (κ : Mem) (y0 : Int32) : Option Int32 := ckP (isB y0) (some y0)
def pX10_noSet_17 (κ : Mem) : Option Int32 := pX10_noSet_22 κ 1
def pX10_noSet (κ : Mem) (v1 : Int32) : Option Int32 := if v1 ≤ 0 then pX10_noSet_17 κ else if v1 < (1 <<< ((mi κ 1 0) &&& 31)) then pX10_noSet_22 κ 0 else pX10_noSet_17 κ
def pX1_noneRightOf_28 (F : Nat) (κ : Mem) (k4 : Int32 → Int32 → Option Int32) (v1 : Int32) (v2 : Int32) (v3 : Int32) : Option Int32 := k4 v2 (v3 + 1)
def pX1_noneRightOf_4 (F : Nat) (κ : Mem) (v1 : Int32) : Nat → Int32 → Int32 → Option Int32
  | 0, _, _ => none
  | fu + 1, v2, v3 => if v3 < 64 then if (v3 &&& v1) = 0 then ckI v3 64 (nm (v2 + (mi κ 51 v3.toNatClampNeg)) fun x1 => pX1_noneRightOf_28 F κ (pX1_noneRightOf_4 F κ v1 fu) v1 x1 v3) else pX1_noneRightOf_28 F κ (pX1_noneRightOf_4 F κ v1 fu) v1 v2 v3 else some v2
def pX1_noneRightOf (F : Nat) (κ : Mem) (v1 : Int32) : Option Int32 := pX1_noneRightOf_4 F κ v1 F 0 0
def pX10_without_28 (F : Nat) (κ : Mem) (y0 : Int32) : Option (Int32 × Mem) := some (y0, κ)
def pX10_without (F : Nat) (κ : Mem) (v1 : Int32) : Option (Int32 × Mem) := (pX10_noSet κ v1).bind fun t1 => if t1 = 0 then (pX1_noneRightOf F κ v1).bind fun t2 => (pX10_give κ t2).bind fun t3 => pX10_without_28 F t3.2 t3.1 else (pX10_refuse κ 2).bind fun t4 => pX10_without_28 F t4.2 t4.1
def pX10_together_28 (F : Nat) (κ : Mem) (y0 : Int32) : Option (Int32 × Mem) := some (y0, κ)
def pX10_together (F : Nat) (κ : Mem) (v1 : Int32) : Option (Int32 × Mem) := (pX10_noSet κ v1).bind fun t1 => if t1 = 0 then (pX1_allRightOf F κ v1).bind fun t2 => (pX10_give κ t2).bind fun t3 => pX10_together_28 F t3.2 t3.1 else (pX10_refuse κ 2).bind fun t4 => pX10_together_28 F t4.2 t4.1
def pX1_mostRight_31 (F : Nat) (κ : Mem) (k4 : Int32 → Int32 → Option Int32) (v1 : Int32) (v2 : Int32) : Option Int32 := k4 v1 (v2 + 1)
def pX1_mostRight_4 (F : Nat) (κ : Mem) : Nat → Int32 → Int32 → Option Int32
  | 0, _, _ => none
  | fu + 1, v1, v2 => if v2 < 64 then ckI v2 64 (if (mi κ 51 v2.toNatClampNeg) ≤ 0 then pX1_mostRight_31 F κ (pX1_mostRight_4 F κ fu) v1 v2 else (pJ6_bitCount_0f7a4 κ v2).bind fun t1 => nm (if v1 < t1 then t1 else v1) fun x2 => pX1_mostRight_31 F κ (pX1_mostRight_4 F κ fu) x2 v2) else some v1
def pX1_mostRight (F : Nat) (κ : Mem) : Option Int32 := pX1_mostRight_4 F κ F 0 0
def pX1_firstWithRight_2 (F : Nat) (κ : Mem) (v1 : Int32) : Nat → Int32 → Option Int32
  | 0, _ => none
  | fu + 1, v2 => if v2 < (mi κ 41 1) then ckI v2 4096 ((pJ6_bitCount_0f7a4 κ (mi κ 50 v2.toNatClampNeg)).bind fun t1 => if t1 = v1 then some v2 else (pX1_firstWithRight_2 F κ v1 fu) (v2 + 1)) else some (-1)
def pX1_firstWithRight (F : Nat) (κ : Mem) (v1 : Int32) : Option Int32 := pX1_firstWithRight_2 F κ v1 F 0
def pX10_crowd_9 (F : Nat) (κ : Mem) : Option (Int32 × Mem) := (pX10_refuse κ 1).bind fun t1 => some (t1.1, t1.2)
def pX10_crowd_75 (F : Nat) (κ : Mem) (y0 : Int32) : Option (Int32 × Mem) := (pX10_give κ y0).bind fun t6 => some (t6.1, t6.2)
def pX10_crowd (F : Nat) (κ : Mem) (v1 : Int32) : Option (Int32 × Mem) := if v1 < 0 then pX10_crowd_9 F κ else if v1 ≤ 2 then if (mi κ 1 0) = 0 then (pX10_refuse κ 5).bind fun t2 => some (t2.1, t2.2) else (pX1_mostRight F κ).bind fun t3 => if v1 = 0 then (pX10_give κ t3).bind fun t4 => some (t4.1, t4.2) else if v1 = 1 then (pX1_firstWithRight F κ t3).bind fun t5 => pX10_crowd_75 F κ t5 else (pX1_withRight F κ t3 t3).bind fun t7 => pX10_crowd_75 F κ t7 else pX10_crowd_9 F κ
def pX1_secondIsRight_2 (F : Nat) (κ : Mem) (v1 : Int32) : Nat → Int32 → Option Int32
  | 0, _ => none
  | fu + 1, v2 => if v2 < (mi κ 1 0) then ckI v2 6 (ckI v1 4096 ((pX2_told 1 κ v2 (mi κ (44 + v2.toNatClampNeg * 1) v1.toNatClampNeg)).bind fun t2 => ckI v2 6 (ckZ (mi κ 2 v2.toNatClampNeg) (nm ((t2 + 1) - (t2 + 1) / (mi κ 2 v2.toNatClampNeg) * (mi κ 2 v2.toNatClampNeg)) fun x3 => (pX1_colourOf κ v2 v1).bind fun t4 => if x3 = t4 then some 1 else (pX1_secondIsRight_2 F κ v1 fu) (v2 + 1))))) else some 0
def pX1_secondIsRight (F : Nat) (κ : Mem) (v1 : Int32) : Option Int32 := pX1_secondIsRight_2 F κ v1 F 0
def pX1_lostOfTwoGuesses_32 (F : Nat) (κ : Mem) (k4 : Int32 → Int32 → Option Int32) (v1 : Int32) (v2 : Int32) : Option Int32 := k4 v1 (v2 + 1)
def pX1_lostOfTwoGuesses_4 (F : Nat) (κ : Mem) : Nat → Int32 → Int32 → Option Int32
  | 0, _, _ => none
  | fu + 1, v1, v2 => if v2 < (mi κ 41 1) then ckI v2 4096 (if (mi κ 50 v2.toNatClampNeg) = 0 then (pX1_secondIsRight F κ v2).bind fun t1 => if t1 = 0 then pX1_lostOfTwoGuesses_32 F κ (pX1_lostOfTwoGuesses_4 F κ fu) (v1 + 1) v2 else pX1_lostOfTwoGuesses_32 F κ (pX1_lostOfTwoGuesses_4 F κ fu) v1 v2 else pX1_lostOfTwoGuesses_32 F κ (pX1_lostOfTwoGuesses_4 F κ fu) v1 v2) else some v1
def pX1_lostOfTwoGuesses (F : Nat) (κ : Mem) : Option Int32 := pX1_lostOfTwoGuesses_4 F κ F 0 0
def pX10_twice (F : Nat) (κ : Mem) : Option (Int32 × Mem) := (pX1_lostOfTwoGuesses F κ).bind fun t1 => (pX10_give κ t1).bind fun t2 => some (t2.1, t2.2)
def pX1_lostUnseen_89 (F : Nat) (κ : Mem) (k23 : Int32 → Int32 → Option Int32) (v1 : Int32) (v2 : Int32) (v3 : Int32) (v4 : Int32) (v5 : Int32) (v6 : Int32) : Option Int32 := k23 v5 (v6 + 1)
def pX1_lostUnseen_23 (F : Nat) (κ : Mem) (v1 : Int32) (v2 : Int32) (v3 : Int32) (v4 : Int32) : Nat → Int32 → Int32 → Option Int32
  | 0, _, _ => none
  | fu + 1, v5, v6 => if v6 < (mi κ 41 1) then ckI v6 4096 (if ((mi κ 50 v6.toNatClampNeg) &&& v4) = 0 then ckI v1 6 (ckI v6 4096 ((pX1_colourOf κ v2 v6).bind fun t4 => nm ((mi κ (44 + v1.toNatClampNeg * 1) v6.toNatClampNeg) - (t4 * v3)) fun x5 => (pX2_told 1 κ v1 x5).bind fun t6 => (pX1_colourOf κ v1 v6).bind fun t7 => if t6 = t7 then pX1_lostUnseen_89 F κ (pX1_lostUnseen_23 F κ v1 v2 v3 v4 fu) v1 v2 v3 v4 v5 v6 else pX1_lostUnseen_89 F κ (pX1_lostUnseen_23 F κ v1 v2 v3 v4 fu) v1 v2 v3 v4 (v5 + 1) v6)) else pX1_lostUnseen_89 F κ (pX1_lostUnseen_23 F κ v1 v2 v3 v4 fu) v1 v2 v3 v4 v5 v6) else some v5
def pX1_lostUnseen (F : Nat) (κ : Mem) (v1 : Int32) (v2 : Int32) : Option Int32 := (pX2_weight F 1 κ v1 v2).bind fun t1 => nm ((1 <<< (v1 &&& 31)) ^^^ (-1)) fun x2 => pX1_lostUnseen_23 F κ v1 v2 t1 x2 F 0 0
def pX10_blinded_32 (F : Nat) (κ : Mem) (y0 : Int32) : Option (Int32 × Mem) := some (y0, κ)
def pX10_blinded (F : Nat) (κ : Mem) (v1 : Int32) (v2 : Int32) : Option (Int32 × Mem) := (pX10_sightTrouble κ v1 v2).bind fun t1 => if t1 = 0 then (pX1_lostUnseen F κ v1 v2).bind fun t2 => (pX10_give κ t2).bind fun t3 => pX10_blinded_32 F t3.2 t3.1 else (pX10_refuse κ t1).bind fun t4 => pX10_blinded_32 F t4.2 t4.1
def pX10_weakest_83 (F : Nat) (k22 : Int32 → Int32 → Int32 → Option (Int32 × Mem)) (κ : Mem) (v1 : Int32) (v2 : Int32) (v3 : Int32) (v4 : Int32) (v5 : Int32) : Option (Int32 × Mem) := k22 v2 v3 (v5 + 1)
def pX10_weakest_63 (F : Nat) (k22 : Int32 → Int32 → Int32 → Option (Int32 × Mem)) (κ : Mem) (v1 : Int32) (v2 : Int32) (v3 : Int32) (v4 : Int32) (v5 : Int32) (y0 : Int32) : Option (Int32 × Mem) := if y0 ≤ v3 then pX10_weakest_83 F k22 κ v1 v2 v3 v4 v5 else nm ((6 * v4) + v5) fun x2 => pX10_weakest_83 F k22 κ v1 x2 y0 v4 v5
def pX10_weakest_22 (F : Nat) (k7 : Int32 → Int32 → Int32 → Option (Int32 × Mem)) (κ : Mem) (v1 : Int32) (v4 : Int32) : Nat → Int32 → Int32 → Int32 → Option (Int32 × Mem)
  | 0, _, _, _ => none
  | fu + 1, v2, v3, v5 => if v5 < (mi κ 1 0) then (pX2_watches 1 κ v4 v5).bind fun t1 => if t1 = 0 then pX10_weakest_63 F (pX10_weakest_22 F k7 κ v1 v4 fu) κ v1 v2 v3 v4 v5 (-1) else (pX1_lostUnseen F κ v4 v5).bind fun t3 => pX10_weakest_63 F (pX10_weakest_22 F k7 κ v1 v4 fu) κ v1 v2 v3 v4 v5 t3 else k7 v2 v3 (v4 + 1)
def pX10_weakest_116 (F : Nat) (κ : Mem) (y0 : Int32) : Option (Int32 × Mem) := (pX10_give κ y0).bind fun t5 => some (t5.1, t5.2)
def pX10_weakest_7 (F : Nat) (κ : Mem) (v1 : Int32) : Nat → Int32 → Int32 → Int32 → Option (Int32 × Mem)
  | 0, _, _, _ => none
  | fu + 1, v2, v3, v4 => if v4 < (mi κ 1 0) then pX10_weakest_22 F (pX10_weakest_7 F κ v1 fu) κ v1 v4 F v2 v3 0 else if v2 = (-1) then (pX10_refuse κ 5).bind fun t4 => some (t4.1, t4.2) else if v1 = 0 then pX10_weakest_116 F κ v2 else pX10_weakest_116 F κ v3
def pX10_weakest (F : Nat) (κ : Mem) (v1 : Int32) : Option (Int32 × Mem) := pX10_weakest_7 F κ v1 F (-1) (-1) 0
def pX1_fewestNeeded_58 (F : Nat) (κ : Mem) (k16 : Int32 → Int32 → Option Int32) (v1 : Int32) (v2 : Int32) (v3 : Int32) : Option Int32 := k16 v2 (v3 + 1)
def pX1_fewestNeeded_37 (F : Nat) (κ : Mem) (k16 : Int32 → Int32 → Option Int32) (v1 : Int32) (v2 : Int32) (v3 : Int32) (y0 : Int32) : Option Int32 := if y0 = 0 then pX1_fewestNeeded_58 F κ k16 v1 v2 v3 else (pX1_noneRightOf F κ v3).bind fun t4 => (pX1_lostInAll κ).bind fun t5 => if t4 ≤ t5 then pX1_fewestNeeded_58 F κ k16 v1 v3 v3 else pX1_fewestNeeded_58 F κ k16 v1 v2 v3
def pX1_fewestNeeded_16 (F : Nat) (κ : Mem) (v1 : Int32) : Nat → Int32 → Int32 → Option Int32
  | 0, _, _ => none
  | fu + 1, v2, v3 => if v3 < v1 then (pJ6_bitCount_0f7a4 κ v3).bind fun t2 => (pJ6_bitCount_0f7a4 κ v2).bind fun t3 => if t2 < t3 then pX1_fewestNeeded_37 F κ (pX1_fewestNeeded_16 F κ v1 fu) v1 v2 v3 1 else pX1_fewestNeeded_37 F κ (pX1_fewestNeeded_16 F κ v1 fu) v1 v2 v3 0 else some v2
def pX1_fewestNeeded (F : Nat) (κ : Mem) : Option Int32 := nm ((1 <<< ((mi κ 1 0) &&& 31)) - 1) fun x1 => pX1_fewestNeeded_16 F κ x1 F x1 1
def pX10_needed_29 (F : Nat) (κ : Mem) (y0 : Int32) : Option (Int32 × Mem) := some (y0, κ)
def pX10_needed (F : Nat) (κ : Mem) : Option (Int32 × Mem) := if (mi κ 1 0) = 0 then (pX10_refuse κ 5).bind fun t1 => pX10_needed_29 F t1.2 t1.1 else (pX1_fewestNeeded F κ).bind fun t2 => (pX10_give κ t2).bind fun t3 => pX10_needed_29 F t3.2 t3.1
def pX1_lostWith_38 (F : Nat) (κ : Mem) (k5 : Int32 → Int32 → Option Int32) (v1 : Int32) (v2 : Int32) (v3 : Int32) (v4 : Int32) : Option Int32 := k5 v3 (v4 + 1)
def pX1_lostWith_5 (F : Nat) (κ : Mem) (v1 : Int32) (v2 : Int32) : Nat → Int32 → Int32 → Option Int32
  | 0, _, _ => none
  | fu + 1, v3, v4 => if v4 < (mi κ 41 1) then ckI v4 4096 (if (mi κ 50 v4.toNatClampNeg) = 0 then (pX1_colourOf κ v1 v4).bind fun t1 => if t1 = v2 then pX1_lostWith_38 F κ (pX1_lostWith_5 F κ v1 v2 fu) v1 v2 (v3 + 1) v4 else pX1_lostWith_38 F κ (pX1_lostWith_5 F κ v1 v2 fu) v1 v2 v3 v4 else pX1_lostWith_38 F κ (pX1_lostWith_5 F κ v1 v2 fu) v1 v2 v3 v4) else some v3
def pX1_lostWith (F : Nat) (κ : Mem) (v1 : Int32) (v2 : Int32) : Option Int32 := pX1_lostWith_5 F κ v1 v2 F 0 0
def pX10_known_30 (F : Nat) (κ : Mem) (y0 : Int32) : Option (Int32 × Mem) := some (y0, κ)
def pX10_known (F : Nat) (κ : Mem) (v1 : Int32) (v2 : Int32) : Option (Int32 × Mem) := (pX10_noColour κ v1 v2).bind fun t1 => if t1 = 0 then (pX1_lostWith F κ v1 v2).bind fun t2 => (pX10_give κ t2).bind fun t3 => pX10_known_30 F t3.2 t3.1 else (pX10_refuse κ 2).bind fun t4 => pX10_known_30 F t4.2 t4.1
def pX1_unlike_37 (F : Nat) (κ : Mem) (k5 : Int32 → Int32 → Option Int32) (v1 : Int32) (v2 : Int32) (v3 : Int32) (v4 : Int32) : Option Int32 := k5 v3 (v4 + 1)
def pX1_unlike_5 (F : Nat) (κ : Mem) (v1 : Int32) (v2 : Int32) : Nat → Int32 → Int32 → Option Int32
  | 0, _, _ => none
  | fu + 1, v3, v4 => if v4 < (mi κ 1 0) then (pX1_colourOf κ v4 v1).bind fun t1 => (pX1_colourOf κ v4 v2).bind fun t2 => if t1 = t2 then pX1_unlike_37 F κ (pX1_unlike_5 F κ v1 v2 fu) v1 v2 v3 v4 else pX1_unlike_37 F κ (pX1_unlike_5 F κ v1 v2 fu) v1 v2 (v3 + 1) v4 else some v3
def pX1_unlike (F : Nat) (κ : Mem) (v1 : Int32) (v2 : Int32) : Option Int32 := pX1_unlike_5 F κ v1 v2 F 0 0
def pX1_nearestLost_49 (F : Nat) (κ : Mem) (k8 : Int32 → Int32 → Int32 → Option Int32) (v1 : Int32) (v2 : Int32) (v3 : Int32) (v4 : Int32) : Option Int32 := k8 v2 v3 (v4 + 1)
def pX1_nearestLost_8 (F : Nat) (κ : Mem) (v1 : Int32) : Nat → Int32 → Int32 → Int32 → Option Int32
  | 0, _, _, _ => none
  | fu + 1, v2, v3, v4 => if v4 < (mi κ 41 1) then ckI v4 4096 (if (mi κ 50 v4.toNatClampNeg) = 0 then (pX1_unlike F κ v1 v4).bind fun t1 => if t1 < v3 then (pX1_unlike F κ v1 v4).bind fun t2 => pX1_nearestLost_49 F κ (pX1_nearestLost_8 F κ v1 fu) v1 v4 t2 v4 else pX1_nearestLost_49 F κ (pX1_nearestLost_8 F κ v1 fu) v1 v2 v3 v4 else pX1_nearestLost_49 F κ (pX1_nearestLost_8 F κ v1 fu) v1 v2 v3 v4) else some v2
def pX1_nearestLost (F : Nat) (κ : Mem) (v1 : Int32) : Option Int32 := pX1_nearestLost_8 F κ v1 F (-1) 7 0
def pX10_nearest_9 (F : Nat) (κ : Mem) : Option (Int32 × Mem) := (pX10_refuse κ 1).bind fun t1 => some (t1.1, t1.2)
def pX10_nearest_67 (F : Nat) (κ : Mem) (y0 : Int32) : Option (Int32 × Mem) := (pX10_give κ y0).bind fun t6 => some (t6.1, t6.2)
def pX10_nearest (F : Nat) (κ : Mem) (v1 : Int32) (v2 : Int32) : Option (Int32 × Mem) := if v2 < 0 then pX10_nearest_9 F κ else if v2 ≤ 1 then (pX10_noColouring κ v1).bind fun t2 => if t2 = 0 then (pX1_nearestLost F κ v1).bind fun t3 => if t3 = (-1) then (pX10_refuse κ 5).bind fun t4 => some (t4.1, t4.2) else if v2 = 0 then (pX1_unlike F κ v1 t3).bind fun t5 => pX10_nearest_67 F κ t5 else pX10_nearest_67 F κ t3 else (pX10_refuse κ 2).bind fun t7 => some (t7.1, t7.2) else pX10_nearest_9 F κ
def pX10_atLeast_30 (F : Nat) (κ : Mem) (y0 : Int32) : Option (Int32 × Mem) := some (y0, κ)
def pX10_atLeast (F : Nat) (κ : Mem) (v1 : Int32) : Option (Int32 × Mem) := (pX10_noRightCount κ v1).bind fun t1 => if t1 = 0 then (pX1_withRight F κ v1 6).bind fun t2 => (pX10_give κ t2).bind fun t3 => pX10_atLeast_30 F t3.2 t3.1 else (pX10_refuse κ 1).bind fun t4 => pX10_atLeast_30 F t4.2 t4.1
def pX4_everybody (κ : Mem) : Option Int32 := some ((1 <<< ((mi κ 1 0) &&& 31)) - 1)
def pX4_isAcyclic_53 (F : Nat) (κ : Mem) (k20 : Int32 → Int32 → Option Int32) (v1 : Int32) (v2 : Int32) (v3 : Int32) : Option Int32 := k20 v1 (v3 + 1)
def pX4_isAcyclic_20 (F : Nat) (κ : Mem) (k7 : Int32 → Int32 → Option Int32) (v2 : Int32) : Nat → Int32 → Int32 → Option Int32
  | 0, _, _ => none
  | fu + 1, v1, v3 => if v3 < (mi κ 1 0) then ckI v3 6 (if ((mi κ 3 v3.toNatClampNeg) &&& v1) = 0 then nm (v1 &&& ((1 <<< (v3 &&& 31)) ^^^ (-1))) fun x2 => pX4_isAcyclic_53 F κ (pX4_isAcyclic_20 F κ k7 v2 fu) x2 v2 v3 else pX4_isAcyclic_53 F κ (pX4_isAcyclic_20 F κ k7 v2 fu) v1 v2 v3) else k7 v1 (v2 + 1)
def pX4_isAcyclic_74 (F : Nat) (κ : Mem) (y0 : Int32) : Option Int32 := ckP (isB y0) (some y0)
def pX4_isAcyclic_7 (F : Nat) (κ : Mem) : Nat → Int32 → Int32 → Option Int32
  | 0, _, _ => none
  | fu + 1, v1, v2 => if v2 < (mi κ 1 0) then pX4_isAcyclic_20 F κ (pX4_isAcyclic_7 F κ fu) v2 F v1 0 else if v1 = 0 then pX4_isAcyclic_74 F κ 1 else pX4_isAcyclic_74 F κ 0
def pX4_isAcyclic (F : Nat) (κ : Mem) : Option Int32 := (pX4_everybody κ).bind fun t1 => pX4_isAcyclic_7 F κ F t1 0
def pX10_acyclic_16 (F : Nat) (κ : Mem) (y0 : Int32) : Option (Int32 × Mem) := (pX10_give κ y0).bind fun t2 => some (t2.1, t2.2)
def pX10_acyclic (F : Nat) (κ : Mem) : Option (Int32 × Mem) := (pX4_isAcyclic F κ).bind fun t1 => if t1 = 0 then pX10_acyclic_16 F κ 0 else pX10_acyclic_16 F κ 1
def pX10_always_20 (F : Nat) (κ : Mem) : Option (Int32 × Mem) := (pX10_refuse κ 5).bind fun t1 => some (t1.1, t1.2)
def pX10_always_30 (F : Nat) (κ : Mem) : Nat → Int32 → Int32 → Option (Int32 × Mem)
  | 0, _, _ => none
  | fu + 1, v1, v2 => if v2 < (mi κ 1 0) then ckI v2 6 (nm (v1 * ((mi κ 2 v2.toNatClampNeg) - 1)) fun x3 => (pX10_always_30 F κ fu) x3 (v2 + 1)) else (pX10_give κ v1).bind fun t4 => some (t4.1, t4.2)
def pX10_always (F : Nat) (κ : Mem) : Option (Int32 × Mem) := if (mi κ 1 0) = 0 then pX10_always_20 F κ else (pX4_isAcyclic F κ).bind fun t2 => if t2 = 0 then pX10_always_20 F κ else pX10_always_30 F κ F 1 0
def pX4_seesNoneOfItself_38 (F : Nat) (κ : Mem) (k2 : Int32 → Option Int32) (v1 : Int32) (v2 : Int32) : Option Int32 := k2 (v2 + 1)
def pX4_seesNoneOfItself_2 (F : Nat) (κ : Mem) (v1 : Int32) : Nat → Int32 → Option Int32
  | 0, _ => none
  | fu + 1, v2 => if v2 < (mi κ 1 0) then if ((v1 >>> (v2 &&& 31)) &&& 1) = 1 then ckI v2 6 (if ((mi κ 3 v2.toNatClampNeg) &&& v1) = 0 then pX4_seesNoneOfItself_38 F κ (pX4_seesNoneOfItself_2 F κ v1 fu) v1 v2 else some 0) else pX4_seesNoneOfItself_38 F κ (pX4_seesNoneOfItself_2 F κ v1 fu) v1 v2 else some 1
def pX4_seesNoneOfItself (F : Nat) (κ : Mem) (v1 : Int32) : Option Int32 := pX4_seesNoneOfItself_2 F κ v1 F 0
def pX4_greatestBlindSet_33 (F : Nat) (κ : Mem) (k4 : Int32 → Int32 → Option Int32) (v1 : Int32) (v2 : Int32) : Option Int32 := k4 v1 (v2 + 1)
def pX4_greatestBlindSet_4 (F : Nat) (κ : Mem) : Nat → Int32 → Int32 → Option Int32
  | 0, _, _ => none
  | fu + 1, v1, v2 => (pX4_everybody κ).bind fun t1 => if v2 ≤ t1 then (pJ6_bitCount_0f7a4 κ v2).bind fun t2 => (pJ6_bitCount_0f7a4 κ v1).bind fun t3 => if t2 ≤ t3 then pX4_greatestBlindSet_33 F κ (pX4_greatestBlindSet_4 F κ fu) v1 v2 else (pX4_seesNoneOfItself F κ v2).bind fun t4 => if t4 = 0 then pX4_greatestBlindSet_33 F κ (pX4_greatestBlindSet_4 F κ fu) v1 v2 else pX4_greatestBlindSet_33 F κ (pX4_greatestBlindSet_4 F κ fu) v2 v2 else some v1
def pX4_greatestBlindSet (F : Nat) (κ : Mem) : Option Int32 := pX4_greatestBlindSet_4 F κ F 0 1
def pX10_blind_29 (F : Nat) (κ : Mem) (y0 : Int32) : Option (Int32 × Mem) := some (y0, κ)
def pX10_blind (F : Nat) (κ : Mem) : Option (Int32 × Mem) := if (mi κ 1 0) = 0 then (pX10_refuse κ 5).bind fun t1 => pX10_blind_29 F t1.2 t1.1 else (pX4_greatestBlindSet F κ).bind fun t2 => (pX10_give κ t2).bind fun t3 => pX10_blind_29 F t3.2 t3.1
def pX4_twelfths_39 (F : Nat) (κ : Mem) (k4 : Int32 → Int32 → Option Int32) (v1 : Int32) (v2 : Int32) (v3 : Int32) : Option Int32 := k4 v2 (v3 + 1)
def pX4_twelfths_4 (F : Nat) (κ : Mem) (v1 : Int32) : Nat → Int32 → Int32 → Option Int32
  | 0, _, _ => none
  | fu + 1, v2, v3 => if v3 < (mi κ 1 0) then if ((v1 >>> (v3 &&& 31)) &&& 1) = 1 then ckI v3 6 (ckZ (mi κ 2 v3.toNatClampNeg) (nm (v2 + (12 / (mi κ 2 v3.toNatClampNeg))) fun x1 => pX4_twelfths_39 F κ (pX4_twelfths_4 F κ v1 fu) v1 x1 v3)) else pX4_twelfths_39 F κ (pX4_twelfths_4 F κ v1 fu) v1 v2 v3 else some v2
def pX4_twelfths (F : Nat) (κ : Mem) (v1 : Int32) : Option Int32 := pX4_twelfths_4 F κ v1 F 0 0
def pX10_commonDivisor_23 (F : Nat) (κ : Mem) (k4 : Int32 → Int32 → Option Int32) (v0 : Int32) (v1 : Int32) (v2 : Int32) (v3 : Int32) : Option Int32 := k4 v2 (v3 + 1)
def pX10_commonDivisor_4 (F : Nat) (κ : Mem) (v0 : Int32) (v1 : Int32) : Nat → Int32 → Int32 → Option Int32
  | 0, _, _ => none
  | fu + 1, v2, v3 => if v3 ≤ v1 then ckZ v3 (if (v0 - v0 / v3 * v3) = 0 then ckZ v3 (if (v1 - v1 / v3 * v3) = 0 then pX10_commonDivisor_23 F κ (pX10_commonDivisor_4 F κ v0 v1 fu) v0 v1 v3 v3 else pX10_commonDivisor_23 F κ (pX10_commonDivisor_4 F κ v0 v1 fu) v0 v1 v2 v3) else pX10_commonDivisor_23 F κ (pX10_commonDivisor_4 F κ v0 v1 fu) v0 v1 v2 v3) else some v2
def pX10_commonDivisor (F : Nat) (κ : Mem) (v0 : Int32) (v1 : Int32) : Option Int32 := pX10_commonDivisor_4 F κ v0 v1 F 1 2
def pX10_share_9 (F : Nat) (κ : Mem) : Option (Int32 × Mem) := (pX10_refuse κ 1).bind fun t1 => some (t1.1, t1.2)
def pX10_share_57 (F : Nat) (κ : Mem) (v4 : Int32) (y0 : Int32) : Option (Int32 × Mem) := ckZ v4 ((pX10_give κ (y0 / v4)).bind fun t5 => some (t5.1, t5.2))
def pX10_share (F : Nat) (κ : Mem) (v1 : Int32) (v2 : Int32) : Option (Int32 × Mem) := if v2 < 0 then pX10_share_9 F κ else if v2 ≤ 1 then (pX10_noSet κ v1).bind fun t2 => if t2 = 0 then (pX4_twelfths F κ v1).bind fun t3 => (pX10_commonDivisor F κ t3 12).bind fun t4 => if v2 = 0 then pX10_share_57 F κ t4 t3 else pX10_share_57 F κ t4 12 else (pX10_refuse κ 2).bind fun t6 => some (t6.1, t6.2) else pX10_share_9 F κ
def pX10_least_10 (F : Nat) (κ : Mem) : Nat → Int32 → Int32 → Option (Int32 × Mem)
  | 0, _, _ => none
  | fu + 1, v1, v2 => if v2 < (mi κ 1 0) then ckI v2 6 (ckZ (mi κ 2 v2.toNatClampNeg) (nm (v1 - ((mi κ 41 1) / (mi κ 2 v2.toNatClampNeg))) fun x2 => (pX10_least_10 F κ fu) x2 (v2 + 1))) else (pX10_give κ (if 0 < v1 then v1 else 0)).bind fun t3 => some (t3.1, t3.2)
def pX10_least (F : Nat) (κ : Mem) : Option (Int32 × Mem) := nm (mi κ 41 1) fun x1 => pX10_least_10 F κ F x1 0
def pX4_isClique_43 (F : Nat) (κ : Mem) (k2 : Int32 → Option Int32) (v1 : Int32) (v2 : Int32) : Option Int32 := k2 (v2 + 1)
def pX4_isClique_2 (F : Nat) (κ : Mem) (v1 : Int32) : Nat → Int32 → Option Int32
  | 0, _ => none
  | fu + 1, v2 => if v2 < (mi κ 1 0) then if ((v1 >>> (v2 &&& 31)) &&& 1) = 1 then ckI v2 6 (if (((mi κ 3 v2.toNatClampNeg) ||| (1 <<< (v2 &&& 31))) &&& v1) = v1 then pX4_isClique_43 F κ (pX4_isClique_2 F κ v1 fu) v1 v2 else some 0) else pX4_isClique_43 F κ (pX4_isClique_2 F κ v1 fu) v1 v2 else some 1
def pX4_isClique (F : Nat) (κ : Mem) (v1 : Int32) : Option Int32 := pX4_isClique_2 F κ v1 F 0
def pX4_greatestClique_33 (F : Nat) (κ : Mem) (k4 : Int32 → Int32 → Option Int32) (v1 : Int32) (v2 : Int32) : Option Int32 := k4 v1 (v2 + 1)
def pX4_greatestClique_4 (F : Nat) (κ : Mem) : Nat → Int32 → Int32 → Option Int32
  | 0, _, _ => none
  | fu + 1, v1, v2 => (pX4_everybody κ).bind fun t1 => if v2 ≤ t1 then (pJ6_bitCount_0f7a4 κ v2).bind fun t2 => (pJ6_bitCount_0f7a4 κ v1).bind fun t3 => if t2 ≤ t3 then pX4_greatestClique_33 F κ (pX4_greatestClique_4 F κ fu) v1 v2 else (pX4_isClique F κ v2).bind fun t4 => if t4 = 0 then pX4_greatestClique_33 F κ (pX4_greatestClique_4 F κ fu) v1 v2 else pX4_greatestClique_33 F κ (pX4_greatestClique_4 F κ fu) v2 v2 else some v1
def pX4_greatestClique (F : Nat) (κ : Mem) : Option Int32 := pX4_greatestClique_4 F κ F 0 1
def pX10_clique_29 (F : Nat) (κ : Mem) (y0 : Int32) : Option (Int32 × Mem) := some (y0, κ)
def pX10_clique (F : Nat) (κ : Mem) : Option (Int32 × Mem) := if (mi κ 1 0) = 0 then (pX10_refuse κ 5).bind fun t1 => pX10_clique_29 F t1.2 t1.1 else (pX4_greatestClique F κ).bind fun t2 => (pX10_give κ t2).bind fun t3 => pX10_clique_29 F t3.2 t3.1
def pX4_strongestClique_35 (F : Nat) (κ : Mem) (k4 : Int32 → Int32 → Option Int32) (v1 : Int32) (v2 : Int32) : Option Int32 := k4 v1 (v2 + 1)
def pX4_strongestClique_4 (F : Nat) (κ : Mem) : Nat → Int32 → Int32 → Option Int32
  | 0, _, _ => none
  | fu + 1, v1, v2 => (pX4_everybody κ).bind fun t1 => if v2 ≤ t1 then (pX4_twelfths F κ v2).bind fun t2 => (pX4_twelfths F κ v1).bind fun t3 => if t2 ≤ t3 then pX4_strongestClique_35 F κ (pX4_strongestClique_4 F κ fu) v1 v2 else (pX4_isClique F κ v2).bind fun t4 => if t4 = 0 then pX4_strongestClique_35 F κ (pX4_strongestClique_4 F κ fu) v1 v2 else pX4_strongestClique_35 F κ (pX4_strongestClique_4 F κ fu) v2 v2 else some v1
def pX4_strongestClique (F : Nat) (κ : Mem) : Option Int32 := pX4_strongestClique_4 F κ F 0 1
def pX10_strongest_29 (F : Nat) (κ : Mem) (y0 : Int32) : Option (Int32 × Mem) := some (y0, κ)
def pX10_strongest (F : Nat) (κ : Mem) : Option (Int32 × Mem) := if (mi κ 1 0) = 0 then (pX10_refuse κ 5).bind fun t1 => pX10_strongest_29 F t1.2 t1.1 else (pX4_strongestClique F κ).bind fun t2 => (pX10_give κ t2).bind fun t3 => pX10_strongest_29 F t3.2 t3.1
def pX4_sureCliques_33 (F : Nat) (κ : Mem) (k4 : Int32 → Int32 → Option Int32) (v1 : Int32) (v2 : Int32) : Option Int32 := k4 v1 (v2 + 1)
def pX4_sureCliques_4 (F : Nat) (κ : Mem) : Nat → Int32 → Int32 → Option Int32
  | 0, _, _ => none
  | fu + 1, v1, v2 => (pX4_everybody κ).bind fun t1 => if v2 ≤ t1 then (pX4_twelfths F κ v2).bind fun t2 => if t2 < 12 then pX4_sureCliques_33 F κ (pX4_sureCliques_4 F κ fu) v1 v2 else (pX4_isClique F κ v2).bind fun t3 => if t3 = 0 then pX4_sureCliques_33 F κ (pX4_sureCliques_4 F κ fu) v1 v2 else pX4_sureCliques_33 F κ (pX4_sureCliques_4 F κ fu) (v1 + 1) v2 else some v1
def pX4_sureCliques (F : Nat) (κ : Mem) : Option Int32 := pX4_sureCliques_4 F κ F 0 1
def pX10_sure (F : Nat) (κ : Mem) : Option (Int32 × Mem) := (pX4_sureCliques F κ).bind fun t1 => (pX10_give κ t1).bind fun t2 => some (t2.1, t2.2)
def pX1_countRescued_92 (F : Nat) (k32 : Mem → Int32 → Int32 → Option (Int32 × Mem)) (κ : Mem) (v1 : Int32) (v3 : Int32) (v4 : Int32) (v5 : Int32) : Option (Int32 × Mem) := k32 κ v4 (v5 + 1)
def pX1_countRescued_32 (F : Nat) (v1 : Int32) (v3 : Int32) : Nat → Mem → Int32 → Int32 → Option (Int32 × Mem)
  | 0, _, _, _ => none
  | fu + 1, κ, v4, v5 => if v5 < (mi κ 41 1) then ckI v5 4096 (if ((mi κ 50 v5.toNatClampNeg) &&& v3) = 0 then ckI v1 6 (ckI v5 4096 (ckI v1 6 ((pX1_colourOf κ v1 v5).bind fun t4 => nm (((mi κ (44 + v1.toNatClampNeg * 1) v5.toNatClampNeg) * (mi κ 2 v1.toNatClampNeg)) + t4) fun x5 => ckI x5 4096 (ckI x5 4096 (nm (setI κ 53 x5.toNatClampNeg ((mi κ 53 x5.toNatClampNeg) + 1)) fun κ6 => pX1_countRescued_92 F (pX1_countRescued_32 F v1 v3 fu) κ6 v1 v3 (v4 + 1) v5))))) else pX1_countRescued_92 F (pX1_countRescued_32 F v1 v3 fu) κ v1 v3 v4 v5) else some (v4, κ)
def pX1_countRescued_2 (F : Nat) (v1 : Int32) (v2 : Int32) : Nat → Mem → Int32 → Option (Int32 × Mem)
  | 0, _, _ => none
  | fu + 1, κ, v3 => if v3 < v2 then ckI v3 4096 (nm (setI κ 53 v3.toNatClampNeg 0) fun κ1 => (pX1_countRescued_2 F v1 v2 fu) κ1 (v3 + 1)) else nm ((1 <<< (v1 &&& 31)) ^^^ (-1)) fun x2 => pX1_countRescued_32 F v1 x2 F κ 0 0
def pX1_countRescued (F : Nat) (κ : Mem) (v1 : Int32) (v2 : Int32) : Option (Int32 × Mem) := pX1_countRescued_2 F v1 v2 F κ 0
def pX1_weighBest_81 (F : Nat) (k44 : Int32 → Int32 → Option (Int32 × Mem)) (κ : Mem) (v2 : Int32) (v3 : Int32) (v4 : Int32) (v5 : Int32) (v6 : Int32) (v7 : Int32) : Option (Int32 × Mem) := k44 v6 (v7 + 1)
def pX1_weighBest_44 (F : Nat) (k32 : Mem → Int32 → Int32 → Option (Int32 × Mem)) (κ : Mem) (v2 : Int32) (v3 : Int32) (v4 : Int32) (v5 : Int32) : Nat → Int32 → Int32 → Option (Int32 × Mem)
  | 0, _, _ => none
  | fu + 1, v6, v7 => if v7 < v2 then ckI ((v5 * v2) + v7) 4096 (ckI ((v5 * v2) + v6) 4096 (if (mi κ 53 ((v5 * v2) + v7).toNatClampNeg) ≤ (mi κ 53 ((v5 * v2) + v6).toNatClampNeg) then pX1_weighBest_81 F (pX1_weighBest_44 F k32 κ v2 v3 v4 v5 fu) κ v2 v3 v4 v5 v6 v7 else pX1_weighBest_81 F (pX1_weighBest_44 F k32 κ v2 v3 v4 v5 fu) κ v2 v3 v4 v5 v7 v7)) else ckI v5 1024 (nm (setI κ 52 v5.toNatClampNeg v6) fun κ4 => ckI ((v5 * v2) + v6) 4096 (nm (v4 - (mi κ4 53 ((v5 * v2) + v6).toNatClampNeg)) fun x5 => k32 κ4 x5 (v5 + 1)))
def pX1_weighBest_32 (F : Nat) (v2 : Int32) (v3 : Int32) : Nat → Mem → Int32 → Int32 → Option (Int32 × Mem)
  | 0, _, _, _ => none
  | fu + 1, κ, v4, v5 => if v5 < v3 then pX1_weighBest_44 F (pX1_weighBest_32 F v2 v3 fu) κ v2 v3 v4 v5 F 0 1 else some (v4, κ)
def pX1_weighBest (F : Nat) (κ : Mem) (v1 : Int32) : Option (Int32 × Mem) := ckI v1 6 (nm (mi κ 2 v1.toNatClampNeg) fun x1 => (pX2_situations F 1 κ v1).bind fun t2 => (pX1_countRescued F κ v1 (t2 * x1)).bind fun t3 => pX1_weighBest_32 F x1 t2 F t3.2 t3.1 0)
def pX10_best_28 (F : Nat) (κ : Mem) (y0 : Int32) : Option (Int32 × Mem) := some (y0, κ)
def pX10_best (F : Nat) (κ : Mem) (v1 : Int32) : Option (Int32 × Mem) := (pX10_noPlayer κ v1).bind fun t1 => if t1 = 0 then (pX1_weighBest F κ v1).bind fun t2 => (pX10_give t2.2 t2.1).bind fun t3 => pX10_best_28 F t3.2 t3.1 else (pX10_refuse κ 2).bind fun t4 => pX10_best_28 F t4.2 t4.1
def pX10_bestAt (F : Nat) (κ : Mem) (v1 : Int32) (v2 : Int32) : Option (Int32 × Mem) := (pX10_noSituation F κ v1 v2).bind fun t1 => if t1 = 0 then (pX1_weighBest F κ v1).bind fun t2 => ckI v2 1024 ((pX10_give t2.2 (mi t2.2 52 v2.toNatClampNeg)).bind fun t3 => some (t3.1, t3.2)) else (pX10_refuse κ 2).bind fun t4 => some (t4.1, t4.2)
def pX10_bettered_40 (F : Nat) (k8 : Mem → Int32 → Int32 → Int32 → Option (Int32 × Mem)) (κ : Mem) (v1 : Int32) (v2 : Int32) (v3 : Int32) : Option (Int32 × Mem) := k8 κ v1 v2 (v3 + 1)
def pX10_bettered_64 (F : Nat) (κ : Mem) (y0 : Int32) : Option (Int32 × Mem) := some (y0, κ)
def pX10_bettered_8 (F : Nat) : Nat → Mem → Int32 → Int32 → Int32 → Option (Int32 × Mem)
  | 0, _, _, _, _ => none
  | fu + 1, κ, v1, v2, v3 => if v3 < (mi κ 1 0) then (pX1_weighBest F κ v3).bind fun t1 => if t1.1 < v2 then pX10_bettered_40 F (pX10_bettered_8 F fu) t1.2 v3 t1.1 v3 else pX10_bettered_40 F (pX10_bettered_8 F fu) t1.2 v1 v2 v3 else if v1 = (-1) then (pX10_refuse κ 5).bind fun t2 => pX10_bettered_64 F t2.2 t2.1 else (pX10_give κ v1).bind fun t3 => pX10_bettered_64 F t3.2 t3.1
def pX10_bettered (F : Nat) (κ : Mem) : Option (Int32 × Mem) := pX10_bettered_8 F F κ (-1) 4097 0
def pX2_waysToGuess_63 (F : Nat) (g : Nat) (κ : Mem) (k4 : Int32 → Int32 → Option Int32) (v1 : Int32) (v2 : Int32) : Option Int32 := k4 v1 (v2 + 1)
def pX2_waysToGuess_35 (F : Nat) (g : Nat) (κ : Mem) (k4 : Int32 → Int32 → Option Int32) (v2 : Int32) (v3 : Int32) : Nat → Int32 → Int32 → Option Int32
  | 0, _, _ => none
  | fu + 1, v1, v4 => if v4 < v3 then if v1 ≤ 20000 then ckI v2 6 (nm (v1 * (mi κ (g + 1) v2.toNatClampNeg)) fun x1 => (pX2_waysToGuess_35 F g κ k4 v2 v3 fu) x1 (v4 + 1)) else pX2_waysToGuess_63 F g κ k4 v1 v2 else pX2_waysToGuess_63 F g κ k4 v1 v2
def pX2_waysToGuess_31 (F : Nat) (g : Nat) (κ : Mem) (k4 : Int32 → Int32 → Option Int32) (v1 : Int32) (v2 : Int32) (y0 : Int32) : Option Int32 := pX2_waysToGuess_35 F g κ k4 v2 y0 F v1 0
def pX2_waysToGuess_4 (F : Nat) (g : Nat) (κ : Mem) : Nat → Int32 → Int32 → Option Int32
  | 0, _, _ => none
  | fu + 1, v1, v2 => if v2 < (mi κ g 0) then ckI v2 6 (if (mi κ (g + 1) v2.toNatClampNeg) = 1 then pX2_waysToGuess_31 F g κ (pX2_waysToGuess_4 F g κ fu) v1 v2 0 else (pX2_situations F g κ v2).bind fun t2 => pX2_waysToGuess_31 F g κ (pX2_waysToGuess_4 F g κ fu) v1 v2 t2) else some v1
def pX2_waysToGuess (F : Nat) (g : Nat) (κ : Mem) : Option Int32 := pX2_waysToGuess_4 F g κ F 1 0
def pX9_someHasOneColour_2 (F : Nat) (κ : Mem) : Nat → Int32 → Option Int32
  | 0, _ => none
  | fu + 1, v1 => if v1 < (mi κ 1 0) then ckI v1 6 (if (mi κ 2 v1.toNatClampNeg) = 1 then some 1 else (pX9_someHasOneColour_2 F κ fu) (v1 + 1)) else some 0
def pX9_someHasOneColour (F : Nat) (κ : Mem) : Option Int32 := pX9_someHasOneColour_2 F κ F 0
def pX9_layOutPlayer_80 (F : Nat) (k63 : Mem → Int32 → Option Mem) (v1 : Int32) (v2 : Int32) (v3 : Int32) (v4 : Int32) (v5 : Int32) : Nat → Mem → Int32 → Option Mem
  | 0, _, _ => none
  | fu + 1, κ, v6 => if v6 < (mi κ 59 7) then ckI (((mi κ 59 6) * 4) + v5) 56 (ckI v6 64 (nm (setL κ (64 + (((mi κ 59 6) * 4) + v5).toNatClampNeg * 1) v6.toNatClampNeg 0) fun κ6 => (pX9_layOutPlayer_80 F k63 v1 v2 v3 v4 v5 fu) κ6 (v6 + 1))) else k63 κ (v5 + 1)
def pX9_layOutPlayer_63 (F : Nat) (k17 : Mem → Int32 → Option Mem) (v1 : Int32) (v2 : Int32) (v3 : Int32) (v4 : Int32) : Nat → Mem → Int32 → Option Mem
  | 0, _, _ => none
  | fu + 1, κ, v5 => ckI v1 6 (if v5 < (mi κ 2 v1.toNatClampNeg) then pX9_layOutPlayer_80 F (pX9_layOutPlayer_63 F k17 v1 v2 v3 v4 fu) v1 v2 v3 v4 v5 F κ 0 else nm (setI κ 59 6 ((mi κ 59 6) + 1)) fun κ7 => k17 κ7 (v4 + 1))
def pX9_layOutPlayer_211 (F : Nat) (k138 : Mem → Int32 → Option Mem) (κ : Mem) (v1 : Int32) (v2 : Int32) (v4 : Int32) : Option Mem := k138 κ (v4 + 1)
def pX9_layOutPlayer_138 (F : Nat) (v1 : Int32) (v2 : Int32) : Nat → Mem → Int32 → Option Mem
  | 0, _, _ => none
  | fu + 1, κ, v4 => if v4 < (mi κ 41 1) then (pX1_situationOf κ v1 v4).bind fun t8 => nm (v2 + t8) fun x9 => if x9 < 14 then (pX1_colourOf κ v1 v4).bind fun t10 => nm ((x9 * 4) + t10) fun x11 => ckI x11 56 (ckZ 64 (nm (v4 / 64) fun x13 => ckI x13 64 (ckZ 64 (ckI x13 64 (nm (setL κ (64 + x11.toNatClampNeg * 1) x13.toNatClampNeg ((ml κ (64 + x11.toNatClampNeg * 1) x13.toNatClampNeg) ||| (1 <<< ((v4 - v4 / 64 * 64).toInt64 &&& 63)))) fun κ14 => pX9_layOutPlayer_211 F (pX9_layOutPlayer_138 F v1 v2 fu) κ14 v1 v2 v4))))) else pX9_layOutPlayer_211 F (pX9_layOutPlayer_138 F v1 v2 fu) κ v1 v2 v4 else some κ
def pX9_layOutPlayer_135 (F : Nat) (κ : Mem) (v1 : Int32) (v2 : Int32) : Option Mem := pX9_layOutPlayer_138 F v1 v2 F κ 0
def pX9_layOutPlayer_17 (F : Nat) (v1 : Int32) (v2 : Int32) (v3 : Int32) : Nat → Mem → Int32 → Option Mem
  | 0, _, _ => none
  | fu + 1, κ, v4 => if v4 < v3 then if (mi κ 59 6) < 14 then ckI v1 6 (ckI (mi κ 59 6) 14 (nm (setI κ 62 (mi κ 59 6).toNatClampNeg (mi κ 2 v1.toNatClampNeg)) fun κ3 => ckI (mi κ3 59 6) 14 (nm (setI κ3 63 (mi κ3 59 6).toNatClampNeg 0) fun κ4 => pX9_layOutPlayer_63 F (pX9_layOutPlayer_17 F v1 v2 v3 fu) v1 v2 v3 v4 F κ4 0))) else pX9_layOutPlayer_135 F κ v1 v2 else pX9_layOutPlayer_135 F κ v1 v2
def pX9_layOutPlayer (F : Nat) (κ : Mem) (v1 : Int32) : Option Mem := nm (mi κ 59 6) fun x1 => (pX2_situations F 1 κ v1).bind fun t2 => pX9_layOutPlayer_17 F v1 x1 t2 F κ 0
def pX9_layOut_88 (F : Nat) : Nat → Mem → Int32 → Option Mem
  | 0, _, _ => none
  | fu + 1, κ, v1 => if v1 < (mi κ 1 0) then (pX9_layOutPlayer F κ v1).bind fun t8 => (pX9_layOut_88 F fu) t8 (v1 + 1) else some κ
def pX9_layOut_49 (F : Nat) : Nat → Mem → Int32 → Option Mem
  | 0, _, _ => none
  | fu + 1, κ, v1 => if v1 < (mi κ 41 1) then ckI 0 15 (ckZ 64 (nm (v1 / 64) fun x6 => ckI x6 64 (ckZ 64 (ckI x6 64 (nm (setL κ (120 + (0 : Int32).toNatClampNeg * 1) x6.toNatClampNeg ((ml κ (120 + (0 : Int32).toNatClampNeg * 1) x6.toNatClampNeg) ||| (1 <<< ((v1 - v1 / 64 * 64).toInt64 &&& 63)))) fun κ7 => (pX9_layOut_49 F fu) κ7 (v1 + 1)))))) else pX9_layOut_88 F F κ 0
def pX9_layOut_24 (F : Nat) : Nat → Mem → Int32 → Option Mem
  | 0, _, _ => none
  | fu + 1, κ, v1 => if v1 < (mi κ 59 7) then ckI 0 15 (ckI v1 64 (nm (setL κ (120 + (0 : Int32).toNatClampNeg * 1) v1.toNatClampNeg 0) fun κ4 => (pX9_layOut_24 F fu) κ4 (v1 + 1))) else pX9_layOut_49 F F κ 0
def pX9_layOut (F : Nat) (κ : Mem) : Option Mem := ckZ 64 (nm (setI κ 59 7 (((mi κ 41 1) + 63) / 64)) fun κ1 => nm (setI κ1 59 6 0) fun κ2 => pX9_layOut_24 F F κ2 0)
def pX9_settle_36 (F : Nat) (v2 : Nat) (v3 : Nat) (v4 : Nat) : Nat → Mem → Int32 → Option Mem
  | 0, _, _ => none
  | fu + 1, κ, v5 => if v5 < (mi κ 59 7) then ckI v5 64 (ckI v5 64 (ckI v5 64 (nm (setL κ v3 v5.toNatClampNeg ((ml κ v2 v5.toNatClampNeg) &&& ((ml κ v4 v5.toNatClampNeg) ^^^ (-1)))) fun κ4 => (pX9_settle_36 F v2 v3 v4 fu) κ4 (v5 + 1)))) else some κ
def pX9_settle (F : Nat) (κ : Mem) (v1 : Int32) : Option Mem := ckI v1 15 (ckI (v1 + 1) 15 (ckI v1 14 (ckI ((v1 * 4) + (mi κ 63 v1.toNatClampNeg)) 56 (pX9_settle_36 F (120 + v1.toNatClampNeg * 1) (120 + (v1 + 1).toNatClampNeg * 1) (64 + ((v1 * 4) + (mi κ 63 v1.toNatClampNeg)).toNatClampNeg * 1) F κ 0))))
def pX9_stillOpen_4 (F : Nat) (κ : Mem) : Nat → Int32 → Int32 → Option Int32
  | 0, _, _ => none
  | fu + 1, v1, v2 => if v2 < (mi κ 59 7) then ckI (mi κ 59 6) 15 (ckI v2 64 ((pJ13_bitCount_95d88 κ (ml κ (120 + (mi κ 59 6).toNatClampNeg * 1) v2.toNatClampNeg)).bind fun t2 => nm (v1 + t2) fun x3 => (pX9_stillOpen_4 F κ fu) x3 (v2 + 1))) else some v1
def pX9_stillOpen (F : Nat) (κ : Mem) : Option Int32 := pX9_stillOpen_4 F κ F 0 0
def pX9_pickNext_7 (F : Nat) : Nat → Mem → Int32 → Option (Int32 × Mem)
  | 0, _, _ => none
  | fu + 1, κ, v1 => if v1 < 0 then some ((mi κ 59 6), κ) else ckI v1 14 (ckI v1 14 (nm (setI κ 63 v1.toNatClampNeg ((mi κ 63 v1.toNatClampNeg) + 1)) fun κ2 => ckI v1 14 (ckI v1 14 (if (mi κ2 63 v1.toNatClampNeg) < (mi κ2 62 v1.toNatClampNeg) then some (v1, κ2) else ckI v1 14 (nm (setI κ2 63 v1.toNatClampNeg 0) fun κ3 => (pX9_pickNext_7 F fu) κ3 (v1 + (-1)))))))
def pX9_pickNext (F : Nat) (κ : Mem) : Option (Int32 × Mem) := nm ((mi κ 59 6) - 1) fun x1 => pX9_pickNext_7 F F κ x1
def pX9_goThrough_96 (F : Nat) (k46 : Mem → Int32 → Int32 → Option Mem) (κ : Mem) (v1 : Int32) (v3 : Int32) (v4 : Int32) (y0 : Int32) (y1 : Int32) : Option Mem := nm (setI κ 59 8 (y1 + y0)) fun κ8 => nm (setI κ8 59 9 (if v4 < (mi κ8 59 9) then v4 else (mi κ8 59 9))) fun κ9 => (pX9_pickNext F κ9).bind fun t10 => k46 t10.2 t10.1 (v3 + 1)
def pX9_goThrough_54 (F : Nat) (k46 : Mem → Int32 → Int32 → Option Mem) (v1 : Int32) (v3 : Int32) : Nat → Mem → Int32 → Option Mem
  | 0, _, _ => none
  | fu + 1, κ, v4 => if v4 < (mi κ 59 6) then (pX9_settle F κ v4).bind fun t6 => (pX9_goThrough_54 F k46 v1 v3 fu) t6 (v4 + 1) else (pX9_stillOpen F κ).bind fun t7 => if t7 = 0 then pX9_goThrough_96 F k46 κ v1 v3 t7 1 (mi κ 59 8) else pX9_goThrough_96 F k46 κ v1 v3 t7 0 (mi κ 59 8)
def pX9_goThrough_46 (F : Nat) (v1 : Int32) : Nat → Mem → Int32 → Int32 → Option Mem
  | 0, _, _, _ => none
  | fu + 1, κ, v2, v3 => if v3 < v1 then pX9_goThrough_54 F (pX9_goThrough_46 F v1 fu) v1 v3 F κ v2 else some κ
def pX9_goThrough (F : Nat) (κ : Mem) : Option Mem := (pX2_waysToGuess F 1 κ).bind fun t1 => (pX9_someHasOneColour F κ).bind fun t2 => if t2 = 0 then nm (setI κ 59 8 0) fun κ3 => nm (setI κ3 59 9 4096) fun κ4 => (pX9_layOut F κ4).bind fun t5 => pX9_goThrough_46 F t1 F t5 0 0 else nm (setI κ 59 8 t1) fun κ11 => nm (setI κ11 59 9 0) fun κ12 => some κ12
def pX10_ways_9 (F : Nat) (κ : Mem) : Option (Int32 × Mem) := (pX10_refuse κ 1).bind fun t1 => some (t1.1, t1.2)
def pX10_ways_80 (F : Nat) (κ : Mem) (y0 : Int32) : Option (Int32 × Mem) := (pX10_give κ y0).bind fun t6 => some (t6.1, t6.2)
def pX10_ways (F : Nat) (κ : Mem) (v1 : Int32) : Option (Int32 × Mem) := if v1 < 0 then pX10_ways_9 F κ else if v1 ≤ 2 then (pX2_waysToGuess F 1 κ).bind fun t2 => if t2 ≤ 20000 then if v1 = 0 then (pX2_waysToGuess F 1 κ).bind fun t3 => (pX10_give κ t3).bind fun t4 => some (t4.1, t4.2) else (pX9_goThrough F κ).bind fun t5 => if v1 = 1 then pX10_ways_80 F t5 (mi t5 59 8) else pX10_ways_80 F t5 (mi t5 59 9) else (pX10_refuse κ 3).bind fun t7 => some (t7.1, t7.2) else pX10_ways_9 F κ
def pX10_noSeed_16 (κ : Mem) (y0 : Int32) : Option Int32 := ckP (isB y0) (some y0)
def pX10_noSeed_11 (κ : Mem) : Option Int32 := pX10_noSeed_16 κ 1
def pX10_noSeed (κ : Mem) (v1 : Int32) : Option Int32 := if v1 < 0 then pX10_noSeed_11 κ else if v1 ≤ 999999999 then pX10_noSeed_16 κ 0 else pX10_noSeed_11 κ
def pX2_draw_26 (F : Nat) (g : Nat) (k6 : Mem → Int64 → Int32 → Option Mem) (v4 : Int32) (v5 : Int32) : Nat → Mem → Int64 → Int32 → Option Mem
  | 0, _, _, _ => none
  | fu + 1, κ, v2, v6 => if v6 < v5 then nm ((v2 * 6364136223846793005) + 1442695040888963407) fun x3 => ckI v4 6 (ckZL ((mi κ (g + 1) v4.toNatClampNeg).toInt64) ((pX2_tell g κ v4 v6 (((x3.toUInt64 >>> ((33 : Int32).toInt64.toUInt64 &&& Int64.toUInt64 63)).toInt64 - (x3.toUInt64 >>> ((33 : Int32).toInt64.toUInt64 &&& Int64.toUInt64 63)).toInt64 / (mi κ (g + 1) v4.toNatClampNeg).toInt64 * (mi κ (g + 1) v4.toNatClampNeg).toInt64).toInt32)).bind fun t4 => (pX2_draw_26 F g k6 v4 v5 fu) t4 x3 (v6 + 1))) else k6 κ v2 (v4 + 1)
def pX2_draw_6 (F : Nat) (g : Nat) : Nat → Mem → Int64 → Int32 → Option Mem
  | 0, _, _, _ => none
  | fu + 1, κ, v2, v4 => if v4 < (mi κ g 0) then (pX2_situations F g κ v4).bind fun t2 => pX2_draw_26 F g (pX2_draw_6 F g fu) v4 t2 F κ v2 0 else some κ
def pX2_draw (F : Nat) (g : Nat) (κ : Mem) (v1 : Int32) : Option Mem := nm v1.toInt64 fun x1 => pX2_draw_6 F g F κ x1 0
def pX1_judgeAgain (F : Nat) (κ : Mem) (v1 : Int32) : Option Mem := (pX1_judge F κ v1).bind fun t1 => (pX1_tally F t1).bind fun t2 => some t2
def pX1_takeBest_60 (F : Nat) (k14 : Mem → Int32 → Int32 → Option (Int32 × Mem)) (κ : Mem) (v1 : Int32) (v2 : Int32) (v3 : Int32) (v4 : Int32) : Option (Int32 × Mem) := k14 κ v2 (v4 + 1)
def pX1_takeBest_75 (F : Nat) (κ : Mem) (v2 : Int32) : Option (Int32 × Mem) := some (v2, κ)
def pX1_takeBest_14 (F : Nat) (v1 : Int32) (v3 : Int32) : Nat → Mem → Int32 → Int32 → Option (Int32 × Mem)
  | 0, _, _, _ => none
  | fu + 1, κ, v2, v4 => if v4 < v3 then (pX2_told 1 κ v1 v4).bind fun t2 => ckI v4 1024 (if t2 = (mi κ 52 v4.toNatClampNeg) then pX1_takeBest_60 F (pX1_takeBest_14 F v1 v3 fu) κ v1 v2 v3 v4 else ckI v4 1024 ((pX2_tell 1 κ v1 v4 (mi κ 52 v4.toNatClampNeg)).bind fun t3 => pX1_takeBest_60 F (pX1_takeBest_14 F v1 v3 fu) t3 v1 (v2 + 1) v3 v4)) else if v2 ≤ 0 then pX1_takeBest_75 F κ v2 else (pX1_judgeAgain F κ v1).bind fun t4 => pX1_takeBest_75 F t4 v2
def pX1_takeBest (F : Nat) (κ : Mem) (v1 : Int32) : Option (Int32 × Mem) := (pX2_situations F 1 κ v1).bind fun t1 => pX1_takeBest_14 F v1 t1 F κ 0 0
def pX1_improve_76 (F : Nat) (k9 : Mem → Int32 → Int32 → Int32 → Int32 → Option (Int32 × Mem)) (κ : Mem) (v1 : Int32) (v2 : Int32) (v4 : Int32) (y0 : Int32) : Option (Int32 × Mem) := k9 κ v1 v2 y0 (v4 + 1)
def pX1_improve_56 (F : Nat) (k9 : Mem → Int32 → Int32 → Int32 → Int32 → Option (Int32 × Mem)) (κ : Mem) (v1 : Int32) (v2 : Int32) (v3 : Int32) (v4 : Int32) : Option (Int32 × Mem) := if (v3 + 1) < (mi κ 1 0) then pX1_improve_76 F k9 κ v1 v2 v4 (v3 + 1) else pX1_improve_76 F k9 κ v1 v2 v4 0
def pX1_improve_83 (F : Nat) (κ : Mem) (v1 : Int32) : Option (Int32 × Mem) := some (v1, κ)
def pX1_improve_9 (F : Nat) : Nat → Mem → Int32 → Int32 → Int32 → Int32 → Option (Int32 × Mem)
  | 0, _, _, _, _, _ => none
  | fu + 1, κ, v1, v2, v3, v4 => if v4 < 1000000 then if v2 < (mi κ 1 0) then (pX1_weighBest F κ v3).bind fun t1 => (pX1_lostInAll t1.2).bind fun t2 => if t1.1 < t2 then (pX1_takeBest F t1.2 v3).bind fun t3 => pX1_improve_56 F (pX1_improve_9 F fu) t3.2 (v1 + 1) 0 v3 v4 else pX1_improve_56 F (pX1_improve_9 F fu) t1.2 v1 (v2 + 1) v3 v4 else pX1_improve_83 F κ v1 else pX1_improve_83 F κ v1
def pX1_improve (F : Nat) (κ : Mem) : Option (Int32 × Mem) := pX1_improve_9 F F κ 0 0 0 0
def pX10_search_28 (F : Nat) (κ : Mem) : Option (Int32 × Mem) := (pX10_refuse κ 1).bind fun t2 => some (t2.1, t2.2)
def pX10_search_131 (F : Nat) (k72 : Mem → Int32 → Int32 → Int32 → Option (Int32 × Mem)) (κ : Mem) (v1 : Int32) (v2 : Int32) (v3 : Int32) (v4 : Int32) (v5 : Int32) (v6 : Int32) : Option (Int32 × Mem) := k72 κ v4 v5 (v6 + 1)
def pX10_search_167 (F : Nat) (κ : Mem) (y0 : Int32) : Option (Int32 × Mem) := (pX10_give κ y0).bind fun t13 => some (t13.1, t13.2)
def pX10_search_72 (F : Nat) (v1 : Int32) (v2 : Int32) (v3 : Int32) : Nat → Mem → Int32 → Int32 → Int32 → Option (Int32 × Mem)
  | 0, _, _, _, _ => none
  | fu + 1, κ, v4, v5, v6 => if v6 < v2 then (pX2_draw F 1 κ (v1 + v6)).bind fun t5 => (pX1_judgeAll F t5).bind fun t6 => (pX1_improve F t6).bind fun t7 => (pX1_lostInAll t7.2).bind fun t8 => if t8 < v4 then (pX1_lostInAll t7.2).bind fun t9 => nm (v1 + v6) fun x10 => pX10_search_131 F (pX10_search_72 F v1 v2 v3 fu) t7.2 v1 v2 v3 t9 x10 v6 else pX10_search_131 F (pX10_search_72 F v1 v2 v3 fu) t7.2 v1 v2 v3 v4 v5 v6 else (pX2_copy 1 5 κ).bind fun t11 => (pX1_judgeAll F t11).bind fun t12 => if v3 = 0 then pX10_search_167 F t12 v4 else pX10_search_167 F t12 v5
def pX10_search (F : Nat) (κ : Mem) (v1 : Int32) (v2 : Int32) (v3 : Int32) : Option (Int32 × Mem) := (pX10_noSeed κ v1).bind fun t1 => if t1 = 0 then if v2 < 1 then pX10_search_28 F κ else if v2 ≤ 10 then if v3 < 0 then pX10_search_28 F κ else if v3 ≤ 1 then if (mi κ 1 0) = 0 then (pX10_refuse κ 5).bind fun t3 => some (t3.1, t3.2) else (pX2_copy 5 1 κ).bind fun t4 => pX10_search_72 F v1 v2 v3 F t4 4097 v1 0 else pX10_search_28 F κ else pX10_search_28 F κ else pX10_search_28 F κ
def pX7_stay_2 (F : Nat) : Nat → Mem → Int32 → Option Mem
  | 0, _, _ => none
  | fu + 1, κ, v1 => if v1 < 6 then ckI v1 6 (nm (setI κ 56 v1.toNatClampNeg v1) fun κ1 => (pX7_stay_2 F fu) κ1 (v1 + 1)) else some κ
def pX7_stay (F : Nat) (κ : Mem) : Option Mem := pX7_stay_2 F F κ 0
def pX7_bringForward_10 (F : Nat) (v1 : Int32) (v3 : Int32) : Nat → Mem → Int32 → Option Mem
  | 0, _, _ => none
  | fu + 1, κ, v4 => if v4 ≤ v1 then ckI v1 6 (nm (setI κ 56 v1.toNatClampNeg v3) fun κ2 => some κ2) else ckI (v4 - 1) 6 (ckI v4 6 (nm (setI κ 56 v4.toNatClampNeg (mi κ 56 (v4 - 1).toNatClampNeg)) fun κ3 => (pX7_bringForward_10 F v1 v3 fu) κ3 (v4 + (-1))))
def pX7_bringForward (F : Nat) (κ : Mem) (v1 : Int32) (v2 : Int32) : Option Mem := ckI v2 6 (nm (mi κ 56 v2.toNatClampNeg) fun x1 => pX7_bringForward_10 F v1 x1 F κ v2)
def pX7_orderBehind_7 (F : Nat) : Nat → Mem → Int32 → Int32 → Option Mem
  | 0, _, _, _ => none
  | fu + 1, κ, v3, v4 => if v4 < (mi κ 1 0) then nm ((mi κ 1 0) - v4) fun x2 => ckZ x2 ((pX7_bringForward F κ v4 (v4 + (v3 - v3 / x2 * x2))).bind fun t3 => ckZ x2 (nm (v3 / x2) fun x4 => (pX7_orderBehind_7 F fu) t3 x4 (v4 + 1))) else some κ
def pX7_orderBehind (F : Nat) (κ : Mem) (v1 : Int32) (v2 : Int32) : Option Mem := nm (v1 + 1) fun x1 => pX7_orderBehind_7 F F κ v2 x1
def pX7_fits_43 (F : Nat) (κ : Mem) (k2 : Int32 → Option Int32) (v1 : Int32) : Nat → Int32 → Option Int32
  | 0, _ => none
  | fu + 1, v2 => if v2 < (mi κ 1 0) then (pX2_watches 1 κ v1 v2).bind fun t1 => ckI v1 6 (ckI v2 6 ((pX2_watches 1 κ (mi κ 56 v1.toNatClampNeg) (mi κ 56 v2.toNatClampNeg)).bind fun t2 => if t1 = t2 then (pX7_fits_43 F κ k2 v1 fu) (v2 + 1) else some 0)) else k2 (v1 + 1)
def pX7_fits_2 (F : Nat) (κ : Mem) : Nat → Int32 → Option Int32
  | 0, _ => none
  | fu + 1, v1 => if v1 < (mi κ 1 0) then ckI v1 6 (ckI v1 6 (ckI (mi κ 56 v1.toNatClampNeg) 6 (if (mi κ 2 v1.toNatClampNeg) = (mi κ 2 (mi κ 56 v1.toNatClampNeg).toNatClampNeg) then pX7_fits_43 F κ (pX7_fits_2 F κ fu) v1 F 0 else some 0))) else some 1
def pX7_fits (F : Nat) (κ : Mem) : Option Int32 := pX7_fits_2 F κ F 0
def pX7_keeps_71 (F : Nat) (k11 : Mem → Int32 → Int32 → Option (Int32 × Mem)) (κ : Mem) (v1 : Int32) (v2 : Int32) (v3 : Int32) : Option (Int32 × Mem) := k11 κ v2 (v3 + 1)
def pX7_keeps_79 (F : Nat) (κ : Mem) (v1 : Int32) (v2 : Int32) : Nat → Int32 → Option (Int32 × Mem)
  | 0, _ => none
  | fu + 1, v3 => if v3 < v2 then (pX2_told 1 κ v1 v3).bind fun t5 => ckI v1 6 (ckI v3 1024 ((pX2_told 1 κ (mi κ 56 v1.toNatClampNeg) (mi κ 57 v3.toNatClampNeg)).bind fun t6 => if t5 = t6 then (pX7_keeps_79 F κ v1 v2 fu) (v3 + 1) else some (0, κ))) else some (1, κ)
def pX7_keeps_11 (F : Nat) (v1 : Int32) : Nat → Mem → Int32 → Int32 → Option (Int32 × Mem)
  | 0, _, _, _ => none
  | fu + 1, κ, v2, v3 => if v3 < (mi κ 1 0) then (pX2_watches 1 κ v1 v3).bind fun t2 => if t2 = 0 then pX7_keeps_71 F (pX7_keeps_11 F v1 fu) κ v1 v2 v3 else ckI v3 6 (ckI v1 6 (ckI v3 6 ((pX2_weight F 1 κ (mi κ 56 v1.toNatClampNeg) (mi κ 56 v3.toNatClampNeg)).bind fun t3 => (pX10_lengthen F 57 κ v2 (mi κ 2 v3.toNatClampNeg) t3).bind fun t4 => pX7_keeps_71 F (pX7_keeps_11 F v1 fu) t4.2 v1 t4.1 v3))) else pX7_keeps_79 F κ v1 v2 F 0
def pX7_keeps (F : Nat) (κ : Mem) (v1 : Int32) : Option (Int32 × Mem) := ckI 0 1024 (nm (setI κ 57 (0 : Int32).toNatClampNeg 0) fun κ1 => pX7_keeps_11 F v1 F κ1 1 0)
def pX7_keepsAll_2 (F : Nat) : Nat → Mem → Int32 → Option (Int32 × Mem)
  | 0, _, _ => none
  | fu + 1, κ, v1 => if v1 < (mi κ 1 0) then (pX7_keeps F κ v1).bind fun t1 => if t1.1 = 0 then some (0, t1.2) else (pX7_keepsAll_2 F fu) t1.2 (v1 + 1) else some (1, κ)
def pX7_keepsAll (F : Nat) (κ : Mem) : Option (Int32 × Mem) := pX7_keepsAll_2 F F κ 0
def pX7_someBrings_80 (F : Nat) (k36 : Mem → Int32 → Option (Int32 × Mem)) (κ : Mem) (v1 : Int32) (v2 : Int32) (v3 : Int32) (v4 : Int32) (v5 : Int32) : Option (Int32 × Mem) := k36 κ (v5 + 1)
def pX7_someBrings_78 (F : Nat) (κ : Mem) : Option (Int32 × Mem) := some (1, κ)
def pX7_someBrings_36 (F : Nat) (v1 : Int32) (v2 : Int32) (v3 : Int32) (v4 : Int32) : Nat → Mem → Int32 → Option (Int32 × Mem)
  | 0, _, _ => none
  | fu + 1, κ, v5 => if v5 < v4 then (pX7_stay F κ).bind fun t2 => (pX7_bringForward F t2 v1 v2).bind fun t3 => (pX7_orderBehind F t3 v1 v5).bind fun t4 => (pX7_fits F t4).bind fun t5 => if t5 = 0 then pX7_someBrings_80 F (pX7_someBrings_36 F v1 v2 v3 v4 fu) t4 v1 v2 v3 v4 v5 else if v3 = 0 then pX7_someBrings_78 F t4 else (pX7_keepsAll F t4).bind fun t6 => if t6.1 = 0 then pX7_someBrings_80 F (pX7_someBrings_36 F v1 v2 v3 v4 fu) t6.2 v1 v2 v3 v4 v5 else pX7_someBrings_78 F t6.2 else some (0, κ)
def pX7_someBrings_6 (F : Nat) (κ : Mem) (v1 : Int32) (v2 : Int32) (v3 : Int32) : Nat → Int32 → Int32 → Option (Int32 × Mem)
  | 0, _, _ => none
  | fu + 1, v4, v5 => if v5 < ((mi κ 1 0) - v1) then nm (v4 * v5) fun x1 => (pX7_someBrings_6 F κ v1 v2 v3 fu) x1 (v5 + 1) else pX7_someBrings_36 F v1 v2 v3 v4 F κ 0
def pX7_someBrings (F : Nat) (κ : Mem) (v1 : Int32) (v2 : Int32) (v3 : Int32) : Option (Int32 × Mem) := pX7_someBrings_6 F κ v1 v2 v3 F 1 2
def pX7_howMany_47 (F : Nat) (k21 : Mem → Int32 → Int32 → Option (Int32 × Mem)) (κ : Mem) (v1 : Int32) (v2 : Int32) (v3 : Int32) (v4 : Int32) (v5 : Int32) : Option (Int32 × Mem) := k21 κ v4 (v5 + 1)
def pX7_howMany_21 (F : Nat) (k4 : Mem → Int32 → Int32 → Option (Int32 × Mem)) (v1 : Int32) (v2 : Int32) (v3 : Int32) : Nat → Mem → Int32 → Int32 → Option (Int32 × Mem)
  | 0, _, _, _ => none
  | fu + 1, κ, v4, v5 => if v5 < (mi κ 1 0) then (pX7_someBrings F κ v3 v5 v1).bind fun t1 => if t1.1 = 0 then pX7_howMany_47 F (pX7_howMany_21 F k4 v1 v2 v3 fu) t1.2 v1 v2 v3 v4 v5 else pX7_howMany_47 F (pX7_howMany_21 F k4 v1 v2 v3 fu) t1.2 v1 v2 v3 (v4 + 1) v5 else nm (v2 * v4) fun x2 => k4 κ x2 (v3 + 1)
def pX7_howMany_4 (F : Nat) (v1 : Int32) : Nat → Mem → Int32 → Int32 → Option (Int32 × Mem)
  | 0, _, _, _ => none
  | fu + 1, κ, v2, v3 => if v3 < (mi κ 1 0) then pX7_howMany_21 F (pX7_howMany_4 F v1 fu) v1 v2 v3 F κ 0 v3 else some (v2, κ)
def pX7_howMany (F : Nat) (κ : Mem) (v1 : Int32) : Option (Int32 × Mem) := pX7_howMany_4 F v1 F κ 1 0
def pX10_renumber_9 (F : Nat) (κ : Mem) : Option (Int32 × Mem) := (pX10_refuse κ 1).bind fun t1 => some (t1.1, t1.2)
def pX10_renumber_30 (F : Nat) (κ : Mem) (y0 : Int32) : Option (Int32 × Mem) := (pX7_howMany F κ y0).bind fun t2 => (pX10_give t2.2 t2.1).bind fun t3 => some (t3.1, t3.2)
def pX10_renumber (F : Nat) (κ : Mem) (v1 : Int32) : Option (Int32 × Mem) := if v1 < 0 then pX10_renumber_9 F κ else if v1 ≤ 1 then if v1 = 1 then pX10_renumber_30 F κ 1 else pX10_renumber_30 F κ 0 else pX10_renumber_9 F κ
def pX7_swapKeeps_37 (F : Nat) (κ : Mem) (y0 : Int32) : Option (Int32 × Mem) := ckP (isB y0) (some (y0, κ))
def pX7_swapKeeps_36 (F : Nat) (κ : Mem) : Option (Int32 × Mem) := pX7_swapKeeps_37 F κ 0
def pX7_swapKeeps (F : Nat) (κ : Mem) (v1 : Int32) (v2 : Int32) : Option (Int32 × Mem) := (pX7_stay F κ).bind fun t1 => ckI v1 6 (nm (setI t1 56 v1.toNatClampNeg v2) fun κ2 => ckI v2 6 (nm (setI κ2 56 v2.toNatClampNeg v1) fun κ3 => (pX7_fits F κ3).bind fun t4 => if t4 = 0 then pX7_swapKeeps_36 F κ3 else (pX7_keepsAll F κ3).bind fun t6 => if t6.1 = 0 then pX7_swapKeeps_36 F t6.2 else pX7_swapKeeps_37 F t6.2 1))
def pX10_alike_35 (F : Nat) (κ : Mem) (y0 : Int32) : Option (Int32 × Mem) := (pX10_give κ y0).bind fun t3 => some (t3.1, t3.2)
def pX10_alike (F : Nat) (κ : Mem) (v1 : Int32) (v2 : Int32) : Option (Int32 × Mem) := (pX10_pairTrouble κ v1 v2).bind fun t1 => if t1 = 0 then (pX7_swapKeeps F κ v1 v2).bind fun t2 => if t2.1 = 0 then pX10_alike_35 F t2.2 0 else pX10_alike_35 F t2.2 1 else (pX10_refuse κ t1).bind fun t4 => some (t4.1, t4.2)
def pX4_stepsTo_74 (F : Nat) (κ : Mem) (k37 : Int32 → Int32 → Option Int32) (v2 : Int32) (v3 : Int32) (v4 : Int32) (v5 : Int32) (v6 : Int32) : Option Int32 := k37 v5 (v6 + 1)
def pX4_stepsTo_37 (F : Nat) (κ : Mem) (k7 : Int32 → Int32 → Option Int32) (v2 : Int32) (v3 : Int32) (v4 : Int32) : Nat → Int32 → Int32 → Option Int32
  | 0, _, _ => none
  | fu + 1, v5, v6 => if v6 < (mi κ 1 0) then if ((v3 >>> (v6 &&& 31)) &&& 1) = 1 then ckI v6 6 (nm (v5 ||| (mi κ 3 v6.toNatClampNeg)) fun x2 => pX4_stepsTo_74 F κ (pX4_stepsTo_37 F κ k7 v2 v3 v4 fu) v2 v3 v4 x2 v6) else pX4_stepsTo_74 F κ (pX4_stepsTo_37 F κ k7 v2 v3 v4 fu) v2 v3 v4 v5 v6 else k7 v5 (v4 + 1)
def pX4_stepsTo_7 (F : Nat) (κ : Mem) (v2 : Int32) : Nat → Int32 → Int32 → Option Int32
  | 0, _, _ => none
  | fu + 1, v3, v4 => if v4 < (mi κ 1 0) then if ((v3 >>> (v2 &&& 31)) &&& 1) = 1 then some v4 else pX4_stepsTo_37 F κ (pX4_stepsTo_7 F κ v2 fu) v2 v3 v4 F v3 0 else some (-1)
def pX4_stepsTo (F : Nat) (κ : Mem) (v1 : Int32) (v2 : Int32) : Option Int32 := nm (1 <<< (v1 &&& 31)) fun x1 => pX4_stepsTo_7 F κ v2 F x1 0
def pX10_far_50 (F : Nat) (κ : Mem) (y0 : Int32) : Option (Int32 × Mem) := some (y0, κ)
def pX10_far_16 (F : Nat) (κ : Mem) : Option (Int32 × Mem) := (pX10_refuse κ 2).bind fun t6 => some (t6.1, t6.2)
def pX10_far (F : Nat) (κ : Mem) (v1 : Int32) (v2 : Int32) : Option (Int32 × Mem) := (pX10_noPlayer κ v1).bind fun t1 => if t1 = 0 then (pX10_noPlayer κ v2).bind fun t2 => if t2 = 0 then (pX4_stepsTo F κ v1 v2).bind fun t3 => if t3 = (-1) then (pX10_refuse κ 5).bind fun t4 => pX10_far_50 F t4.2 t4.1 else (pX10_give κ t3).bind fun t5 => pX10_far_50 F t5.2 t5.1 else pX10_far_16 F κ else pX10_far_16 F κ
def pX4_linkedWith_55 (F : Nat) (κ : Mem) (k22 : Int32 → Int32 → Option Int32) (v2 : Int32) (v3 : Int32) (v4 : Int32) (v5 : Int32) : Option Int32 := k22 v3 (v5 + 1)
def pX4_linkedWith_22 (F : Nat) (κ : Mem) (k7 : Int32 → Int32 → Option Int32) (v2 : Int32) (v4 : Int32) : Nat → Int32 → Int32 → Option Int32
  | 0, _, _ => none
  | fu + 1, v3, v5 => if v5 < (mi κ 1 0) then if ((v3 >>> (v5 &&& 31)) &&& 1) = 1 then (pX4_linked F κ v5).bind fun t2 => nm (v3 ||| (t2 &&& v2)) fun x3 => pX4_linkedWith_55 F κ (pX4_linkedWith_22 F κ k7 v2 v4 fu) v2 x3 v4 v5 else pX4_linkedWith_55 F κ (pX4_linkedWith_22 F κ k7 v2 v4 fu) v2 v3 v4 v5 else k7 v3 (v4 + 1)
def pX4_linkedWith_7 (F : Nat) (κ : Mem) (v2 : Int32) : Nat → Int32 → Int32 → Option Int32
  | 0, _, _ => none
  | fu + 1, v3, v4 => if v4 < (mi κ 1 0) then pX4_linkedWith_22 F κ (pX4_linkedWith_7 F κ v2 fu) v2 v4 F v3 0 else some v3
def pX4_linkedWith (F : Nat) (κ : Mem) (v1 : Int32) (v2 : Int32) : Option Int32 := nm (1 <<< (v1 &&& 31)) fun x1 => pX4_linkedWith_7 F κ v2 F x1 0
def pX4_isRing_58 (F : Nat) (κ : Mem) (k12 : Int32 → Option Int32) (v1 : Int32) (v2 : Int32) : Option Int32 := k12 (v2 + 1)
def pX4_isRing_37 (F : Nat) (κ : Mem) (k12 : Int32 → Option Int32) (v1 : Int32) (v2 : Int32) (y0 : Int32) : Option Int32 := if y0 = 0 then pX4_isRing_58 F κ k12 v1 v2 else (pX4_linked F κ v2).bind fun t2 => (pJ6_bitCount_0f7a4 κ (t2 &&& v1)).bind fun t3 => if t3 = 2 then pX4_isRing_58 F κ k12 v1 v2 else some 0
def pX4_isRing_82 (F : Nat) (κ : Mem) (y0 : Int32) : Option Int32 := ckP (isB y0) (some y0)
def pX4_isRing_12 (F : Nat) (κ : Mem) (v1 : Int32) : Nat → Int32 → Option Int32
  | 0, _ => none
  | fu + 1, v2 => if v2 < (mi κ 1 0) then if ((v1 >>> (v2 &&& 31)) &&& 1) = 1 then pX4_isRing_37 F κ (pX4_isRing_12 F κ v1 fu) v1 v2 1 else pX4_isRing_37 F κ (pX4_isRing_12 F κ v1 fu) v1 v2 0 else (pJ6_numberOfTrailingZeros_0f7a4 κ v1).bind fun t4 => (pX4_linkedWith F κ t4 v1).bind fun t5 => if t5 = v1 then pX4_isRing_82 F κ 1 else pX4_isRing_82 F κ 0
def pX4_isRing (F : Nat) (κ : Mem) (v1 : Int32) : Option Int32 := (pJ6_bitCount_0f7a4 κ v1).bind fun t1 => if t1 < 3 then some 0 else pX4_isRing_12 F κ v1 F 0
def pX4_firstHub_52 (F : Nat) (κ : Mem) (k11 : Int32 → Option Int32) (v1 : Int32) : Option Int32 := k11 (v1 + 1)
def pX4_firstHub_11 (F : Nat) (κ : Mem) : Nat → Int32 → Option Int32
  | 0, _ => none
  | fu + 1, v1 => if v1 < (mi κ 1 0) then (pX4_everybody κ).bind fun t2 => nm (t2 &&& ((1 <<< (v1 &&& 31)) ^^^ (-1))) fun x3 => (pX4_linked F κ v1).bind fun t4 => if t4 = x3 then (pX4_isRing F κ x3).bind fun t5 => if t5 = 0 then pX4_firstHub_52 F κ (pX4_firstHub_11 F κ fu) v1 else some v1 else pX4_firstHub_52 F κ (pX4_firstHub_11 F κ fu) v1 else some (-1)
def pX4_firstHub (F : Nat) (κ : Mem) : Option Int32 := (pX4_isMutual F κ).bind fun t1 => if t1 = 0 then some (-1) else pX4_firstHub_11 F κ F 0
def pX4_isTree_54 (F : Nat) (κ : Mem) (y0 : Int32) : Option Int32 := ckP (isB y0) (some y0)
def pX4_isTree_53 (F : Nat) (κ : Mem) : Option Int32 := pX4_isTree_54 F κ 0
def pX4_isTree_21 (F : Nat) (κ : Mem) (y0 : Int32) : Option Int32 := (pX4_isMutual F κ).bind fun t4 => if t4 = 0 then pX4_isTree_53 F κ else if y0 = 0 then pX4_isTree_53 F κ else (pX4_links F κ).bind fun t6 => if t6 = ((mi κ 1 0) - 1) then pX4_isTree_54 F κ 1 else pX4_isTree_53 F κ
def pX4_isTree (F : Nat) (κ : Mem) : Option Int32 := (pX4_everybody κ).bind fun t1 => (pX4_linkedWith F κ 0 t1).bind fun t2 => (pX4_everybody κ).bind fun t3 => if t2 = t3 then pX4_isTree_21 F κ 1 else pX4_isTree_21 F κ 0
def pX4_kind_66 (F : Nat) (κ : Mem) (y0 : Int32) : Option Int32 := some y0
def pX4_kind_54 (F : Nat) (κ : Mem) : Option Int32 := (pX4_isTree F κ).bind fun t3 => if t3 = 0 then pX4_kind_66 F κ 0 else pX4_kind_66 F κ 1
def pX4_kind_24 (F : Nat) (κ : Mem) : Option Int32 := (pX4_firstHub F κ).bind fun t1 => if t1 = (-1) then (pX4_isMutual F κ).bind fun t2 => if t2 = 0 then pX4_kind_54 F κ else (pX4_everybody κ).bind fun t4 => (pX4_isRing F κ t4).bind fun t5 => if t5 = 0 then pX4_kind_54 F κ else some 2 else some 3
def pX4_kind (F : Nat) (κ : Mem) : Option Int32 := if (mi κ 1 0) < 4 then pX4_kind_24 F κ else (pX4_everybody κ).bind fun t6 => (pX4_isClique F κ t6).bind fun t7 => if t7 = 0 then pX4_kind_24 F κ else some 4
def pX10_shape_29 (F : Nat) (κ : Mem) (y0 : Int32) : Option (Int32 × Mem) := some (y0, κ)
def pX10_shape (F : Nat) (κ : Mem) : Option (Int32 × Mem) := if (mi κ 1 0) = 0 then (pX10_refuse κ 5).bind fun t1 => pX10_shape_29 F t1.2 t1.1 else (pX4_kind F κ).bind fun t2 => (pX10_give κ t2).bind fun t3 => pX10_shape_29 F t3.2 t3.1
def pX10_hub_26 (F : Nat) (κ : Mem) (y0 : Int32) : Option (Int32 × Mem) := some (y0, κ)
def pX10_hub (F : Nat) (κ : Mem) : Option (Int32 × Mem) := (pX4_firstHub F κ).bind fun t1 => if t1 = (-1) then (pX10_refuse κ 5).bind fun t2 => pX10_hub_26 F t2.2 t2.1 else (pX10_give κ t1).bind fun t3 => pX10_hub_26 F t3.2 t3.1
def pX10_part_35 (F : Nat) (κ : Mem) (y0 : Int32) : Option (Int32 × Mem) := some (y0, κ)
def pX10_part (F : Nat) (κ : Mem) (v1 : Int32) : Option (Int32 × Mem) := (pX10_noPlayer κ v1).bind fun t1 => if t1 = 0 then (pX4_everybody κ).bind fun t2 => (pX4_linkedWith F κ v1 t2).bind fun t3 => (pX10_give κ t3).bind fun t4 => pX10_part_35 F t4.2 t4.1 else (pX10_refuse κ 2).bind fun t5 => pX10_part_35 F t5.2 t5.1
def pX3_note (g1 : Nat) (κ : Mem) : Option Mem := ckI (mi κ 135 1) 7 ((pX2_copy (13 + (mi κ 135 1).toNatClampNeg * 4) g1 κ).bind fun t2 => some t2)
def pX3_keep (κ : Mem) : Option Mem := ckZ 7 (nm (setI κ 135 1 (((mi κ 135 1) + 1) - ((mi κ 135 1) + 1) / 7 * 7)) fun κ1 => nm (setI κ1 135 2 (if 6 < ((mi κ1 135 2) + 1) then 6 else ((mi κ1 135 2) + 1))) fun κ2 => some κ2)
def pX10_set_18 (F : Nat) (κ : Mem) : Option (Int32 × Mem) := (pX10_refuse κ 2).bind fun t11 => some (t11.1, t11.2)
def pX10_set (F : Nat) (κ : Mem) (v1 : Int32) (v2 : Int32) (v3 : Int32) : Option (Int32 × Mem) := (pX10_noSituation F κ v1 v2).bind fun t1 => if t1 = 0 then (pX10_noColour κ v1 v3).bind fun t2 => if t2 = 0 then (pX2_told 1 κ v1 v2).bind fun t3 => if t3 = v3 then (pX10_refuse κ 4).bind fun t4 => some (t4.1, t4.2) else (pX3_note 1 κ).bind fun t5 => (pX2_tell 1 t5 v1 v2 v3).bind fun t6 => (pX3_keep t6).bind fun t7 => (pX1_judgeAgain F t7 v1).bind fun t8 => (pX1_lostInAll t8).bind fun t9 => (pX10_give t8 t9).bind fun t10 => some (t10.1, t10.2) else pX10_set_18 F κ else pX10_set_18 F κ
def pX10_take (F : Nat) (κ : Mem) (v1 : Int32) : Option (Int32 × Mem) := (pX10_noPlayer κ v1).bind fun t1 => if t1 = 0 then (pX3_note 1 κ).bind fun t2 => (pX1_weighBest F t2 v1).bind fun t3 => (pX1_takeBest F t3.2 v1).bind fun t4 => if t4.1 = 0 then (pX10_refuse t4.2 4).bind fun t5 => some (t5.1, t5.2) else (pX3_keep t4.2).bind fun t6 => (pX10_give t6 t4.1).bind fun t7 => some (t7.1, t7.2) else (pX10_refuse κ 2).bind fun t8 => some (t8.1, t8.2)
def pX10_better (F : Nat) (κ : Mem) : Option (Int32 × Mem) := (pX3_note 1 κ).bind fun t1 => (pX1_improve F t1).bind fun t2 => if t2.1 = 0 then (pX10_refuse t2.2 4).bind fun t3 => some (t3.1, t3.2) else (pX3_keep t2.2).bind fun t4 => (pX10_give t4 t2.1).bind fun t5 => some (t5.1, t5.2)
def pX0_sumSeen_64 (F : Nat) (κ : Mem) (k6 : Int32 → Int32 → Option Int32) (v1 : Int32) (v2 : Int32) (v3 : Int32) (v4 : Int32) (v5 : Int32) : Option Int32 := k6 v4 (v5 + 1)
def pX0_sumSeen_6 (F : Nat) (κ : Mem) (v1 : Int32) (v2 : Int32) (v3 : Int32) : Nat → Int32 → Int32 → Option Int32
  | 0, _, _ => none
  | fu + 1, v4, v5 => if v5 < (mi κ 1 0) then if v5 = v1 then pX0_sumSeen_64 F κ (pX0_sumSeen_6 F κ v1 v2 v3 fu) v1 v2 v3 v4 v5 else if ((v3 >>> (v5 &&& 31)) &&& 1) = 1 then (pX2_colourIn F 1 κ v1 v2 v5).bind fun t1 => ckI v5 6 (ckZ (mi κ 2 v5.toNatClampNeg) (nm (v4 + (t1 * (12 / (mi κ 2 v5.toNatClampNeg)))) fun x2 => pX0_sumSeen_64 F κ (pX0_sumSeen_6 F κ v1 v2 v3 fu) v1 v2 v3 x2 v5)) else pX0_sumSeen_64 F κ (pX0_sumSeen_6 F κ v1 v2 v3 fu) v1 v2 v3 v4 v5 else some v4
def pX0_sumSeen (F : Nat) (κ : Mem) (v1 : Int32) (v2 : Int32) (v3 : Int32) : Option Int32 := pX0_sumSeen_6 F κ v1 v2 v3 F 0 0
def pX0_tellMember_91 (F : Nat) (k53 : Int32 → Int32 → Option (Int32 × Mem)) (κ : Mem) (v1 : Int32) (v2 : Int32) (v3 : Int32) (v4 : Int32) (v5 : Int32) (v6 : Int32) (v7 : Int32) (v8 : Int32) (v9 : Int32) (v10 : Int32) : Option (Int32 × Mem) := k53 v9 (v10 + 1)
def pX0_tellMember_127 (F : Nat) (k30 : Mem → Int32 → Int32 → Option (Int32 × Mem)) (κ : Mem) (v1 : Int32) (v2 : Int32) (v3 : Int32) (v4 : Int32) (v5 : Int32) (v6 : Int32) (v7 : Int32) : Option (Int32 × Mem) := k30 κ v5 (v7 + 1)
def pX0_tellMember_53 (F : Nat) (k30 : Mem → Int32 → Int32 → Option (Int32 × Mem)) (κ : Mem) (v1 : Int32) (v2 : Int32) (v3 : Int32) (v4 : Int32) (v5 : Int32) (v6 : Int32) (v7 : Int32) (v8 : Int32) : Nat → Int32 → Int32 → Option (Int32 × Mem)
  | 0, _, _ => none
  | fu + 1, v9, v10 => ckI v1 6 (if v10 < (mi κ 2 v1.toNatClampNeg) then (pJ9_floorMod_7cf53 κ ((v8 + (v10 * v4)) - v3) 12).bind fun t4 => if t4 < v4 then pX0_tellMember_91 F (pX0_tellMember_53 F k30 κ v1 v2 v3 v4 v5 v6 v7 v8 fu) κ v1 v2 v3 v4 v5 v6 v7 v8 v10 v10 else pX0_tellMember_91 F (pX0_tellMember_53 F k30 κ v1 v2 v3 v4 v5 v6 v7 v8 fu) κ v1 v2 v3 v4 v5 v6 v7 v8 v9 v10 else (pX2_told 1 κ v1 v7).bind fun t5 => if t5 = v9 then pX0_tellMember_127 F k30 κ v1 v2 v3 v4 v5 v6 v7 else (pX2_tell 1 κ v1 v7 v9).bind fun t6 => pX0_tellMember_127 F k30 t6 v1 v2 v3 v4 (v5 + 1) v6 v7)
def pX0_tellMember_30 (F : Nat) (v1 : Int32) (v2 : Int32) (v3 : Int32) (v4 : Int32) (v6 : Int32) : Nat → Mem → Int32 → Int32 → Option (Int32 × Mem)
  | 0, _, _, _ => none
  | fu + 1, κ, v5, v7 => if v7 < v6 then (pX0_sumSeen F κ v1 v7 v2).bind fun t3 => pX0_tellMember_53 F (pX0_tellMember_30 F v1 v2 v3 v4 v6 fu) κ v1 v2 v3 v4 v5 v6 v7 t3 F 0 0 else some (v5, κ)
def pX0_tellMember (F : Nat) (κ : Mem) (v1 : Int32) (v2 : Int32) (v3 : Int32) : Option (Int32 × Mem) := ckI v1 6 (ckZ (mi κ 2 v1.toNatClampNeg) (nm (12 / (mi κ 2 v1.toNatClampNeg)) fun x1 => (pX2_situations F 1 κ v1).bind fun t2 => pX0_tellMember_30 F v1 v2 v3 x1 t2 F κ 0 0))
def pX0_tellClique_56 (F : Nat) (k7 : Mem → Int32 → Int32 → Int32 → Option (Int32 × Mem)) (κ : Mem) (v1 : Int32) (v2 : Int32) (v3 : Int32) (v4 : Int32) : Option (Int32 × Mem) := k7 κ v2 v3 (v4 + 1)
def pX0_tellClique_7 (F : Nat) (v1 : Int32) : Nat → Mem → Int32 → Int32 → Int32 → Option (Int32 × Mem)
  | 0, _, _, _, _ => none
  | fu + 1, κ, v2, v3, v4 => if v4 < (mi κ 1 0) then if ((v1 >>> (v4 &&& 31)) &&& 1) = 1 then (pX0_tellMember F κ v4 v1 v2).bind fun t1 => nm (v3 + t1.1) fun x2 => ckI v4 6 (ckZ (mi t1.2 2 v4.toNatClampNeg) (nm (v2 + (12 / (mi t1.2 2 v4.toNatClampNeg))) fun x3 => pX0_tellClique_56 F (pX0_tellClique_7 F v1 fu) t1.2 v1 x3 x2 v4)) else pX0_tellClique_56 F (pX0_tellClique_7 F v1 fu) κ v1 v2 v3 v4 else some (v3, κ)
def pX0_tellClique (F : Nat) (κ : Mem) (v1 : Int32) : Option (Int32 × Mem) := pX0_tellClique_7 F v1 F κ 0 0 0
def pX10_build (F : Nat) (κ : Mem) (v1 : Int32) : Option (Int32 × Mem) := (pX10_noSet κ v1).bind fun t1 => if t1 = 0 then (pX4_isClique F κ v1).bind fun t2 => if t2 = 0 then (pX10_refuse κ 7).bind fun t3 => some (t3.1, t3.2) else (pX3_note 1 κ).bind fun t4 => (pX0_tellClique F t4 v1).bind fun t5 => if t5.1 = 0 then (pX10_refuse t5.2 4).bind fun t6 => some (t6.1, t6.2) else (pX3_keep t5.2).bind fun t7 => (pX1_judgeAll F t7).bind fun t8 => (pX1_lostInAll t8).bind fun t9 => (pX10_give t8 t9).bind fun t10 => some (t10.1, t10.2) else (pX10_refuse κ 2).bind fun t11 => some (t11.1, t11.2)
def pX0_swapSeen_133 (F : Nat) (k32 : Mem → Int32 → Int32 → Option (Int32 × Mem)) (κ : Mem) (v1 : Int32) (v2 : Int32) (v3 : Int32) (v5 : Int32) (v6 : Int32) (v7 : Int32) (v8 : Int32) : Option (Int32 × Mem) := k32 κ v6 (v8 + 1)
def pX0_swapSeen_32 (F : Nat) (v1 : Int32) (v2 : Int32) (v3 : Int32) (v5 : Int32) (v7 : Int32) : Nat → Mem → Int32 → Int32 → Option (Int32 × Mem)
  | 0, _, _, _ => none
  | fu + 1, κ, v6, v8 => if v8 < v7 then (pX2_colourIn F 1 κ v1 v8 v2).bind fun t4 => if t4 = v3 then (pX2_told 1 κ v1 v8).bind fun t5 => (pX2_told 1 κ v1 (v8 + v5)).bind fun t6 => if t5 = t6 then pX0_swapSeen_133 F (pX0_swapSeen_32 F v1 v2 v3 v5 v7 fu) κ v1 v2 v3 v5 v6 v7 v8 else (pX2_told 1 κ v1 v8).bind fun t7 => (pX2_told 1 κ v1 (v8 + v5)).bind fun t8 => (pX2_tell 1 κ v1 v8 t8).bind fun t9 => (pX2_tell 1 t9 v1 (v8 + v5) t7).bind fun t10 => pX0_swapSeen_133 F (pX0_swapSeen_32 F v1 v2 v3 v5 v7 fu) t10 v1 v2 v3 v5 (v6 + 2) v7 v8 else pX0_swapSeen_133 F (pX0_swapSeen_32 F v1 v2 v3 v5 v7 fu) κ v1 v2 v3 v5 v6 v7 v8 else some (v6, κ)
def pX0_swapSeen (F : Nat) (κ : Mem) (v1 : Int32) (v2 : Int32) (v3 : Int32) (v4 : Int32) : Option (Int32 × Mem) := (pX2_weight F 1 κ v1 v2).bind fun t1 => nm ((v4 - v3) * t1) fun x2 => (pX2_situations F 1 κ v1).bind fun t3 => pX0_swapSeen_32 F v1 v2 v3 x2 t3 F κ 0 0
def pX0_swapNames_71 (F : Nat) (k16 : Mem → Int32 → Int32 → Option (Int32 × Mem)) (κ : Mem) (v1 : Int32) (v2 : Int32) (v3 : Int32) (v4 : Int32) (v5 : Int32) (v6 : Int32) : Option (Int32 × Mem) := k16 κ v4 (v6 + 1)
def pX0_swapNames_65 (F : Nat) (k16 : Mem → Int32 → Int32 → Option (Int32 × Mem)) (κ : Mem) (v1 : Int32) (v2 : Int32) (v3 : Int32) (v4 : Int32) (v5 : Int32) (v6 : Int32) (y0 : Int32) (y1 : Int32) (y2 : Int32) : Option (Int32 × Mem) := (pX2_tell 1 κ y2 y1 y0).bind fun t3 => pX0_swapNames_71 F k16 t3 v1 v2 v3 (v4 + 1) v5 v6
def pX0_swapNames_47 (F : Nat) (k16 : Mem → Int32 → Int32 → Option (Int32 × Mem)) (κ : Mem) (v1 : Int32) (v2 : Int32) (v3 : Int32) (v4 : Int32) (v5 : Int32) (v6 : Int32) (v7 : Int32) : Option (Int32 × Mem) := if v7 = v2 then pX0_swapNames_65 F k16 κ v1 v2 v3 v4 v5 v6 v3 v6 v1 else pX0_swapNames_65 F k16 κ v1 v2 v3 v4 v5 v6 v2 v6 v1
def pX0_swapNames_119 (F : Nat) (k80 : Mem → Int32 → Int32 → Option (Int32 × Mem)) (κ : Mem) (v1 : Int32) (v2 : Int32) (v3 : Int32) (v4 : Int32) (v6 : Int32) : Option (Int32 × Mem) := k80 κ v4 (v6 + 1)
def pX0_swapNames_80 (F : Nat) (v1 : Int32) (v2 : Int32) (v3 : Int32) : Nat → Mem → Int32 → Int32 → Option (Int32 × Mem)
  | 0, _, _, _ => none
  | fu + 1, κ, v4, v6 => if v6 < (mi κ 1 0) then (pX2_watches 1 κ v6 v1).bind fun t4 => if t4 = 0 then pX0_swapNames_119 F (pX0_swapNames_80 F v1 v2 v3 fu) κ v1 v2 v3 v4 v6 else (pX0_swapSeen F κ v6 v1 v2 v3).bind fun t5 => nm (v4 + t5.1) fun x6 => pX0_swapNames_119 F (pX0_swapNames_80 F v1 v2 v3 fu) t5.2 v1 v2 v3 x6 v6 else some (v4, κ)
def pX0_swapNames_16 (F : Nat) (v1 : Int32) (v2 : Int32) (v3 : Int32) (v5 : Int32) : Nat → Mem → Int32 → Int32 → Option (Int32 × Mem)
  | 0, _, _, _ => none
  | fu + 1, κ, v4, v6 => if v6 < v5 then (pX2_told 1 κ v1 v6).bind fun t2 => if t2 = v2 then pX0_swapNames_47 F (pX0_swapNames_16 F v1 v2 v3 v5 fu) κ v1 v2 v3 v4 v5 v6 t2 else if t2 = v3 then pX0_swapNames_47 F (pX0_swapNames_16 F v1 v2 v3 v5 fu) κ v1 v2 v3 v4 v5 v6 t2 else pX0_swapNames_71 F (pX0_swapNames_16 F v1 v2 v3 v5 fu) κ v1 v2 v3 v4 v5 v6 else pX0_swapNames_80 F v1 v2 v3 F κ v4 0
def pX0_swapNames (F : Nat) (κ : Mem) (v1 : Int32) (v2 : Int32) (v3 : Int32) : Option (Int32 × Mem) := (pX2_situations F 1 κ v1).bind fun t1 => pX0_swapNames_16 F v1 v2 v3 t1 F κ 0 0
def pX10_rename_18 (F : Nat) (κ : Mem) : Option (Int32 × Mem) := (pX10_refuse κ 2).bind fun t9 => some (t9.1, t9.2)
def pX10_rename (F : Nat) (κ : Mem) (v1 : Int32) (v2 : Int32) (v3 : Int32) : Option (Int32 × Mem) := (pX10_noColour κ v1 v2).bind fun t1 => if t1 = 0 then (pX10_noColour κ v1 v3).bind fun t2 => if t2 = 0 then if v2 = v3 then (pX10_refuse κ 4).bind fun t3 => some (t3.1, t3.2) else (pX3_note 1 κ).bind fun t4 => (pX0_swapNames F t4 v1 v2 v3).bind fun t5 => (pX3_keep t5.2).bind fun t6 => (pX1_judgeAll F t6).bind fun t7 => (pX10_give t7 t5.1).bind fun t8 => some (t8.1, t8.2) else pX10_rename_18 F κ else pX10_rename_18 F κ
def pX0_openEyes_50 (F : Nat) (v1 : Int32) (v3 : Int32) (v4 : Int32) : Nat → Mem → Int32 → Option Mem
  | 0, _, _ => none
  | fu + 1, κ, v5 => if v5 < 0 then some κ else ckZ v4 (ckZ v3 ((pX2_told 1 κ v1 (((v5 / v4) * v3) + (v5 - v5 / v3 * v3))).bind fun t6 => (pX2_tell 1 κ v1 v5 t6).bind fun t7 => (pX0_openEyes_50 F v1 v3 v4 fu) t7 (v5 + (-1))))
def pX0_openEyes (F : Nat) (κ : Mem) (v1 : Int32) (v2 : Int32) : Option Mem := ckI v1 6 (ckI v1 6 (nm (setI κ 3 v1.toNatClampNeg ((mi κ 3 v1.toNatClampNeg) ||| (1 <<< (v2 &&& 31)))) fun κ1 => (pX2_weightBehind F 1 κ1 v1 v2).bind fun t2 => ckI v2 6 (nm (t2 * (mi κ1 2 v2.toNatClampNeg)) fun x3 => (pX2_situations F 1 κ1 v1).bind fun t4 => nm (t4 - 1) fun x5 => pX0_openEyes_50 F v1 t2 x3 F κ1 x5)))
def pX0_closeEyes_53 (F : Nat) (v1 : Int32) (v3 : Int32) (v4 : Int32) (v5 : Int32) : Nat → Mem → Int32 → Option Mem
  | 0, _, _ => none
  | fu + 1, κ, v6 => if v6 < v5 then ckZ v3 (ckZ v3 ((pX2_told 1 κ v1 (((v6 / v3) * v4) + (v6 - v6 / v3 * v3))).bind fun t5 => (pX2_tell 1 κ v1 v6 t5).bind fun t6 => (pX0_closeEyes_53 F v1 v3 v4 v5 fu) t6 (v6 + 1))) else some κ
def pX0_closeEyes (F : Nat) (κ : Mem) (v1 : Int32) (v2 : Int32) : Option Mem := ckI v1 6 (ckI v1 6 (nm (setI κ 3 v1.toNatClampNeg ((mi κ 3 v1.toNatClampNeg) &&& ((1 <<< (v2 &&& 31)) ^^^ (-1)))) fun κ1 => (pX2_weightBehind F 1 κ1 v1 v2).bind fun t2 => ckI v2 6 (nm (t2 * (mi κ1 2 v2.toNatClampNeg)) fun x3 => (pX2_situations F 1 κ1 v1).bind fun t4 => pX0_closeEyes_53 F v1 t2 x3 t4 F κ1 0)))
def pX10_see_75 (F : Nat) (κ : Mem) (v1 : Int32) : Option (Int32 × Mem) := (pX3_keep κ).bind fun t6 => (pX1_arrange F t6).bind fun t7 => (pX2_situations F 1 t7 v1).bind fun t8 => (pX10_give t7 t8).bind fun t9 => some (t9.1, t9.2)
def pX10_see (F : Nat) (κ : Mem) (v1 : Int32) (v2 : Int32) (v3 : Int32) : Option (Int32 × Mem) := (pX10_pairTrouble κ v1 v2).bind fun t1 => if t1 = 0 then (pX2_watches 1 κ v1 v2).bind fun t2 => if t2 = v3 then (pX10_refuse κ 4).bind fun t3 => some (t3.1, t3.2) else (pX3_note 1 κ).bind fun t4 => if v3 = 0 then (pX0_closeEyes F t4 v1 v2).bind fun t5 => pX10_see_75 F t5 v1 else (pX0_openEyes F t4 v1 v2).bind fun t10 => pX10_see_75 F t10 v1 else (pX10_refuse κ t1).bind fun t11 => some (t11.1, t11.2)
def pX10_shuffle (F : Nat) (κ : Mem) (v1 : Int32) : Option (Int32 × Mem) := (pX10_noSeed κ v1).bind fun t1 => if t1 = 0 then if (mi κ 1 0) = 0 then (pX10_refuse κ 5).bind fun t2 => some (t2.1, t2.2) else (pX3_note 1 κ).bind fun t3 => (pX2_draw F 1 t3 v1).bind fun t4 => (pX3_keep t4).bind fun t5 => (pX1_judgeAll F t5).bind fun t6 => (pX1_lostInAll t6).bind fun t7 => (pX10_give t6 t7).bind fun t8 => some (t8.1, t8.2) else (pX10_refuse κ 1).bind fun t9 => some (t9.1, t9.2)
def pX3_goBack_46 (g1 : Nat) (κ : Mem) : Option Mem := some κ
def pX3_goBack (g1 : Nat) (κ : Mem) : Option Mem := if (mi κ 135 2) ≤ 0 then pX3_goBack_46 g1 κ else ckZ 7 (nm (setI κ 135 1 ((((mi κ 135 1) + 7) - 1) - (((mi κ 135 1) + 7) - 1) / 7 * 7)) fun κ1 => nm (setI κ1 135 2 ((mi κ1 135 2) - 1)) fun κ2 => ckI (mi κ2 135 1) 7 ((pX2_copy g1 (13 + (mi κ2 135 1).toNatClampNeg * 4) κ2).bind fun t4 => pX3_goBack_46 g1 t4))
def pX10_undo (F : Nat) (κ : Mem) : Option (Int32 × Mem) := if (mi κ 135 2) = 0 then (pX10_refuse κ 5).bind fun t1 => some (t1.1, t1.2) else (pX3_goBack 1 κ).bind fun t2 => (pX1_arrange F t2).bind fun t3 => (pX10_give t3 (mi t3 135 2)).bind fun t4 => some (t4.1, t4.2)
def pX5_addByte_21 (κ : Mem) : Option Mem := nm (setI κ 144 3 ((mi κ 144 3) + 1)) fun κ3 => some κ3
def pX5_addByte (κ : Mem) (v1 : Int32) : Option Mem := if (mi κ 144 3) < 600 then ckP (isPB (mr κ 144 2)) (ckI (mi κ 144 3) 600 (nm (setI κ (mr κ 144 2) (mi κ 144 3).toNatClampNeg v1.toInt8.toInt32.toInt8.toInt32) fun κ2 => pX5_addByte_21 κ2)) else pX5_addByte_21 κ
def pX5_addWord_2 (F : Nat) (z1 : Nat) : Nat → Mem → Int32 → Option Mem
  | 0, _, _ => none
  | fu + 1, κ, v2 => (pJ0_length_8abf5 z1 κ).bind fun t1 => if v2 < t1 then (pJ0_charAt_5068e z1 κ v2).bind fun t2 => (pX5_addByte κ t2).bind fun t3 => (pX5_addWord_2 F z1 fu) t3 (v2 + 1) else some κ
def pX5_addWord (F : Nat) (z1 : Nat) (κ : Mem) : Option Mem := pX5_addWord_2 F z1 F κ 0
def pX5_addNumber (κ : Mem) (v1 : Int32) : Option Mem := (pX5_addByte κ 32).bind fun t1 => (pX5_addByte t1 (((48 + v1).toUInt32 % 65536).toInt32)).bind fun t2 => some t2
def pX5_addHats_2 (F : Nat) (g1 : Nat) : Nat → Mem → Int32 → Option Mem
  | 0, _, _ => none
  | fu + 1, κ, v2 => if v2 < (mi κ g1 0) then (pX5_addWord F 11 κ).bind fun t1 => (pX5_addNumber t1 v2).bind fun t2 => ckI v2 6 ((pX5_addNumber t2 (mi t2 (g1 + 1) v2.toNatClampNeg)).bind fun t3 => (pX5_addByte t3 59).bind fun t4 => (pX5_addHats_2 F g1 fu) t4 (v2 + 1)) else some κ
def pX5_addHats (F : Nat) (g1 : Nat) (κ : Mem) : Option Mem := pX5_addHats_2 F g1 F κ 0
def pX5_addSights_51 (F : Nat) (g1 : Nat) (k12 : Mem → Int32 → Option Mem) (κ : Mem) (v2 : Int32) (v3 : Int32) : Option Mem := k12 κ (v3 + 1)
def pX5_addSights_12 (F : Nat) (g1 : Nat) (k2 : Mem → Int32 → Option Mem) (v2 : Int32) : Nat → Mem → Int32 → Option Mem
  | 0, _, _ => none
  | fu + 1, κ, v3 => if v3 < (mi κ g1 0) then (pX2_watches g1 κ v2 v3).bind fun t1 => if t1 = 0 then pX5_addSights_51 F g1 (pX5_addSights_12 F g1 k2 v2 fu) κ v2 v3 else (pX5_addWord F 12 κ).bind fun t2 => (pX5_addNumber t2 v2).bind fun t3 => (pX5_addNumber t3 v3).bind fun t4 => (pX5_addByte t4 59).bind fun t5 => pX5_addSights_51 F g1 (pX5_addSights_12 F g1 k2 v2 fu) t5 v2 v3 else k2 κ (v2 + 1)
def pX5_addSights_2 (F : Nat) (g1 : Nat) : Nat → Mem → Int32 → Option Mem
  | 0, _, _ => none
  | fu + 1, κ, v2 => if v2 < (mi κ g1 0) then pX5_addSights_12 F g1 (pX5_addSights_2 F g1 fu) v2 F κ 0 else some κ
def pX5_addSights (F : Nat) (g1 : Nat) (κ : Mem) : Option Mem := pX5_addSights_2 F g1 F κ 0
def pX5_addTables_42 (F : Nat) (g1 : Nat) (k2 : Mem → Int32 → Option Mem) (v2 : Int32) (v3 : Int32) : Nat → Mem → Int32 → Option Mem
  | 0, _, _ => none
  | fu + 1, κ, v4 => if v4 < v3 then (pX2_told g1 κ v2 v4).bind fun t6 => (pX5_addNumber κ t6).bind fun t7 => (pX5_addTables_42 F g1 k2 v2 v3 fu) t7 (v4 + 1) else (pX5_addByte κ 59).bind fun t8 => k2 t8 (v2 + 1)
def pX5_addTables_2 (F : Nat) (g1 : Nat) : Nat → Mem → Int32 → Option Mem
  | 0, _, _ => none
  | fu + 1, κ, v2 => if v2 < (mi κ g1 0) then (pX5_addWord F 13 κ).bind fun t1 => (pX5_addNumber t1 v2).bind fun t2 => (pX5_addByte t2 32).bind fun t3 => (pX5_addWord F 14 t3).bind fun t4 => (pX2_situations F g1 t4 v2).bind fun t5 => pX5_addTables_42 F g1 (pX5_addTables_2 F g1 fu) v2 t5 F t4 0 else some κ
def pX5_addTables (F : Nat) (g1 : Nat) (κ : Mem) : Option Mem := pX5_addTables_2 F g1 F κ 0
def pX5_write_32 (F : Nat) (g1 : Nat) (κ : Mem) : Option (Int32 × Mem) := (pX5_addHats F g1 κ).bind fun t2 => (pX5_addSights F g1 t2).bind fun t3 => (pX5_addTables F g1 t3).bind fun t4 => if (mi t4 144 3) ≤ 600 then ckP (isPB (mr t4 144 0)) (ckP (isPB (mr t4 144 2)) (nm (setR t4 144 0 (mr t4 144 2)) fun κ7 => nm (setR κ7 144 2 (mr t4 144 0)) fun κ8 => nm (setI κ8 144 1 (mi κ8 144 3)) fun κ9 => some (1, κ9))) else some (0, t4)
def pX5_write (F : Nat) (g1 : Nat) (κ : Mem) : Option (Int32 × Mem) := nm (setI κ 144 3 0) fun κ1 => if (mi κ1 g1 0) ≤ 0 then pX5_write_32 F g1 κ1 else (pX5_addWord F 10 κ1).bind fun t10 => (pX5_addNumber t10 (mi t10 g1 0)).bind fun t11 => (pX5_addByte t11 59).bind fun t12 => pX5_write_32 F g1 t12
def pX10_print_33 (F : Nat) (κ : Mem) (y0 : Int32) : Option (Int32 × Mem) := some (y0, κ)
def pX10_print (F : Nat) (κ : Mem) : Option (Int32 × Mem) := (pX5_write F 1 κ).bind fun t1 => if t1.1 = 0 then (pX10_refuse t1.2 3).bind fun t2 => pX10_print_33 F t2.2 t2.1 else (pX10_give t1.2 (mi t1.2 144 1)).bind fun t3 => pX10_print_33 F t3.2 t3.1
def pX10_out_42 (κ : Mem) (y0 : Int32) : Option (Int32 × Mem) := some (y0, κ)
def pX10_out (κ : Mem) (v1 : Int32) : Option (Int32 × Mem) := if v1 < 0 then (pX10_refuse κ 1).bind fun t1 => some (t1.1, t1.2) else if v1 < (mi κ 144 1) then ckP (isPB (mr κ 144 0)) (ckI v1 600 ((pX10_give κ (mi κ (mr κ 144 0) v1.toNatClampNeg)).bind fun t3 => pX10_out_42 t3.2 t3.1)) else (pX10_refuse κ 5).bind fun t4 => pX10_out_42 t4.2 t4.1
def pX11_status (κ : Mem) : Option (Int32 × Mem) := nm (setI κ 0 1 0) fun κ1 => some ((mi κ1 0 0), κ1)
def pX11_refuse (κ : Mem) (v1 : Int32) : Option (Int32 × Mem) := nm (setI κ 0 0 v1) fun κ1 => some ((-1), κ1)
def pX11_is_19 (κ : Mem) (y0 : Int32) : Option (Int32 × Mem) := ckP (isB y0) (some (y0, κ))
def pX11_is (κ : Mem) (v1 : Int32) : Option (Int32 × Mem) := nm (setI κ 0 1 0) fun κ1 => nm (setI κ1 0 0 v1) fun κ2 => if v1 = 0 then pX11_is_19 κ2 1 else pX11_is_19 κ2 0
def pX11_isIn_18 (κ : Mem) (y0 : Int32) : Option Int32 := ckP (isB y0) (some y0)
def pX11_isIn_17 (κ : Mem) : Option Int32 := pX11_isIn_18 κ 0
def pX11_isIn (κ : Mem) (v0 : Int64) (v2 : Int64) (v4 : Int64) : Option Int32 := if (lg_cmp v0 v2) < 0 then pX11_isIn_17 κ else if (lg_cmp v0 v4) ≤ 0 then pX11_isIn_18 κ 1 else pX11_isIn_17 κ
def pX11_has_14 (κ : Mem) (y0 : Int32) : Option Int32 := ckP (isB y0) (some y0)
def pX11_has (κ : Mem) (v0 : Int32) (v1 : Int32) : Option Int32 := if ((v0 >>> (v1 &&& 31)) &&& 1) = 1 then pX11_has_14 κ 1 else pX11_has_14 κ 0
def pX11_ones_4 (F : Nat) (κ : Mem) (v0 : Int32) : Nat → Int32 → Int32 → Option Int32
  | 0, _, _ => none
  | fu + 1, v1, v2 => if v2 < 6 then nm (v1 + ((v0 >>> (v2 &&& 31)) &&& 1)) fun x1 => (pX11_ones_4 F κ v0 fu) x1 (v2 + 1) else some v1
def pX11_ones (F : Nat) (κ : Mem) (v0 : Int32) : Option Int32 := pX11_ones_4 F κ v0 F 0 0
def pX11_players (κ : Mem) : Option Int32 := ckI 0 6157 (some (mi κ 1 (0 : Int32).toNatClampNeg))
def pX11_hats (κ : Mem) (v1 : Int32) : Option Int32 := ckI (1 + v1) 6157 (some (mi κ 1 (1 + v1).toNatClampNeg))
def pX11_sees (κ : Mem) (v1 : Int32) (v2 : Int32) : Option Int32 := ckI (7 + v1) 6157 ((pX11_has κ (mi κ 1 (7 + v1).toNatClampNeg) v2).bind fun t1 => ckP (isB t1) (some t1))
def pX11_all (κ : Mem) : Option Int32 := ckI 0 6157 (some ((1 <<< ((mi κ 1 (0 : Int32).toNatClampNeg) &&& 31)) - 1))
def pX11_isPlayer (κ : Mem) (v1 : Int32) : Option Int32 := ckI 0 6157 ((pX11_isIn κ v1.toInt64 0 (((mi κ 1 (0 : Int32).toNatClampNeg) - 1).toInt64)).bind fun t1 => ckP (isB t1) (some t1))
def pX11_isSet (κ : Mem) (v1 : Int32) : Option Int32 := (pX11_all κ).bind fun t1 => (pX11_isIn κ v1.toInt64 1 t1.toInt64).bind fun t2 => ckP (isB t2) (some t2)
def pX11_entry (κ : Mem) (v1 : Int32) (v2 : Int32) : Option Int32 := ckI ((13 + (1024 * v1)) + v2) 6157 (some (mi κ 1 ((13 + (1024 * v1)) + v2).toNatClampNeg))
def pX11_enters (κ : Mem) (v1 : Int32) (v2 : Int32) (v3 : Int32) : Option Mem := ckI ((13 + (1024 * v1)) + v2) 6157 (nm (setI κ 1 ((13 + (1024 * v1)) + v2).toNatClampNeg v3) fun κ1 => some κ1)
def pX11_colourings_14 (F : Nat) (r0 : Nat) (κ : Mem) : Nat → Int32 → Int32 → Option Int32
  | 0, _, _ => none
  | fu + 1, v1, v2 => ckI 0 (lenM r0) (if v2 < (mi κ r0 (0 : Int32).toNatClampNeg) then ckI (1 + v2) (lenM r0) (nm (v1 * (mi κ r0 (1 + v2).toNatClampNeg)) fun x1 => (pX11_colourings_14 F r0 κ fu) x1 (v2 + 1)) else some v1)
def pX11_colourings_11 (F : Nat) (r0 : Nat) (κ : Mem) (y0 : Int32) : Option Int32 := pX11_colourings_14 F r0 κ F y0 0
def pX11_colourings (F : Nat) (r0 : Nat) (κ : Mem) : Option Int32 := ckI 0 (lenM r0) (if (mi κ r0 (0 : Int32).toNatClampNeg) = 0 then pX11_colourings_11 F r0 κ 0 else pX11_colourings_11 F r0 κ 1)
def pX11_colourings_ (F : Nat) (κ : Mem) : Option Int32 := (pX11_colourings F 1 κ).bind fun t1 => some t1
def pX11_situations_34 (F : Nat) (r0 : Nat) (κ : Mem) (k4 : Int32 → Int32 → Option Int32) (v1 : Int32) (v3 : Int32) (y0 : Int32) (y1 : Int32) : Option Int32 := nm (y1 * y0) fun x2 => k4 x2 (v3 + 1)
def pX11_situations_4 (F : Nat) (r0 : Nat) (κ : Mem) (v1 : Int32) : Nat → Int32 → Int32 → Option Int32
  | 0, _, _ => none
  | fu + 1, v2, v3 => ckI 0 (lenM r0) (if v3 < (mi κ r0 (0 : Int32).toNatClampNeg) then ckI (7 + v1) (lenM r0) ((pX11_has κ (mi κ r0 (7 + v1).toNatClampNeg) v3).bind fun t1 => if t1 = 0 then pX11_situations_34 F r0 κ (pX11_situations_4 F r0 κ v1 fu) v1 v3 1 v2 else ckI (1 + v3) (lenM r0) (pX11_situations_34 F r0 κ (pX11_situations_4 F r0 κ v1 fu) v1 v3 (mi κ r0 (1 + v3).toNatClampNeg) v2)) else some v2)
def pX11_situations (F : Nat) (r0 : Nat) (κ : Mem) (v1 : Int32) : Option Int32 := pX11_situations_4 F r0 κ v1 F 1 0
def pX11_situations_ (F : Nat) (κ : Mem) (v1 : Int32) : Option Int32 := (pX11_situations F 1 κ v1).bind fun t1 => some t1
def pX11_lays_9 (F : Nat) : Nat → Mem → Int32 → Int32 → Option Mem
  | 0, _, _, _ => none
  | fu + 1, κ, v2, v3 => if v3 < 0 then some κ else (pX11_hats κ v3).bind fun t3 => ckZ t3 (ckI v3 6 (nm (setI κ 5 v3.toNatClampNeg (v2 - v2 / t3 * t3)) fun κ4 => (pX11_hats κ4 v3).bind fun t5 => ckZ t5 (nm (v2 / t5) fun x6 => (pX11_lays_9 F fu) κ4 x6 (v3 + (-1)))))
def pX11_lays (F : Nat) (κ : Mem) (v1 : Int32) : Option Mem := (pX11_players κ).bind fun t1 => nm (t1 - 1) fun x2 => pX11_lays_9 F F κ v1 x2
def pX11_situationOf_39 (F : Nat) (κ : Mem) (k4 : Int32 → Int32 → Option Int32) (v1 : Int32) (v3 : Int32) (y0 : Int32) : Option Int32 := k4 y0 (v3 + 1)
def pX11_situationOf_4 (F : Nat) (κ : Mem) (v1 : Int32) : Nat → Int32 → Int32 → Option Int32
  | 0, _, _ => none
  | fu + 1, v2, v3 => (pX11_players κ).bind fun t1 => if v3 < t1 then (pX11_sees κ v1 v3).bind fun t2 => if t2 = 0 then pX11_situationOf_39 F κ (pX11_situationOf_4 F κ v1 fu) v1 v3 v2 else (pX11_hats κ v3).bind fun t3 => ckI v3 6 (pX11_situationOf_39 F κ (pX11_situationOf_4 F κ v1 fu) v1 v3 ((v2 * t3) + (mi κ 5 v3.toNatClampNeg))) else some v2
def pX11_situationOf (F : Nat) (κ : Mem) (v1 : Int32) : Option Int32 := pX11_situationOf_4 F κ v1 F 0 0
def pX11_laysSeen_52 (F : Nat) (k10 : Mem → Int32 → Int32 → Option Mem) (κ : Mem) (v1 : Int32) (v3 : Int32) (v4 : Int32) : Option Mem := k10 κ v3 (v4 + (-1))
def pX11_laysSeen_10 (F : Nat) (v1 : Int32) : Nat → Mem → Int32 → Int32 → Option Mem
  | 0, _, _, _ => none
  | fu + 1, κ, v3, v4 => if v4 < 0 then some κ else (pX11_sees κ v1 v4).bind fun t3 => if t3 = 0 then pX11_laysSeen_52 F (pX11_laysSeen_10 F v1 fu) κ v1 v3 v4 else (pX11_hats κ v4).bind fun t4 => ckZ t4 (ckI v4 6 (nm (setI κ 5 v4.toNatClampNeg (v3 - v3 / t4 * t4)) fun κ5 => (pX11_hats κ5 v4).bind fun t6 => ckZ t6 (nm (v3 / t6) fun x7 => pX11_laysSeen_52 F (pX11_laysSeen_10 F v1 fu) κ5 v1 x7 v4)))
def pX11_laysSeen (F : Nat) (κ : Mem) (v1 : Int32) (v2 : Int32) : Option Mem := (pX11_players κ).bind fun t1 => nm (t1 - 1) fun x2 => pX11_laysSeen_10 F v1 F κ v2 x2
def pX11_rightNow_39 (F : Nat) (κ : Mem) (k4 : Int32 → Int32 → Option Int32) (v2 : Int32) (y0 : Int32) (y1 : Int32) : Option Int32 := nm (y1 ||| y0) fun x4 => k4 x4 (v2 + 1)
def pX11_rightNow_4 (F : Nat) (κ : Mem) : Nat → Int32 → Int32 → Option Int32
  | 0, _, _ => none
  | fu + 1, v1, v2 => (pX11_players κ).bind fun t1 => if v2 < t1 then (pX11_situationOf F κ v2).bind fun t2 => (pX11_entry κ v2 t2).bind fun t3 => ckI v2 6 (if t3 = (mi κ 5 v2.toNatClampNeg) then pX11_rightNow_39 F κ (pX11_rightNow_4 F κ fu) v2 (1 <<< (v2 &&& 31)) v1 else pX11_rightNow_39 F κ (pX11_rightNow_4 F κ fu) v2 0 v1) else some v1
def pX11_rightNow (F : Nat) (κ : Mem) : Option Int32 := pX11_rightNow_4 F κ F 0 0
def pX11_laysRight_2 (F : Nat) : Nat → Mem → Int32 → Option Mem
  | 0, _, _ => none
  | fu + 1, κ, v1 => (pX11_colourings_ F κ).bind fun t1 => if v1 < t1 then (pX11_lays F κ v1).bind fun t2 => (pX11_rightNow F t2).bind fun t3 => ckI v1 4096 (nm (setI t2 6 v1.toNatClampNeg t3) fun κ4 => (pX11_laysRight_2 F fu) κ4 (v1 + 1)) else some κ
def pX11_laysRight (F : Nat) (κ : Mem) : Option Mem := pX11_laysRight_2 F F κ 0
def pX11_lostBy_29 (F : Nat) (κ : Mem) (k4 : Int32 → Int32 → Option Int32) (v1 : Int32) (v3 : Int32) (y0 : Int32) (y1 : Int32) : Option Int32 := nm (y1 + y0) fun x2 => k4 x2 (v3 + 1)
def pX11_lostBy_4 (F : Nat) (κ : Mem) (v1 : Int32) : Nat → Int32 → Int32 → Option Int32
  | 0, _, _ => none
  | fu + 1, v2, v3 => (pX11_colourings_ F κ).bind fun t1 => if v3 < t1 then ckI v3 4096 (if ((mi κ 6 v3.toNatClampNeg) &&& v1) = 0 then pX11_lostBy_29 F κ (pX11_lostBy_4 F κ v1 fu) v1 v3 1 v2 else pX11_lostBy_29 F κ (pX11_lostBy_4 F κ v1 fu) v1 v3 0 v2) else some v2
def pX11_lostBy (F : Nat) (κ : Mem) (v1 : Int32) : Option Int32 := pX11_lostBy_4 F κ v1 F 0 0
def pX11_lostNow (F : Nat) (κ : Mem) : Option (Int32 × Mem) := (pX11_laysRight F κ).bind fun t1 => (pX11_all t1).bind fun t2 => (pX11_lostBy F t1 t2).bind fun t3 => some (t3, t1)
def pX11_isMutual_12 (F : Nat) (κ : Mem) (k2 : Int32 → Option Int32) (v1 : Int32) : Nat → Int32 → Option Int32
  | 0, _ => none
  | fu + 1, v2 => (pX11_players κ).bind fun t2 => if v2 < t2 then (pX11_sees κ v1 v2).bind fun t3 => (pX11_sees κ v2 v1).bind fun t4 => if t3 = t4 then (pX11_isMutual_12 F κ k2 v1 fu) (v2 + 1) else some 0 else k2 (v1 + 1)
def pX11_isMutual_2 (F : Nat) (κ : Mem) : Nat → Int32 → Option Int32
  | 0, _ => none
  | fu + 1, v1 => (pX11_players κ).bind fun t1 => if v1 < t1 then pX11_isMutual_12 F κ (pX11_isMutual_2 F κ fu) v1 F 0 else some 1
def pX11_isMutual (F : Nat) (κ : Mem) : Option Int32 := pX11_isMutual_2 F κ F 0
def pX11_isLink_23 (κ : Mem) (y0 : Int32) : Option Int32 := ckP (isB y0) (some y0)
def pX11_isLink_22 (κ : Mem) : Option Int32 := pX11_isLink_23 κ 0
def pX11_isLink (κ : Mem) (v1 : Int32) (v2 : Int32) : Option Int32 := (pX11_sees κ v1 v2).bind fun t1 => if t1 = 0 then pX11_isLink_22 κ else (pX11_sees κ v2 v1).bind fun t3 => if t3 = 0 then pX11_isLink_22 κ else pX11_isLink_23 κ 1
def pX11_links_34 (F : Nat) (κ : Mem) (k14 : Int32 → Int32 → Option Int32) (v2 : Int32) (v3 : Int32) (y0 : Int32) (y1 : Int32) : Option Int32 := nm (y1 + y0) fun x3 => k14 x3 (v3 + 1)
def pX11_links_14 (F : Nat) (κ : Mem) (k4 : Int32 → Int32 → Option Int32) (v2 : Int32) : Nat → Int32 → Int32 → Option Int32
  | 0, _, _ => none
  | fu + 1, v1, v3 => if v3 < v2 then (pX11_isLink κ v2 v3).bind fun t2 => if t2 = 0 then pX11_links_34 F κ (pX11_links_14 F κ k4 v2 fu) v2 v3 0 v1 else pX11_links_34 F κ (pX11_links_14 F κ k4 v2 fu) v2 v3 1 v1 else k4 v1 (v2 + 1)
def pX11_links_4 (F : Nat) (κ : Mem) : Nat → Int32 → Int32 → Option Int32
  | 0, _, _ => none
  | fu + 1, v1, v2 => (pX11_players κ).bind fun t1 => if v2 < t1 then pX11_links_14 F κ (pX11_links_4 F κ fu) v2 F v1 0 else some v1
def pX11_links (F : Nat) (κ : Mem) : Option Int32 := pX11_links_4 F κ F 0 0
def pX11_many_130 (F : Nat) (κ : Mem) (y0 : Int32) : Option (Int32 × Mem) := some (y0, κ)
def pX11_many_30 (F : Nat) (κ : Mem) (v1 : Int32) : Nat → Int32 → Int32 → Option (Int32 × Mem)
  | 0, _, _ => none
  | fu + 1, v2, v3 => (pX11_players κ).bind fun t3 => if v3 < t3 then ckI (7 + v3) 6157 ((pX11_ones F κ (mi κ 1 (7 + v3).toNatClampNeg)).bind fun t4 => nm (v2 + t4) fun x5 => (pX11_many_30 F κ v1 fu) x5 (v3 + 1)) else if v1 = 0 then (pX11_players κ).bind fun t6 => some (t6, κ) else if v1 = 1 then (pX11_colourings_ F κ).bind fun t7 => some (t7, κ) else if v1 = 2 then some (v2, κ) else if v1 = 3 then (pX11_links F κ).bind fun t8 => some (t8, κ) else if v1 = 4 then some ((mi κ 0 6), κ) else (pX11_isMutual F κ).bind fun t9 => if t9 = 0 then pX11_many_130 F κ 0 else pX11_many_130 F κ 1
def pX11_many_18 (F : Nat) (κ : Mem) (v1 : Int32) (y0 : Int32) : Option (Int32 × Mem) := (pX11_is κ y0).bind fun t2 => if t2.1 = 0 then some ((-1), t2.2) else pX11_many_30 F t2.2 v1 F 0 0
def pX11_many (F : Nat) (κ : Mem) (v1 : Int32) : Option (Int32 × Mem) := (pX11_isIn κ v1.toInt64 0 5).bind fun t1 => if t1 = 0 then pX11_many_18 F κ v1 1 else pX11_many_18 F κ v1 0
def pX11_seenBy_29 (F : Nat) (κ : Mem) (k4 : Int32 → Int32 → Option Int32) (v1 : Int32) (v3 : Int32) (y0 : Int32) (y1 : Int32) : Option Int32 := nm (y1 ||| y0) fun x3 => k4 x3 (v3 + 1)
def pX11_seenBy_4 (F : Nat) (κ : Mem) (v1 : Int32) : Nat → Int32 → Int32 → Option Int32
  | 0, _, _ => none
  | fu + 1, v2, v3 => (pX11_players κ).bind fun t1 => if v3 < t1 then (pX11_sees κ v3 v1).bind fun t2 => if t2 = 0 then pX11_seenBy_29 F κ (pX11_seenBy_4 F κ v1 fu) v1 v3 0 v2 else pX11_seenBy_29 F κ (pX11_seenBy_4 F κ v1 fu) v1 v3 (1 <<< (v3 &&& 31)) v2 else some v2
def pX11_seenBy (F : Nat) (κ : Mem) (v1 : Int32) : Option Int32 := pX11_seenBy_4 F κ v1 F 0 0
def pX11_why_17 (κ : Mem) (y0 : Int32) : Option Int32 := some y0
def pX11_why (κ : Mem) (v1 : Int32) (v2 : Int32) : Option Int32 := if v1 = 0 then pX11_why_17 κ 1 else if v2 = 0 then pX11_why_17 κ 2 else pX11_why_17 κ 0
def pX11_player_74 (F : Nat) (κ : Mem) (y0 : Int32) : Option (Int32 × Mem) := some (y0, κ)
def pX11_player (F : Nat) (κ : Mem) (v1 : Int32) (v2 : Int32) : Option (Int32 × Mem) := (pX11_isIn κ v2.toInt64 0 3).bind fun t1 => (pX11_isPlayer κ v1).bind fun t2 => (pX11_why κ t1 t2).bind fun t3 => (pX11_is κ t3).bind fun t4 => if t4.1 = 0 then some ((-1), t4.2) else if v2 = 0 then (pX11_hats t4.2 v1).bind fun t5 => pX11_player_74 F t4.2 t5 else if v2 = 1 then ckI (7 + v1) 6157 (pX11_player_74 F t4.2 (mi t4.2 1 (7 + v1).toNatClampNeg)) else if v2 = 2 then (pX11_seenBy F t4.2 v1).bind fun t6 => pX11_player_74 F t4.2 t6 else (pX11_situations_ F t4.2 v1).bind fun t7 => pX11_player_74 F t4.2 t7
def pX11_isSituation_30 (F : Nat) (κ : Mem) (y0 : Int32) : Option Int32 := ckP (isB y0) (some y0)
def pX11_isSituation_29 (F : Nat) (κ : Mem) : Option Int32 := pX11_isSituation_30 F κ 0
def pX11_isSituation (F : Nat) (κ : Mem) (v1 : Int32) (v2 : Int32) : Option Int32 := (pX11_isPlayer κ v1).bind fun t1 => if t1 = 0 then pX11_isSituation_29 F κ else (pX11_situations_ F κ v1).bind fun t3 => (pX11_isIn κ v2.toInt64 0 ((t3 - 1).toInt64)).bind fun t4 => if t4 = 0 then pX11_isSituation_29 F κ else pX11_isSituation_30 F κ 1
def pX11_isColour_30 (κ : Mem) (y0 : Int32) : Option Int32 := ckP (isB y0) (some y0)
def pX11_isColour_29 (κ : Mem) : Option Int32 := pX11_isColour_30 κ 0
def pX11_isColour (κ : Mem) (v1 : Int32) (v2 : Int32) : Option Int32 := (pX11_isPlayer κ v1).bind fun t1 => if t1 = 0 then pX11_isColour_29 κ else (pX11_hats κ v1).bind fun t3 => (pX11_isIn κ v2.toInt64 0 ((t3 - 1).toInt64)).bind fun t4 => if t4 = 0 then pX11_isColour_29 κ else pX11_isColour_30 κ 1
def pX11_isColouring (F : Nat) (κ : Mem) (v1 : Int32) : Option Int32 := (pX11_colourings_ F κ).bind fun t1 => (pX11_isIn κ v1.toInt64 0 ((t1 - 1).toInt64)).bind fun t2 => ckP (isB t2) (some t2)
def pX11_guess_31 (F : Nat) (κ : Mem) (y0 : Int32) : Option (Int32 × Mem) := some (y0, κ)
def pX11_guess_15 (F : Nat) (κ : Mem) (v1 : Int32) (v2 : Int32) (y0 : Int32) : Option (Int32 × Mem) := (pX11_is κ y0).bind fun t2 => if t2.1 = 0 then pX11_guess_31 F t2.2 (-1) else (pX11_entry t2.2 v1 v2).bind fun t3 => pX11_guess_31 F t2.2 t3
def pX11_guess (F : Nat) (κ : Mem) (v1 : Int32) (v2 : Int32) : Option (Int32 × Mem) := (pX11_isSituation F κ v1 v2).bind fun t1 => if t1 = 0 then pX11_guess_15 F κ v1 v2 2 else pX11_guess_15 F κ v1 v2 0
def pX11_situation_22 (F : Nat) (κ : Mem) (v1 : Int32) (v2 : Int32) (y0 : Int32) : Option (Int32 × Mem) := (pX11_is κ y0).bind fun t2 => if t2.1 = 0 then some ((-1), t2.2) else (pX11_lays F t2.2 v2).bind fun t3 => (pX11_situationOf F t3 v1).bind fun t4 => some (t4, t3)
def pX11_situation_21 (F : Nat) (κ : Mem) (v1 : Int32) (v2 : Int32) : Option (Int32 × Mem) := pX11_situation_22 F κ v1 v2 2
def pX11_situation (F : Nat) (κ : Mem) (v1 : Int32) (v2 : Int32) : Option (Int32 × Mem) := (pX11_isPlayer κ v1).bind fun t1 => if t1 = 0 then pX11_situation_21 F κ v1 v2 else (pX11_isColouring F κ v2).bind fun t5 => if t5 = 0 then pX11_situation_21 F κ v1 v2 else pX11_situation_22 F κ v1 v2 0
def pX11_colour_22 (F : Nat) (κ : Mem) (v1 : Int32) (v2 : Int32) (y0 : Int32) : Option (Int32 × Mem) := (pX11_is κ y0).bind fun t2 => if t2.1 = 0 then some ((-1), t2.2) else (pX11_lays F t2.2 v2).bind fun t3 => ckI v1 6 (some ((mi t3 5 v1.toNatClampNeg), t3))
def pX11_colour_21 (F : Nat) (κ : Mem) (v1 : Int32) (v2 : Int32) : Option (Int32 × Mem) := pX11_colour_22 F κ v1 v2 2
def pX11_colour (F : Nat) (κ : Mem) (v1 : Int32) (v2 : Int32) : Option (Int32 × Mem) := (pX11_isPlayer κ v1).bind fun t1 => if t1 = 0 then pX11_colour_21 F κ v1 v2 else (pX11_isColouring F κ v2).bind fun t4 => if t4 = 0 then pX11_colour_21 F κ v1 v2 else pX11_colour_22 F κ v1 v2 0
def pX11_often_55 (F : Nat) (k28 : Int32 → Int32 → Option (Int32 × Mem)) (κ : Mem) (v1 : Int32) (v2 : Int32) (v4 : Int32) (y0 : Int32) (y1 : Int32) : Option (Int32 × Mem) := nm (y1 + y0) fun x5 => k28 x5 (v4 + 1)
def pX11_often_28 (F : Nat) (κ : Mem) (v1 : Int32) (v2 : Int32) : Nat → Int32 → Int32 → Option (Int32 × Mem)
  | 0, _, _ => none
  | fu + 1, v3, v4 => (pX11_situations_ F κ v1).bind fun t3 => if v4 < t3 then (pX11_entry κ v1 v4).bind fun t4 => if t4 = v2 then pX11_often_55 F (pX11_often_28 F κ v1 v2 fu) κ v1 v2 v4 1 v3 else pX11_often_55 F (pX11_often_28 F κ v1 v2 fu) κ v1 v2 v4 0 v3 else some (v3, κ)
def pX11_often_15 (F : Nat) (κ : Mem) (v1 : Int32) (v2 : Int32) (y0 : Int32) : Option (Int32 × Mem) := (pX11_is κ y0).bind fun t2 => if t2.1 = 0 then some ((-1), t2.2) else pX11_often_28 F t2.2 v1 v2 F 0 0
def pX11_often (F : Nat) (κ : Mem) (v1 : Int32) (v2 : Int32) : Option (Int32 × Mem) := (pX11_isColour κ v1 v2).bind fun t1 => if t1 = 0 then pX11_often_15 F κ v1 v2 2 else pX11_often_15 F κ v1 v2 0
def pX11_isHeeding_2 (F : Nat) (v1 : Int32) (v2 : Int32) : Nat → Mem → Int32 → Option (Int32 × Mem)
  | 0, _, _ => none
  | fu + 1, κ, v3 => (pX11_situations_ F κ v1).bind fun t1 => if v3 < t1 then (pX11_laysSeen F κ v1 v3).bind fun t2 => ckI v2 6 (nm (setI t2 5 v2.toNatClampNeg 0) fun κ3 => (pX11_entry κ3 v1 v3).bind fun t4 => (pX11_situationOf F κ3 v1).bind fun t5 => (pX11_entry κ3 v1 t5).bind fun t6 => if t4 = t6 then (pX11_isHeeding_2 F v1 v2 fu) κ3 (v3 + 1) else some (1, κ3)) else some (0, κ)
def pX11_isHeeding (F : Nat) (κ : Mem) (v1 : Int32) (v2 : Int32) : Option (Int32 × Mem) := pX11_isHeeding_2 F v1 v2 F κ 0
def pX11_whySight_44 (κ : Mem) (y0 : Int32) : Option Int32 := some y0
def pX11_whySight_16 (κ : Mem) : Option Int32 := pX11_whySight_44 κ 2
def pX11_whySight (κ : Mem) (v1 : Int32) (v2 : Int32) : Option Int32 := (pX11_isPlayer κ v1).bind fun t1 => if t1 = 0 then pX11_whySight_16 κ else (pX11_isPlayer κ v2).bind fun t2 => if t2 = 0 then pX11_whySight_16 κ else if v1 = v2 then pX11_whySight_44 κ 4 else (pX11_sees κ v1 v2).bind fun t3 => if t3 = 0 then pX11_whySight_44 κ 7 else pX11_whySight_44 κ 0
def pX11_heeds_31 (F : Nat) (κ : Mem) (y0 : Int32) : Option (Int32 × Mem) := some (y0, κ)
def pX11_heeds (F : Nat) (κ : Mem) (v1 : Int32) (v2 : Int32) : Option (Int32 × Mem) := (pX11_whySight κ v1 v2).bind fun t1 => (pX11_is κ t1).bind fun t2 => if t2.1 = 0 then pX11_heeds_31 F t2.2 (-1) else (pX11_isHeeding F t2.2 v1 v2).bind fun t3 => if t3.1 = 0 then pX11_heeds_31 F t3.2 0 else pX11_heeds_31 F t3.2 1
def pX11_heeded_60 (F : Nat) (k26 : Mem → Int32 → Int32 → Option (Int32 × Mem)) (κ : Mem) (v1 : Int32) (v3 : Int32) (y0 : Int32) (y1 : Int32) : Option (Int32 × Mem) := nm (y1 ||| y0) fun x5 => k26 κ x5 (v3 + 1)
def pX11_heeded_59 (F : Nat) (k26 : Mem → Int32 → Int32 → Option (Int32 × Mem)) (κ : Mem) (v1 : Int32) (v3 : Int32) (y0 : Int32) : Option (Int32 × Mem) := pX11_heeded_60 F k26 κ v1 v3 0 y0
def pX11_heeded_26 (F : Nat) (v1 : Int32) : Nat → Mem → Int32 → Int32 → Option (Int32 × Mem)
  | 0, _, _, _ => none
  | fu + 1, κ, v2, v3 => (pX11_players κ).bind fun t3 => if v3 < t3 then (pX11_sees κ v1 v3).bind fun t4 => if t4 = 0 then pX11_heeded_59 F (pX11_heeded_26 F v1 fu) κ v1 v3 v2 else (pX11_isHeeding F κ v1 v3).bind fun t6 => if t6.1 = 0 then pX11_heeded_59 F (pX11_heeded_26 F v1 fu) t6.2 v1 v3 v2 else pX11_heeded_60 F (pX11_heeded_26 F v1 fu) t6.2 v1 v3 (1 <<< (v3 &&& 31)) v2 else some (v2, κ)
def pX11_heeded_14 (F : Nat) (κ : Mem) (v1 : Int32) (y0 : Int32) : Option (Int32 × Mem) := (pX11_is κ y0).bind fun t2 => if t2.1 = 0 then some ((-1), t2.2) else pX11_heeded_26 F v1 F t2.2 0 0
def pX11_heeded (F : Nat) (κ : Mem) (v1 : Int32) : Option (Int32 × Mem) := (pX11_isPlayer κ v1).bind fun t1 => if t1 = 0 then pX11_heeded_14 F κ v1 2 else pX11_heeded_14 F κ v1 0
def pX11_fooled_96 (F : Nat) (k53 : Mem → Int32 → Int32 → Option (Int32 × Mem)) (κ : Mem) (v1 : Int32) (v2 : Int32) (v3 : Int32) (v4 : Int32) (v5 : Int32) (v7 : Int32) (y0 : Int32) : Option (Int32 × Mem) := k53 κ y0 (v7 + 1)
def pX11_fooled_91 (F : Nat) (k53 : Mem → Int32 → Int32 → Option (Int32 × Mem)) (κ : Mem) (v1 : Int32) (v2 : Int32) (v3 : Int32) (v4 : Int32) (v5 : Int32) (v7 : Int32) : Option (Int32 × Mem) := pX11_fooled_96 F k53 κ v1 v2 v3 v4 v5 v7 1
def pX11_fooled_115 (F : Nat) (k20 : Mem → Int32 → Int32 → Option (Int32 × Mem)) (κ : Mem) (v1 : Int32) (v2 : Int32) (v4 : Int32) (y0 : Int32) (y1 : Int32) : Option (Int32 × Mem) := nm (y1 + y0) fun x11 => k20 κ x11 (v4 + 1)
def pX11_fooled_53 (F : Nat) (k20 : Mem → Int32 → Int32 → Option (Int32 × Mem)) (v1 : Int32) (v2 : Int32) (v3 : Int32) (v4 : Int32) (v5 : Int32) : Nat → Mem → Int32 → Int32 → Option (Int32 × Mem)
  | 0, _, _, _ => none
  | fu + 1, κ, v6, v7 => (pX11_hats κ v2).bind fun t7 => if v7 < t7 then ckI v2 6 (nm (setI κ 5 v2.toNatClampNeg v7) fun κ8 => if v6 = 0 then (pX11_situationOf F κ8 v1).bind fun t9 => (pX11_entry κ8 v1 t9).bind fun t10 => if t10 = v5 then pX11_fooled_96 F (pX11_fooled_53 F k20 v1 v2 v3 v4 v5 fu) κ8 v1 v2 v3 v4 v5 v7 0 else pX11_fooled_91 F (pX11_fooled_53 F k20 v1 v2 v3 v4 v5 fu) κ8 v1 v2 v3 v4 v5 v7 else pX11_fooled_91 F (pX11_fooled_53 F k20 v1 v2 v3 v4 v5 fu) κ8 v1 v2 v3 v4 v5 v7) else if v6 = 0 then pX11_fooled_115 F k20 κ v1 v2 v4 0 v3 else pX11_fooled_115 F k20 κ v1 v2 v4 1 v3
def pX11_fooled_20 (F : Nat) (v1 : Int32) (v2 : Int32) : Nat → Mem → Int32 → Int32 → Option (Int32 × Mem)
  | 0, _, _, _ => none
  | fu + 1, κ, v3, v4 => (pX11_colourings_ F κ).bind fun t3 => if v4 < t3 then (pX11_lays F κ v4).bind fun t4 => (pX11_situationOf F t4 v1).bind fun t5 => (pX11_entry t4 v1 t5).bind fun t6 => pX11_fooled_53 F (pX11_fooled_20 F v1 v2 fu) v1 v2 v3 v4 t6 F t4 0 0 else some (v3, κ)
def pX11_fooled (F : Nat) (κ : Mem) (v1 : Int32) (v2 : Int32) : Option (Int32 × Mem) := (pX11_whySight κ v1 v2).bind fun t1 => (pX11_is κ t1).bind fun t2 => if t2.1 = 0 then some ((-1), t2.2) else pX11_fooled_20 F v1 v2 F t2.2 0 0
def pX11_right_14 (F : Nat) (κ : Mem) (v1 : Int32) (y0 : Int32) : Option (Int32 × Mem) := (pX11_is κ y0).bind fun t2 => if t2.1 = 0 then some ((-1), t2.2) else (pX11_lays F t2.2 v1).bind fun t3 => (pX11_rightNow F t3).bind fun t4 => some (t4, t3)
def pX11_right (F : Nat) (κ : Mem) (v1 : Int32) : Option (Int32 × Mem) := (pX11_isColouring F κ v1).bind fun t1 => if t1 = 0 then pX11_right_14 F κ v1 2 else pX11_right_14 F κ v1 0
def pX11_lost_57 (F : Nat) (k27 : Int32 → Int32 → Option (Int32 × Mem)) (κ : Mem) (v1 : Int32) (v2 : Int32) (v3 : Int32) : Option (Int32 × Mem) := k27 v2 (v3 + 1)
def pX11_lost_77 (F : Nat) (κ : Mem) (y0 : Int32) : Option (Int32 × Mem) := some (y0, κ)
def pX11_lost_27 (F : Nat) (κ : Mem) (v1 : Int32) : Nat → Int32 → Int32 → Option (Int32 × Mem)
  | 0, _, _ => none
  | fu + 1, v2, v3 => (pX11_colourings_ F κ).bind fun t3 => if v3 < t3 then ckI v3 4096 (if (mi κ 6 v3.toNatClampNeg) = 0 then if v2 = v1 then some (v3, κ) else pX11_lost_57 F (pX11_lost_27 F κ v1 fu) κ v1 (v2 + 1) v3 else pX11_lost_57 F (pX11_lost_27 F κ v1 fu) κ v1 v2 v3) else if v1 = (-1) then pX11_lost_77 F κ v2 else (pX11_refuse κ 5).bind fun t4 => pX11_lost_77 F t4.2 t4.1
def pX11_lost_11 (F : Nat) (κ : Mem) (v1 : Int32) (y0 : Int32) : Option (Int32 × Mem) := (pX11_is κ y0).bind fun t1 => if t1.1 = 0 then some ((-1), t1.2) else (pX11_laysRight F t1.2).bind fun t2 => pX11_lost_27 F t2 v1 F 0 0
def pX11_lost (F : Nat) (κ : Mem) (v1 : Int32) : Option (Int32 × Mem) := if v1 < (-1) then pX11_lost_11 F κ v1 1 else pX11_lost_11 F κ v1 0
def pX11_rightOf_45 (F : Nat) (k9 : Int32 → Int32 → Option (Int32 × Mem)) (κ : Mem) (v1 : Int32) (v2 : Int32) (v4 : Int32) (y0 : Int32) (y1 : Int32) : Option (Int32 × Mem) := nm (y1 + y0) fun x5 => k9 x5 (v4 + 1)
def pX11_rightOf_9 (F : Nat) (κ : Mem) (v1 : Int32) (v2 : Int32) : Nat → Int32 → Int32 → Option (Int32 × Mem)
  | 0, _, _ => none
  | fu + 1, v3, v4 => (pX11_colourings_ F κ).bind fun t2 => if v4 < t2 then ckI v4 4096 ((pX11_ones F κ (mi κ 6 v4.toNatClampNeg)).bind fun t3 => (pX11_isIn κ t3.toInt64 v1.toInt64 v2.toInt64).bind fun t4 => if t4 = 0 then pX11_rightOf_45 F (pX11_rightOf_9 F κ v1 v2 fu) κ v1 v2 v4 0 v3 else pX11_rightOf_45 F (pX11_rightOf_9 F κ v1 v2 fu) κ v1 v2 v4 1 v3) else some (v3, κ)
def pX11_rightOf (F : Nat) (κ : Mem) (v1 : Int32) (v2 : Int32) : Option (Int32 × Mem) := (pX11_laysRight F κ).bind fun t1 => pX11_rightOf_9 F t1 v1 v2 F 0 0
def pX11_exact_34 (F : Nat) (κ : Mem) (y0 : Int32) : Option (Int32 × Mem) := some (y0, κ)
def pX11_exact_18 (F : Nat) (κ : Mem) (v1 : Int32) (y0 : Int32) : Option (Int32 × Mem) := (pX11_is κ y0).bind fun t2 => if t2.1 = 0 then pX11_exact_34 F t2.2 (-1) else (pX11_rightOf F t2.2 v1 v1).bind fun t3 => pX11_exact_34 F t3.2 t3.1
def pX11_exact (F : Nat) (κ : Mem) (v1 : Int32) : Option (Int32 × Mem) := (pX11_isIn κ v1.toInt64 0 6).bind fun t1 => if t1 = 0 then pX11_exact_18 F κ v1 1 else pX11_exact_18 F κ v1 0
def pX11_atLeast_35 (F : Nat) (κ : Mem) (y0 : Int32) : Option (Int32 × Mem) := some (y0, κ)
def pX11_atLeast_18 (F : Nat) (κ : Mem) (v1 : Int32) (y0 : Int32) : Option (Int32 × Mem) := (pX11_is κ y0).bind fun t2 => if t2.1 = 0 then pX11_atLeast_35 F t2.2 (-1) else (pX11_rightOf F t2.2 v1 6).bind fun t3 => pX11_atLeast_35 F t3.2 t3.1
def pX11_atLeast (F : Nat) (κ : Mem) (v1 : Int32) : Option (Int32 × Mem) := (pX11_isIn κ v1.toInt64 0 6).bind fun t1 => if t1 = 0 then pX11_atLeast_18 F κ v1 1 else pX11_atLeast_18 F κ v1 0
def pX11_alone_56 (F : Nat) (k30 : Int32 → Int32 → Option (Int32 × Mem)) (κ : Mem) (v1 : Int32) (v3 : Int32) (y0 : Int32) (y1 : Int32) : Option (Int32 × Mem) := nm (y1 + y0) fun x5 => k30 x5 (v3 + 1)
def pX11_alone_30 (F : Nat) (κ : Mem) (v1 : Int32) : Nat → Int32 → Int32 → Option (Int32 × Mem)
  | 0, _, _ => none
  | fu + 1, v2, v3 => (pX11_colourings_ F κ).bind fun t4 => if v3 < t4 then ckI v3 4096 (if (mi κ 6 v3.toNatClampNeg) = (1 <<< (v1 &&& 31)) then pX11_alone_56 F (pX11_alone_30 F κ v1 fu) κ v1 v3 1 v2 else pX11_alone_56 F (pX11_alone_30 F κ v1 fu) κ v1 v3 0 v2) else some (v2, κ)
def pX11_alone_14 (F : Nat) (κ : Mem) (v1 : Int32) (y0 : Int32) : Option (Int32 × Mem) := (pX11_is κ y0).bind fun t2 => if t2.1 = 0 then some ((-1), t2.2) else (pX11_laysRight F t2.2).bind fun t3 => pX11_alone_30 F t3 v1 F 0 0
def pX11_alone (F : Nat) (κ : Mem) (v1 : Int32) : Option (Int32 × Mem) := (pX11_isPlayer κ v1).bind fun t1 => if t1 = 0 then pX11_alone_14 F κ v1 2 else pX11_alone_14 F κ v1 0
def pX11_whyPair_30 (κ : Mem) (y0 : Int32) : Option Int32 := some y0
def pX11_whyPair_16 (κ : Mem) : Option Int32 := pX11_whyPair_30 κ 2
def pX11_whyPair (κ : Mem) (v1 : Int32) (v2 : Int32) : Option Int32 := (pX11_isPlayer κ v1).bind fun t1 => if t1 = 0 then pX11_whyPair_16 κ else (pX11_isPlayer κ v2).bind fun t2 => if t2 = 0 then pX11_whyPair_16 κ else if v1 = v2 then pX11_whyPair_30 κ 4 else pX11_whyPair_30 κ 0
def pX11_both_67 (F : Nat) (k24 : Int32 → Int32 → Option (Int32 × Mem)) (κ : Mem) (v1 : Int32) (v2 : Int32) (v4 : Int32) (y0 : Int32) (y1 : Int32) : Option (Int32 × Mem) := nm (y1 + y0) fun x6 => k24 x6 (v4 + 1)
def pX11_both_66 (F : Nat) (k24 : Int32 → Int32 → Option (Int32 × Mem)) (κ : Mem) (v1 : Int32) (v2 : Int32) (v4 : Int32) (y0 : Int32) : Option (Int32 × Mem) := pX11_both_67 F k24 κ v1 v2 v4 0 y0
def pX11_both_24 (F : Nat) (κ : Mem) (v1 : Int32) (v2 : Int32) : Nat → Int32 → Int32 → Option (Int32 × Mem)
  | 0, _, _ => none
  | fu + 1, v3, v4 => (pX11_colourings_ F κ).bind fun t4 => if v4 < t4 then ckI v4 4096 ((pX11_has κ (mi κ 6 v4.toNatClampNeg) v1).bind fun t5 => if t5 = 0 then pX11_both_66 F (pX11_both_24 F κ v1 v2 fu) κ v1 v2 v4 v3 else ckI v4 4096 ((pX11_has κ (mi κ 6 v4.toNatClampNeg) v2).bind fun t7 => if t7 = 0 then pX11_both_66 F (pX11_both_24 F κ v1 v2 fu) κ v1 v2 v4 v3 else pX11_both_67 F (pX11_both_24 F κ v1 v2 fu) κ v1 v2 v4 1 v3)) else some (v3, κ)
def pX11_both (F : Nat) (κ : Mem) (v1 : Int32) (v2 : Int32) : Option (Int32 × Mem) := (pX11_whyPair κ v1 v2).bind fun t1 => (pX11_is κ t1).bind fun t2 => if t2.1 = 0 then some ((-1), t2.2) else (pX11_laysRight F t2.2).bind fun t3 => pX11_both_24 F t3 v1 v2 F 0 0
def pX11_without_14 (F : Nat) (κ : Mem) (v1 : Int32) (y0 : Int32) : Option (Int32 × Mem) := (pX11_is κ y0).bind fun t2 => if t2.1 = 0 then some ((-1), t2.2) else (pX11_laysRight F t2.2).bind fun t3 => (pX11_lostBy F t3 v1).bind fun t4 => some (t4, t3)
def pX11_without (F : Nat) (κ : Mem) (v1 : Int32) : Option (Int32 × Mem) := (pX11_isSet κ v1).bind fun t1 => if t1 = 0 then pX11_without_14 F κ v1 2 else pX11_without_14 F κ v1 0
def pX11_together_56 (F : Nat) (k30 : Int32 → Int32 → Option (Int32 × Mem)) (κ : Mem) (v1 : Int32) (v3 : Int32) (y0 : Int32) (y1 : Int32) : Option (Int32 × Mem) := nm (y1 + y0) fun x5 => k30 x5 (v3 + 1)
def pX11_together_30 (F : Nat) (κ : Mem) (v1 : Int32) : Nat → Int32 → Int32 → Option (Int32 × Mem)
  | 0, _, _ => none
  | fu + 1, v2, v3 => (pX11_colourings_ F κ).bind fun t4 => if v3 < t4 then ckI v3 4096 (if ((mi κ 6 v3.toNatClampNeg) &&& v1) = v1 then pX11_together_56 F (pX11_together_30 F κ v1 fu) κ v1 v3 1 v2 else pX11_together_56 F (pX11_together_30 F κ v1 fu) κ v1 v3 0 v2) else some (v2, κ)
def pX11_together_14 (F : Nat) (κ : Mem) (v1 : Int32) (y0 : Int32) : Option (Int32 × Mem) := (pX11_is κ y0).bind fun t2 => if t2.1 = 0 then some ((-1), t2.2) else (pX11_laysRight F t2.2).bind fun t3 => pX11_together_30 F t3 v1 F 0 0
def pX11_together (F : Nat) (κ : Mem) (v1 : Int32) : Option (Int32 × Mem) := (pX11_isSet κ v1).bind fun t1 => if t1 = 0 then pX11_together_14 F κ v1 2 else pX11_together_14 F κ v1 0
def pX11_crowd_119 (F : Nat) (k48 : Int32 → Int32 → Int32 → Option (Int32 × Mem)) (κ : Mem) (v1 : Int32) (v3 : Int32) (v4 : Int32) (y0 : Int32) : Option (Int32 × Mem) := k48 y0 v3 (v4 + 1)
def pX11_crowd_105 (F : Nat) (k48 : Int32 → Int32 → Int32 → Option (Int32 × Mem)) (κ : Mem) (v1 : Int32) (v2 : Int32) (v4 : Int32) (v5 : Int32) (v6 : Int32) (y0 : Int32) : Option (Int32 × Mem) := if v5 ≤ v6 then pX11_crowd_119 F k48 κ v1 y0 v4 v2 else pX11_crowd_119 F k48 κ v1 y0 v4 v4
def pX11_crowd_152 (F : Nat) (κ : Mem) (y0 : Int32) : Option (Int32 × Mem) := some (y0, κ)
def pX11_crowd_48 (F : Nat) (κ : Mem) (v1 : Int32) : Nat → Int32 → Int32 → Int32 → Option (Int32 × Mem)
  | 0, _, _, _ => none
  | fu + 1, v2, v3, v4 => (pX11_colourings_ F κ).bind fun t4 => if v4 < t4 then ckI v4 4096 ((pX11_ones F κ (mi κ 6 v4.toNatClampNeg)).bind fun t5 => ckI v2 4096 ((pX11_ones F κ (mi κ 6 v2.toNatClampNeg)).bind fun t6 => if t5 ≤ t6 then if t5 = t6 then pX11_crowd_105 F (pX11_crowd_48 F κ v1 fu) κ v1 v2 v4 t5 t6 (v3 + 1) else pX11_crowd_105 F (pX11_crowd_48 F κ v1 fu) κ v1 v2 v4 t5 t6 v3 else pX11_crowd_105 F (pX11_crowd_48 F κ v1 fu) κ v1 v2 v4 t5 t6 1)) else if v1 = 0 then ckI v2 4096 ((pX11_ones F κ (mi κ 6 v2.toNatClampNeg)).bind fun t7 => pX11_crowd_152 F κ t7) else if v1 = 1 then pX11_crowd_152 F κ v2 else pX11_crowd_152 F κ v3
def pX11_crowd_29 (F : Nat) (κ : Mem) (v1 : Int32) (y0 : Int32) : Option (Int32 × Mem) := (pX11_is κ y0).bind fun t2 => if t2.1 = 0 then some ((-1), t2.2) else (pX11_laysRight F t2.2).bind fun t3 => pX11_crowd_48 F t3 v1 F 0 0 0
def pX11_crowd (F : Nat) (κ : Mem) (v1 : Int32) : Option (Int32 × Mem) := (pX11_isIn κ v1.toInt64 0 2).bind fun t1 => if t1 = 0 then pX11_crowd_29 F κ v1 1 else (pX11_players κ).bind fun t8 => if t8 = 0 then pX11_crowd_29 F κ v1 5 else pX11_crowd_29 F κ v1 0
def pX11_twice_93 (F : Nat) (k28 : Int32 → Int32 → Option (Int32 × Mem)) (κ : Mem) (v1 : Int32) (v2 : Int32) (v4 : Int32) (y0 : Int32) : Option (Int32 × Mem) := k28 y0 (v4 + 1)
def pX11_twice_92 (F : Nat) (k28 : Int32 → Int32 → Option (Int32 × Mem)) (κ : Mem) (v1 : Int32) (v2 : Int32) (v4 : Int32) : Option (Int32 × Mem) := pX11_twice_93 F k28 κ v1 v2 v4 0
def pX11_twice_110 (F : Nat) (k10 : Mem → Int32 → Int32 → Option (Int32 × Mem)) (κ : Mem) (v2 : Int32) (y0 : Int32) (y1 : Int32) : Option (Int32 × Mem) := nm (y1 + y0) fun x8 => k10 κ x8 (v2 + 1)
def pX11_twice_28 (F : Nat) (k10 : Mem → Int32 → Int32 → Option (Int32 × Mem)) (κ : Mem) (v1 : Int32) (v2 : Int32) : Nat → Int32 → Int32 → Option (Int32 × Mem)
  | 0, _, _ => none
  | fu + 1, v3, v4 => (pX11_players κ).bind fun t4 => if v4 < t4 then (pX11_situationOf F κ v4).bind fun t5 => (pX11_entry κ v4 t5).bind fun t6 => if v3 = 0 then pX11_twice_92 F (pX11_twice_28 F k10 κ v1 v2 fu) κ v1 v2 v4 else ckI v4 6 (if t6 = (mi κ 5 v4.toNatClampNeg) then pX11_twice_92 F (pX11_twice_28 F k10 κ v1 v2 fu) κ v1 v2 v4 else (pX11_hats κ v4).bind fun t7 => ckZ t7 (ckI v4 6 (if ((t6 + 1) - (t6 + 1) / t7 * t7) = (mi κ 5 v4.toNatClampNeg) then pX11_twice_92 F (pX11_twice_28 F k10 κ v1 v2 fu) κ v1 v2 v4 else pX11_twice_93 F (pX11_twice_28 F k10 κ v1 v2 fu) κ v1 v2 v4 1))) else if v3 = 0 then pX11_twice_110 F k10 κ v2 0 v1 else pX11_twice_110 F k10 κ v2 1 v1
def pX11_twice_10 (F : Nat) : Nat → Mem → Int32 → Int32 → Option (Int32 × Mem)
  | 0, _, _, _ => none
  | fu + 1, κ, v1, v2 => (pX11_colourings_ F κ).bind fun t2 => if v2 < t2 then (pX11_lays F κ v2).bind fun t3 => pX11_twice_28 F (pX11_twice_10 F fu) t3 v1 v2 F 1 0 else some (v1, κ)
def pX11_twice (F : Nat) (κ : Mem) : Option (Int32 × Mem) := (pX11_is κ 0).bind fun t1 => pX11_twice_10 F F t1.2 0 0
def pX11_lostBlinded_105 (F : Nat) (k5 : Mem → Int32 → Int32 → Option (Int32 × Mem)) (κ : Mem) (v1 : Int32) (v2 : Int32) (v4 : Int32) (y0 : Int32) (y1 : Int32) : Option (Int32 × Mem) := nm (y1 + y0) fun x7 => k5 κ x7 (v4 + 1)
def pX11_lostBlinded_84 (F : Nat) (k5 : Mem → Int32 → Int32 → Option (Int32 × Mem)) (κ : Mem) (v1 : Int32) (v2 : Int32) (v3 : Int32) (v4 : Int32) (v5 : Int32) (y0 : Int32) : Option (Int32 × Mem) := ckI v2 6 (nm (setI κ 5 v2.toNatClampNeg v5) fun κ6 => if y0 = 0 then pX11_lostBlinded_105 F k5 κ6 v1 v2 v4 0 v3 else pX11_lostBlinded_105 F k5 κ6 v1 v2 v4 1 v3)
def pX11_lostBlinded_83 (F : Nat) (k5 : Mem → Int32 → Int32 → Option (Int32 × Mem)) (κ : Mem) (v1 : Int32) (v2 : Int32) (v3 : Int32) (v4 : Int32) (v5 : Int32) : Option (Int32 × Mem) := pX11_lostBlinded_84 F k5 κ v1 v2 v3 v4 v5 0
def pX11_lostBlinded_46 (F : Nat) (k5 : Mem → Int32 → Int32 → Option (Int32 × Mem)) (κ : Mem) (v1 : Int32) (v2 : Int32) (v3 : Int32) (v4 : Int32) (v5 : Int32) (y0 : Int32) : Option (Int32 × Mem) := ckI v2 6 (nm (setI κ 5 v2.toNatClampNeg 0) fun κ5 => if y0 = 0 then pX11_lostBlinded_83 F k5 κ5 v1 v2 v3 v4 v5 else (pX11_situationOf F κ5 v1).bind fun t8 => (pX11_entry κ5 v1 t8).bind fun t9 => ckI v1 6 (if t9 = (mi κ5 5 v1.toNatClampNeg) then pX11_lostBlinded_83 F k5 κ5 v1 v2 v3 v4 v5 else pX11_lostBlinded_84 F k5 κ5 v1 v2 v3 v4 v5 1))
def pX11_lostBlinded_5 (F : Nat) (v1 : Int32) (v2 : Int32) : Nat → Mem → Int32 → Int32 → Option (Int32 × Mem)
  | 0, _, _, _ => none
  | fu + 1, κ, v3, v4 => (pX11_colourings_ F κ).bind fun t1 => if v4 < t1 then (pX11_lays F κ v4).bind fun t2 => ckI v2 6 (nm (mi t2 5 v2.toNatClampNeg) fun x3 => (pX11_rightNow F t2).bind fun t4 => if (t4 &&& ((1 <<< (v1 &&& 31)) ^^^ (-1))) = 0 then pX11_lostBlinded_46 F (pX11_lostBlinded_5 F v1 v2 fu) t2 v1 v2 v3 v4 x3 1 else pX11_lostBlinded_46 F (pX11_lostBlinded_5 F v1 v2 fu) t2 v1 v2 v3 v4 x3 0) else some (v3, κ)
def pX11_lostBlinded (F : Nat) (κ : Mem) (v1 : Int32) (v2 : Int32) : Option (Int32 × Mem) := pX11_lostBlinded_5 F v1 v2 F κ 0 0
def pX11_blinded_23 (F : Nat) (κ : Mem) (y0 : Int32) : Option (Int32 × Mem) := some (y0, κ)
def pX11_blinded (F : Nat) (κ : Mem) (v1 : Int32) (v2 : Int32) : Option (Int32 × Mem) := (pX11_whySight κ v1 v2).bind fun t1 => (pX11_is κ t1).bind fun t2 => if t2.1 = 0 then pX11_blinded_23 F t2.2 (-1) else (pX11_lostBlinded F t2.2 v1 v2).bind fun t3 => pX11_blinded_23 F t3.2 t3.1
def pX11_weakest_80 (F : Nat) (k25 : Mem → Int32 → Int32 → Int32 → Option (Int32 × Mem)) (κ : Mem) (v1 : Int32) (v2 : Int32) (v3 : Int32) (v4 : Int32) (v5 : Int32) : Option (Int32 × Mem) := k25 κ v2 v3 (v5 + 1)
def pX11_weakest_57 (F : Nat) (k25 : Mem → Int32 → Int32 → Int32 → Option (Int32 × Mem)) (κ : Mem) (v1 : Int32) (v2 : Int32) (v3 : Int32) (v4 : Int32) (v5 : Int32) (y0 : Int32) : Option (Int32 × Mem) := if y0 ≤ v3 then pX11_weakest_80 F k25 κ v1 v2 v3 v4 v5 else nm ((6 * v4) + v5) fun x5 => pX11_weakest_80 F k25 κ v1 x5 y0 v4 v5
def pX11_weakest_25 (F : Nat) (k13 : Mem → Int32 → Int32 → Int32 → Option (Int32 × Mem)) (v1 : Int32) (v4 : Int32) : Nat → Mem → Int32 → Int32 → Int32 → Option (Int32 × Mem)
  | 0, _, _, _, _ => none
  | fu + 1, κ, v2, v3, v5 => (pX11_players κ).bind fun t3 => if v5 < t3 then (pX11_sees κ v4 v5).bind fun t4 => if t4 = 0 then pX11_weakest_57 F (pX11_weakest_25 F k13 v1 v4 fu) κ v1 v2 v3 v4 v5 (-1) else (pX11_lostBlinded F κ v4 v5).bind fun t6 => pX11_weakest_57 F (pX11_weakest_25 F k13 v1 v4 fu) t6.2 v1 v2 v3 v4 v5 t6.1 else k13 κ v2 v3 (v4 + 1)
def pX11_weakest_113 (F : Nat) (κ : Mem) (y0 : Int32) : Option (Int32 × Mem) := some (y0, κ)
def pX11_weakest_13 (F : Nat) (v1 : Int32) : Nat → Mem → Int32 → Int32 → Int32 → Option (Int32 × Mem)
  | 0, _, _, _, _ => none
  | fu + 1, κ, v2, v3, v4 => (pX11_players κ).bind fun t2 => if v4 < t2 then pX11_weakest_25 F (pX11_weakest_13 F v1 fu) v1 v4 F κ v2 v3 0 else if v2 < 0 then (pX11_refuse κ 5).bind fun t7 => pX11_weakest_113 F t7.2 t7.1 else if v1 = 0 then pX11_weakest_113 F κ v2 else pX11_weakest_113 F κ v3
def pX11_weakest (F : Nat) (κ : Mem) (v1 : Int32) : Option (Int32 × Mem) := (pX11_is κ 0).bind fun t1 => pX11_weakest_13 F v1 F t1.2 (-1) (-1) 0
def pX11_needed_65 (F : Nat) (k36 : Int32 → Int32 → Option (Int32 × Mem)) (κ : Mem) (v1 : Int32) (v3 : Int32) (y0 : Int32) : Option (Int32 × Mem) := k36 y0 (v3 + (-1))
def pX11_needed_64 (F : Nat) (k36 : Int32 → Int32 → Option (Int32 × Mem)) (κ : Mem) (v1 : Int32) (v2 : Int32) (v3 : Int32) : Option (Int32 × Mem) := pX11_needed_65 F k36 κ v1 v3 v2
def pX11_needed_36 (F : Nat) (κ : Mem) (v1 : Int32) : Nat → Int32 → Int32 → Option (Int32 × Mem)
  | 0, _, _ => none
  | fu + 1, v2, v3 => if v3 ≤ 0 then some (v2, κ) else (pX11_ones F κ v3).bind fun t6 => (pX11_ones F κ v2).bind fun t7 => if t6 ≤ t7 then (pX11_lostBy F κ v3).bind fun t8 => if t8 = v1 then pX11_needed_65 F (pX11_needed_36 F κ v1 fu) κ v1 v3 v3 else pX11_needed_64 F (pX11_needed_36 F κ v1 fu) κ v1 v2 v3 else pX11_needed_64 F (pX11_needed_36 F κ v1 fu) κ v1 v2 v3
def pX11_needed_13 (F : Nat) (κ : Mem) (y0 : Int32) : Option (Int32 × Mem) := (pX11_is κ y0).bind fun t2 => if t2.1 = 0 then some ((-1), t2.2) else (pX11_lostNow F t2.2).bind fun t3 => (pX11_all t3.2).bind fun t4 => (pX11_all t3.2).bind fun t5 => pX11_needed_36 F t3.2 t3.1 F t4 t5
def pX11_needed (F : Nat) (κ : Mem) : Option (Int32 × Mem) := (pX11_players κ).bind fun t1 => if t1 = 0 then pX11_needed_13 F κ 5 else pX11_needed_13 F κ 0
def pX11_known_73 (F : Nat) (k32 : Mem → Int32 → Int32 → Option (Int32 × Mem)) (κ : Mem) (v1 : Int32) (v2 : Int32) (v4 : Int32) (y0 : Int32) (y1 : Int32) : Option (Int32 × Mem) := nm (y1 + y0) fun x6 => k32 κ x6 (v4 + 1)
def pX11_known_72 (F : Nat) (k32 : Mem → Int32 → Int32 → Option (Int32 × Mem)) (κ : Mem) (v1 : Int32) (v2 : Int32) (v4 : Int32) (y0 : Int32) : Option (Int32 × Mem) := pX11_known_73 F k32 κ v1 v2 v4 0 y0
def pX11_known_32 (F : Nat) (v1 : Int32) (v2 : Int32) : Nat → Mem → Int32 → Int32 → Option (Int32 × Mem)
  | 0, _, _, _ => none
  | fu + 1, κ, v3, v4 => (pX11_colourings_ F κ).bind fun t4 => if v4 < t4 then (pX11_lays F κ v4).bind fun t5 => ckI v4 4096 (if (mi t5 6 v4.toNatClampNeg) = 0 then ckI v1 6 (if (mi t5 5 v1.toNatClampNeg) = v2 then pX11_known_73 F (pX11_known_32 F v1 v2 fu) t5 v1 v2 v4 1 v3 else pX11_known_72 F (pX11_known_32 F v1 v2 fu) t5 v1 v2 v4 v3) else pX11_known_72 F (pX11_known_32 F v1 v2 fu) t5 v1 v2 v4 v3) else some (v3, κ)
def pX11_known_15 (F : Nat) (κ : Mem) (v1 : Int32) (v2 : Int32) (y0 : Int32) : Option (Int32 × Mem) := (pX11_is κ y0).bind fun t2 => if t2.1 = 0 then some ((-1), t2.2) else (pX11_laysRight F t2.2).bind fun t3 => pX11_known_32 F v1 v2 F t3 0 0
def pX11_known (F : Nat) (κ : Mem) (v1 : Int32) (v2 : Int32) : Option (Int32 × Mem) := (pX11_isColour κ v1 v2).bind fun t1 => if t1 = 0 then pX11_known_15 F κ v1 v2 2 else pX11_known_15 F κ v1 v2 0
def pX11_nearest_138 (F : Nat) (k105 : Int32 → Int32 → Option (Int32 × Mem)) (κ : Mem) (v2 : Int32) (v3 : Int32) (v4 : Int32) (v5 : Int32) (v7 : Int32) (y0 : Int32) (y1 : Int32) : Option (Int32 × Mem) := nm (y1 + y0) fun x12 => k105 x12 (v7 + 1)
def pX11_nearest_164 (F : Nat) (k71 : Mem → Int32 → Int32 → Int32 → Option (Int32 × Mem)) (κ : Mem) (v2 : Int32) (v3 : Int32) (v4 : Int32) (v5 : Int32) : Option (Int32 × Mem) := k71 κ v3 v4 (v5 + 1)
def pX11_nearest_105 (F : Nat) (k71 : Mem → Int32 → Int32 → Int32 → Option (Int32 × Mem)) (κ : Mem) (v2 : Int32) (v3 : Int32) (v4 : Int32) (v5 : Int32) : Nat → Int32 → Int32 → Option (Int32 × Mem)
  | 0, _, _ => none
  | fu + 1, v6, v7 => (pX11_players κ).bind fun t11 => if v7 < t11 then ckI v7 6 (ckI v7 6 (if (mi κ 5 v7.toNatClampNeg) = (mi κ 7 v7.toNatClampNeg) then pX11_nearest_138 F (pX11_nearest_105 F k71 κ v2 v3 v4 v5 fu) κ v2 v3 v4 v5 v7 0 v6 else pX11_nearest_138 F (pX11_nearest_105 F k71 κ v2 v3 v4 v5 fu) κ v2 v3 v4 v5 v7 1 v6)) else if v6 < v4 then pX11_nearest_164 F k71 κ v2 v5 v6 v5 else pX11_nearest_164 F k71 κ v2 v3 v4 v5
def pX11_nearest_192 (F : Nat) (κ : Mem) (y0 : Int32) : Option (Int32 × Mem) := some (y0, κ)
def pX11_nearest_71 (F : Nat) (v2 : Int32) : Nat → Mem → Int32 → Int32 → Int32 → Option (Int32 × Mem)
  | 0, _, _, _, _ => none
  | fu + 1, κ, v3, v4, v5 => (pX11_colourings_ F κ).bind fun t9 => if v5 < t9 then ckI v5 4096 (if (mi κ 6 v5.toNatClampNeg) = 0 then (pX11_lays F κ v5).bind fun t10 => pX11_nearest_105 F (pX11_nearest_71 F v2 fu) t10 v2 v3 v4 v5 F 0 0 else pX11_nearest_164 F (pX11_nearest_71 F v2 fu) κ v2 v3 v4 v5) else if v3 < 0 then (pX11_refuse κ 5).bind fun t13 => pX11_nearest_192 F t13.2 t13.1 else if v2 = 0 then pX11_nearest_192 F κ v4 else pX11_nearest_192 F κ v3
def pX11_nearest_36 (F : Nat) (v2 : Int32) : Nat → Mem → Int32 → Option (Int32 × Mem)
  | 0, _, _ => none
  | fu + 1, κ, v3 => (pX11_players κ).bind fun t7 => if v3 < t7 then ckI v3 6 (ckI v3 6 (nm (setI κ 7 v3.toNatClampNeg (mi κ 5 v3.toNatClampNeg)) fun κ8 => (pX11_nearest_36 F v2 fu) κ8 (v3 + 1))) else pX11_nearest_71 F v2 F κ (-1) 7 0
def pX11_nearest (F : Nat) (κ : Mem) (v1 : Int32) (v2 : Int32) : Option (Int32 × Mem) := (pX11_isIn κ v2.toInt64 0 1).bind fun t1 => (pX11_isColouring F κ v1).bind fun t2 => (pX11_why κ t1 t2).bind fun t3 => (pX11_is κ t3).bind fun t4 => if t4.1 = 0 then some ((-1), t4.2) else (pX11_laysRight F t4.2).bind fun t5 => (pX11_lays F t5 v1).bind fun t6 => pX11_nearest_36 F v2 F t6 0
def pX11_comesFrom_46 (F : Nat) (κ : Mem) (k13 : Int32 → Int32 → Option Int32) (v3 : Int32) (v4 : Int32) (y0 : Int32) (y1 : Int32) : Option Int32 := nm (y1 ||| y0) fun x3 => k13 x3 (v4 + 1)
def pX11_comesFrom_13 (F : Nat) (κ : Mem) (k4 : Int32 → Int32 → Option Int32) (v3 : Int32) : Nat → Int32 → Int32 → Option Int32
  | 0, _, _ => none
  | fu + 1, v2, v4 => (pX11_players κ).bind fun t1 => if v4 < t1 then (pX11_has κ v2 v4).bind fun t2 => if t2 = 0 then pX11_comesFrom_46 F κ (pX11_comesFrom_13 F κ k4 v3 fu) v3 v4 0 v2 else ckI (7 + v4) 6157 (pX11_comesFrom_46 F κ (pX11_comesFrom_13 F κ k4 v3 fu) v3 v4 (mi κ 1 (7 + v4).toNatClampNeg) v2) else k4 v2 (v3 + 1)
def pX11_comesFrom_4 (F : Nat) (κ : Mem) : Nat → Int32 → Int32 → Option Int32
  | 0, _, _ => none
  | fu + 1, v2, v3 => if v3 < 6 then pX11_comesFrom_13 F κ (pX11_comesFrom_4 F κ fu) v3 F v2 0 else some v2
def pX11_comesFrom (F : Nat) (κ : Mem) (v1 : Int32) : Option Int32 := pX11_comesFrom_4 F κ F v1 0
def pX11_isAcyclic_2 (F : Nat) (κ : Mem) : Nat → Int32 → Option Int32
  | 0, _ => none
  | fu + 1, v1 => (pX11_players κ).bind fun t1 => if v1 < t1 then ckI (7 + v1) 6157 ((pX11_comesFrom F κ (mi κ 1 (7 + v1).toNatClampNeg)).bind fun t2 => (pX11_has κ t2 v1).bind fun t3 => if t3 = 0 then (pX11_isAcyclic_2 F κ fu) (v1 + 1) else some 0) else some 1
def pX11_isAcyclic (F : Nat) (κ : Mem) : Option Int32 := pX11_isAcyclic_2 F κ F 0
def pX11_acyclic_20 (F : Nat) (κ : Mem) (y0 : Int32) : Option (Int32 × Mem) := some (y0, κ)
def pX11_acyclic_19 (F : Nat) (κ : Mem) : Option (Int32 × Mem) := pX11_acyclic_20 F κ 0
def pX11_acyclic (F : Nat) (κ : Mem) : Option (Int32 × Mem) := (pX11_is κ 0).bind fun t1 => if t1.1 = 0 then pX11_acyclic_19 F t1.2 else (pX11_isAcyclic F t1.2).bind fun t2 => if t2 = 0 then pX11_acyclic_19 F t1.2 else pX11_acyclic_20 F t1.2 1
def pX11_always_32 (F : Nat) (κ : Mem) : Nat → Int32 → Int32 → Option (Int32 × Mem)
  | 0, _, _ => none
  | fu + 1, v1, v2 => (pX11_players κ).bind fun t3 => if v2 < t3 then (pX11_hats κ v2).bind fun t4 => nm (v1 * (t4 - 1)) fun x5 => (pX11_always_32 F κ fu) x5 (v2 + 1) else some (v1, κ)
def pX11_always_20 (F : Nat) (κ : Mem) (y0 : Int32) : Option (Int32 × Mem) := (pX11_is κ y0).bind fun t2 => if t2.1 = 0 then some ((-1), t2.2) else pX11_always_32 F t2.2 F 1 0
def pX11_always_15 (F : Nat) (κ : Mem) : Option (Int32 × Mem) := pX11_always_20 F κ 5
def pX11_always (F : Nat) (κ : Mem) : Option (Int32 × Mem) := (pX11_players κ).bind fun t1 => if t1 = 0 then pX11_always_15 F κ else (pX11_isAcyclic F κ).bind fun t6 => if t6 = 0 then pX11_always_15 F κ else pX11_always_20 F κ 0
def pX11_isBlind_34 (F : Nat) (κ : Mem) (k2 : Int32 → Option Int32) (v1 : Int32) (v2 : Int32) : Option Int32 := k2 (v2 + 1)
def pX11_isBlind_2 (F : Nat) (κ : Mem) (v1 : Int32) : Nat → Int32 → Option Int32
  | 0, _ => none
  | fu + 1, v2 => (pX11_players κ).bind fun t1 => if v2 < t1 then (pX11_has κ v1 v2).bind fun t2 => if t2 = 0 then pX11_isBlind_34 F κ (pX11_isBlind_2 F κ v1 fu) v1 v2 else ckI (7 + v2) 6157 (if ((mi κ 1 (7 + v2).toNatClampNeg) &&& v1) = 0 then pX11_isBlind_34 F κ (pX11_isBlind_2 F κ v1 fu) v1 v2 else some 0) else some 1
def pX11_isBlind (F : Nat) (κ : Mem) (v1 : Int32) : Option Int32 := pX11_isBlind_2 F κ v1 F 0
def pX11_blind_57 (F : Nat) (k25 : Int32 → Int32 → Option (Int32 × Mem)) (κ : Mem) (v2 : Int32) (y0 : Int32) : Option (Int32 × Mem) := k25 y0 (v2 + 1)
def pX11_blind_56 (F : Nat) (k25 : Int32 → Int32 → Option (Int32 × Mem)) (κ : Mem) (v1 : Int32) (v2 : Int32) : Option (Int32 × Mem) := pX11_blind_57 F k25 κ v2 v1
def pX11_blind_25 (F : Nat) (κ : Mem) : Nat → Int32 → Int32 → Option (Int32 × Mem)
  | 0, _, _ => none
  | fu + 1, v1, v2 => (pX11_all κ).bind fun t3 => if v2 ≤ t3 then (pX11_ones F κ v2).bind fun t4 => (pX11_ones F κ v1).bind fun t5 => if t4 ≤ t5 then pX11_blind_56 F (pX11_blind_25 F κ fu) κ v1 v2 else (pX11_isBlind F κ v2).bind fun t6 => if t6 = 0 then pX11_blind_56 F (pX11_blind_25 F κ fu) κ v1 v2 else pX11_blind_57 F (pX11_blind_25 F κ fu) κ v2 v2 else some (v1, κ)
def pX11_blind_13 (F : Nat) (κ : Mem) (y0 : Int32) : Option (Int32 × Mem) := (pX11_is κ y0).bind fun t2 => if t2.1 = 0 then some ((-1), t2.2) else pX11_blind_25 F t2.2 F 0 1
def pX11_blind (F : Nat) (κ : Mem) : Option (Int32 × Mem) := (pX11_players κ).bind fun t1 => if t1 = 0 then pX11_blind_13 F κ 5 else pX11_blind_13 F κ 0
def pX11_twelfths_33 (F : Nat) (κ : Mem) (k4 : Int32 → Int32 → Option Int32) (v1 : Int32) (v3 : Int32) (y0 : Int32) (y1 : Int32) : Option Int32 := nm (y1 + y0) fun x3 => k4 x3 (v3 + 1)
def pX11_twelfths_4 (F : Nat) (κ : Mem) (v1 : Int32) : Nat → Int32 → Int32 → Option Int32
  | 0, _, _ => none
  | fu + 1, v2, v3 => (pX11_players κ).bind fun t1 => if v3 < t1 then (pX11_has κ v1 v3).bind fun t2 => if t2 = 0 then pX11_twelfths_33 F κ (pX11_twelfths_4 F κ v1 fu) v1 v3 0 v2 else (pX11_hats κ v3).bind fun t4 => ckZ t4 (pX11_twelfths_33 F κ (pX11_twelfths_4 F κ v1 fu) v1 v3 (12 / t4) v2) else some v2
def pX11_twelfths (F : Nat) (κ : Mem) (v1 : Int32) : Option Int32 := pX11_twelfths_4 F κ v1 F 0 0
def pX11_common_4 (F : Nat) (κ : Mem) : Nat → Int32 → Int32 → Option Int32
  | 0, _, _ => none
  | fu + 1, v2, v3 => if v3 = 0 then some v2 else ckZ v3 (nm (v2 - v2 / v3 * v3) fun x1 => (pX11_common_4 F κ fu) v3 x1)
def pX11_common (F : Nat) (κ : Mem) (v0 : Int32) (v1 : Int32) : Option Int32 := pX11_common_4 F κ F v0 v1
def pX11_share_41 (F : Nat) (κ : Mem) (v3 : Int32) (y0 : Int32) : Option (Int32 × Mem) := (pX11_common F κ v3 12).bind fun t6 => ckZ t6 (some ((y0 / t6), κ))
def pX11_share (F : Nat) (κ : Mem) (v1 : Int32) (v2 : Int32) : Option (Int32 × Mem) := (pX11_isIn κ v2.toInt64 0 1).bind fun t1 => (pX11_isSet κ v1).bind fun t2 => (pX11_why κ t1 t2).bind fun t3 => (pX11_is κ t3).bind fun t4 => if t4.1 = 0 then some ((-1), t4.2) else (pX11_twelfths F t4.2 v1).bind fun t5 => if v2 = 0 then pX11_share_41 F t4.2 t5 t5 else pX11_share_41 F t4.2 t5 12
def pX11_least_49 (F : Nat) (κ : Mem) (y0 : Int32) : Option (Int32 × Mem) := some (y0, κ)
def pX11_least_13 (F : Nat) (κ : Mem) : Nat → Int32 → Int32 → Option (Int32 × Mem)
  | 0, _, _ => none
  | fu + 1, v1, v2 => (pX11_players κ).bind fun t3 => if v2 < t3 then (pX11_colourings_ F κ).bind fun t4 => (pX11_hats κ v2).bind fun t5 => ckZ t5 (nm (v1 - (t4 / t5)) fun x6 => (pX11_least_13 F κ fu) x6 (v2 + 1)) else if v1 ≤ 0 then pX11_least_49 F κ 0 else pX11_least_49 F κ v1
def pX11_least (F : Nat) (κ : Mem) : Option (Int32 × Mem) := (pX11_is κ 0).bind fun t1 => (pX11_colourings_ F t1.2).bind fun t2 => pX11_least_13 F t1.2 F t2 0
def pX11_isClique_41 (F : Nat) (κ : Mem) (k2 : Int32 → Option Int32) (v1 : Int32) (v2 : Int32) : Option Int32 := k2 (v2 + 1)
def pX11_isClique_2 (F : Nat) (κ : Mem) (v1 : Int32) : Nat → Int32 → Option Int32
  | 0, _ => none
  | fu + 1, v2 => (pX11_players κ).bind fun t1 => if v2 < t1 then (pX11_has κ v1 v2).bind fun t2 => if t2 = 0 then pX11_isClique_41 F κ (pX11_isClique_2 F κ v1 fu) v1 v2 else ckI (7 + v2) 6157 (if (((mi κ 1 (7 + v2).toNatClampNeg) ||| (1 <<< (v2 &&& 31))) ||| (v1 ^^^ (-1))) = (-1) then pX11_isClique_41 F κ (pX11_isClique_2 F κ v1 fu) v1 v2 else some 0) else some 1
def pX11_isClique (F : Nat) (κ : Mem) (v1 : Int32) : Option Int32 := pX11_isClique_2 F κ v1 F 0
def pX11_clique_57 (F : Nat) (k25 : Int32 → Int32 → Option (Int32 × Mem)) (κ : Mem) (v2 : Int32) (y0 : Int32) : Option (Int32 × Mem) := k25 y0 (v2 + 1)
def pX11_clique_56 (F : Nat) (k25 : Int32 → Int32 → Option (Int32 × Mem)) (κ : Mem) (v1 : Int32) (v2 : Int32) : Option (Int32 × Mem) := pX11_clique_57 F k25 κ v2 v1
def pX11_clique_25 (F : Nat) (κ : Mem) : Nat → Int32 → Int32 → Option (Int32 × Mem)
  | 0, _, _ => none
  | fu + 1, v1, v2 => (pX11_all κ).bind fun t3 => if v2 ≤ t3 then (pX11_ones F κ v2).bind fun t4 => (pX11_ones F κ v1).bind fun t5 => if t4 ≤ t5 then pX11_clique_56 F (pX11_clique_25 F κ fu) κ v1 v2 else (pX11_isClique F κ v2).bind fun t6 => if t6 = 0 then pX11_clique_56 F (pX11_clique_25 F κ fu) κ v1 v2 else pX11_clique_57 F (pX11_clique_25 F κ fu) κ v2 v2 else some (v1, κ)
def pX11_clique_13 (F : Nat) (κ : Mem) (y0 : Int32) : Option (Int32 × Mem) := (pX11_is κ y0).bind fun t2 => if t2.1 = 0 then some ((-1), t2.2) else pX11_clique_25 F t2.2 F 0 1
def pX11_clique (F : Nat) (κ : Mem) : Option (Int32 × Mem) := (pX11_players κ).bind fun t1 => if t1 = 0 then pX11_clique_13 F κ 5 else pX11_clique_13 F κ 0
def pX11_strongest_59 (F : Nat) (k25 : Int32 → Int32 → Option (Int32 × Mem)) (κ : Mem) (v2 : Int32) (y0 : Int32) : Option (Int32 × Mem) := k25 y0 (v2 + 1)
def pX11_strongest_58 (F : Nat) (k25 : Int32 → Int32 → Option (Int32 × Mem)) (κ : Mem) (v1 : Int32) (v2 : Int32) : Option (Int32 × Mem) := pX11_strongest_59 F k25 κ v2 v1
def pX11_strongest_25 (F : Nat) (κ : Mem) : Nat → Int32 → Int32 → Option (Int32 × Mem)
  | 0, _, _ => none
  | fu + 1, v1, v2 => (pX11_all κ).bind fun t3 => if v2 ≤ t3 then (pX11_twelfths F κ v2).bind fun t4 => (pX11_twelfths F κ v1).bind fun t5 => if t4 ≤ t5 then pX11_strongest_58 F (pX11_strongest_25 F κ fu) κ v1 v2 else (pX11_isClique F κ v2).bind fun t6 => if t6 = 0 then pX11_strongest_58 F (pX11_strongest_25 F κ fu) κ v1 v2 else pX11_strongest_59 F (pX11_strongest_25 F κ fu) κ v2 v2 else some (v1, κ)
def pX11_strongest_13 (F : Nat) (κ : Mem) (y0 : Int32) : Option (Int32 × Mem) := (pX11_is κ y0).bind fun t2 => if t2.1 = 0 then some ((-1), t2.2) else pX11_strongest_25 F t2.2 F 0 1
def pX11_strongest (F : Nat) (κ : Mem) : Option (Int32 × Mem) := (pX11_players κ).bind fun t1 => if t1 = 0 then pX11_strongest_13 F κ 5 else pX11_strongest_13 F κ 0
def pX11_sure_42 (F : Nat) (k10 : Int32 → Int32 → Option (Int32 × Mem)) (κ : Mem) (v2 : Int32) (y0 : Int32) (y1 : Int32) : Option (Int32 × Mem) := nm (y1 + y0) fun x4 => k10 x4 (v2 + 1)
def pX11_sure_41 (F : Nat) (k10 : Int32 → Int32 → Option (Int32 × Mem)) (κ : Mem) (v2 : Int32) (y0 : Int32) : Option (Int32 × Mem) := pX11_sure_42 F k10 κ v2 0 y0
def pX11_sure_10 (F : Nat) (κ : Mem) : Nat → Int32 → Int32 → Option (Int32 × Mem)
  | 0, _, _ => none
  | fu + 1, v1, v2 => (pX11_all κ).bind fun t2 => if v2 ≤ t2 then (pX11_twelfths F κ v2).bind fun t3 => if t3 < 12 then pX11_sure_41 F (pX11_sure_10 F κ fu) κ v2 v1 else (pX11_isClique F κ v2).bind fun t5 => if t5 = 0 then pX11_sure_41 F (pX11_sure_10 F κ fu) κ v2 v1 else pX11_sure_42 F (pX11_sure_10 F κ fu) κ v2 1 v1 else some (v1, κ)
def pX11_sure (F : Nat) (κ : Mem) : Option (Int32 × Mem) := (pX11_is κ 0).bind fun t1 => pX11_sure_10 F t1.2 F 0 1
def pX11_laysLone_82 (F : Nat) (k28 : Mem → Int32 → Option Mem) (κ : Mem) (v1 : Int32) (v2 : Int32) : Option Mem := k28 κ (v2 + 1)
def pX11_laysLone_28 (F : Nat) (v1 : Int32) : Nat → Mem → Int32 → Option Mem
  | 0, _, _ => none
  | fu + 1, κ, v2 => (pX11_colourings_ F κ).bind fun t3 => if v2 < t3 then ckI v2 4096 (if ((mi κ 6 v2.toNatClampNeg) &&& ((1 <<< (v1 &&& 31)) ^^^ (-1))) = 0 then (pX11_lays F κ v2).bind fun t4 => (pX11_situationOf F t4 v1).bind fun t5 => ckI v1 6 (nm ((4 * t5) + (mi t4 5 v1.toNatClampNeg)) fun x6 => ckI x6 4096 (ckI x6 4096 (nm (setI t4 8 x6.toNatClampNeg ((mi t4 8 x6.toNatClampNeg) + 1)) fun κ7 => pX11_laysLone_82 F (pX11_laysLone_28 F v1 fu) κ7 v1 v2))) else pX11_laysLone_82 F (pX11_laysLone_28 F v1 fu) κ v1 v2) else some κ
def pX11_laysLone_2 (F : Nat) (v1 : Int32) : Nat → Mem → Int32 → Option Mem
  | 0, _, _ => none
  | fu + 1, κ, v2 => if v2 < 4096 then ckI v2 4096 (nm (setI κ 8 v2.toNatClampNeg 0) fun κ1 => (pX11_laysLone_2 F v1 fu) κ1 (v2 + 1)) else (pX11_laysRight F κ).bind fun t2 => pX11_laysLone_28 F v1 F t2 0
def pX11_laysLone (F : Nat) (κ : Mem) (v1 : Int32) : Option Mem := pX11_laysLone_2 F v1 F κ 0
def pX11_bestIn_45 (F : Nat) (κ : Mem) (k5 : Int32 → Int32 → Option Int32) (v1 : Int32) (v2 : Int32) (v4 : Int32) (y0 : Int32) : Option Int32 := k5 y0 (v4 + 1)
def pX11_bestIn_5 (F : Nat) (κ : Mem) (v1 : Int32) (v2 : Int32) : Nat → Int32 → Int32 → Option Int32
  | 0, _, _ => none
  | fu + 1, v3, v4 => (pX11_hats κ v1).bind fun t1 => if v4 < t1 then ckI ((4 * v2) + v4) 4096 (ckI ((4 * v2) + v3) 4096 (if (mi κ 8 ((4 * v2) + v4).toNatClampNeg) ≤ (mi κ 8 ((4 * v2) + v3).toNatClampNeg) then pX11_bestIn_45 F κ (pX11_bestIn_5 F κ v1 v2 fu) v1 v2 v4 v3 else pX11_bestIn_45 F κ (pX11_bestIn_5 F κ v1 v2 fu) v1 v2 v4 v4)) else some v3
def pX11_bestIn (F : Nat) (κ : Mem) (v1 : Int32) (v2 : Int32) : Option Int32 := pX11_bestIn_5 F κ v1 v2 F 0 1
def pX11_lostWithBest_58 (F : Nat) (k21 : Int32 → Int32 → Option (Int32 × Mem)) (κ : Mem) (v1 : Int32) (v3 : Int32) (v4 : Int32) (y0 : Int32) (y1 : Int32) : Option (Int32 × Mem) := nm (y1 + y0) fun x5 => k21 x5 (v4 + 1)
def pX11_lostWithBest_21 (F : Nat) (k9 : Int32 → Int32 → Option (Int32 × Mem)) (κ : Mem) (v1 : Int32) (v3 : Int32) : Nat → Int32 → Int32 → Option (Int32 × Mem)
  | 0, _, _ => none
  | fu + 1, v2, v4 => (pX11_hats κ v1).bind fun t3 => if v4 < t3 then (pX11_bestIn F κ v1 v3).bind fun t4 => if v4 = t4 then pX11_lostWithBest_58 F (pX11_lostWithBest_21 F k9 κ v1 v3 fu) κ v1 v3 v4 0 v2 else ckI ((4 * v3) + v4) 4096 (pX11_lostWithBest_58 F (pX11_lostWithBest_21 F k9 κ v1 v3 fu) κ v1 v3 v4 (mi κ 8 ((4 * v3) + v4).toNatClampNeg) v2) else k9 v2 (v3 + 1)
def pX11_lostWithBest_9 (F : Nat) (κ : Mem) (v1 : Int32) : Nat → Int32 → Int32 → Option (Int32 × Mem)
  | 0, _, _ => none
  | fu + 1, v2, v3 => (pX11_situations_ F κ v1).bind fun t2 => if v3 < t2 then pX11_lostWithBest_21 F (pX11_lostWithBest_9 F κ v1 fu) κ v1 v3 F v2 0 else some (v2, κ)
def pX11_lostWithBest (F : Nat) (κ : Mem) (v1 : Int32) : Option (Int32 × Mem) := (pX11_laysLone F κ v1).bind fun t1 => pX11_lostWithBest_9 F t1 v1 F 0 0
def pX11_best_29 (F : Nat) (κ : Mem) (y0 : Int32) : Option (Int32 × Mem) := some (y0, κ)
def pX11_best_14 (F : Nat) (κ : Mem) (v1 : Int32) (y0 : Int32) : Option (Int32 × Mem) := (pX11_is κ y0).bind fun t2 => if t2.1 = 0 then pX11_best_29 F t2.2 (-1) else (pX11_lostWithBest F t2.2 v1).bind fun t3 => pX11_best_29 F t3.2 t3.1
def pX11_best (F : Nat) (κ : Mem) (v1 : Int32) : Option (Int32 × Mem) := (pX11_isPlayer κ v1).bind fun t1 => if t1 = 0 then pX11_best_14 F κ v1 2 else pX11_best_14 F κ v1 0
def pX11_bestAt_15 (F : Nat) (κ : Mem) (v1 : Int32) (v2 : Int32) (y0 : Int32) : Option (Int32 × Mem) := (pX11_is κ y0).bind fun t2 => if t2.1 = 0 then some ((-1), t2.2) else (pX11_laysLone F t2.2 v1).bind fun t3 => (pX11_bestIn F t3 v1 v2).bind fun t4 => some (t4, t3)
def pX11_bestAt (F : Nat) (κ : Mem) (v1 : Int32) (v2 : Int32) : Option (Int32 × Mem) := (pX11_isSituation F κ v1 v2).bind fun t1 => if t1 = 0 then pX11_bestAt_15 F κ v1 v2 2 else pX11_bestAt_15 F κ v1 v2 0
def pX11_bettered_58 (F : Nat) (k29 : Mem → Int32 → Int32 → Int32 → Option (Int32 × Mem)) (κ : Mem) (v1 : Int32) (v2 : Int32) (v3 : Int32) : Option (Int32 × Mem) := k29 κ v1 v2 (v3 + 1)
def pX11_bettered_29 (F : Nat) : Nat → Mem → Int32 → Int32 → Int32 → Option (Int32 × Mem)
  | 0, _, _, _, _ => none
  | fu + 1, κ, v1, v2, v3 => (pX11_players κ).bind fun t3 => if v3 < t3 then (pX11_lostWithBest F κ v3).bind fun t4 => if t4.1 < v2 then pX11_bettered_58 F (pX11_bettered_29 F fu) t4.2 v3 t4.1 v3 else pX11_bettered_58 F (pX11_bettered_29 F fu) t4.2 v1 v2 v3 else some (v1, κ)
def pX11_bettered_13 (F : Nat) (κ : Mem) (y0 : Int32) : Option (Int32 × Mem) := (pX11_is κ y0).bind fun t2 => if t2.1 = 0 then some ((-1), t2.2) else pX11_bettered_29 F F t2.2 0 4097 0
def pX11_bettered (F : Nat) (κ : Mem) : Option (Int32 × Mem) := (pX11_players κ).bind fun t1 => if t1 = 0 then pX11_bettered_13 F κ 5 else pX11_bettered_13 F κ 0
def pX11_takes_43 (F : Nat) (k9 : Mem → Int32 → Int32 → Option (Int32 × Mem)) (κ : Mem) (v1 : Int32) (v3 : Int32) (v4 : Int32) (y0 : Int32) (y1 : Int32) : Option (Int32 × Mem) := nm (y1 + y0) fun x5 => (pX11_enters κ v1 v3 v4).bind fun t6 => k9 t6 x5 (v3 + 1)
def pX11_takes_9 (F : Nat) (v1 : Int32) : Nat → Mem → Int32 → Int32 → Option (Int32 × Mem)
  | 0, _, _, _ => none
  | fu + 1, κ, v2, v3 => (pX11_situations_ F κ v1).bind fun t2 => if v3 < t2 then (pX11_bestIn F κ v1 v3).bind fun t3 => (pX11_entry κ v1 v3).bind fun t4 => if t3 = t4 then pX11_takes_43 F (pX11_takes_9 F v1 fu) κ v1 v3 t3 0 v2 else pX11_takes_43 F (pX11_takes_9 F v1 fu) κ v1 v3 t3 1 v2 else some (v2, κ)
def pX11_takes (F : Nat) (κ : Mem) (v1 : Int32) : Option (Int32 × Mem) := (pX11_laysLone F κ v1).bind fun t1 => pX11_takes_9 F v1 F t1 0 0
def pX11_betters_60 (F : Nat) (k6 : Mem → Int32 → Int32 → Int32 → Option (Int32 × Mem)) (κ : Mem) (v1 : Int32) (v2 : Int32) (y0 : Int32) : Option (Int32 × Mem) := k6 κ v1 v2 y0
def pX11_betters_43 (F : Nat) (k6 : Mem → Int32 → Int32 → Int32 → Option (Int32 × Mem)) (κ : Mem) (v1 : Int32) (v2 : Int32) (v3 : Int32) : Option (Int32 × Mem) := (pX11_players κ).bind fun t5 => if (v3 + 1) = t5 then pX11_betters_60 F k6 κ v1 v2 0 else pX11_betters_60 F k6 κ v1 v2 (v3 + 1)
def pX11_betters_6 (F : Nat) : Nat → Mem → Int32 → Int32 → Int32 → Option (Int32 × Mem)
  | 0, _, _, _, _ => none
  | fu + 1, κ, v1, v2, v3 => (pX11_players κ).bind fun t1 => if v2 < t1 then (pX11_lostWithBest F κ v3).bind fun t2 => (pX11_lostNow F t2.2).bind fun t3 => if t2.1 < t3.1 then (pX11_takes F t3.2 v3).bind fun t4 => pX11_betters_43 F (pX11_betters_6 F fu) t4.2 (v1 + 1) 0 v3 else pX11_betters_43 F (pX11_betters_6 F fu) t3.2 v1 (v2 + 1) v3 else some (v1, κ)
def pX11_betters (F : Nat) (κ : Mem) : Option (Int32 × Mem) := pX11_betters_6 F F κ 0 0 0
def pX11_waysMany_15 (F : Nat) (κ : Mem) (k4 : Int64 → Int32 → Option Int32) (v3 : Int32) : Nat → Int64 → Int32 → Option Int32
  | 0, _, _ => none
  | fu + 1, v1, v4 => (pX11_situations_ F κ v3).bind fun t2 => if v4 < t2 then (pX11_hats κ v3).bind fun t3 => nm (v1 * t3.toInt64) fun x4 => if (lg_cmp x4 20000) ≤ 0 then (pX11_waysMany_15 F κ k4 v3 fu) x4 (v4 + 1) else some (-1) else k4 v1 (v3 + 1)
def pX11_waysMany_4 (F : Nat) (κ : Mem) : Nat → Int64 → Int32 → Option Int32
  | 0, _, _ => none
  | fu + 1, v1, v3 => (pX11_players κ).bind fun t1 => if v3 < t1 then pX11_waysMany_15 F κ (pX11_waysMany_4 F κ fu) v3 F v1 0 else some v1.toInt32
def pX11_waysMany (F : Nat) (κ : Mem) : Option Int32 := pX11_waysMany_4 F κ F 1 0
def pX11_copies_2 (F : Nat) (r1 : Nat) (r2 : Nat) : Nat → Mem → Int32 → Option Mem
  | 0, _, _ => none
  | fu + 1, κ, v3 => if v3 < 6157 then ckI v3 (lenM r1) (ckI v3 (lenM r2) (nm (setI κ r2 v3.toNatClampNeg (mi κ r1 v3.toNatClampNeg)) fun κ1 => (pX11_copies_2 F r1 r2 fu) κ1 (v3 + 1))) else some κ
def pX11_copies (F : Nat) (r1 : Nat) (r2 : Nat) (κ : Mem) : Option Mem := pX11_copies_2 F r1 r2 F κ 0
def pX11_nextWay_12 (F : Nat) (k2 : Mem → Int32 → Option (Int32 × Mem)) (v1 : Int32) : Nat → Mem → Int32 → Option (Int32 × Mem)
  | 0, _, _ => none
  | fu + 1, κ, v2 => (pX11_situations_ F κ v1).bind fun t2 => if v2 < t2 then (pX11_entry κ v1 v2).bind fun t3 => (pX11_hats κ v1).bind fun t4 => if (t3 + 1) < t4 then (pX11_entry κ v1 v2).bind fun t5 => (pX11_enters κ v1 v2 (t5 + 1)).bind fun t6 => some (1, t6) else (pX11_enters κ v1 v2 0).bind fun t7 => (pX11_nextWay_12 F k2 v1 fu) t7 (v2 + 1) else k2 κ (v1 + 1)
def pX11_nextWay_2 (F : Nat) : Nat → Mem → Int32 → Option (Int32 × Mem)
  | 0, _, _ => none
  | fu + 1, κ, v1 => (pX11_players κ).bind fun t1 => if v1 < t1 then pX11_nextWay_12 F (pX11_nextWay_2 F fu) v1 F κ 0 else some (0, κ)
def pX11_nextWay (F : Nat) (κ : Mem) : Option (Int32 × Mem) := pX11_nextWay_2 F F κ 0
def pX11_ways_178 (F : Nat) (κ : Mem) (y0 : Int32) : Option (Int32 × Mem) := some (y0, κ)
def pX11_ways_139 (F : Nat) (k95 : Mem → Int32 → Option (Int32 × Mem)) (κ : Mem) (v1 : Int32) (y0 : Int32) : Option (Int32 × Mem) := nm (setI κ 0 12 y0) fun κ11 => (pX11_nextWay F κ11).bind fun t12 => k95 t12.2 t12.1
def pX11_ways_118 (F : Nat) (k95 : Mem → Int32 → Option (Int32 × Mem)) (κ : Mem) (v1 : Int32) (v3 : Int32) (y0 : Int32) (y1 : Int32) : Option (Int32 × Mem) := nm (setI κ 0 11 (y1 + y0)) fun κ10 => if v3 < (mi κ10 0 12) then pX11_ways_139 F k95 κ10 v1 v3 else pX11_ways_139 F k95 κ10 v1 (mi κ10 0 12)
def pX11_ways_95 (F : Nat) (v1 : Int32) : Nat → Mem → Int32 → Option (Int32 × Mem)
  | 0, _, _ => none
  | fu + 1, κ, v2 => if v2 = 0 then (pX11_copies F 4 1 κ).bind fun t8 => if v1 = 1 then pX11_ways_178 F t8 (mi t8 0 11) else pX11_ways_178 F t8 (mi t8 0 12) else (pX11_lostNow F κ).bind fun t9 => if t9.1 = 0 then pX11_ways_118 F (pX11_ways_95 F v1 fu) t9.2 v1 t9.1 1 (mi t9.2 0 11) else pX11_ways_118 F (pX11_ways_95 F v1 fu) t9.2 v1 t9.1 0 (mi t9.2 0 11)
def pX11_ways_61 (F : Nat) (v1 : Int32) : Nat → Mem → Int32 → Option (Int32 × Mem)
  | 0, _, _ => none
  | fu + 1, κ, v2 => if v2 < 6157 then ckI v2 6157 (nm (setI κ 1 v2.toNatClampNeg 0) fun κ5 => (pX11_ways_61 F v1 fu) κ5 (v2 + 1)) else nm (setI κ 0 11 0) fun κ6 => nm (setI κ6 0 12 4096) fun κ7 => pX11_ways_95 F v1 F κ7 1
def pX11_ways_29 (F : Nat) (κ : Mem) (v1 : Int32) (y0 : Int32) : Option (Int32 × Mem) := (pX11_is κ y0).bind fun t2 => if t2.1 = 0 then some ((-1), t2.2) else if v1 = 0 then (pX11_waysMany F t2.2).bind fun t3 => some (t3, t2.2) else (pX11_copies F 1 4 t2.2).bind fun t4 => pX11_ways_61 F v1 F t4 13
def pX11_ways (F : Nat) (κ : Mem) (v1 : Int32) : Option (Int32 × Mem) := (pX11_isIn κ v1.toInt64 0 2).bind fun t1 => if t1 = 0 then pX11_ways_29 F κ v1 1 else (pX11_waysMany F κ).bind fun t13 => if t13 < 0 then pX11_ways_29 F κ v1 3 else pX11_ways_29 F κ v1 0
def pX11_draws_18 (F : Nat) (k6 : Mem → Int64 → Int32 → Option Mem) (v4 : Int32) : Nat → Mem → Int64 → Int32 → Option Mem
  | 0, _, _, _ => none
  | fu + 1, κ, v2, v5 => (pX11_situations_ F κ v4).bind fun t3 => if v5 < t3 then nm ((v2 * 6364136223846793005) + 1442695040888963407) fun x4 => (pX11_hats κ v4).bind fun t5 => ckZL t5.toInt64 ((pX11_enters κ v4 v5 (((x4.toUInt64 >>> ((33 : Int32).toInt64.toUInt64 &&& Int64.toUInt64 63)).toInt64 - (x4.toUInt64 >>> ((33 : Int32).toInt64.toUInt64 &&& Int64.toUInt64 63)).toInt64 / t5.toInt64 * t5.toInt64).toInt32)).bind fun t6 => (pX11_draws_18 F k6 v4 fu) t6 x4 (v5 + 1)) else k6 κ v2 (v4 + 1)
def pX11_draws_6 (F : Nat) : Nat → Mem → Int64 → Int32 → Option Mem
  | 0, _, _, _ => none
  | fu + 1, κ, v2, v4 => (pX11_players κ).bind fun t2 => if v4 < t2 then pX11_draws_18 F (pX11_draws_6 F fu) v4 F κ v2 0 else some κ
def pX11_draws (F : Nat) (κ : Mem) (v1 : Int32) : Option Mem := nm v1.toInt64 fun x1 => pX11_draws_6 F F κ x1 0
def pX11_search_139 (F : Nat) (k94 : Mem → Int32 → Int32 → Int32 → Option (Int32 × Mem)) (κ : Mem) (v1 : Int32) (v2 : Int32) (v3 : Int32) (v5 : Int32) (v6 : Int32) (v7 : Int32) : Option (Int32 × Mem) := k94 κ v5 v6 (v7 + 1)
def pX11_search_168 (F : Nat) (κ : Mem) (y0 : Int32) : Option (Int32 × Mem) := some (y0, κ)
def pX11_search_94 (F : Nat) (v1 : Int32) (v2 : Int32) (v3 : Int32) : Nat → Mem → Int32 → Int32 → Int32 → Option (Int32 × Mem)
  | 0, _, _, _, _ => none
  | fu + 1, κ, v5, v6, v7 => if v7 < v2 then (pX11_draws F κ (v1 + v7)).bind fun t4 => (pX11_betters F t4).bind fun t5 => (pX11_lostNow F t5.2).bind fun t6 => if t6.1 < v6 then nm (v1 + v7) fun x7 => pX11_search_139 F (pX11_search_94 F v1 v2 v3 fu) t6.2 v1 v2 v3 x7 t6.1 v7 else pX11_search_139 F (pX11_search_94 F v1 v2 v3 fu) t6.2 v1 v2 v3 v5 v6 v7 else (pX11_copies F 4 1 κ).bind fun t8 => if v3 = 0 then pX11_search_168 F t8 v6 else pX11_search_168 F t8 v5
def pX11_search_63 (F : Nat) (κ : Mem) (v1 : Int32) (v2 : Int32) (v3 : Int32) (y0 : Int32) : Option (Int32 × Mem) := (pX11_is κ y0).bind fun t2 => if t2.1 = 0 then some ((-1), t2.2) else (pX11_copies F 1 4 t2.2).bind fun t3 => pX11_search_94 F v1 v2 v3 F t3 (-1) 4097 0
def pX11_search_39 (F : Nat) (κ : Mem) (v1 : Int32) (v2 : Int32) (v3 : Int32) (y0 : Int32) : Option (Int32 × Mem) := if y0 = 0 then pX11_search_63 F κ v1 v2 v3 1 else (pX11_players κ).bind fun t9 => if t9 = 0 then pX11_search_63 F κ v1 v2 v3 5 else pX11_search_63 F κ v1 v2 v3 0
def pX11_search_38 (F : Nat) (κ : Mem) (v1 : Int32) (v2 : Int32) (v3 : Int32) : Option (Int32 × Mem) := pX11_search_39 F κ v1 v2 v3 0
def pX11_search (F : Nat) (κ : Mem) (v1 : Int32) (v2 : Int32) (v3 : Int32) : Option (Int32 × Mem) := (pX11_isIn κ v1.toInt64 0 999999999).bind fun t1 => if t1 = 0 then pX11_search_38 F κ v1 v2 v3 else (pX11_isIn κ v2.toInt64 1 10).bind fun t10 => if t10 = 0 then pX11_search_38 F κ v1 v2 v3 else (pX11_isIn κ v3.toInt64 0 1).bind fun t11 => if t11 = 0 then pX11_search_38 F κ v1 v2 v3 else pX11_search_39 F κ v1 v2 v3 1
def pX11_isRenumbering_32 (F : Nat) (κ : Mem) (k2 : Int32 → Option Int32) (v1 : Int32) : Nat → Int32 → Option Int32
  | 0, _ => none
  | fu + 1, v2 => (pX11_players κ).bind fun t4 => if v2 < t4 then (pX11_sees κ v1 v2).bind fun t5 => ckI v1 6 (ckI v2 6 ((pX11_sees κ (mi κ 9 v1.toNatClampNeg) (mi κ 9 v2.toNatClampNeg)).bind fun t6 => if t5 = t6 then (pX11_isRenumbering_32 F κ k2 v1 fu) (v2 + 1) else some 0)) else k2 (v1 + 1)
def pX11_isRenumbering_2 (F : Nat) (κ : Mem) : Nat → Int32 → Option Int32
  | 0, _ => none
  | fu + 1, v1 => (pX11_players κ).bind fun t1 => if v1 < t1 then (pX11_hats κ v1).bind fun t2 => ckI v1 6 ((pX11_hats κ (mi κ 9 v1.toNatClampNeg)).bind fun t3 => if t2 = t3 then pX11_isRenumbering_32 F κ (pX11_isRenumbering_2 F κ fu) v1 F 0 else some 0) else some 1
def pX11_isRenumbering (F : Nat) (κ : Mem) : Option Int32 := pX11_isRenumbering_2 F κ F 0
def pX11_isKeeping_110 (F : Nat) (k2 : Mem → Int32 → Option (Int32 × Mem)) (κ : Mem) (v1 : Int32) : Nat → Int32 → Option (Int32 × Mem)
  | 0, _ => none
  | fu + 1, v2 => (pX11_players κ).bind fun t11 => if v2 < t11 then ckI v2 6 (ckI v2 6 ((pX11_situationOf F κ (mi κ 9 v2.toNatClampNeg)).bind fun t12 => (pX11_entry κ (mi κ 9 v2.toNatClampNeg) t12).bind fun t13 => ckI v2 6 (if t13 = (mi κ 7 v2.toNatClampNeg) then (pX11_isKeeping_110 F k2 κ v1 fu) (v2 + 1) else some (0, κ)))) else k2 κ (v1 + 1)
def pX11_isKeeping_82 (F : Nat) (k2 : Mem → Int32 → Option (Int32 × Mem)) (v1 : Int32) : Nat → Mem → Int32 → Option (Int32 × Mem)
  | 0, _, _ => none
  | fu + 1, κ, v2 => (pX11_players κ).bind fun t9 => if v2 < t9 then ckI v2 6 (ckI v2 6 (nm (setI κ 5 v2.toNatClampNeg (mi κ 10 v2.toNatClampNeg)) fun κ10 => (pX11_isKeeping_82 F k2 v1 fu) κ10 (v2 + 1))) else pX11_isKeeping_110 F k2 κ v1 F 0
def pX11_isKeeping_49 (F : Nat) (k2 : Mem → Int32 → Option (Int32 × Mem)) (v1 : Int32) : Nat → Mem → Int32 → Option (Int32 × Mem)
  | 0, _, _ => none
  | fu + 1, κ, v2 => (pX11_players κ).bind fun t7 => if v2 < t7 then ckI v2 6 (ckI v2 6 (ckI (mi κ 9 v2.toNatClampNeg) 6 (nm (setI κ 10 (mi κ 9 v2.toNatClampNeg).toNatClampNeg (mi κ 5 v2.toNatClampNeg)) fun κ8 => (pX11_isKeeping_49 F k2 v1 fu) κ8 (v2 + 1)))) else pX11_isKeeping_82 F k2 v1 F κ 0
def pX11_isKeeping_17 (F : Nat) (k2 : Mem → Int32 → Option (Int32 × Mem)) (v1 : Int32) : Nat → Mem → Int32 → Option (Int32 × Mem)
  | 0, _, _ => none
  | fu + 1, κ, v2 => (pX11_players κ).bind fun t3 => if v2 < t3 then (pX11_situationOf F κ v2).bind fun t4 => (pX11_entry κ v2 t4).bind fun t5 => ckI v2 6 (nm (setI κ 7 v2.toNatClampNeg t5) fun κ6 => (pX11_isKeeping_17 F k2 v1 fu) κ6 (v2 + 1)) else pX11_isKeeping_49 F k2 v1 F κ 0
def pX11_isKeeping_2 (F : Nat) : Nat → Mem → Int32 → Option (Int32 × Mem)
  | 0, _, _ => none
  | fu + 1, κ, v1 => (pX11_colourings_ F κ).bind fun t1 => if v1 < t1 then (pX11_lays F κ v1).bind fun t2 => pX11_isKeeping_17 F (pX11_isKeeping_2 F fu) v1 F t2 0 else some (1, κ)
def pX11_isKeeping (F : Nat) (κ : Mem) : Option (Int32 × Mem) := pX11_isKeeping_2 F F κ 0
def pX11_renumbers_43 (F : Nat) (rec : Mem → Int32 → Int32 → Option Mem) (κ : Mem) (y0 : Int32) (y1 : Int32) : Option Mem := nm (setI κ 0 15 (y1 + y0)) fun κ5 => some κ5
def pX11_renumbers_88 (F : Nat) (rec : Mem → Int32 → Int32 → Option Mem) (k50 : Mem → Int32 → Option Mem) (κ : Mem) (v1 : Int32) (v2 : Int32) (v3 : Int32) : Option Mem := k50 κ (v3 + 1)
def pX11_renumbers_50 (F : Nat) (rec : Mem → Int32 → Int32 → Option Mem) (v1 : Int32) (v2 : Int32) : Nat → Mem → Int32 → Option Mem
  | 0, _, _ => none
  | fu + 1, κ, v3 => (pX11_players κ).bind fun t6 => if v3 < t6 then (pX11_has κ v2 v3).bind fun t7 => if t7 = 0 then ckI v1 6 (nm (setI κ 9 v1.toNatClampNeg v3) fun κ8 => (rec κ8 (v1 + 1) (v2 ||| (1 <<< (v3 &&& 31)))).bind fun t9 => pX11_renumbers_88 F rec (pX11_renumbers_50 F rec v1 v2 fu) t9 v1 v2 v3) else pX11_renumbers_88 F rec (pX11_renumbers_50 F rec v1 v2 fu) κ v1 v2 v3 else some κ
def pX11_renumbers_b (F : Nat) (rec : Mem → Int32 → Int32 → Option Mem) (κ : Mem) (v1 : Int32) (v2 : Int32) : Option Mem := (pX11_players κ).bind fun t1 => if v1 = t1 then (pX11_isRenumbering F κ).bind fun t2 => if t2 = 0 then some κ else nm (setI κ 0 14 ((mi κ 0 14) + 1)) fun κ3 => (pX11_isKeeping F κ3).bind fun t4 => if t4.1 = 0 then pX11_renumbers_43 F rec t4.2 0 (mi κ3 0 15) else pX11_renumbers_43 F rec t4.2 1 (mi κ3 0 15) else pX11_renumbers_50 F rec v1 v2 F κ 0
def pX11_renumbers (F : Nat) : Nat → Mem → Int32 → Int32 → Option Mem
  | 0, _, _, _ => none
  | d + 1, κ, a, b => pX11_renumbers_b F (pX11_renumbers F d) κ a b
def pX11_renumber_55 (F : Nat) (κ : Mem) (y0 : Int32) : Option (Int32 × Mem) := some (y0, κ)
def pX11_renumber_16 (F : Nat) (κ : Mem) (v1 : Int32) (y0 : Int32) : Option (Int32 × Mem) := (pX11_is κ y0).bind fun t2 => if t2.1 = 0 then some ((-1), t2.2) else nm (setI t2.2 0 14 0) fun κ3 => nm (setI κ3 0 15 0) fun κ4 => (pX11_renumbers F 8 κ4 0 0).bind fun t5 => if v1 = 0 then pX11_renumber_55 F t5 (mi t5 0 14) else pX11_renumber_55 F t5 (mi t5 0 15)
def pX11_renumber (F : Nat) (κ : Mem) (v1 : Int32) : Option (Int32 × Mem) := (pX11_isIn κ v1.toInt64 0 1).bind fun t1 => if t1 = 0 then pX11_renumber_16 F κ v1 1 else pX11_renumber_16 F κ v1 0
def pX11_alike_49 (F : Nat) (k17 : Mem → Int32 → Option (Int32 × Mem)) (κ : Mem) (v1 : Int32) (v2 : Int32) (v3 : Int32) (y0 : Int32) (y1 : Int32) : Option (Int32 × Mem) := ckI y1 6 (nm (setI κ 9 y1.toNatClampNeg y0) fun κ4 => k17 κ4 (v3 + 1))
def pX11_alike_75 (F : Nat) (κ : Mem) (y0 : Int32) : Option (Int32 × Mem) := some (y0, κ)
def pX11_alike_74 (F : Nat) (κ : Mem) : Option (Int32 × Mem) := pX11_alike_75 F κ 0
def pX11_alike_17 (F : Nat) (v1 : Int32) (v2 : Int32) : Nat → Mem → Int32 → Option (Int32 × Mem)
  | 0, _, _ => none
  | fu + 1, κ, v3 => (pX11_players κ).bind fun t3 => if v3 < t3 then if v3 = v1 then pX11_alike_49 F (pX11_alike_17 F v1 v2 fu) κ v1 v2 v3 v2 v3 else if v3 = v2 then pX11_alike_49 F (pX11_alike_17 F v1 v2 fu) κ v1 v2 v3 v1 v3 else pX11_alike_49 F (pX11_alike_17 F v1 v2 fu) κ v1 v2 v3 v3 v3 else (pX11_isRenumbering F κ).bind fun t5 => if t5 = 0 then pX11_alike_74 F κ else (pX11_isKeeping F κ).bind fun t6 => if t6.1 = 0 then pX11_alike_74 F t6.2 else pX11_alike_75 F t6.2 1
def pX11_alike (F : Nat) (κ : Mem) (v1 : Int32) (v2 : Int32) : Option (Int32 × Mem) := (pX11_whyPair κ v1 v2).bind fun t1 => (pX11_is κ t1).bind fun t2 => if t2.1 = 0 then some ((-1), t2.2) else pX11_alike_17 F v1 v2 F t2.2 0
def pX11_far_95 (F : Nat) (k61 : Int32 → Int32 → Option (Int32 × Mem)) (κ : Mem) (v2 : Int32) (v3 : Int32) (v4 : Int32) (v6 : Int32) (y0 : Int32) (y1 : Int32) : Option (Int32 × Mem) := nm (y1 ||| y0) fun x7 => k61 x7 (v6 + 1)
def pX11_far_61 (F : Nat) (k37 : Int32 → Int32 → Option (Int32 × Mem)) (κ : Mem) (v2 : Int32) (v3 : Int32) (v4 : Int32) : Nat → Int32 → Int32 → Option (Int32 × Mem)
  | 0, _, _ => none
  | fu + 1, v5, v6 => (pX11_players κ).bind fun t5 => if v6 < t5 then (pX11_has κ v3 v6).bind fun t6 => if t6 = 0 then pX11_far_95 F (pX11_far_61 F k37 κ v2 v3 v4 fu) κ v2 v3 v4 v6 0 v5 else ckI (7 + v6) 6157 (pX11_far_95 F (pX11_far_61 F k37 κ v2 v3 v4 fu) κ v2 v3 v4 v6 (mi κ 1 (7 + v6).toNatClampNeg) v5) else k37 v5 (v4 + 1)
def pX11_far_37 (F : Nat) (κ : Mem) (v2 : Int32) : Nat → Int32 → Int32 → Option (Int32 × Mem)
  | 0, _, _ => none
  | fu + 1, v3, v4 => if v4 < 6 then (pX11_has κ v3 v2).bind fun t4 => if t4 = 0 then pX11_far_61 F (pX11_far_37 F κ v2 fu) κ v2 v3 v4 F v3 0 else some (v4, κ) else (pX11_refuse κ 5).bind fun t8 => some (t8.1, t8.2)
def pX11_far_22 (F : Nat) (κ : Mem) (v1 : Int32) (v2 : Int32) (y0 : Int32) : Option (Int32 × Mem) := (pX11_is κ y0).bind fun t2 => if t2.1 = 0 then some ((-1), t2.2) else nm (1 <<< (v1 &&& 31)) fun x3 => pX11_far_37 F t2.2 v2 F x3 0
def pX11_far_21 (F : Nat) (κ : Mem) (v1 : Int32) (v2 : Int32) : Option (Int32 × Mem) := pX11_far_22 F κ v1 v2 2
def pX11_far (F : Nat) (κ : Mem) (v1 : Int32) (v2 : Int32) : Option (Int32 × Mem) := (pX11_isPlayer κ v1).bind fun t1 => if t1 = 0 then pX11_far_21 F κ v1 v2 else (pX11_isPlayer κ v2).bind fun t9 => if t9 = 0 then pX11_far_21 F κ v1 v2 else pX11_far_22 F κ v1 v2 0
def pX11_along_81 (F : Nat) (κ : Mem) (k29 : Int32 → Int32 → Option Int32) (v2 : Int32) (v3 : Int32) (v4 : Int32) (v5 : Int32) (v6 : Int32) : Option Int32 := k29 v3 (v6 + 1)
def pX11_along_29 (F : Nat) (κ : Mem) (k17 : Int32 → Int32 → Option Int32) (v2 : Int32) (v4 : Int32) (v5 : Int32) : Nat → Int32 → Int32 → Option Int32
  | 0, _, _ => none
  | fu + 1, v3, v6 => (pX11_players κ).bind fun t3 => if v6 < t3 then (pX11_has κ v3 v5).bind fun t4 => if t4 = 0 then pX11_along_81 F κ (pX11_along_29 F κ k17 v2 v4 v5 fu) v2 v3 v4 v5 v6 else (pX11_has κ v2 v6).bind fun t5 => if t5 = 0 then pX11_along_81 F κ (pX11_along_29 F κ k17 v2 v4 v5 fu) v2 v3 v4 v5 v6 else if v5 = v6 then pX11_along_81 F κ (pX11_along_29 F κ k17 v2 v4 v5 fu) v2 v3 v4 v5 v6 else (pX11_isLink κ v5 v6).bind fun t6 => if t6 = 0 then pX11_along_81 F κ (pX11_along_29 F κ k17 v2 v4 v5 fu) v2 v3 v4 v5 v6 else nm (v3 ||| (1 <<< (v6 &&& 31))) fun x7 => pX11_along_81 F κ (pX11_along_29 F κ k17 v2 v4 v5 fu) v2 x7 v4 v5 v6 else k17 v3 (v5 + 1)
def pX11_along_17 (F : Nat) (κ : Mem) (k7 : Int32 → Int32 → Option Int32) (v2 : Int32) (v4 : Int32) : Nat → Int32 → Int32 → Option Int32
  | 0, _, _ => none
  | fu + 1, v3, v5 => (pX11_players κ).bind fun t2 => if v5 < t2 then pX11_along_29 F κ (pX11_along_17 F κ k7 v2 v4 fu) v2 v4 v5 F v3 0 else k7 v3 (v4 + 1)
def pX11_along_7 (F : Nat) (κ : Mem) (v2 : Int32) : Nat → Int32 → Int32 → Option Int32
  | 0, _, _ => none
  | fu + 1, v3, v4 => if v4 < 6 then pX11_along_17 F κ (pX11_along_7 F κ v2 fu) v2 v4 F v3 0 else some v3
def pX11_along (F : Nat) (κ : Mem) (v1 : Int32) (v2 : Int32) : Option Int32 := nm (1 <<< (v1 &&& 31)) fun x1 => pX11_along_7 F κ v2 F x1 0
def pX11_part_33 (F : Nat) (κ : Mem) (y0 : Int32) : Option (Int32 × Mem) := some (y0, κ)
def pX11_part_14 (F : Nat) (κ : Mem) (v1 : Int32) (y0 : Int32) : Option (Int32 × Mem) := (pX11_is κ y0).bind fun t2 => if t2.1 = 0 then pX11_part_33 F t2.2 (-1) else (pX11_all t2.2).bind fun t3 => (pX11_along F t2.2 v1 t3).bind fun t4 => pX11_part_33 F t2.2 t4
def pX11_part (F : Nat) (κ : Mem) (v1 : Int32) : Option (Int32 × Mem) := (pX11_isPlayer κ v1).bind fun t1 => if t1 = 0 then pX11_part_14 F κ v1 2 else pX11_part_14 F κ v1 0
def pX11_isRing_64 (F : Nat) (κ : Mem) (k28 : Int32 → Option Int32) (v1 : Int32) (v2 : Int32) (v3 : Int32) : Option Int32 := k28 (v3 + 1)
def pX11_isRing_85 (F : Nat) (κ : Mem) (y0 : Int32) : Option Int32 := ckP (isB y0) (some y0)
def pX11_isRing_28 (F : Nat) (κ : Mem) (v1 : Int32) (v2 : Int32) : Nat → Int32 → Option Int32
  | 0, _ => none
  | fu + 1, v3 => (pX11_players κ).bind fun t3 => if v3 < t3 then (pX11_has κ v1 v3).bind fun t4 => if t4 = 0 then pX11_isRing_64 F κ (pX11_isRing_28 F κ v1 v2 fu) v1 v2 v3 else ckI (7 + v3) 6157 ((pX11_ones F κ ((mi κ 1 (7 + v3).toNatClampNeg) &&& v1)).bind fun t5 => if t5 = 2 then pX11_isRing_64 F κ (pX11_isRing_28 F κ v1 v2 fu) v1 v2 v3 else some 0) else (pX11_along F κ v2 v1).bind fun t6 => if t6 = v1 then pX11_isRing_85 F κ 1 else pX11_isRing_85 F κ 0
def pX11_isRing_12 (F : Nat) (κ : Mem) (v1 : Int32) : Nat → Int32 → Option Int32
  | 0, _ => none
  | fu + 1, v2 => (pX11_has κ v1 v2).bind fun t2 => if t2 = 0 then (pX11_isRing_12 F κ v1 fu) (v2 + 1) else pX11_isRing_28 F κ v1 v2 F 0
def pX11_isRing (F : Nat) (κ : Mem) (v1 : Int32) : Option Int32 := (pX11_ones F κ v1).bind fun t1 => if t1 < 3 then some 0 else pX11_isRing_12 F κ v1 F 0
def pX11_hubOf_53 (F : Nat) (κ : Mem) (k11 : Int32 → Option Int32) (v1 : Int32) : Option Int32 := k11 (v1 + 1)
def pX11_hubOf_11 (F : Nat) (κ : Mem) : Nat → Int32 → Option Int32
  | 0, _ => none
  | fu + 1, v1 => (pX11_players κ).bind fun t2 => if v1 < t2 then (pX11_all κ).bind fun t3 => nm (t3 &&& ((1 <<< (v1 &&& 31)) ^^^ (-1))) fun x4 => ckI (7 + v1) 6157 (if (mi κ 1 (7 + v1).toNatClampNeg) = x4 then (pX11_isRing F κ x4).bind fun t5 => if t5 = 0 then pX11_hubOf_53 F κ (pX11_hubOf_11 F κ fu) v1 else some v1 else pX11_hubOf_53 F κ (pX11_hubOf_11 F κ fu) v1) else some (-1)
def pX11_hubOf (F : Nat) (κ : Mem) : Option Int32 := (pX11_isMutual F κ).bind fun t1 => if t1 = 0 then some (-1) else pX11_hubOf_11 F κ F 0
def pX11_isTree_34 (F : Nat) (κ : Mem) (y0 : Int32) : Option Int32 := ckP (isB y0) (some y0)
def pX11_isTree_33 (F : Nat) (κ : Mem) : Option Int32 := pX11_isTree_34 F κ 0
def pX11_isTree (F : Nat) (κ : Mem) : Option Int32 := (pX11_all κ).bind fun t1 => (pX11_along F κ 0 t1).bind fun t2 => (pX11_all κ).bind fun t3 => if t2 = t3 then (pX11_links F κ).bind fun t4 => (pX11_players κ).bind fun t5 => if t4 = (t5 - 1) then pX11_isTree_34 F κ 1 else pX11_isTree_33 F κ else pX11_isTree_33 F κ
def pX11_shape_89 (F : Nat) (κ : Mem) (y0 : Int32) : Option (Int32 × Mem) := some (y0, κ)
def pX11_shape_51 (F : Nat) (κ : Mem) : Option (Int32 × Mem) := (pX11_hubOf F κ).bind fun t5 => if t5 < 0 then (pX11_all κ).bind fun t6 => (pX11_isRing F κ t6).bind fun t7 => if t7 = 0 then (pX11_isTree F κ).bind fun t8 => if t8 = 0 then pX11_shape_89 F κ 0 else pX11_shape_89 F κ 1 else pX11_shape_89 F κ 2 else pX11_shape_89 F κ 3
def pX11_shape_13 (F : Nat) (κ : Mem) (y0 : Int32) : Option (Int32 × Mem) := (pX11_is κ y0).bind fun t2 => if t2.1 = 0 then some ((-1), t2.2) else (pX11_isMutual F t2.2).bind fun t3 => if t3 = 0 then some (0, t2.2) else (pX11_players t2.2).bind fun t4 => if t4 ≤ 3 then pX11_shape_51 F t2.2 else (pX11_all t2.2).bind fun t9 => (pX11_isClique F t2.2 t9).bind fun t10 => if t10 = 0 then pX11_shape_51 F t2.2 else some (4, t2.2)
def pX11_shape (F : Nat) (κ : Mem) : Option (Int32 × Mem) := (pX11_players κ).bind fun t1 => if t1 = 0 then pX11_shape_13 F κ 5 else pX11_shape_13 F κ 0
def pX11_hub_28 (F : Nat) (κ : Mem) (y0 : Int32) : Option (Int32 × Mem) := some (y0, κ)
def pX11_hub (F : Nat) (κ : Mem) : Option (Int32 × Mem) := (pX11_is κ 0).bind fun t1 => if t1.1 = 0 then some ((-1), t1.2) else (pX11_hubOf F t1.2).bind fun t2 => if t2 < 0 then (pX11_refuse t1.2 5).bind fun t3 => pX11_hub_28 F t3.2 t3.1 else pX11_hub_28 F t1.2 t2
def pX11_remembers_52 (F : Nat) : Nat → Mem → Int32 → Option Mem
  | 0, _, _ => none
  | fu + 1, κ, v1 => if v1 < 6157 then ckI v1 6157 (ckI ((6157 * (mi κ 0 6)) + v1) 36942 (nm (setI κ 3 ((6157 * (mi κ 0 6)) + v1).toNatClampNeg (mi κ 1 v1.toNatClampNeg)) fun κ3 => (pX11_remembers_52 F fu) κ3 (v1 + 1))) else nm (setI κ 0 6 ((mi κ 0 6) + 1)) fun κ4 => some κ4
def pX11_remembers_50 (F : Nat) (κ : Mem) : Option Mem := pX11_remembers_52 F F κ 0
def pX11_remembers_11 (F : Nat) : Nat → Mem → Int32 → Option Mem
  | 0, _, _ => none
  | fu + 1, κ, v1 => if v1 < 30785 then ckI (v1 + 6157) 36942 (ckI v1 36942 (nm (setI κ 3 v1.toNatClampNeg (mi κ 3 (v1 + 6157).toNatClampNeg)) fun κ1 => (pX11_remembers_11 F fu) κ1 (v1 + 1))) else nm (setI κ 0 6 ((mi κ 0 6) - 1)) fun κ2 => pX11_remembers_50 F κ2
def pX11_remembers (F : Nat) (κ : Mem) : Option Mem := if (mi κ 0 6) = 6 then pX11_remembers_11 F F κ 0 else pX11_remembers_50 F κ
def pX11_set_38 (F : Nat) (κ : Mem) (v1 : Int32) (v2 : Int32) (v3 : Int32) (y0 : Int32) : Option (Int32 × Mem) := (pX11_is κ y0).bind fun t2 => if t2.1 = 0 then some ((-1), t2.2) else (pX11_remembers F t2.2).bind fun t3 => (pX11_enters t3 v1 v2 v3).bind fun t4 => (pX11_lostNow F t4).bind fun t5 => some (t5.1, t5.2)
def pX11_set_19 (F : Nat) (κ : Mem) (v1 : Int32) (v2 : Int32) (v3 : Int32) : Option (Int32 × Mem) := pX11_set_38 F κ v1 v2 v3 2
def pX11_set (F : Nat) (κ : Mem) (v1 : Int32) (v2 : Int32) (v3 : Int32) : Option (Int32 × Mem) := (pX11_isSituation F κ v1 v2).bind fun t1 => if t1 = 0 then pX11_set_19 F κ v1 v2 v3 else (pX11_isColour κ v1 v3).bind fun t6 => if t6 = 0 then pX11_set_19 F κ v1 v2 v3 else (pX11_entry κ v1 v2).bind fun t7 => if t7 = v3 then pX11_set_38 F κ v1 v2 v3 4 else pX11_set_38 F κ v1 v2 v3 0
def pX11_isOther_2 (F : Nat) (κ : Mem) : Nat → Int32 → Option Int32
  | 0, _ => none
  | fu + 1, v1 => if v1 < 6157 then ckI v1 6157 (ckI v1 6157 (if (mi κ 1 v1.toNatClampNeg) = (mi κ 4 v1.toNatClampNeg) then (pX11_isOther_2 F κ fu) (v1 + 1) else some 1)) else some 0
def pX11_isOther (F : Nat) (κ : Mem) : Option Int32 := pX11_isOther_2 F κ F 0
def pX11_isAct (F : Nat) (κ : Mem) : Option Mem := (pX11_copies F 1 2 κ).bind fun t1 => (pX11_copies F 4 1 t1).bind fun t2 => (pX11_remembers F t2).bind fun t3 => (pX11_copies F 2 1 t3).bind fun t4 => some t4
def pX11_take_14 (F : Nat) (κ : Mem) (v1 : Int32) (y0 : Int32) : Option (Int32 × Mem) := (pX11_is κ y0).bind fun t2 => if t2.1 = 0 then some ((-1), t2.2) else (pX11_copies F 1 4 t2.2).bind fun t3 => (pX11_takes F t3 v1).bind fun t4 => if t4.1 = 0 then (pX11_refuse t4.2 4).bind fun t5 => some (t5.1, t5.2) else (pX11_isAct F t4.2).bind fun t6 => some (t4.1, t6)
def pX11_take (F : Nat) (κ : Mem) (v1 : Int32) : Option (Int32 × Mem) := (pX11_isPlayer κ v1).bind fun t1 => if t1 = 0 then pX11_take_14 F κ v1 2 else pX11_take_14 F κ v1 0
def pX11_better (F : Nat) (κ : Mem) : Option (Int32 × Mem) := (pX11_is κ 0).bind fun t1 => if t1.1 = 0 then some ((-1), t1.2) else (pX11_copies F 1 4 t1.2).bind fun t2 => (pX11_betters F t2).bind fun t3 => if t3.1 = 0 then (pX11_refuse t3.2 4).bind fun t4 => some (t4.1, t4.2) else (pX11_isAct F t3.2).bind fun t5 => some (t3.1, t5)
def pX11_cliqueGuess_52 (F : Nat) (κ : Mem) (k6 : Int32 → Int32 → Option Int32) (v1 : Int32) (v2 : Int32) (v3 : Int32) (v4 : Int32) (v6 : Int32) (y0 : Int32) (y1 : Int32) : Option Int32 := nm (y1 + y0) fun x3 => k6 x3 (v6 + 1)
def pX11_cliqueGuess_51 (F : Nat) (κ : Mem) (k6 : Int32 → Int32 → Option Int32) (v1 : Int32) (v2 : Int32) (v3 : Int32) (v4 : Int32) (v6 : Int32) (y0 : Int32) : Option Int32 := pX11_cliqueGuess_52 F κ k6 v1 v2 v3 v4 v6 0 y0
def pX11_cliqueGuess_73 (F : Nat) (κ : Mem) (v2 : Int32) (v3 : Int32) (v4 : Int32) (v5 : Int32) (v6 : Int32) : Nat → Int32 → Option Int32
  | 0, _ => none
  | fu + 1, v7 => (pX11_hats κ v2).bind fun t7 => if v7 < t7 then ckZ v3 (if ((((v5 + (v7 * v6)) - v4) + (v3 * 6)) - (((v5 + (v7 * v6)) - v4) + (v3 * 6)) / v3 * v3) < v6 then some v7 else (pX11_cliqueGuess_73 F κ v2 v3 v4 v5 v6 fu) (v7 + 1)) else some (-1)
def pX11_cliqueGuess_6 (F : Nat) (κ : Mem) (v1 : Int32) (v2 : Int32) (v3 : Int32) (v4 : Int32) : Nat → Int32 → Int32 → Option Int32
  | 0, _, _ => none
  | fu + 1, v5, v6 => (pX11_players κ).bind fun t1 => if v6 < t1 then (pX11_has κ v1 v6).bind fun t2 => if t2 = 0 then pX11_cliqueGuess_51 F κ (pX11_cliqueGuess_6 F κ v1 v2 v3 v4 fu) v1 v2 v3 v4 v6 v5 else if v6 = v2 then pX11_cliqueGuess_51 F κ (pX11_cliqueGuess_6 F κ v1 v2 v3 v4 fu) v1 v2 v3 v4 v6 v5 else ckI v6 6 ((pX11_hats κ v6).bind fun t4 => ckZ t4 (pX11_cliqueGuess_52 F κ (pX11_cliqueGuess_6 F κ v1 v2 v3 v4 fu) v1 v2 v3 v4 v6 ((mi κ 5 v6.toNatClampNeg) * (v3 / t4)) v5)) else (pX11_hats κ v2).bind fun t5 => ckZ t5 (nm (v3 / t5) fun x6 => pX11_cliqueGuess_73 F κ v2 v3 v4 v5 x6 F 0)
def pX11_cliqueGuess (F : Nat) (κ : Mem) (v1 : Int32) (v2 : Int32) (v3 : Int32) (v4 : Int32) : Option Int32 := pX11_cliqueGuess_6 F κ v1 v2 v3 v4 F 0 0
def pX11_build_88 (F : Nat) (k51 : Int32 → Int32 → Option (Int32 × Mem)) (κ : Mem) (v1 : Int32) (v3 : Int32) (y0 : Int32) : Option (Int32 × Mem) := k51 y0 (v3 + 1)
def pX11_build_179 (F : Nat) (k100 : Mem → Int32 → Int32 → Option (Int32 × Mem)) (κ : Mem) (v1 : Int32) (v2 : Int32) (v3 : Int32) (v4 : Int32) : Option (Int32 × Mem) := k100 κ v3 (v4 + 1)
def pX11_build_124 (F : Nat) (k100 : Mem → Int32 → Int32 → Option (Int32 × Mem)) (v1 : Int32) (v2 : Int32) (v3 : Int32) (v4 : Int32) : Nat → Mem → Int32 → Option (Int32 × Mem)
  | 0, _, _ => none
  | fu + 1, κ, v5 => (pX11_situations_ F κ v4).bind fun t11 => if v5 < t11 then (pX11_laysSeen F κ v4 v5).bind fun t12 => (pX11_cliqueGuess F t12 v1 v4 v2 v3).bind fun t13 => (pX11_enters t12 v4 v5 t13).bind fun t14 => (pX11_build_124 F k100 v1 v2 v3 v4 fu) t14 (v5 + 1) else (pX11_hats κ v4).bind fun t15 => ckZ t15 (ckZ v2 (nm ((v3 + (v2 / t15)) - (v3 + (v2 / t15)) / v2 * v2) fun x16 => pX11_build_179 F k100 κ v1 v2 x16 v4))
def pX11_build_100 (F : Nat) (v1 : Int32) (v2 : Int32) : Nat → Mem → Int32 → Int32 → Option (Int32 × Mem)
  | 0, _, _, _ => none
  | fu + 1, κ, v3, v4 => (pX11_players κ).bind fun t9 => if v4 < t9 then (pX11_has κ v1 v4).bind fun t10 => if t10 = 0 then pX11_build_179 F (pX11_build_100 F v1 v2 fu) κ v1 v2 v3 v4 else pX11_build_124 F (pX11_build_100 F v1 v2 fu) v1 v2 v3 v4 F κ 0 else (pX11_isOther F κ).bind fun t17 => if t17 = 0 then (pX11_refuse κ 4).bind fun t18 => some (t18.1, t18.2) else (pX11_isAct F κ).bind fun t19 => (pX11_lostNow F t19).bind fun t20 => some (t20.1, t20.2)
def pX11_build_51 (F : Nat) (κ : Mem) (v1 : Int32) : Nat → Int32 → Int32 → Option (Int32 × Mem)
  | 0, _, _ => none
  | fu + 1, v2, v3 => (pX11_players κ).bind fun t4 => if v3 < t4 then (pX11_has κ v1 v3).bind fun t5 => if t5 = 0 then pX11_build_88 F (pX11_build_51 F κ v1 fu) κ v1 v3 v2 else (pX11_hats κ v3).bind fun t6 => (pX11_common F κ v2 t6).bind fun t7 => ckZ t7 ((pX11_hats κ v3).bind fun t8 => pX11_build_88 F (pX11_build_51 F κ v1 fu) κ v1 v3 ((v2 / t7) * t8)) else pX11_build_100 F v1 v2 F κ 0 0
def pX11_build_27 (F : Nat) (κ : Mem) (v1 : Int32) (y0 : Int32) : Option (Int32 × Mem) := (pX11_is κ y0).bind fun t2 => if t2.1 = 0 then some ((-1), t2.2) else (pX11_copies F 1 4 t2.2).bind fun t3 => pX11_build_51 F t3 v1 F 1 0
def pX11_build (F : Nat) (κ : Mem) (v1 : Int32) : Option (Int32 × Mem) := (pX11_isSet κ v1).bind fun t1 => if t1 = 0 then pX11_build_27 F κ v1 2 else (pX11_isClique F κ v1).bind fun t21 => if t21 = 0 then pX11_build_27 F κ v1 7 else pX11_build_27 F κ v1 0
def pX11_renamed_19 (κ : Mem) (y0 : Int32) : Option Int32 := some y0
def pX11_renamed (κ : Mem) (v0 : Int32) (v1 : Int32) (v2 : Int32) : Option Int32 := if v0 = v1 then pX11_renamed_19 κ v2 else if v0 = v2 then pX11_renamed_19 κ v1 else pX11_renamed_19 κ v0
def pX11_rename_190 (F : Nat) (k94 : Mem → Int32 → Option (Int32 × Mem)) (κ : Mem) (v1 : Int32) (v2 : Int32) (v3 : Int32) (v4 : Int32) : Option (Int32 × Mem) := k94 κ (v4 + 1)
def pX11_rename_119 (F : Nat) (k94 : Mem → Int32 → Option (Int32 × Mem)) (v1 : Int32) (v2 : Int32) (v3 : Int32) (v4 : Int32) : Nat → Mem → Int32 → Option (Int32 × Mem)
  | 0, _, _ => none
  | fu + 1, κ, v5 => (pX11_situations_ F κ v4).bind fun t10 => if v5 < t10 then (pX11_laysSeen F κ v4 v5).bind fun t11 => ckI v1 6 ((pX11_renamed t11 (mi t11 5 v1.toNatClampNeg) v2 v3).bind fun t12 => ckI v1 6 (nm (setI t11 5 v1.toNatClampNeg t12) fun κ13 => (pX11_situationOf F κ13 v4).bind fun t14 => ckI ((13 + (1024 * v4)) + v5) 6157 ((pX11_enters κ13 v4 t14 (mi κ13 4 ((13 + (1024 * v4)) + v5).toNatClampNeg)).bind fun t15 => (pX11_rename_119 F k94 v1 v2 v3 v4 fu) t15 (v5 + 1)))) else pX11_rename_190 F k94 κ v1 v2 v3 v4
def pX11_rename_235 (F : Nat) (k203 : Int32 → Int32 → Option (Int32 × Mem)) (κ : Mem) (v5 : Int32) (y0 : Int32) (y1 : Int32) : Option (Int32 × Mem) := nm (y1 + y0) fun x16 => k203 x16 (v5 + 1)
def pX11_rename_203 (F : Nat) (κ : Mem) : Nat → Int32 → Int32 → Option (Int32 × Mem)
  | 0, _, _ => none
  | fu + 1, v4, v5 => if v5 < 6157 then ckI v5 6157 (ckI v5 6157 (if (mi κ 1 v5.toNatClampNeg) = (mi κ 4 v5.toNatClampNeg) then pX11_rename_235 F (pX11_rename_203 F κ fu) κ v5 0 v4 else pX11_rename_235 F (pX11_rename_203 F κ fu) κ v5 1 v4)) else (pX11_isAct F κ).bind fun t17 => some (v4, t17)
def pX11_rename_94 (F : Nat) (v1 : Int32) (v2 : Int32) (v3 : Int32) : Nat → Mem → Int32 → Option (Int32 × Mem)
  | 0, _, _ => none
  | fu + 1, κ, v4 => (pX11_players κ).bind fun t8 => if v4 < t8 then (pX11_sees κ v4 v1).bind fun t9 => if t9 = 0 then pX11_rename_190 F (pX11_rename_94 F v1 v2 v3 fu) κ v1 v2 v3 v4 else pX11_rename_119 F (pX11_rename_94 F v1 v2 v3 fu) v1 v2 v3 v4 F κ 0 else pX11_rename_203 F κ F 0 13
def pX11_rename_56 (F : Nat) (v1 : Int32) (v2 : Int32) (v3 : Int32) : Nat → Mem → Int32 → Option (Int32 × Mem)
  | 0, _, _ => none
  | fu + 1, κ, v4 => (pX11_situations_ F κ v1).bind fun t4 => if v4 < t4 then (pX11_entry κ v1 v4).bind fun t5 => (pX11_renamed κ t5 v2 v3).bind fun t6 => (pX11_enters κ v1 v4 t6).bind fun t7 => (pX11_rename_56 F v1 v2 v3 fu) t7 (v4 + 1) else pX11_rename_94 F v1 v2 v3 F κ 0
def pX11_rename_33 (F : Nat) (κ : Mem) (v1 : Int32) (v2 : Int32) (v3 : Int32) (y0 : Int32) : Option (Int32 × Mem) := (pX11_is κ y0).bind fun t2 => if t2.1 = 0 then some ((-1), t2.2) else (pX11_copies F 1 4 t2.2).bind fun t3 => pX11_rename_56 F v1 v2 v3 F t3 0
def pX11_rename_19 (F : Nat) (κ : Mem) (v1 : Int32) (v2 : Int32) (v3 : Int32) : Option (Int32 × Mem) := pX11_rename_33 F κ v1 v2 v3 2
def pX11_rename (F : Nat) (κ : Mem) (v1 : Int32) (v2 : Int32) (v3 : Int32) : Option (Int32 × Mem) := (pX11_isColour κ v1 v2).bind fun t1 => if t1 = 0 then pX11_rename_19 F κ v1 v2 v3 else (pX11_isColour κ v1 v3).bind fun t18 => if t18 = 0 then pX11_rename_19 F κ v1 v2 v3 else if v2 = v3 then pX11_rename_33 F κ v1 v2 v3 4 else pX11_rename_33 F κ v1 v2 v3 0
def pX11_see_161 (F : Nat) (k113 : Int32 → Int32 → Option (Int32 × Mem)) (κ : Mem) (v1 : Int32) (v2 : Int32) (v4 : Int32) (v5 : Int32) (v7 : Int32) (y0 : Int32) : Option (Int32 × Mem) := k113 y0 (v7 + 1)
def pX11_see_113 (F : Nat) (k86 : Mem → Int32 → Option (Int32 × Mem)) (κ : Mem) (v1 : Int32) (v2 : Int32) (v4 : Int32) (v5 : Int32) : Nat → Int32 → Int32 → Option (Int32 × Mem)
  | 0, _, _ => none
  | fu + 1, v6, v7 => (pX11_players κ).bind fun t9 => if v7 < t9 then ckI (7 + v1) 6157 ((pX11_has κ (mi κ 4 (7 + v1).toNatClampNeg) v7).bind fun t10 => if t10 = 0 then pX11_see_161 F (pX11_see_113 F k86 κ v1 v2 v4 v5 fu) κ v1 v2 v4 v5 v7 v6 else (pX11_hats κ v7).bind fun t11 => ckI v7 6 (pX11_see_161 F (pX11_see_113 F k86 κ v1 v2 v4 v5 fu) κ v1 v2 v4 v5 v7 ((v6 * t11) + (mi κ 5 v7.toNatClampNeg)))) else ckI ((13 + (1024 * v1)) + v6) 6157 ((pX11_enters κ v1 v5 (mi κ 4 ((13 + (1024 * v1)) + v6).toNatClampNeg)).bind fun t12 => k86 t12 (v5 + 1))
def pX11_see_202 (F : Nat) (v1 : Int32) (v4 : Int32) : Nat → Mem → Int32 → Option (Int32 × Mem)
  | 0, _, _ => none
  | fu + 1, κ, v5 => if v5 < 1024 then (pX11_enters κ v1 v5 0).bind fun t13 => (pX11_see_202 F v1 v4 fu) t13 (v5 + 1) else (pX11_isAct F κ).bind fun t14 => some (v4, t14)
def pX11_see_86 (F : Nat) (v1 : Int32) (v2 : Int32) (v4 : Int32) : Nat → Mem → Int32 → Option (Int32 × Mem)
  | 0, _, _ => none
  | fu + 1, κ, v5 => if v5 < v4 then ckI v2 6 (nm (setI κ 5 v2.toNatClampNeg 0) fun κ7 => (pX11_laysSeen F κ7 v1 v5).bind fun t8 => pX11_see_113 F (pX11_see_86 F v1 v2 v4 fu) t8 v1 v2 v4 v5 F 0 0) else pX11_see_202 F v1 v4 F κ v4
def pX11_see_41 (F : Nat) (κ : Mem) (v1 : Int32) (v2 : Int32) (y0 : Int32) : Option (Int32 × Mem) := (pX11_is κ y0).bind fun t2 => if t2.1 = 0 then some ((-1), t2.2) else (pX11_copies F 1 4 t2.2).bind fun t3 => nm (7 + v1) fun x4 => ckI x4 6157 (ckI x4 6157 (nm (setI t3 1 x4.toNatClampNeg ((mi t3 1 x4.toNatClampNeg) ^^^ (1 <<< (v2 &&& 31)))) fun κ5 => (pX11_situations_ F κ5 v1).bind fun t6 => pX11_see_86 F v1 v2 t6 F κ5 0))
def pX11_see_17 (F : Nat) (κ : Mem) (v1 : Int32) (v2 : Int32) : Option (Int32 × Mem) := pX11_see_41 F κ v1 v2 2
def pX11_see_36 (F : Nat) (κ : Mem) (v1 : Int32) (v2 : Int32) : Option (Int32 × Mem) := pX11_see_41 F κ v1 v2 4
def pX11_see (F : Nat) (κ : Mem) (v1 : Int32) (v2 : Int32) (v3 : Int32) : Option (Int32 × Mem) := (pX11_isPlayer κ v1).bind fun t1 => if t1 = 0 then pX11_see_17 F κ v1 v2 else (pX11_isPlayer κ v2).bind fun t15 => if t15 = 0 then pX11_see_17 F κ v1 v2 else if v1 = v2 then pX11_see_36 F κ v1 v2 else (pX11_sees κ v1 v2).bind fun t16 => if t16 = v3 then pX11_see_36 F κ v1 v2 else pX11_see_41 F κ v1 v2 0
def pX11_shuffle_29 (F : Nat) (κ : Mem) (v1 : Int32) (y0 : Int32) : Option (Int32 × Mem) := (pX11_is κ y0).bind fun t2 => if t2.1 = 0 then some ((-1), t2.2) else (pX11_remembers F t2.2).bind fun t3 => (pX11_draws F t3 v1).bind fun t4 => (pX11_lostNow F t4).bind fun t5 => some (t5.1, t5.2)
def pX11_shuffle (F : Nat) (κ : Mem) (v1 : Int32) : Option (Int32 × Mem) := (pX11_isIn κ v1.toInt64 0 999999999).bind fun t1 => if t1 = 0 then pX11_shuffle_29 F κ v1 1 else (pX11_players κ).bind fun t6 => if t6 = 0 then pX11_shuffle_29 F κ v1 5 else pX11_shuffle_29 F κ v1 0
def pX11_undo_33 (F : Nat) : Nat → Mem → Int32 → Option (Int32 × Mem)
  | 0, _, _ => none
  | fu + 1, κ, v1 => if v1 < 6157 then ckI ((6157 * (mi κ 0 6)) + v1) 36942 (ckI v1 6157 (nm (setI κ 1 v1.toNatClampNeg (mi κ 3 ((6157 * (mi κ 0 6)) + v1).toNatClampNeg)) fun κ3 => (pX11_undo_33 F fu) κ3 (v1 + 1))) else some ((mi κ 0 6), κ)
def pX11_undo_13 (F : Nat) (κ : Mem) (y0 : Int32) : Option (Int32 × Mem) := (pX11_is κ y0).bind fun t1 => if t1.1 = 0 then some ((-1), t1.2) else nm (setI t1.2 0 6 ((mi t1.2 0 6) - 1)) fun κ2 => pX11_undo_33 F F κ2 0
def pX11_undo (F : Nat) (κ : Mem) : Option (Int32 × Mem) := if (mi κ 0 6) = 0 then pX11_undo_13 F κ 5 else pX11_undo_13 F κ 0
def pX11_says (κ : Mem) (v1 : Int32) : Option Mem := ckI (mi κ 0 20) 14000 (nm (setI κ 11 (mi κ 0 20).toNatClampNeg v1) fun κ1 => nm (setI κ1 0 20 ((mi κ1 0 20) + 1)) fun κ2 => some κ2)
def pX11_saysWord_2 (F : Nat) (z1 : Nat) : Nat → Mem → Int32 → Option Mem
  | 0, _, _ => none
  | fu + 1, κ, v2 => (pJ0_length_8abf5 z1 κ).bind fun t1 => if v2 < t1 then (pJ0_charAt_5068e z1 κ v2).bind fun t2 => (pX11_says κ t2).bind fun t3 => (pX11_saysWord_2 F z1 fu) t3 (v2 + 1) else some κ
def pX11_saysWord (F : Nat) (z1 : Nat) (κ : Mem) : Option Mem := pX11_saysWord_2 F z1 F κ 0
def pX11_saysNumber (κ : Mem) (v1 : Int32) : Option Mem := (pX11_says κ 32).bind fun t1 => (pX11_says t1 (48 + v1)).bind fun t2 => some t2
def pX11_saysTwo (F : Nat) (z1 : Nat) (κ : Mem) (v2 : Int32) (v3 : Int32) : Option Mem := (pX11_saysWord F z1 κ).bind fun t1 => (pX11_saysNumber t1 v2).bind fun t2 => (pX11_saysNumber t2 v3).bind fun t3 => (pX11_says t3 59).bind fun t4 => some t4
def pX11_saysGame_88 (F : Nat) (k62 : Mem → Int32 → Option Mem) (κ : Mem) (v1 : Int32) (v2 : Int32) : Option Mem := k62 κ (v2 + 1)
def pX11_saysGame_62 (F : Nat) (k52 : Mem → Int32 → Option Mem) (v1 : Int32) : Nat → Mem → Int32 → Option Mem
  | 0, _, _ => none
  | fu + 1, κ, v2 => (pX11_players κ).bind fun t9 => if v2 < t9 then (pX11_sees κ v1 v2).bind fun t10 => if t10 = 0 then pX11_saysGame_88 F (pX11_saysGame_62 F k52 v1 fu) κ v1 v2 else (pX11_saysTwo F 17 κ v1 v2).bind fun t11 => pX11_saysGame_88 F (pX11_saysGame_62 F k52 v1 fu) t11 v1 v2 else k52 κ (v1 + 1)
def pX11_saysGame_131 (F : Nat) (k102 : Mem → Int32 → Option Mem) (v1 : Int32) : Nat → Mem → Int32 → Option Mem
  | 0, _, _ => none
  | fu + 1, κ, v2 => (pX11_situations_ F κ v1).bind fun t16 => if v2 < t16 then (pX11_entry κ v1 v2).bind fun t17 => (pX11_saysNumber κ t17).bind fun t18 => (pX11_saysGame_131 F k102 v1 fu) t18 (v2 + 1) else (pX11_says κ 59).bind fun t19 => k102 t19 (v1 + 1)
def pX11_saysGame_102 (F : Nat) : Nat → Mem → Int32 → Option Mem
  | 0, _, _ => none
  | fu + 1, κ, v1 => (pX11_players κ).bind fun t12 => if v1 < t12 then (pX11_saysWord F 18 κ).bind fun t13 => (pX11_saysNumber t13 v1).bind fun t14 => (pX11_saysWord F 19 t14).bind fun t15 => pX11_saysGame_131 F (pX11_saysGame_102 F fu) v1 F t15 0 else some κ
def pX11_saysGame_52 (F : Nat) : Nat → Mem → Int32 → Option Mem
  | 0, _, _ => none
  | fu + 1, κ, v1 => (pX11_players κ).bind fun t8 => if v1 < t8 then pX11_saysGame_62 F (pX11_saysGame_52 F fu) v1 F κ 0 else pX11_saysGame_102 F F κ 0
def pX11_saysGame_23 (F : Nat) : Nat → Mem → Int32 → Option Mem
  | 0, _, _ => none
  | fu + 1, κ, v1 => (pX11_players κ).bind fun t5 => if v1 < t5 then (pX11_hats κ v1).bind fun t6 => (pX11_saysTwo F 16 κ v1 t6).bind fun t7 => (pX11_saysGame_23 F fu) t7 (v1 + 1) else pX11_saysGame_52 F F κ 0
def pX11_saysGame (F : Nat) (κ : Mem) : Option Mem := (pX11_saysWord F 15 κ).bind fun t1 => (pX11_players t1).bind fun t2 => (pX11_saysNumber t1 t2).bind fun t3 => (pX11_says t3 59).bind fun t4 => pX11_saysGame_23 F F t4 0
def pX11_print_40 (F : Nat) : Nat → Mem → Int32 → Option (Int32 × Mem)
  | 0, _, _ => none
  | fu + 1, κ, v1 => if v1 < (mi κ 0 20) then ckI v1 14000 (ckI v1 600 (nm (setI κ 12 v1.toNatClampNeg (mi κ 11 v1.toNatClampNeg)) fun κ4 => (pX11_print_40 F fu) κ4 (v1 + 1))) else nm (setI κ 0 19 (mi κ 0 20)) fun κ5 => some ((mi κ5 0 19), κ5)
def pX11_print_22 (F : Nat) (κ : Mem) : Option (Int32 × Mem) := if (mi κ 0 20) ≤ 600 then pX11_print_40 F F κ 0 else (pX11_refuse κ 3).bind fun t6 => some (t6.1, t6.2)
def pX11_print (F : Nat) (κ : Mem) : Option (Int32 × Mem) := (pX11_is κ 0).bind fun t1 => nm (setI t1.2 0 20 0) fun κ2 => (pX11_players κ2).bind fun t3 => if t3 ≤ 0 then pX11_print_22 F κ2 else (pX11_saysGame F κ2).bind fun t7 => pX11_print_22 F t7
def pX11_out_38 (κ : Mem) (y0 : Int32) : Option (Int32 × Mem) := some (y0, κ)
def pX11_out_22 (κ : Mem) (v1 : Int32) (y0 : Int32) : Option (Int32 × Mem) := (pX11_is κ y0).bind fun t1 => if t1.1 = 0 then pX11_out_38 t1.2 (-1) else ckI v1 600 (pX11_out_38 t1.2 (mi t1.2 12 v1.toNatClampNeg))
def pX11_out (κ : Mem) (v1 : Int32) : Option (Int32 × Mem) := if v1 < 0 then pX11_out_22 κ v1 1 else if v1 < (mi κ 0 19) then pX11_out_22 κ v1 0 else pX11_out_22 κ v1 5
def pX11_feeds_3 (F : Nat) (v1 : Int32) : Nat → Mem → Int32 → Option Mem
  | 0, _, _ => none
  | fu + 1, κ, v2 => if v2 < 0 then some κ else ckI (mi κ 0 22) 600 (nm (setI κ 13 (mi κ 0 22).toNatClampNeg ((v1 >>> (v2 &&& 31)).toInt8.toInt32).toInt8.toInt32) fun κ1 => nm (setI κ1 0 22 ((mi κ1 0 22) + 1)) fun κ2 => (pX11_feeds_3 F v1 fu) κ2 (v2 + (-8)))
def pX11_feeds (F : Nat) (κ : Mem) (v1 : Int32) : Option Mem := pX11_feeds_3 F v1 F κ 24
def pX11_feed (F : Nat) (κ : Mem) (v1 : Int32) (v2 : Int32) (v3 : Int32) (v4 : Int32) (v5 : Int32) : Option (Int32 × Mem) := nm (setI κ 0 1 0) fun κ1 => if ((mi κ1 0 22) + 20) ≤ 600 then (pX11_feeds F κ1 v1).bind fun t2 => (pX11_feeds F t2 v2).bind fun t3 => (pX11_feeds F t3 v3).bind fun t4 => (pX11_feeds F t4 v4).bind fun t5 => (pX11_feeds F t5 v5).bind fun t6 => some ((mi t6 0 22), t6) else some ((-1), κ1)
def pX11_isOf_30 (κ : Mem) (y0 : Int32) : Option Int32 := ckP (isB y0) (some y0)
def pX11_isOf_29 (κ : Mem) : Option Int32 := pX11_isOf_30 κ 0
def pX11_isOf (κ : Mem) (v1 : Int32) (v2 : Int32) (v3 : Int32) : Option Int32 := if v1 < (mi κ 0 31) then ckI v1 600 ((pX11_isIn κ ((mi κ 13 v1.toNatClampNeg).toInt64) v2.toInt64 v3.toInt64).bind fun t1 => if t1 = 0 then pX11_isOf_29 κ else pX11_isOf_30 κ 1) else pX11_isOf_29 κ
def pX11_reads_348 (F : Nat) (κ : Mem) : Option Mem := some κ
def pX11_reads_345 (F : Nat) (κ : Mem) (y0 : Int32) : Option Mem := nm (setI κ 0 29 y0) fun κ11 => pX11_reads_348 F κ11
def pX11_reads_310 (F : Nat) (k254 : Mem → Option Mem) (κ : Mem) (y0 : Int32) : Option Mem := nm (setI κ 0 30 y0) fun κ12 => nm (setI κ12 0 28 ((mi κ12 0 28) + 1)) fun κ13 => k254 κ13
def pX11_reads_254 (F : Nat) : Nat → Mem → Option Mem
  | 0, _ => none
  | fu + 1, κ => (pX11_isOf κ (mi κ 0 28) 48 57).bind fun t10 => if t10 = 0 then if ((mi κ 0 28) - (mi κ 0 27)) ≤ 2 then pX11_reads_345 F κ 2 else pX11_reads_345 F κ 4 else if ((mi κ 0 28) - (mi κ 0 27)) < 2 then ckI (mi κ 0 28) 600 (pX11_reads_310 F (pX11_reads_254 F fu) κ (((10 * (mi κ 0 30)) + (mi κ 13 (mi κ 0 28).toNatClampNeg)) - 48)) else pX11_reads_310 F (pX11_reads_254 F fu) κ (mi κ 0 30)
def pX11_reads_220 (F : Nat) (κ : Mem) (y0 : Int32) : Option Mem := nm (setI κ 0 29 y0) fun κ17 => pX11_reads_348 F κ17
def pX11_reads_184 (F : Nat) (k127 : Mem → Option Mem) (κ : Mem) (y0 : Int64) : Option Mem := nm (setL κ 0 34 y0) fun κ18 => nm (setI κ18 0 28 ((mi κ18 0 28) + 1)) fun κ19 => k127 κ19
def pX11_reads_127 (F : Nat) : Nat → Mem → Option Mem
  | 0, _ => none
  | fu + 1, κ => (pX11_isOf κ (mi κ 0 28) 97 122).bind fun t16 => if t16 = 0 then if ((mi κ 0 28) - (mi κ 0 27)) ≤ 8 then pX11_reads_220 F κ 1 else pX11_reads_220 F κ 4 else if ((mi κ 0 28) - (mi κ 0 27)) < 8 then ckI (mi κ 0 28) 600 (pX11_reads_184 F (pX11_reads_127 F fu) κ (((27 * (ml κ 0 34)) + (mi κ 13 (mi κ 0 28).toNatClampNeg).toInt64) - 96)) else pX11_reads_184 F (pX11_reads_127 F fu) κ 0
def pX11_reads_96 (F : Nat) (κ : Mem) (y0 : Int32) : Option Mem := nm (setI κ 0 29 y0) fun κ5 => (pX11_isOf κ5 (mi κ5 0 27) 97 122).bind fun t6 => if t6 = 0 then (pX11_isOf κ5 (mi κ5 0 27) 48 57).bind fun t7 => if t7 = 0 then pX11_reads_348 F κ5 else nm (setI κ5 0 30 0) fun κ8 => nm (setI κ8 0 28 (mi κ8 0 27)) fun κ9 => pX11_reads_254 F F κ9 else nm (setL κ5 0 34 0) fun κ14 => nm (setI κ14 0 28 (mi κ14 0 27)) fun κ15 => pX11_reads_127 F F κ15
def pX11_reads_38 (F : Nat) (k8 : Mem → Option Mem) (κ : Mem) : Option Mem := nm (setI κ 0 27 ((mi κ 0 27) + 1)) fun κ20 => k8 κ20
def pX11_reads_8 (F : Nat) : Nat → Mem → Option Mem
  | 0, _ => none
  | fu + 1, κ => (pX11_isOf κ (mi κ 0 27) 32 32).bind fun t2 => if t2 = 0 then (pX11_isOf κ (mi κ 0 27) 10 10).bind fun t3 => if t3 = 0 then nm (setI κ 0 28 ((mi κ 0 27) + 1)) fun κ4 => if (mi κ4 0 27) < (mi κ4 0 31) then ckI (mi κ4 0 27) 600 (if (mi κ4 13 (mi κ4 0 27).toNatClampNeg) = 59 then pX11_reads_96 F κ4 3 else pX11_reads_96 F κ4 4) else pX11_reads_96 F κ4 0 else pX11_reads_38 F (pX11_reads_8 F fu) κ else pX11_reads_38 F (pX11_reads_8 F fu) κ
def pX11_reads (F : Nat) (κ : Mem) : Option Mem := nm (setI κ 0 27 (mi κ 0 28)) fun κ1 => pX11_reads_8 F F κ1
def pX11_good_12 (κ : Mem) (y0 : Int32) : Option Int32 := ckP (isB y0) (some y0)
def pX11_good (κ : Mem) : Option Int32 := if (mi κ 0 25) = 0 then pX11_good_12 κ 1 else pX11_good_12 κ 0
def pX11_must_31 (κ : Mem) (y0 : Int32) : Option Mem := nm (setI κ 0 25 y0) fun κ1 => nm (setI κ1 0 26 (mi κ1 0 27)) fun κ2 => some κ2
def pX11_must_30 (κ : Mem) (v2 : Int32) : Option Mem := pX11_must_31 κ v2
def pX11_must_11 (κ : Mem) : Option Mem := some κ
def pX11_must (κ : Mem) (v1 : Int32) (v2 : Int32) : Option Mem := if v1 = 0 then if (mi κ 0 25) ≤ 0 then if v2 = 2 then if (mi κ 0 29) = 4 then pX11_must_31 κ 1 else pX11_must_30 κ v2 else pX11_must_30 κ v2 else pX11_must_11 κ else pX11_must_11 κ
def pX11_goesOn_11 (F : Nat) (κ : Mem) : Option Mem := some κ
def pX11_goesOn (F : Nat) (κ : Mem) : Option Mem := (pX11_good κ).bind fun t1 => if t1 = 0 then pX11_goesOn_11 F κ else (pX11_reads F κ).bind fun t2 => pX11_goesOn_11 F t2
def pX11_isWord_34 (κ : Mem) (y0 : Int32) : Option Int32 := ckP (isB y0) (some y0)
def pX11_isWord_33 (κ : Mem) : Option Int32 := pX11_isWord_34 κ 0
def pX11_isWord (κ : Mem) (v1 : Int32) : Option Int32 := (pX11_good κ).bind fun t1 => if t1 = 0 then pX11_isWord_33 κ else if (mi κ 0 29) = 1 then ckI v1 10 (if (lg_cmp (ml κ 0 34) (ml κ 14 v1.toNatClampNeg)) = 0 then pX11_isWord_34 κ 1 else pX11_isWord_33 κ) else pX11_isWord_33 κ
def pX11_takesNumber_56 (F : Nat) (κ : Mem) (y0 : Int32) : Option (Int32 × Mem) := some (y0, κ)
def pX11_takesNumber_14 (F : Nat) (κ : Mem) (v1 : Int32) (v2 : Int32) (y0 : Int32) : Option (Int32 × Mem) := (pX11_must κ y0 2).bind fun t1 => (pX11_isIn t1 ((mi t1 0 30).toInt64) v1.toInt64 v2.toInt64).bind fun t2 => (pX11_must t1 t2 3).bind fun t3 => nm (mi t3 0 30) fun x4 => (pX11_goesOn F t3).bind fun t5 => (pX11_good t5).bind fun t6 => if t6 = 0 then pX11_takesNumber_56 F t5 0 else pX11_takesNumber_56 F t5 x4
def pX11_takesNumber (F : Nat) (κ : Mem) (v1 : Int32) (v2 : Int32) : Option (Int32 × Mem) := if (mi κ 0 29) = 2 then pX11_takesNumber_14 F κ v1 v2 1 else pX11_takesNumber_14 F κ v1 v2 0
def pX11_takesPlayer_90 (F : Nat) (κ : Mem) (y0 : Int32) : Option (Int32 × Mem) := some (y0, κ)
def pX11_takesPlayer_65 (F : Nat) (κ : Mem) (y0 : Int32) : Option (Int32 × Mem) := (pX11_must κ y0 4).bind fun t5 => nm (mi t5 0 30) fun x6 => (pX11_goesOn F t5).bind fun t7 => (pX11_good t7).bind fun t8 => if t8 = 0 then pX11_takesPlayer_90 F t7 0 else pX11_takesPlayer_90 F t7 x6
def pX11_takesPlayer_64 (F : Nat) (κ : Mem) : Option (Int32 × Mem) := pX11_takesPlayer_65 F κ 0
def pX11_takesPlayer_14 (F : Nat) (κ : Mem) (v1 : Int32) (y0 : Int32) : Option (Int32 × Mem) := (pX11_must κ y0 2).bind fun t1 => ckI 0 6157 ((pX11_isIn t1 ((mi t1 0 30).toInt64) 0 (((mi t1 2 (0 : Int32).toNatClampNeg) - 1).toInt64)).bind fun t2 => (pX11_must t1 t2 3).bind fun t3 => (pX11_good t3).bind fun t4 => if t4 = 0 then pX11_takesPlayer_64 F t3 else (pX11_has t3 v1 (mi t3 0 30)).bind fun t9 => if t9 = 0 then pX11_takesPlayer_65 F t3 1 else pX11_takesPlayer_64 F t3)
def pX11_takesPlayer (F : Nat) (κ : Mem) (v1 : Int32) : Option (Int32 × Mem) := if (mi κ 0 29) = 2 then pX11_takesPlayer_14 F κ v1 1 else pX11_takesPlayer_14 F κ v1 0
def pX11_readsHats (F : Nat) (κ : Mem) : Option Mem := (pX11_goesOn F κ).bind fun t1 => (pX11_takesPlayer F t1 (mi t1 0 32)).bind fun t2 => (pX11_takesNumber F t2.2 1 4).bind fun t3 => (pX11_good t3.2).bind fun t4 => if t4 = 0 then some t3.2 else nm (setI t3.2 0 32 ((mi t3.2 0 32) ||| (1 <<< (t2.1 &&& 31)))) fun κ5 => ckI (1 + t2.1) 6157 (nm (setI κ5 2 (1 + t2.1).toNatClampNeg t3.1) fun κ6 => some κ6)
def pX11_readsSight_172 (F : Nat) (κ : Mem) : Option Mem := some κ
def pX11_readsSight_122 (F : Nat) (κ : Mem) (v1 : Int32) (v2 : Int32) (v3 : Int32) (y0 : Int32) : Option Mem := (pX11_must κ y0 4).bind fun t9 => (pX11_goesOn F t9).bind fun t10 => (pX11_good t10).bind fun t11 => if t11 = 0 then some t10 else nm (7 + v2) fun x12 => ckI x12 6157 (ckI x12 6157 (nm (setI t10 2 x12.toNatClampNeg ((mi t10 2 x12.toNatClampNeg) ||| (1 <<< (v3 &&& 31)))) fun κ13 => if v1 = 0 then pX11_readsSight_172 F κ13 else nm (7 + v3) fun x14 => ckI x14 6157 (ckI x14 6157 (nm (setI κ13 2 x14.toNatClampNeg ((mi κ13 2 x14.toNatClampNeg) ||| (1 <<< (v2 &&& 31)))) fun κ15 => pX11_readsSight_172 F κ15))))
def pX11_readsSight_117 (F : Nat) (κ : Mem) (v1 : Int32) (v2 : Int32) (v3 : Int32) : Option Mem := pX11_readsSight_122 F κ v1 v2 v3 1
def pX11_readsSight_121 (F : Nat) (κ : Mem) (v1 : Int32) (v2 : Int32) (v3 : Int32) : Option Mem := pX11_readsSight_122 F κ v1 v2 v3 0
def pX11_readsSight_63 (F : Nat) (κ : Mem) (v1 : Int32) (v2 : Int32) (y0 : Int32) : Option Mem := (pX11_must κ y0 3).bind fun t5 => (pX11_good t5).bind fun t6 => if t6 = 0 then some t5 else nm (mi t5 0 30) fun x7 => ckI (7 + v2) 6157 ((pX11_has t5 (mi t5 2 (7 + v2).toNatClampNeg) x7).bind fun t8 => if t8 = 0 then if v1 = 0 then pX11_readsSight_117 F t5 v1 v2 x7 else ckI (7 + x7) 6157 ((pX11_has t5 (mi t5 2 (7 + x7).toNatClampNeg) v2).bind fun t16 => if t16 = 0 then pX11_readsSight_117 F t5 v1 v2 x7 else pX11_readsSight_121 F t5 v1 v2 x7) else pX11_readsSight_121 F t5 v1 v2 x7)
def pX11_readsSight_62 (F : Nat) (κ : Mem) (v1 : Int32) (v2 : Int32) : Option Mem := pX11_readsSight_63 F κ v1 v2 0
def pX11_readsSight_24 (F : Nat) (κ : Mem) (v1 : Int32) (v2 : Int32) (y0 : Int32) : Option Mem := (pX11_must κ y0 2).bind fun t3 => ckI 0 6157 ((pX11_isIn t3 ((mi t3 0 30).toInt64) 0 (((mi t3 2 (0 : Int32).toNatClampNeg) - 1).toInt64)).bind fun t4 => if t4 = 0 then pX11_readsSight_62 F t3 v1 v2 else if (mi t3 0 30) = v2 then pX11_readsSight_62 F t3 v1 v2 else pX11_readsSight_63 F t3 v1 v2 1)
def pX11_readsSight (F : Nat) (κ : Mem) (v1 : Int32) : Option Mem := (pX11_goesOn F κ).bind fun t1 => (pX11_takesPlayer F t1 0).bind fun t2 => if (mi t2.2 0 29) = 2 then pX11_readsSight_24 F t2.2 v1 t2.1 1 else pX11_readsSight_24 F t2.2 v1 t2.1 0
def pX11_fills_169 (F : Nat) (k3 : Mem → Int32 → Option Mem) (κ : Mem) (v1 : Int32) (v2 : Int32) (v3 : Int32) (v4 : Int32) (v8 : Int32) (y0 : Int32) : Option Mem := ckZ v8 (ckI ((13 + (1024 * v1)) + v4) 6157 (nm (setI κ 2 ((13 + (1024 * v1)) + v4).toNatClampNeg (y0 - y0 / v8 * v8)) fun κ4 => k3 κ4 (v4 + 1)))
def pX11_fills_168 (F : Nat) (k3 : Mem → Int32 → Option Mem) (κ : Mem) (v1 : Int32) (v2 : Int32) (v3 : Int32) (v4 : Int32) (v8 : Int32) (y0 : Int32) (y1 : Int32) : Option Mem := pX11_fills_169 F k3 κ v1 v2 v3 v4 v8 (y1 + y0)
def pX11_fills_111 (F : Nat) (k36 : Int32 → Int32 → Int32 → Int32 → Option Mem) (κ : Mem) (v1 : Int32) (v2 : Int32) (v3 : Int32) (v4 : Int32) (v5 : Int32) (v6 : Int32) (v7 : Int32) (v8 : Int32) : Option Mem := k36 v5 v6 v7 (v8 + (-1))
def pX11_fills_109 (F : Nat) (k36 : Int32 → Int32 → Int32 → Int32 → Option Mem) (κ : Mem) (v1 : Int32) (v2 : Int32) (v3 : Int32) (v4 : Int32) (v5 : Int32) (v6 : Int32) (v8 : Int32) (y0 : Int32) : Option Mem := pX11_fills_111 F k36 κ v1 v2 v3 v4 v5 v6 y0 v8
def pX11_fills_36 (F : Nat) (k3 : Mem → Int32 → Option Mem) (κ : Mem) (v1 : Int32) (v2 : Int32) (v3 : Int32) (v4 : Int32) : Nat → Int32 → Int32 → Int32 → Int32 → Option Mem
  | 0, _, _, _, _ => none
  | fu + 1, v5, v6, v7, v8 => if v8 < 0 then ckI (1 + v1) 6157 (nm (mi κ 2 (1 + v1).toNatClampNeg) fun x3 => if v2 = 5 then pX11_fills_169 F k3 κ v1 v2 v3 v4 x3 ((v3 - v6) + (20 * x3)) else if v2 = 8 then pX11_fills_169 F k3 κ v1 v2 v3 v4 x3 v3 else if v2 = 7 then pX11_fills_168 F k3 κ v1 v2 v3 v4 x3 1 v7 else pX11_fills_168 F k3 κ v1 v2 v3 v4 x3 0 v7) else ckI (7 + v1) 6157 ((pX11_has κ (mi κ 2 (7 + v1).toNatClampNeg) v8).bind fun t5 => if t5 = 0 then pX11_fills_111 F (pX11_fills_36 F k3 κ v1 v2 v3 v4 fu) κ v1 v2 v3 v4 v5 v6 v7 v8 else ckI (1 + v8) 6157 (ckZ (mi κ 2 (1 + v8).toNatClampNeg) (nm (v5 - v5 / (mi κ 2 (1 + v8).toNatClampNeg) * (mi κ 2 (1 + v8).toNatClampNeg)) fun x6 => ckI (1 + v8) 6157 (ckZ (mi κ 2 (1 + v8).toNatClampNeg) (nm (v5 / (mi κ 2 (1 + v8).toNatClampNeg)) fun x7 => nm (v6 + x6) fun x8 => if v8 = v3 then pX11_fills_109 F (pX11_fills_36 F k3 κ v1 v2 v3 v4 fu) κ v1 v2 v3 v4 x7 x8 v8 x6 else pX11_fills_109 F (pX11_fills_36 F k3 κ v1 v2 v3 v4 fu) κ v1 v2 v3 v4 x7 x8 v8 v7)))))
def pX11_fills_3 (F : Nat) (v1 : Int32) (v2 : Int32) (v3 : Int32) : Nat → Mem → Int32 → Option Mem
  | 0, _, _ => none
  | fu + 1, κ, v4 => (pX11_situations F 2 κ v1).bind fun t1 => if v4 < t1 then ckI 0 6157 (nm ((mi κ 2 (0 : Int32).toNatClampNeg) - 1) fun x2 => pX11_fills_36 F (pX11_fills_3 F v1 v2 v3 fu) κ v1 v2 v3 v4 F v4 0 0 x2) else some κ
def pX11_fills (F : Nat) (κ : Mem) (v1 : Int32) (v2 : Int32) (v3 : Int32) : Option Mem := pX11_fills_3 F v1 v2 v3 F κ 0
def pX11_readsTable_61 (F : Nat) (κ : Mem) : Option Mem := some κ
def pX11_readsTable_6 (F : Nat) (v1 : Int32) : Nat → Mem → Int32 → Option Mem
  | 0, _, _ => none
  | fu + 1, κ, v2 => (pX11_situations F 2 κ v1).bind fun t2 => if v2 < t2 then (pX11_good κ).bind fun t3 => if t3 = 0 then pX11_readsTable_61 F κ else ckI (1 + v1) 6157 ((pX11_takesNumber F κ 0 ((mi κ 2 (1 + v1).toNatClampNeg) - 1)).bind fun t4 => ckI ((13 + (1024 * v1)) + v2) 6157 (nm (setI t4.2 2 ((13 + (1024 * v1)) + v2).toNatClampNeg t4.1) fun κ5 => (pX11_readsTable_6 F v1 fu) κ5 (v2 + 1))) else pX11_readsTable_61 F κ
def pX11_readsTable (F : Nat) (κ : Mem) (v1 : Int32) : Option Mem := (pX11_goesOn F κ).bind fun t1 => pX11_readsTable_6 F v1 F t1 0
def pX11_readsGuess_44 (F : Nat) (k25 : Int32 → Int32 → Option Mem) (κ : Mem) (v1 : Int32) (v3 : Int32) (y0 : Int32) : Option Mem := k25 y0 (v3 + 1)
def pX11_readsGuess_204 (F : Nat) (κ : Mem) (v1 : Int32) : Option Mem := nm (setI κ 0 33 ((mi κ 0 33) ||| (1 <<< (v1 &&& 31)))) fun κ7 => some κ7
def pX11_readsGuess_200 (F : Nat) (κ : Mem) (v1 : Int32) : Option Mem := (pX11_goesOn F κ).bind fun t12 => pX11_readsGuess_204 F t12 v1
def pX11_readsGuess_179 (F : Nat) (κ : Mem) (v1 : Int32) (v2 : Int32) (y0 : Int32) : Option Mem := (pX11_must κ y0 3).bind fun t10 => (pX11_good t10).bind fun t11 => if t11 = 0 then pX11_readsGuess_200 F t10 v1 else (pX11_fills F t10 v1 v2 (mi t10 0 30)).bind fun t13 => pX11_readsGuess_200 F t13 v1
def pX11_readsGuess_174 (F : Nat) (κ : Mem) (v1 : Int32) (v2 : Int32) : Option Mem := pX11_readsGuess_179 F κ v1 v2 1
def pX11_readsGuess_178 (F : Nat) (κ : Mem) (v1 : Int32) (v2 : Int32) : Option Mem := pX11_readsGuess_179 F κ v1 v2 0
def pX11_readsGuess_128 (F : Nat) (κ : Mem) (v1 : Int32) (v2 : Int32) : Option Mem := if v2 < 8 then ckI 0 6157 ((pX11_isIn κ ((mi κ 0 30).toInt64) 0 (((mi κ 2 (0 : Int32).toNatClampNeg) - 1).toInt64)).bind fun t14 => if t14 = 0 then pX11_readsGuess_178 F κ v1 v2 else ckI (7 + v1) 6157 ((pX11_has κ (mi κ 2 (7 + v1).toNatClampNeg) (mi κ 0 30)).bind fun t15 => if t15 = 0 then pX11_readsGuess_178 F κ v1 v2 else pX11_readsGuess_174 F κ v1 v2)) else pX11_readsGuess_178 F κ v1 v2
def pX11_readsGuess_97 (F : Nat) (κ : Mem) (v1 : Int32) (v2 : Int32) (y0 : Int32) : Option Mem := (pX11_must κ y0 2).bind fun t9 => if v2 = 5 then pX11_readsGuess_174 F t9 v1 v2 else if v2 = 8 then ckI (1 + v1) 6157 (if (mi t9 0 30) < (mi t9 2 (1 + v1).toNatClampNeg) then pX11_readsGuess_174 F t9 v1 v2 else pX11_readsGuess_128 F t9 v1 v2) else pX11_readsGuess_128 F t9 v1 v2
def pX11_readsGuess_61 (F : Nat) (κ : Mem) (v1 : Int32) (v2 : Int32) (y0 : Int32) : Option Mem := (pX11_must κ y0 2).bind fun t5 => if v2 = 9 then (pX11_readsTable F t5 v1).bind fun t6 => pX11_readsGuess_204 F t6 v1 else (pX11_goesOn F t5).bind fun t8 => if (mi t8 0 29) = 2 then pX11_readsGuess_97 F t8 v1 v2 1 else pX11_readsGuess_97 F t8 v1 v2 0
def pX11_readsGuess_25 (F : Nat) (κ : Mem) (v1 : Int32) : Nat → Int32 → Int32 → Option Mem
  | 0, _, _ => none
  | fu + 1, v2, v3 => if v3 ≤ 9 then (pX11_isWord κ v3).bind fun t4 => if t4 = 0 then pX11_readsGuess_44 F (pX11_readsGuess_25 F κ v1 fu) κ v1 v3 v2 else pX11_readsGuess_44 F (pX11_readsGuess_25 F κ v1 fu) κ v1 v3 v3 else if v2 < 0 then pX11_readsGuess_61 F κ v1 v2 0 else pX11_readsGuess_61 F κ v1 v2 1
def pX11_readsGuess (F : Nat) (κ : Mem) : Option Mem := (pX11_goesOn F κ).bind fun t1 => (pX11_takesPlayer F t1 (mi t1 0 33)).bind fun t2 => (pX11_good t2.2).bind fun t3 => if t3 = 0 then some t2.2 else pX11_readsGuess_25 F t2.2 t2.1 F (-1) 5
def pX11_line_169 (F : Nat) (κ : Mem) (y0 : Int32) : Option Mem := (pX11_must κ y0 2).bind fun t8 => (pX11_goesOn F t8).bind fun t9 => some t9
def pX11_line_155 (F : Nat) (κ : Mem) : Option Mem := if (mi κ 0 29) = 3 then pX11_line_169 F κ 1 else pX11_line_169 F κ 0
def pX11_line_51 (F : Nat) : Nat → Mem → Int32 → Option Mem
  | 0, _, _ => none
  | fu + 1, κ, v2 => if v2 < 6 then ckI (1 + v2) 6157 (nm (setI κ 2 (1 + v2).toNatClampNeg 2) fun κ7 => (pX11_line_51 F fu) κ7 (v2 + 1)) else pX11_line_155 F κ
def pX11_line_48 (F : Nat) (κ : Mem) (y0 : Int32) (y1 : Int32) : Option Mem := ckI y1 6157 (nm (setI κ 2 y1.toNatClampNeg y0) fun κ6 => pX11_line_51 F F κ6 0)
def pX11_line_127 (F : Nat) (κ : Mem) (y0 : Int32) : Option Mem := (pX11_must κ y0 2).bind fun t14 => (pX11_isWord t14 1).bind fun t15 => if t15 = 0 then (pX11_isWord t14 2).bind fun t16 => (pX11_readsSight F t14 t16).bind fun t17 => pX11_line_155 F t17 else (pX11_readsHats F t14).bind fun t18 => pX11_line_155 F t18
def pX11_line_126 (F : Nat) (κ : Mem) : Option Mem := pX11_line_127 F κ 0
def pX11_line_122 (F : Nat) (κ : Mem) : Option Mem := pX11_line_127 F κ 1
def pX11_line (F : Nat) (κ : Mem) : Option Mem := ckI 0 6157 (if (mi κ 2 (0 : Int32).toNatClampNeg) = 0 then (pX11_isWord κ 0).bind fun t1 => (pX11_must κ t1 2).bind fun t2 => (pX11_goesOn F t2).bind fun t3 => (pX11_takesNumber F t3 1 6).bind fun t4 => (pX11_good t4.2).bind fun t5 => if t5 = 0 then pX11_line_48 F t4.2 0 0 else pX11_line_48 F t4.2 t4.1 0 else (pX11_isWord κ 4).bind fun t10 => if t10 = 0 then if (mi κ 0 33) = 0 then (pX11_isWord κ 1).bind fun t11 => if t11 = 0 then (pX11_isWord κ 2).bind fun t12 => if t12 = 0 then (pX11_isWord κ 3).bind fun t13 => if t13 = 0 then pX11_line_126 F κ else pX11_line_122 F κ else pX11_line_122 F κ else pX11_line_122 F κ else pX11_line_126 F κ else (pX11_readsGuess F κ).bind fun t19 => pX11_line_155 F t19)
def pX11_load_129 (F : Nat) (κ : Mem) (y0 : Int32) : Option (Int32 × Mem) := nm (setI κ 0 24 y0) fun κ13 => if (mi κ13 0 25) ≤ 0 then (pX11_copies F 2 1 κ13).bind fun t14 => nm (setI t14 0 6 0) fun κ15 => (pX11_players κ15).bind fun t16 => some (t16, κ15) else (pX11_refuse κ13 9).bind fun t17 => some (t17.1, t17.2)
def pX11_load_100 (F : Nat) (κ : Mem) : Option (Int32 × Mem) := nm (setI κ 0 22 0) fun κ11 => nm (setI κ11 0 23 (mi κ11 0 25)) fun κ12 => if (mi κ12 0 25) ≤ 0 then pX11_load_129 F κ12 (-1) else pX11_load_129 F κ12 (mi κ12 0 26)
def pX11_load_79 (F : Nat) : Nat → Mem → Option (Int32 × Mem)
  | 0, _ => none
  | fu + 1, κ => (pX11_good κ).bind fun t10 => if t10 = 0 then pX11_load_100 F κ else if (mi κ 0 29) = 0 then pX11_load_100 F κ else (pX11_line F κ).bind fun t18 => (pX11_load_79 F fu) t18
def pX11_load_55 (F : Nat) : Nat → Mem → Int32 → Option (Int32 × Mem)
  | 0, _, _ => none
  | fu + 1, κ, v2 => if v2 < 6157 then ckI v2 6157 (nm (setI κ 2 v2.toNatClampNeg 0) fun κ8 => (pX11_load_55 F fu) κ8 (v2 + 1)) else (pX11_reads F κ).bind fun t9 => pX11_load_79 F F t9
def pX11_load_20 (F : Nat) (κ : Mem) (v1 : Int32) (y0 : Int32) : Option (Int32 × Mem) := (pX11_is κ y0).bind fun t2 => if t2.1 = 0 then some ((-1), t2.2) else nm (setI t2.2 0 31 v1) fun κ3 => nm (setI κ3 0 28 0) fun κ4 => nm (setI κ4 0 25 0) fun κ5 => nm (setI κ5 0 32 0) fun κ6 => nm (setI κ6 0 33 0) fun κ7 => pX11_load_55 F F κ7 0
def pX11_load (F : Nat) (κ : Mem) (v1 : Int32) : Option (Int32 × Mem) := (pX11_isIn κ v1.toInt64 0 ((mi κ 0 22).toInt64)).bind fun t1 => if t1 = 0 then pX11_load_20 F κ v1 1 else pX11_load_20 F κ v1 0
def pX11_fault_29 (κ : Mem) (y0 : Int32) : Option (Int32 × Mem) := some (y0, κ)
def pX11_fault (κ : Mem) (v1 : Int32) : Option (Int32 × Mem) := nm (setI κ 0 1 0) fun κ1 => if v1 = 0 then pX11_fault_29 κ1 (mi κ1 0 23) else if v1 = 1 then pX11_fault_29 κ1 (mi κ1 0 24) else pX11_fault_29 κ1 (-1)
