/-! THE CLASS'S GAME: what its methods answer -/
def tl2 (W : Int64) (k : Nat) : Nat := (W.toBitVec.toNat >>> k) % 4
theorem tl_cu : ∀ k, k < 64 → ((nI k).toInt64.toUInt64 &&& Int64.toUInt64 63) = UInt64.ofNat k := by decide +kernel
theorem tl_cs : ∀ k, k < 64 → (((nI k).toInt64 &&& 63).toBitVec.smod 64).toNat = k := by decide +kernel
theorem tl2_lt (W : Int64) (k : Nat) : tl2 W k < 4 := Nat.mod_lt _ (by decide)
theorem tl_get (W : Int64) {k : Nat} (hk : k < 64) : ((W.toUInt64 >>> ((nI k).toInt64.toUInt64 &&& Int64.toUInt64 63)).toInt64).toInt32 &&& (3 : Int32) = nI (tl2 W k) := by
  rw [tl_cu k hk]
  apply Int32.toBitVec_inj.mp
  apply BitVec.eq_of_toNat_eq
  have e3 : (3 : Int32).toBitVec = 3#32 := rfl
  have e4 : (nI (tl2 W k)).toBitVec = BitVec.ofNat 32 (tl2 W k) := rfl
  have hl := tl2_lt W k
  rw [Int32.toBitVec_and, e3, e4, BitVec.toNat_and, BitVec.toNat_ofNat, BitVec.toNat_ofNat, Nat.mod_eq_of_lt (show tl2 W k < 2 ^ 32 by omega), show 3 % 2 ^ 32 = 2 ^ 2 - 1 by decide, Nat.and_two_pow_sub_one_eq_mod]
  unfold tl2
  have e5 : ((W.toUInt64 >>> UInt64.ofNat k).toInt64).toInt32.toBitVec.toNat = (W.toBitVec.toNat >>> k) % 2 ^ 32 := by
    have e6 : (UInt64.ofNat k).toBitVec.toNat % 64 = k := by
      show (BitVec.ofNat 64 k).toNat % 64 = k
      rw [BitVec.toNat_ofNat]; omega
    rw [Int64.toBitVec_toInt32]
    simp
    rw [Nat.mod_eq_of_lt hk, BitVec.signExtend_eq_setWidth_of_le _ (by decide), BitVec.toNat_setWidth, BitVec.toNat_ushiftRight]
  rw [e5]
  omega
theorem tl_bits (W : Int64) (k : Nat) : tl2 W k = (W.toBitVec.getLsbD k).toNat + 2 * (W.toBitVec.getLsbD (k + 1)).toNat := by
  unfold tl2
  have h0 : W.toBitVec.getLsbD k = W.toBitVec.toNat.testBit k := rfl
  have h1 : W.toBitVec.getLsbD (k + 1) = W.toBitVec.toNat.testBit (k + 1) := rfl
  rw [h0, h1, Nat.testBit_eq_decide_div_mod_eq, Nat.testBit_eq_decide_div_mod_eq, Nat.shiftRight_eq_div_pow, Nat.pow_succ, ← Nat.div_div_eq_div_mul]
  generalize W.toBitVec.toNat / 2 ^ k = z
  have h2 : (decide (z % 2 = 1)).toNat = z % 2 := by rcases Nat.mod_two_eq_zero_or_one z with h | h <;> simp [h]
  have h3 : (decide (z / 2 % 2 = 1)).toNat = z / 2 % 2 := by rcases Nat.mod_two_eq_zero_or_one (z / 2) with h | h <;> simp [h]
  rw [h2, h3]
  omega
def tlS (W : Int64) (k c : Nat) : Int64 := (W &&& ((3 <<< ((nI k).toInt64 &&& 63)) ^^^ (-1))) ||| ((nI c &&& 3).toInt64 <<< ((nI k).toInt64 &&& 63))
theorem tl_shl (a : Int64) {k : Nat} (hk : k < 64) : (a <<< ((nI k).toInt64 &&& 63)).toBitVec = a.toBitVec <<< k := by
  show a.toBitVec <<< (((nI k).toInt64 &&& 63).toBitVec.smod 64) = _
  rw [BitVec.shiftLeft_eq', tl_cs k hk]
theorem tl_c4 : ∀ c, c < 4 → (nI c &&& 3).toInt64.toBitVec = BitVec.ofNat 64 c := by decide +kernel
theorem tl_bitS (W : Int64) {k c i : Nat} (hk : k < 64) (hc : c < 4) (hi : i < 64) : (tlS W k c).toBitVec.getLsbD i = if k ≤ i ∧ i < k + 2 then c.testBit (i - k) else W.toBitVec.getLsbD i := by
  unfold tlS
  rw [Int64.toBitVec_or, Int64.toBitVec_and, Int64.toBitVec_xor, tl_shl _ hk, tl_shl _ hk, tl_c4 c hc]
  rw [BitVec.getLsbD_or, BitVec.getLsbD_and, BitVec.getLsbD_xor, BitVec.getLsbD_shiftLeft, BitVec.getLsbD_shiftLeft]
  have hm : (-1 : Int64).toBitVec = BitVec.allOnes 64 := by decide
  have h3 : (3 : Int64).toBitVec = 3#64 := rfl
  rw [hm, h3, BitVec.getLsbD_allOnes, BitVec.getLsbD_ofNat, BitVec.getLsbD_ofNat]
  have t3 : ∀ j, Nat.testBit 3 j = decide (j < 2) := by
    intro j
    have := Nat.testBit_two_pow_sub_one 2 j
    simpa using this
  have tc : ∀ j, 2 ≤ j → Nat.testBit c j = false := fun j hj => Nat.testBit_lt_two_pow (Nat.lt_of_lt_of_le hc (Nat.pow_le_pow_right (n := 2) (by decide) hj))
  rw [t3]
  by_cases h1 : k ≤ i
  · by_cases h2 : i < k + 2
    · rw [if_pos ⟨h1, h2⟩]
      simp [hi, show ¬ i < k by omega, show i - k < 2 by omega, show i - k < 64 by omega]
    · rw [if_neg (fun z => h2 z.2)]
      simp [hi, show ¬ i < k by omega, show ¬ i - k < 2 by omega, tc (i - k) (by omega)]
  · rw [if_neg (fun z => h1 z.1)]
    simp [hi, show i < k by omega]
theorem tl_set (W : Int64) {j j2 c : Nat} (hj : j < 32) (hj2 : j2 < 32) (hc : c < 4) : tl2 (tlS W (2 * j) c) (2 * j2) = if j2 = j then c else tl2 W (2 * j2) := by
  rw [tl_bits, tl_bits, tl_bitS W (by omega) hc (by omega), tl_bitS W (by omega) hc (by omega)]
  by_cases h : j2 = j
  · subst h
    rw [if_pos (by omega), if_pos (by omega), if_pos rfl, Nat.sub_self, show 2 * j2 + 1 - 2 * j2 = 1 by omega]
    have : ∀ c, c < 4 → (c.testBit 0).toNat + 2 * (c.testBit 1).toNat = c := by decide
    exact this c hc
  · rw [if_neg (by omega), if_neg (by omega), if_neg h]

def tol (κ : Mem) (g p σ : Nat) : Nat := tl2 (ml κ (g + 3) (p * 32 + σ / 32)) (2 * (σ % 32))
def telK (κ : Mem) (g p σ c : Nat) : Mem := setL κ (g + 3) (p * 32 + σ / 32) (tlS (ml κ (g + 3) (p * 32 + σ / 32)) (2 * (σ % 32)) c)
theorem tol_lt (κ : Mem) (g p σ : Nat) : tol κ g p σ < 4 := tl2_lt _ _
theorem tol_telK (κ : Mem) (g : Nat) {p σ c p2 σ2 : Nat} (hs : σ < 1024) (hs2 : σ2 < 1024) (hc : c < 4) : tol (telK κ g p σ c) g p2 σ2 = if p2 = p ∧ σ2 = σ then c else tol κ g p2 σ2 := by
  unfold tol telK
  rw [ml_setL]
  by_cases h : p2 * 32 + σ2 / 32 = p * 32 + σ / 32
  · rw [if_pos ⟨rfl, h⟩, tl_set _ (Nat.mod_lt _ (by decide)) (Nat.mod_lt _ (by decide)) hc, h]
    by_cases h2 : σ2 % 32 = σ % 32
    · rw [if_pos h2, if_pos (by omega)]
    · rw [if_neg h2, if_neg (by rintro ⟨rfl, rfl⟩; exact h2 rfl)]
  · rw [if_neg (fun z => h z.2), if_neg (by rintro ⟨rfl, rfl⟩; exact h rfl)]
theorem tol_telK_ne (κ : Mem) {g g2 p σ c p2 σ2 : Nat} (h : g2 ≠ g) : tol (telK κ g p σ c) g2 p2 σ2 = tol κ g2 p2 σ2 := by
  unfold tol telK
  rw [ml_setL, if_neg (fun z => h (by omega))]
theorem mi_telK (κ : Mem) (g p σ c a b : Nat) : mi (telK κ g p σ c) a b = mi κ a b := rfl
theorem mr_telK (κ : Mem) (g p σ c a b : Nat) : mr (telK κ g p σ c) a b = mr κ a b := rfl
theorem agr_telK {S : Nat → Prop} {κ : Mem} {g p σ c : Nat} (h : S (g + 3)) : agr S κ (telK κ g p σ c) := agr_setL h
theorem sX2_told (κ : Mem) (g : Nat) {p σ : Nat} (hp : p < 6) (hs : σ < 1024) : pX2_told g κ (nI p) (nI σ) = some (nI (tol κ g p σ)) := by
  unfold pX2_told pX2_told_27
  simp (disch := omega) only [n_0, n_1, n_2, n_3, n_4, n_5, n_6, n_7, n_8, n_9, n_10, n_12, n_13, n_14, n_20, n_31, n_32, n_63, n_64, n_600, n_1024, n_4096, n_6157, n_add, n_mul, nm_def, Option.bind_some, Option.some.injEq, ck_in, ck_nz, ck_p, n_cl, n_lt, n_le, n_eq, n_div, n_rem, if_pos, if_neg, if_true, if_false, eq_self, n_192, n_256, n_20000, m1_n0, m1_np, m1_n0p, m1_lt0, m1_lt0p, mi_setIA, mi_setI, ml_setIA, ml_setI, mr_setI, mr_setIA]
  exact tl_get _ (by omega)
theorem sX2_tell (κ : Mem) (g : Nat) {p σ c : Nat} (hp : p < 6) (hs : σ < 1024) : pX2_tell g κ (nI p) (nI σ) (nI c) = some (telK κ g p σ c) := by
  unfold pX2_tell pX2_tell_30
  simp (disch := omega) only [n_0, n_1, n_2, n_3, n_4, n_5, n_6, n_7, n_8, n_9, n_10, n_12, n_13, n_14, n_20, n_31, n_32, n_63, n_64, n_600, n_1024, n_4096, n_6157, n_add, n_mul, nm_def, Option.bind_some, Option.some.injEq, ck_in, ck_nz, ck_p, n_cl, n_lt, n_le, n_eq, n_div, n_rem, if_pos, if_neg, if_true, if_false, eq_self, n_192, n_256, n_20000, m1_n0, m1_np, m1_n0p, m1_lt0, m1_lt0p, mi_setIA, mi_setI, ml_setIA, ml_setI, mr_setI, mr_setIA]
  rfl
/-- the memory holds the game at g -/
def XG (κ : Mem) (g : Nat) (G : Gm) : Prop := mi κ g 0 = nI (Gn G) ∧ (∀ p, p < Gn G → mi κ (g + 1) p = nI (Gh G p)) ∧ (∀ p, p < Gn G → mi κ (g + 2) p = nI (Gs G p)) ∧ ∀ p, p < Gn G → ∀ σ, σ < sit G p → tol κ g p σ = Gt G p σ
section X2
variable {κ : Mem} {g : Nat} {G : Gm} {F p q : Nat}
theorem XG.n (h : XG κ g G) : mi κ g 0 = nI (Gn G) := h.1
theorem XG.h (h : XG κ g G) (hp : p < Gn G) : mi κ (g + 1) p = nI (Gh G p) := h.2.1 p hp
theorem XG.s (h : XG κ g G) (hp : p < Gn G) : mi κ (g + 2) p = nI (Gs G p) := h.2.2.1 p hp
theorem XG.t (h : XG κ g G) (hp : p < Gn G) {σ : Nat} (hs : σ < sit G p) : tol κ g p σ = Gt G p σ := h.2.2.2 p hp σ hs
theorem XG.agr {S : Nat → Prop} {κ1 : Mem} (h : XG κ g G) (ha : agr S κ κ1) (h0 : ¬ S g) (h1 : ¬ S (g + 1)) (h2 : ¬ S (g + 2)) (h3 : ¬ S (g + 3)) : XG κ1 g G :=
  ⟨(agr_mi ha h0 0).trans h.1, fun p hp => (agr_mi ha h1 p).trans (h.h hp), fun p hp => (agr_mi ha h2 p).trans (h.s hp), fun p hp σ hs => by
    unfold tol
    rw [agr_ml ha h3]
    exact h.t hp hs⟩
theorem hw_lt (hw : WF G) (hp : p < Gn G) : p < 6 := Nat.lt_of_lt_of_le hp hw.n6
theorem sX2_watches (hG : XG κ g G) (hw : WF G) (hp : p < Gn G) (hq : q < 32) : pX2_watches g κ (nI p) (nI q) = some (nI (sees G p q).toNat) := by
  have hp6 := hw_lt hw hp
  have hs := hw.s64 hp
  unfold pX2_watches pX2_watches_19
  simp (disch := omega) only [n_0, n_1, n_2, n_3, n_4, n_5, n_6, n_7, n_8, n_9, n_10, n_12, n_13, n_14, n_20, n_31, n_32, n_63, n_64, n_600, n_1024, n_4096, n_6157, n_add, n_mul, nm_def, Option.bind_some, Option.some.injEq, ck_in, ck_nz, ck_p, n_cl, n_lt, n_le, n_eq, n_div, n_rem, if_pos, if_neg, if_true, if_false, eq_self, n_192, n_256, n_20000, m1_n0, m1_np, m1_n0p, m1_lt0, m1_lt0p, mi_setIA, mi_setI, ml_setIA, ml_setI, mr_setI, mr_setIA, hG.s hp, n_hasbit]
  show (if sees G p q = true then _ else _) = _
  cases sees G p q <;> rfl
theorem sX2_weightBehind0 {t : Nat → Nat → Nat} {v2 : Int32} {a : Nat} (hG : XG κ g (Gn G, Gh G, Gs G, t)) (hw : WF G) (hF : 10 < F) (hp : p < Gn G) (hv : v2 + 1 = nI a) (ha : a ≤ Gn G) : pX2_weightBehind F g κ (nI p) v2 = some (nI (wB G p a)) := by
  have hp6 := hw_lt hw hp
  have e0 : mi κ g 0 = nI (Gn G) := hG.1
  have e1 : ∀ q, q < Gn G → mi κ (g + 1) q = nI (Gh G q) := hG.2.1
  have e2 : mi κ (g + 2) p = nI (Gs G p) := hG.2.2.1 p hp
  have hn := hw.n6
  unfold pX2_weightBehind
  rw [nm_def, hv]
  have hs := hw.s64 hp
  have key : pX2_weightBehind_7 F g κ (nI p) F (nI (pw (fac G p) a (a - a))) (nI a) = _ := lp_up (fun fu i => pX2_weightBehind_7 F g κ (nI p) fu (nI (pw (fac G p) a (i - a))) (nI i)) a (Gn G) (some (nI (wB G p a)))
    (fun fu => by
      show pX2_weightBehind_7 F g κ (nI p) (fu + 1) _ _ = _
      rw [pX2_weightBehind_7]
      simp (disch := omega) only [n_0, n_1, n_2, n_3, n_4, n_5, n_6, n_7, n_8, n_9, n_10, n_12, n_13, n_14, n_20, n_31, n_32, n_63, n_64, n_600, n_1024, n_4096, n_6157, n_add, n_mul, nm_def, Option.bind_some, Option.some.injEq, ck_in, ck_nz, ck_p, n_cl, n_lt, n_le, n_eq, n_div, n_rem, if_pos, if_neg, if_true, if_false, eq_self, n_192, n_256, n_20000, m1_n0, m1_np, m1_n0p, m1_lt0, m1_lt0p, mi_setIA, mi_setI, ml_setIA, ml_setI, mr_setI, mr_setIA, e0]
      rfl)
    (fun fu i h1 h2 => by
      show pX2_weightBehind_7 F g κ (nI p) (fu + 1) _ _ = pX2_weightBehind_7 F g κ (nI p) fu _ _
      rw [pX2_weightBehind_7]
      unfold pX2_weightBehind_41
      simp (disch := omega) only [n_0, n_1, n_2, n_3, n_4, n_5, n_6, n_7, n_8, n_9, n_10, n_12, n_13, n_14, n_20, n_31, n_32, n_63, n_64, n_600, n_1024, n_4096, n_6157, n_add, n_mul, nm_def, Option.bind_some, Option.some.injEq, ck_in, ck_nz, ck_p, n_cl, n_lt, n_le, n_eq, n_div, n_rem, if_pos, if_neg, if_true, if_false, eq_self, n_192, n_256, n_20000, m1_n0, m1_np, m1_n0p, m1_lt0, m1_lt0p, mi_setIA, mi_setI, ml_setIA, ml_setI, mr_setI, mr_setIA, e0, e2, n_hasbit, e1 i h2]
      have e : pw (fac G p) a (i + 1 - a) = pw (fac G p) a (i - a) * fac G p i := by
        rw [show i + 1 - a = (i - a) + 1 by omega, pw, show a + (i - a) = i by omega]
      rw [e]
      unfold fac
      show (if sees G p i = true then _ else _) = _
      cases sees G p i
      · simp
      · simp)
    ha F (by omega)
  rw [Nat.sub_self] at key
  exact key
theorem sX2_weightBehind {v2 : Int32} {a : Nat} (hG : XG κ g G) (hw : WF G) (hF : 10 < F) (hp : p < Gn G) (hv : v2 + 1 = nI a) (ha : a ≤ Gn G) : pX2_weightBehind F g κ (nI p) v2 = some (nI (wB G p a)) := sX2_weightBehind0 (t := Gt G) hG hw hF hp hv ha
theorem sX2_situations (hG : XG κ g G) (hw : WF G) (hF : 10 < F) (hp : p < Gn G) : pX2_situations F g κ (nI p) = some (nI (sit G p)) := by
  unfold pX2_situations
  rw [sX2_weightBehind (a := 0) hG hw hF hp rfl (Nat.zero_le _)]
  rfl
theorem sX2_weight (hG : XG κ g G) (hw : WF G) (hF : 10 < F) (hp : p < Gn G) (hq : q < Gn G) : pX2_weight F g κ (nI p) (nI q) = some (nI (if sees G p q then wB G p (q + 1) else 0)) := by
  have hq6 := hw_lt hw hq
  unfold pX2_weight pX2_weight_19
  rw [sX2_watches hG hw hp (by omega)]
  simp (disch := omega) only [n_0, n_1, n_2, n_3, n_4, n_5, n_6, n_7, n_8, n_9, n_10, n_12, n_13, n_14, n_20, n_31, n_32, n_63, n_64, n_600, n_1024, n_4096, n_6157, n_add, n_mul, nm_def, Option.bind_some, Option.some.injEq, ck_in, ck_nz, ck_p, n_cl, n_lt, n_le, n_eq, n_div, n_rem, if_pos, if_neg, if_true, if_false, eq_self, n_192, n_256, n_20000, m1_n0, m1_np, m1_n0p, m1_lt0, m1_lt0p, mi_setIA, mi_setI, ml_setIA, ml_setI, mr_setI, mr_setIA, sX2_weightBehind (a := q + 1) hG hw hF hp (n_add q 1) hq]
  cases sees G p q <;> rfl
/-- the colour of q in a situation of p (the players behind q make wB) -/
def cIn (G : Gm) (p q σ : Nat) : Nat := σ / wB G p (q + 1) % Gh G q
theorem sX2_colourIn {σ : Nat} (hG : XG κ g G) (hw : WF G) (hF : 10 < F) (hp : p < Gn G) (hq : q < Gn G) (hs : σ < 2147483648) : pX2_colourIn F g κ (nI p) (nI σ) (nI q) = some (nI (cIn G p q σ)) := by
  have hq6 := hw_lt hw hq
  have h1 := wB_pos (p := p) hw (q + 1)
  have h2 := wB_le (p := p) hw (q + 1)
  have h3 := hw.h1 hq
  have h4 := hw.h4 hq
  have h5 : σ / wB G p (q + 1) < 2147483648 := Nat.lt_of_le_of_lt (Nat.div_le_self _ _) hs
  unfold pX2_colourIn
  rw [sX2_weightBehind (a := q + 1) hG hw hF hp (n_add q 1) hq]
  simp (disch := omega) only [n_0, n_1, n_2, n_3, n_4, n_5, n_6, n_7, n_8, n_9, n_10, n_12, n_13, n_14, n_20, n_31, n_32, n_63, n_64, n_600, n_1024, n_4096, n_6157, n_add, n_mul, nm_def, Option.bind_some, Option.some.injEq, ck_in, ck_nz, ck_p, n_cl, n_lt, n_le, n_eq, n_div, n_rem, if_pos, if_neg, if_true, if_false, eq_self, n_192, n_256, n_20000, m1_n0, m1_np, m1_n0p, m1_lt0, m1_lt0p, mi_setIA, mi_setI, ml_setIA, ml_setI, mr_setI, mr_setIA, hG.h hq]
  rfl
/-- who sees one -/
theorem sX2_seenBy (hG : XG κ g G) (hw : WF G) (hF : 10 < F) (hp : p < 32) : pX2_seenBy F g κ (nI p) = some (nI (msk (fun q => sees G q p) (Gn G))) := by
  have hn := hw.n6
  unfold pX2_seenBy
  refine lp_up (fun fu i => pX2_seenBy_4 F g κ (nI p) fu (nI (msk (fun q => sees G q p) i)) (nI i)) 0 (Gn G) _
    (fun fu => by
      show pX2_seenBy_4 F g κ (nI p) (fu + 1) _ _ = _
      rw [pX2_seenBy_4]
      simp (disch := omega) only [n_0, n_1, n_2, n_3, n_4, n_5, n_6, n_7, n_8, n_9, n_10, n_12, n_13, n_14, n_20, n_31, n_32, n_63, n_64, n_600, n_1024, n_4096, n_6157, n_add, n_mul, nm_def, Option.bind_some, Option.some.injEq, ck_in, ck_nz, ck_p, n_cl, n_lt, n_le, n_eq, n_div, n_rem, if_pos, if_neg, if_true, if_false, eq_self, n_192, n_256, n_20000, m1_n0, m1_np, m1_n0p, m1_lt0, m1_lt0p, mi_setIA, mi_setI, ml_setIA, ml_setI, mr_setI, mr_setIA, hG.n])
    (fun fu i _ h2 => by
      show pX2_seenBy_4 F g κ (nI p) (fu + 1) _ _ = pX2_seenBy_4 F g κ (nI p) fu _ _
      have hs := hw.s64 h2
      rw [pX2_seenBy_4]
      unfold pX2_seenBy_32
      simp (disch := omega) only [n_0, n_1, n_2, n_3, n_4, n_5, n_6, n_7, n_8, n_9, n_10, n_12, n_13, n_14, n_20, n_31, n_32, n_63, n_64, n_600, n_1024, n_4096, n_6157, n_add, n_mul, nm_def, Option.bind_some, Option.some.injEq, ck_in, ck_nz, ck_p, n_cl, n_lt, n_le, n_eq, n_div, n_rem, if_pos, if_neg, if_true, if_false, eq_self, n_192, n_256, n_20000, m1_n0, m1_np, m1_n0p, m1_lt0, m1_lt0p, mi_setIA, mi_setI, ml_setIA, ml_setI, mr_setI, mr_setIA, hG.n, hG.s h2, n_hasbit, n_shl1, n_or, msk]
      show (if sees G i p = true then _ else _) = _
      by_cases h : sees G i p = true
      · simp [h]
      · simp [h])
    (Nat.zero_le _) F (by omega)
/-- in how many situations one guesses a colour -/
theorem sX2_timesTold {c : Nat} (hG : XG κ g G) (hw : WF G) (hF : 2000 < F) (hp : p < Gn G) (hc : c < 2147483648) : pX2_timesTold F g κ (nI p) (nI c) = some (nI (cnt (fun σ => decide (Gt G p σ = c)) (sit G p))) := by
  have hs := sit_le hw hp
  have hp6 := hw_lt hw hp
  unfold pX2_timesTold
  rw [sX2_situations hG hw (by omega) hp, Option.bind_some]
  refine lp_up (fun fu i => pX2_timesTold_12 F g κ (nI p) (nI c) (nI (sit G p)) fu (nI (cnt (fun σ => decide (Gt G p σ = c)) i)) (nI i)) 0 (sit G p) _
    (fun fu => by
      show pX2_timesTold_12 F g κ (nI p) (nI c) (nI (sit G p)) (fu + 1) _ _ = _
      rw [pX2_timesTold_12]
      simp (disch := omega) only [n_0, n_1, n_2, n_3, n_4, n_5, n_6, n_7, n_8, n_9, n_10, n_12, n_13, n_14, n_20, n_31, n_32, n_63, n_64, n_600, n_1024, n_4096, n_6157, n_add, n_mul, nm_def, Option.bind_some, Option.some.injEq, ck_in, ck_nz, ck_p, n_cl, n_lt, n_le, n_eq, n_div, n_rem, if_pos, if_neg, if_true, if_false, eq_self, n_192, n_256, n_20000, m1_n0, m1_np, m1_n0p, m1_lt0, m1_lt0p, mi_setIA, mi_setI, ml_setIA, ml_setI, mr_setI, mr_setIA])
    (fun fu i _ h2 => by
      show pX2_timesTold_12 F g κ (nI p) (nI c) (nI (sit G p)) (fu + 1) _ _ = pX2_timesTold_12 F g κ (nI p) (nI c) (nI (sit G p)) fu _ _
      have ht := tol_lt κ g p i
      rw [pX2_timesTold_12]
      unfold pX2_timesTold_33
      simp (disch := omega) only [n_0, n_1, n_2, n_3, n_4, n_5, n_6, n_7, n_8, n_9, n_10, n_12, n_13, n_14, n_20, n_31, n_32, n_63, n_64, n_600, n_1024, n_4096, n_6157, n_add, n_mul, nm_def, Option.bind_some, Option.some.injEq, ck_in, ck_nz, ck_p, n_cl, n_lt, n_le, n_eq, n_div, n_rem, if_pos, if_neg, if_true, if_false, eq_self, n_192, n_256, n_20000, m1_n0, m1_np, m1_n0p, m1_lt0, m1_lt0p, mi_setIA, mi_setI, ml_setIA, ml_setI, mr_setI, mr_setIA, sX2_told κ g hp6, hG.t hp h2, cnt]
      rw [hG.t hp h2] at ht
      simp (disch := omega) only [n_0, n_1, n_2, n_3, n_4, n_5, n_6, n_7, n_8, n_9, n_10, n_12, n_13, n_14, n_20, n_31, n_32, n_63, n_64, n_600, n_1024, n_4096, n_6157, n_add, n_mul, nm_def, Option.bind_some, Option.some.injEq, ck_in, ck_nz, ck_p, n_cl, n_lt, n_le, n_eq, n_div, n_rem, if_pos, if_neg, if_true, if_false, eq_self, n_192, n_256, n_20000, m1_n0, m1_np, m1_n0p, m1_lt0, m1_lt0p, mi_setIA, mi_setI, ml_setIA, ml_setI, mr_setI, mr_setIA]
      by_cases h : Gt G p i = c
      · simp [h]
      · simp [h])
    (Nat.zero_le _) F (by omega)
end X2
