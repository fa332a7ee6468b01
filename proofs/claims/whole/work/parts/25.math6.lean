/-! THE CLASS'S GAME: what changes it; rows that grow -/
def LC : Int64 := 6364136223846793005
def LD : Int64 := 1442695040888963407
theorem LC_eq : (6364136223846793005 : Int64) = LC := rfl
theorem LD_eq : (1442695040888963407 : Int64) = LD := rfl
def lcg (x : Int64) : Int64 := x * LC + LD
theorem lcg_eq (x : Int64) : x * LC + LD = lcg x := rfl
def lcF (f : Int64 → Int64) : Nat → Int64 → Int64
  | 0, x => x
  | k + 1, x => lcF f k (f x)
theorem lcF_1 (f : Int64 → Int64) (x : Int64) : lcF f 1 x = f x := by rw [lcF, lcF]
theorem lcF_s (f : Int64 → Int64) (k : Nat) (x : Int64) : lcF f (k + 1) x = lcF f k (f x) := by rw [lcF]
theorem lcF_0 (f : Int64 → Int64) (x : Int64) : lcF f 0 x = x := by rw [lcF]
theorem lcF_add (f : Int64 → Int64) (a : Nat) : ∀ (b : Nat) (x : Int64), lcF f a (lcF f b x) = lcF f (b + a) x := by
  intro b
  induction b with
  | zero => intro x; rw [Nat.zero_add, lcF]
  | succ b ih => intro x; rw [lcF, ih, show b + 1 + a = (b + a) + 1 by omega, lcF]
def dr (x : Int64) (h : Nat) : Nat := x.toBitVec.toNat / 8589934592 % h
theorem dr_lt {x : Int64} {h : Nat} (hh : 1 ≤ h) : dr x h < h := Nat.mod_lt _ hh
theorem ushr33 (x : Int64) : (x.toUInt64 >>> ((33 : Int32).toInt64.toUInt64 &&& Int64.toUInt64 63)).toInt64 = lN (x.toBitVec.toNat / 8589934592) := by
  rw [show (33 : Int32) = nI 33 from rfl, tl_cu 33 (by decide)]
  apply Int64.toBitVec_inj.mp
  apply BitVec.eq_of_toNat_eq
  have e : (lN (x.toBitVec.toNat / 8589934592)).toBitVec.toNat = x.toBitVec.toNat / 8589934592 := by
    show (BitVec.ofNat 64 _).toNat = _
    rw [BitVec.toNat_ofNat]
    exact Nat.mod_eq_of_lt (Nat.lt_of_le_of_lt (Nat.div_le_self _ _) x.toBitVec.isLt)
  rw [e]
  simp
  rw [Nat.shiftRight_eq_div_pow]
theorem dr_eq (x : Int64) {h : Nat} (h1 : 1 ≤ h) (h4 : h ≤ 4) : ((x.toUInt64 >>> ((33 : Int32).toInt64.toUInt64 &&& Int64.toUInt64 63)).toInt64 - (x.toUInt64 >>> ((33 : Int32).toInt64.toUInt64 &&& Int64.toUInt64 63)).toInt64 / (nI h).toInt64 * (nI h).toInt64).toInt32 = nI (dr x h) := by
  have hx := x.toBitVec.isLt
  have hl : x.toBitVec.toNat / 8589934592 < 2 ^ 63 := by omega
  rw [ushr33, nI_l (by omega), pk_lRem hl h1 (by omega), lN_i]
  rfl
theorem ckZL_h {ρ : Type} {h : Nat} {x : Option ρ} (h1 : 1 ≤ h) (h4 : h ≤ 4) : ckZL (nI h).toInt64 x = x := by
  unfold ckZL
  rw [if_neg]
  rw [nI_l (by omega), show (0 : Int64) = lN 0 from rfl, pk_lEQ (by omega) (by decide)]
  omega
def withT (G : Gm) (t : Nat → Nat → Nat) : Gm := (Gn G, Gh G, Gs G, t)
theorem XG_withT {κ κ1 : Mem} {g : Nat} {G : Gm} {t : Nat → Nat → Nat} (hG : XG κ g G) (ha : agr (fun k => k = g + 3) κ κ1) (ht : ∀ p, p < Gn G → ∀ σ, σ < sit G p → tol κ1 g p σ = t p σ) : XG κ1 g (withT G t) :=
  ⟨(agr_mi ha (by omega) 0).trans hG.1, fun p hp => (agr_mi ha (by omega) p).trans (hG.h hp), fun p hp => (agr_mi ha (by omega) p).trans (hG.s hp), ht⟩
theorem WF_withT {G : Gm} {t : Nat → Nat → Nat} (hw : WF G) (ht : ∀ p, p < Gn G → ∀ σ, σ < sit G p → t p σ < Gh G p) : WF (withT G t) :=
  ⟨hw.1, fun p hp => ⟨(hw.2 p hp).1, (hw.2 p hp).2.1, (hw.2 p hp).2.2.1, ht p hp⟩⟩
def drT (G : Gm) (x : Int64) (p σ : Nat) : Nat := dr (lcF lcg (sm (sit G) p + σ + 1) x) (Gh G p)
theorem XG_tt {κ κ1 : Mem} {g : Nat} {G : Gm} (hG : XG κ g (withT G (fun p σ => tol κ g p σ))) (ha : agr (fun k => k = g + 3) κ κ1) : XG κ1 g (withT G (fun p σ => tol κ1 g p σ)) :=
  ⟨(agr_mi ha (by omega) 0).trans hG.1, fun p hp => (agr_mi ha (by omega) p).trans (hG.2.1 p hp), fun p hp => (agr_mi ha (by omega) p).trans (hG.2.2.1 p hp), fun _ _ _ _ => rfl⟩
section X2c
variable {g : Nat} {G : Gm} {F p q : Nat}
theorem sX2_draw_in {k6 : Mem → Int64 → Int32 → Option Mem} {h all : Nat} (hp : p < 6) (h1 : 1 ≤ h) (h4 : h ≤ 4) (hall : all ≤ 1024) : ∀ (k fu : Nat) (κ : Mem) (x : Int64) (i : Nat), mi κ (g + 1) p = nI h → i + k = all → k < fu → ∃ κ1, agr (fun k => k = g + 3) κ κ1 ∧ (∀ p2 σ2, σ2 < 1024 → tol κ1 g p2 σ2 = if p2 = p ∧ i ≤ σ2 ∧ σ2 < all then dr (lcF lcg (σ2 - i + 1) x) h else tol κ g p2 σ2) ∧ pX2_draw_26 F g k6 (nI p) (nI all) fu κ x (nI i) = k6 κ1 (lcF lcg k x) (nI (p + 1)) := by
  intro k
  induction k with
  | zero =>
    intro fu κ x i hh hi hf
    refine ⟨κ, agr_rfl, fun p2 σ2 _ => by rw [if_neg (by omega)], ?_⟩
    cases fu with
    | zero => omega
    | succ fu =>
      rw [pX2_draw_26]
      simp (disch := omega) only [n_0, n_1, n_2, n_3, n_4, n_5, n_6, n_7, n_8, n_9, n_10, n_12, n_13, n_14, n_20, n_31, n_32, n_63, n_64, n_600, n_1024, n_4096, n_6157, n_add, n_mul, nm_def, Option.bind_some, Option.some.injEq, ck_in, ck_nz, ck_p, n_cl, n_lt, n_le, n_eq, n_div, n_rem, if_pos, if_neg, if_true, if_false, eq_self, n_192, n_256, n_20000, m1_n0, m1_np, m1_n0p, m1_lt0, m1_lt0p, mi_setIA, mi_setI, ml_setIA, ml_setI, mr_setI, mr_setIA, lcF]
  | succ k ih =>
    intro fu κ x i hh hi hf
    cases fu with
    | zero => omega
    | succ fu =>
      obtain ⟨κ1, a1, a2, a3⟩ := ih fu (telK κ g p i (dr (lcg x) h)) (lcg x) (i + 1) (by rw [mi_telK]; exact hh) (by omega) (by omega)
      have hd := dr_lt (x := lcg x) h1
      refine ⟨κ1, agr_trans (agr_telK rfl) a1, fun p2 σ2 hs => ?_, ?_⟩
      · rw [a2 p2 σ2 hs, tol_telK κ g (by omega) hs (by omega)]
        by_cases e : p2 = p
        · subst e
          by_cases e2 : σ2 = i
          · subst e2
            rw [if_neg (by omega), if_pos ⟨rfl, rfl⟩, if_pos ⟨rfl, Nat.le_refl _, by omega⟩, Nat.sub_self, Nat.zero_add, lcF_1]
          · by_cases e3 : i + 1 ≤ σ2 ∧ σ2 < all
            · rw [if_pos ⟨rfl, e3⟩, if_pos ⟨rfl, by omega, e3.2⟩, show σ2 - i + 1 = (σ2 - (i + 1) + 1) + 1 by omega, lcF_s lcg (σ2 - (i + 1) + 1) x]
            · rw [if_neg (fun z => e3 z.2), if_neg (fun z => e2 z.2), if_neg (by omega)]
        · rw [if_neg (fun z => e z.1), if_neg (fun z => e z.1), if_neg (fun z => e z.1)]
      · rw [pX2_draw_26]
        simp (disch := omega) only [n_0, n_1, n_2, n_3, n_4, n_5, n_6, n_7, n_8, n_9, n_10, n_12, n_13, n_14, n_20, n_31, n_32, n_63, n_64, n_600, n_1024, n_4096, n_6157, n_add, n_mul, nm_def, Option.bind_some, Option.some.injEq, ck_in, ck_nz, ck_p, n_cl, n_lt, n_le, n_eq, n_div, n_rem, if_pos, if_neg, if_true, if_false, eq_self, n_192, n_256, n_20000, m1_n0, m1_np, m1_n0p, m1_lt0, m1_lt0p, mi_setIA, mi_setI, ml_setIA, ml_setI, mr_setI, mr_setIA, hh, LC_eq, LD_eq, lcg_eq]
        rw [ckZL_h h1 h4, dr_eq _ h1 h4, sX2_tell κ g hp (by omega), Option.bind_some, a3, lcF_s]
theorem sX2_draw {κ : Mem} {x : Int32} (hG : XG κ g G) (hw : WF G) (hF : 2000 < F) : ∃ κ1, agr (fun k => k = g + 3) κ κ1 ∧ XG κ1 g (withT G (drT G x.toInt64)) ∧ pX2_draw F g κ x = some κ1 := by
  have hn := hw.n6
  have key : ∀ (k fu : Nat) (κ2 : Mem) (y : Int64) (i : Nat), XG κ2 g (withT G (fun p σ => tol κ2 g p σ)) → i + k = Gn G → k < fu → ∃ κ1, agr (fun k => k = g + 3) κ2 κ1 ∧ (∀ p, p < Gn G → ∀ σ, σ < sit G p → tol κ1 g p σ = if i ≤ p then dr (lcF lcg (sm (sit G) p - sm (sit G) i + σ + 1) y) (Gh G p) else tol κ2 g p σ) ∧ pX2_draw_6 F g fu κ2 y (nI i) = some κ1 := by
    intro k
    induction k with
    | zero =>
      intro fu κ2 y i hG2 hi hf
      refine ⟨κ2, agr_rfl, fun p hp σ _ => by rw [if_neg (by omega)], ?_⟩
      cases fu with
      | zero => omega
      | succ fu =>
        have e : mi κ2 g 0 = nI (Gn G) := hG2.1
        rw [pX2_draw_6]
        simp (disch := omega) only [n_0, n_1, n_2, n_3, n_4, n_5, n_6, n_7, n_8, n_9, n_10, n_12, n_13, n_14, n_20, n_31, n_32, n_63, n_64, n_600, n_1024, n_4096, n_6157, n_add, n_mul, nm_def, Option.bind_some, Option.some.injEq, ck_in, ck_nz, ck_p, n_cl, n_lt, n_le, n_eq, n_div, n_rem, if_pos, if_neg, if_true, if_false, eq_self, n_192, n_256, n_20000, m1_n0, m1_np, m1_n0p, m1_lt0, m1_lt0p, mi_setIA, mi_setI, ml_setIA, ml_setI, mr_setI, mr_setIA, e]
    | succ k ih =>
      intro fu κ2 y i hG2 hi hf
      cases fu with
      | zero => omega
      | succ fu =>
        have hi2 : i < Gn G := by omega
        have h1 := hw.h1 hi2
        have h4 := hw.h4 hi2
        have hs := sit_le hw hi2
        have e : mi κ2 g 0 = nI (Gn G) := hG2.1
        have eh : mi κ2 (g + 1) i = nI (Gh G i) := hG2.2.1 i hi2
        have e2 : pX2_situations F g κ2 (nI i) = some (nI (sit G i)) := by
          unfold pX2_situations
          rw [sX2_weightBehind0 (F := F) (G := G) (a := 0) (t := fun p σ => tol κ2 g p σ) hG2 hw (by omega) hi2 rfl (Nat.zero_le _)]
          rfl
        obtain ⟨κ3, a1, a2, a3⟩ := sX2_draw_in (g := g) (F := F) (k6 := pX2_draw_6 F g fu) (p := i) (by omega) h1 h4 hs (sit G i) F κ2 y 0 eh (by omega) (by omega)
        obtain ⟨κ4, b1, b2, b3⟩ := ih fu κ3 (lcF lcg (sit G i) y) (i + 1) (XG_tt hG2 a1) (by omega) (by omega)
        refine ⟨κ4, agr_trans a1 b1, fun p hp σ hσ => ?_, ?_⟩
        · have hs2 := sit_le hw hp
          rw [b2 p hp σ hσ, a2 p σ (by omega)]
          by_cases c : i + 1 ≤ p
          · have hm : sm (sit G) (i + 1) ≤ sm (sit G) p := by
              obtain ⟨d, rfl⟩ := Nat.le.dest c
              rw [sm_app (sit G) (i + 1) d]; exact Nat.le_add_right _ _
            rw [if_pos c, if_pos (by omega), lcF_add]
            congr 2
            rw [sm] at hm ⊢
            omega
          · rw [if_neg c]
            by_cases c2 : i ≤ p
            · have : p = i := by omega
              subst this
              rw [if_pos ⟨rfl, Nat.zero_le _, hσ⟩, if_pos (Nat.le_refl _), Nat.sub_self, Nat.sub_zero, Nat.zero_add]
            · rw [if_neg (by omega), if_neg c2]
        · rw [pX2_draw_6]
          simp (disch := omega) only [n_0, n_1, n_2, n_3, n_4, n_5, n_6, n_7, n_8, n_9, n_10, n_12, n_13, n_14, n_20, n_31, n_32, n_63, n_64, n_600, n_1024, n_4096, n_6157, n_add, n_mul, nm_def, Option.bind_some, Option.some.injEq, ck_in, ck_nz, ck_p, n_cl, n_lt, n_le, n_eq, n_div, n_rem, if_pos, if_neg, if_true, if_false, eq_self, n_192, n_256, n_20000, m1_n0, m1_np, m1_n0p, m1_lt0, m1_lt0p, mi_setIA, mi_setI, ml_setIA, ml_setI, mr_setI, mr_setIA, e, e2]
          exact a3.trans b3
  obtain ⟨κ1, a1, a2, a3⟩ := key (Gn G) F κ x.toInt64 0 (XG_withT hG agr_rfl (fun _ _ _ _ => rfl)) (by omega) (by omega)
  refine ⟨κ1, a1, XG_withT hG a1 (fun p hp σ hσ => ?_), ?_⟩
  · rw [a2 p hp σ hσ, if_pos (Nat.zero_le _)]
    rfl
  · unfold pX2_draw
    exact a3
/-- the cells of a game -/
def gC (g k : Nat) : Prop := k = g ∨ k = g + 1 ∨ k = g + 2 ∨ k = g + 3
theorem sX2_clear_35 : ∀ (k fu i : Nat) (κ : Mem), i + k = 192 → k < fu → ∃ κ1, agr (fun k => k = g + 3) κ κ1 ∧ (∀ j, i ≤ j → j < 192 → ml κ1 (g + 3) j = 0) ∧ (∀ j, j < i → ml κ1 (g + 3) j = ml κ (g + 3) j) ∧ pX2_clear_35 F g fu κ (nI i) = some κ1 := by
  intro k
  induction k with
  | zero =>
    intro fu i κ hi hf
    refine ⟨κ, agr_rfl, fun j h1 h2 => by omega, fun _ _ => rfl, ?_⟩
    cases fu with
    | zero => omega
    | succ fu => rw [pX2_clear_35]; simp (disch := omega) only [n_0, n_1, n_2, n_3, n_4, n_5, n_6, n_7, n_8, n_9, n_10, n_12, n_13, n_14, n_20, n_31, n_32, n_63, n_64, n_600, n_1024, n_4096, n_6157, n_add, n_mul, nm_def, Option.bind_some, Option.some.injEq, ck_in, ck_nz, ck_p, n_cl, n_lt, n_le, n_eq, n_div, n_rem, if_pos, if_neg, if_true, if_false, eq_self, n_192, n_256, n_20000, m1_n0, m1_np, m1_n0p, m1_lt0, m1_lt0p, mi_setIA, mi_setI, ml_setIA, ml_setI, mr_setI, mr_setIA]
  | succ k ih =>
    intro fu i κ hi hf
    cases fu with
    | zero => omega
    | succ fu =>
      obtain ⟨κ1, a1, a2, a3, a4⟩ := ih fu (i + 1) (setL κ (g + 3) i 0) (by omega) (by omega)
      refine ⟨κ1, agr_trans (agr_setL rfl) a1, fun j h1 h2 => ?_, fun j h1 => ?_, ?_⟩
      · rcases Nat.eq_or_lt_of_le h1 with e | e
        · subst e
          rw [a3 _ (by omega), ml_setL, if_pos ⟨rfl, rfl⟩]
        · exact a2 j e h2
      · rw [a3 j (by omega), ml_setL, if_neg (by omega)]
      · rw [pX2_clear_35]
        simp (disch := omega) only [n_0, n_1, n_2, n_3, n_4, n_5, n_6, n_7, n_8, n_9, n_10, n_12, n_13, n_14, n_20, n_31, n_32, n_63, n_64, n_600, n_1024, n_4096, n_6157, n_add, n_mul, nm_def, Option.bind_some, Option.some.injEq, ck_in, ck_nz, ck_p, n_cl, n_lt, n_le, n_eq, n_div, n_rem, if_pos, if_neg, if_true, if_false, eq_self, n_192, n_256, n_20000, m1_n0, m1_np, m1_n0p, m1_lt0, m1_lt0p, mi_setIA, mi_setI, ml_setIA, ml_setI, mr_setI, mr_setIA]
        exact a4
theorem sX2_clear_7 (hF : 300 < F) : ∀ (k fu i : Nat) (κ : Mem), i + k = 6 → k < fu → ∃ κ1, agr (fun k => k = g + 1 ∨ k = g + 2 ∨ k = g + 3) κ κ1 ∧ (∀ j, i ≤ j → j < 6 → mi κ1 (g + 1) j = nI 2 ∧ mi κ1 (g + 2) j = nI 0) ∧ (∀ j, j < i → mi κ1 (g + 1) j = mi κ (g + 1) j ∧ mi κ1 (g + 2) j = mi κ (g + 2) j) ∧ (∀ j, j < 192 → ml κ1 (g + 3) j = 0) ∧ pX2_clear_7 F g fu κ (nI i) = some κ1 := by
  intro k
  induction k with
  | zero =>
    intro fu i κ hi hf
    obtain ⟨κ1, a1, a2, a3, a4⟩ := sX2_clear_35 (g := g) (F := F) 192 F 0 κ rfl (by omega)
    refine ⟨κ1, agr_mono a1 (fun k h => Or.inr (Or.inr h)), fun j h1 h2 => by omega, fun j _ => ⟨agr_mi a1 (by omega) j, agr_mi a1 (by omega) j⟩, fun j hj => a2 j (Nat.zero_le _) hj, ?_⟩
    cases fu with
    | zero => omega
    | succ fu =>
      rw [pX2_clear_7]
      simp (disch := omega) only [n_0, n_1, n_2, n_3, n_4, n_5, n_6, n_7, n_8, n_9, n_10, n_12, n_13, n_14, n_20, n_31, n_32, n_63, n_64, n_600, n_1024, n_4096, n_6157, n_add, n_mul, nm_def, Option.bind_some, Option.some.injEq, ck_in, ck_nz, ck_p, n_cl, n_lt, n_le, n_eq, n_div, n_rem, if_pos, if_neg, if_true, if_false, eq_self, n_192, n_256, n_20000, m1_n0, m1_np, m1_n0p, m1_lt0, m1_lt0p, mi_setIA, mi_setI, ml_setIA, ml_setI, mr_setI, mr_setIA]
      exact a4
  | succ k ih =>
    intro fu i κ hi hf
    cases fu with
    | zero => omega
    | succ fu =>
      obtain ⟨κ1, a1, a2, a3, a4, a5⟩ := ih fu (i + 1) (setI (setI κ (g + 1) i (nI 2)) (g + 2) i (nI 0)) (by omega) (by omega)
      refine ⟨κ1, agr_trans (agr_trans (agr_setI (Or.inl rfl)) (agr_setI (Or.inr (Or.inl rfl)))) a1, fun j h1 h2 => ?_, fun j h1 => ?_, a4, ?_⟩
      · rcases Nat.eq_or_lt_of_le h1 with e | e
        · subst e
          rw [(a3 i (by omega)).1, (a3 i (by omega)).2, mi_setI, mi_setI, mi_setI, if_neg (by omega), if_pos ⟨rfl, rfl⟩, if_pos ⟨rfl, rfl⟩]
          exact ⟨rfl, rfl⟩
        · exact a2 j e h2
      · rw [(a3 j (by omega)).1, (a3 j (by omega)).2, mi_setI, mi_setI, mi_setI, mi_setI, if_neg (by omega), if_neg (by omega), if_neg (by omega), if_neg (by omega)]
        exact ⟨rfl, rfl⟩
      · rw [pX2_clear_7]
        simp (disch := omega) only [n_0, n_1, n_2, n_3, n_4, n_5, n_6, n_7, n_8, n_9, n_10, n_12, n_13, n_14, n_20, n_31, n_32, n_63, n_64, n_600, n_1024, n_4096, n_6157, n_add, n_mul, nm_def, Option.bind_some, Option.some.injEq, ck_in, ck_nz, ck_p, n_cl, n_lt, n_le, n_eq, n_div, n_rem, if_pos, if_neg, if_true, if_false, eq_self, n_192, n_256, n_20000, m1_n0, m1_np, m1_n0p, m1_lt0, m1_lt0p, mi_setIA, mi_setI, ml_setIA, ml_setI, mr_setI, mr_setIA]
        exact a5
theorem sX2_clear {κ : Mem} {v : Int32} (hF : 300 < F) : ∃ κ1, agr (gC g) κ κ1 ∧ mi κ1 g 0 = v ∧ (∀ p, p < 6 → mi κ1 (g + 1) p = nI 2 ∧ mi κ1 (g + 2) p = nI 0) ∧ (∀ j, j < 192 → ml κ1 (g + 3) j = 0) ∧ pX2_clear F g κ v = some κ1 := by
  obtain ⟨κ1, a1, a2, a3, a4, a5⟩ := sX2_clear_7 (g := g) hF 6 F 0 (setI κ g 0 v) rfl (by omega)
  refine ⟨κ1, agr_trans (agr_setI (Or.inl rfl)) (agr_mono a1 (fun k h => Or.inr h)), ?_, fun p hp => a2 p (Nat.zero_le _) hp, a4, ?_⟩
  · rw [agr_mi a1 (by omega), mi_setI, if_pos ⟨rfl, rfl⟩]
  · unfold pX2_clear
    exact a5
theorem mi_cpI (κ : Mem) (a b n k i : Nat) : mi (cpI κ a b 0 0 n) k i = if k = b ∧ i < n then mi κ a i else mi κ k i := by
  unfold cpI
  rw [mi_setIA]
  unfold va_cpy mi
  by_cases h : k = b
  · subst h
    by_cases h2 : i < n <;> simp [h2]
  · simp [h]
theorem ml_cpL (κ : Mem) (a b n k i : Nat) : ml (cpL κ a b 0 0 n) k i = if k = b ∧ i < n then ml κ a i else ml κ k i := by
  unfold cpL setLA ml va_cpy
  by_cases h : k = b
  · subst h
    by_cases h2 : i < n <;> simp [h2]
  · simp [h]
theorem ck_c {ρ : Type} {n m : Nat} {x : Option ρ} (h : n ≤ m) (hm : m < 2147483648) : ckC (nI 0) (nI 0) (nI n) m m x = x := by
  unfold ckC
  rw [if_neg]
  rw [n_0, n_neg (a := 0) (by decide), n_neg (a := n) (by omega), n_cl (a := 0) (by decide), n_cl (a := n) (by omega)]
  simp
  omega
/-- a game is copied: h, s, t as they were -/
theorem sX2_copy {κ : Mem} {g1 : Nat} (hG : XG κ g1 G) (hw : WF G) (hd : g + 4 ≤ g1 ∨ g1 + 4 ≤ g) : ∃ κ1, agr (gC g) κ κ1 ∧ XG κ1 g G ∧ (∀ i, i < 6 → mi κ1 (g + 1) i = mi κ (g1 + 1) i ∧ mi κ1 (g + 2) i = mi κ (g1 + 2) i) ∧ (∀ j, j < 192 → ml κ1 (g + 3) j = ml κ (g1 + 3) j) ∧ pX2_copy g g1 κ = some κ1 := by
  have e : pX2_copy g g1 κ = some (cpL (cpI (cpI (setI κ g 0 (mi κ g1 0)) (g1 + 1) (g + 1) 0 0 6) (g1 + 2) (g + 2) 0 0 6) (g1 + 3) (g + 3) 0 0 192) := by
    unfold pX2_copy
    simp (disch := omega) only [n_0, n_1, n_2, n_3, n_4, n_5, n_6, n_7, n_8, n_9, n_10, n_12, n_13, n_14, n_20, n_31, n_32, n_63, n_64, n_600, n_1024, n_4096, n_6157, n_add, n_mul, nm_def, Option.bind_some, Option.some.injEq, ck_in, ck_nz, ck_p, n_cl, n_lt, n_le, n_eq, n_div, n_rem, if_pos, if_neg, if_true, if_false, eq_self, n_192, n_256, n_20000, m1_n0, m1_np, m1_n0p, m1_lt0, m1_lt0p, mi_setIA, mi_setI, ml_setIA, ml_setI, mr_setI, mr_setIA, ck_c]
  have m0 : ∀ k i, mi (cpL (cpI (cpI (setI κ g 0 (mi κ g1 0)) (g1 + 1) (g + 1) 0 0 6) (g1 + 2) (g + 2) 0 0 6) (g1 + 3) (g + 3) 0 0 192) k i = mi (cpI (cpI (setI κ g 0 (mi κ g1 0)) (g1 + 1) (g + 1) 0 0 6) (g1 + 2) (g + 2) 0 0 6) k i := fun _ _ => rfl
  have hl : ∀ k i, ml (cpL (cpI (cpI (setI κ g 0 (mi κ g1 0)) (g1 + 1) (g + 1) 0 0 6) (g1 + 2) (g + 2) 0 0 6) (g1 + 3) (g + 3) 0 0 192) k i = if k = g + 3 ∧ i < 192 then ml κ (g1 + 3) i else ml κ k i := fun k i => by rw [ml_cpL]; rfl
  have h1 : ∀ i, i < 6 → mi (cpL (cpI (cpI (setI κ g 0 (mi κ g1 0)) (g1 + 1) (g + 1) 0 0 6) (g1 + 2) (g + 2) 0 0 6) (g1 + 3) (g + 3) 0 0 192) (g + 1) i = mi κ (g1 + 1) i := fun i hi => by
    rw [m0, mi_cpI, if_neg (by omega), mi_cpI, if_pos ⟨rfl, hi⟩, mi_setI, if_neg (by omega)]
  have h2 : ∀ i, i < 6 → mi (cpL (cpI (cpI (setI κ g 0 (mi κ g1 0)) (g1 + 1) (g + 1) 0 0 6) (g1 + 2) (g + 2) 0 0 6) (g1 + 3) (g + 3) 0 0 192) (g + 2) i = mi κ (g1 + 2) i := fun i hi => by
    rw [m0, mi_cpI, if_pos ⟨rfl, hi⟩, mi_cpI, if_neg (by omega), mi_setI, if_neg (by omega)]
  refine ⟨_, ?_, ⟨?_, fun p hp => ?_, fun p hp => ?_, fun p hp σ hs => ?_⟩, fun i hi => ⟨h1 i hi, h2 i hi⟩, fun j hj => ?_, e⟩
  · refine agr_trans (agr_trans (agr_trans (agr_setI (Or.inl rfl)) (agr_setIA (Or.inr (Or.inl rfl)))) (agr_setIA (Or.inr (Or.inr (Or.inl rfl))))) (agr_setLA (Or.inr (Or.inr (Or.inr rfl))))
  · rw [m0, mi_cpI, if_neg (by omega), mi_cpI, if_neg (by omega), mi_setI, if_pos ⟨rfl, rfl⟩]
    exact hG.1
  · rw [h1 p (hw_lt hw hp)]; exact hG.h hp
  · rw [h2 p (hw_lt hw hp)]; exact hG.s hp
  · have hp6 := hw_lt hw hp
    have hs2 := sit_le hw hp
    unfold tol
    rw [hl, if_pos ⟨rfl, by omega⟩]
    exact hG.t hp hs
  · rw [hl, if_pos ⟨rfl, hj⟩]
end X2c
/-- rows that grow by a digit -/
def lenF (f : Nat → Int32) (T S h : Nat) (w : Int32) (y : Nat) : Int32 := if T ≤ y ∧ y < S then f (y / h) + nI (y % h) * w else f y
theorem lenF_step (f : Nat → Int32) {S h x c : Nat} {w : Int32} (hc : c < h) (hS : x * h + c < S) : upd (lenF f (x * h + (c + 1)) S h w) (x * h + c) (f x + nI c * w) = lenF f (x * h + c) S h w := by
  funext y
  unfold upd lenF
  by_cases e : y = x * h + c
  · subst e
    rw [if_pos rfl, if_pos ⟨Nat.le_refl _, hS⟩]
    have e1 : (x * h + c) / h = x := by
      rw [Nat.mul_comm, Nat.mul_add_div (by omega), Nat.div_eq_of_lt hc, Nat.add_zero]
    have e2 : (x * h + c) % h = c := by
      rw [Nat.add_comm, Nat.add_mul_mod_self_right, Nat.mod_eq_of_lt hc]
    rw [e1, e2]
  · rw [if_neg e]
    by_cases e2 : x * h + c ≤ y ∧ y < S
    · rw [if_pos e2, if_pos (by omega)]
    · rw [if_neg e2, if_neg (by omega)]
theorem sX10_len_40 {r0 F S h x : Nat} {k24 : Mem → Int32 → Option (Int32 × Mem)} {κ : Mem} {v1 w : Int32} {f : Nat → Int32} (hx : x * h + h ≤ S) (hS : S ≤ lenX r0) (hb : lenX r0 < 2147483648) : ∀ (c fu : Nat), c ≤ h → c < fu → pX10_lengthen_40 F r0 k24 v1 (nI h) w (nI x) (f x) fu (setIA κ r0 (lenF f (x * h + c) S h w)) (predI c) = k24 (setIA κ r0 (lenF f (x * h) S h w)) (predI x) := by
  intro c
  induction c with
  | zero =>
    intro fu _ hf
    cases fu with
    | zero => omega
    | succ fu =>
      rw [pX10_lengthen_40, predI_0, Nat.add_zero]
      simp (disch := omega) only [n_0, n_1, n_2, n_3, n_4, n_5, n_6, n_7, n_8, n_9, n_10, n_12, n_13, n_14, n_20, n_31, n_32, n_63, n_64, n_600, n_1024, n_4096, n_6157, n_add, n_mul, nm_def, Option.bind_some, Option.some.injEq, ck_in, ck_nz, ck_p, n_cl, n_lt, n_le, n_eq, n_div, n_rem, if_pos, if_neg, if_true, if_false, eq_self, n_192, n_256, n_20000, m1_n0, m1_np, m1_n0p, m1_lt0, m1_lt0p, mi_setIA, mi_setI, ml_setIA, ml_setI, mr_setI, mr_setIA, m1_neg, n_dec]
  | succ c ih =>
    intro fu hc hf
    cases fu with
    | zero => omega
    | succ fu =>
      have h1 := ih fu (by omega) (by omega)
      rw [pX10_lengthen_40, predI_s]
      simp (disch := omega) only [n_0, n_1, n_2, n_3, n_4, n_5, n_6, n_7, n_8, n_9, n_10, n_12, n_13, n_14, n_20, n_31, n_32, n_63, n_64, n_600, n_1024, n_4096, n_6157, n_add, n_mul, nm_def, Option.bind_some, Option.some.injEq, ck_in, ck_nz, ck_p, n_cl, n_lt, n_le, n_eq, n_div, n_rem, if_pos, if_neg, if_true, if_false, eq_self, n_192, n_256, n_20000, m1_n0, m1_np, m1_n0p, m1_lt0, m1_lt0p, mi_setIA, mi_setI, ml_setIA, ml_setI, mr_setI, mr_setIA, setI_setIA, n_dec]
      rw [lenF_step f (by omega) (by omega)]
      exact h1
theorem sX10_lengthen {r0 F sz h : Nat} {κ : Mem} {w : Int32} (hF : 5000 < F) (h1 : 1 ≤ h) (h4 : h ≤ 4) (hS : sz * h ≤ lenX r0) (hb : lenX r0 ≤ 4096) (hsz : sz ≤ 4096) : pX10_lengthen F r0 κ (nI sz) (nI h) w = some (nI (sz * h), setIA κ r0 (lenF (κ.1 r0) 0 (sz * h) h w)) := by
  have key : ∀ (x fu : Nat), x ≤ sz → x < fu → pX10_lengthen_24 F r0 (nI sz) (nI h) w fu (setIA κ r0 (lenF (κ.1 r0) (x * h) (sz * h) h w)) (predI x) = some (nI (sz * h), setIA κ r0 (lenF (κ.1 r0) 0 (sz * h) h w)) := by
    intro x
    induction x with
    | zero =>
      intro fu _ hf
      cases fu with
      | zero => omega
      | succ fu =>
        rw [pX10_lengthen_24, predI_0, Nat.zero_mul]
        simp (disch := omega) only [n_0, n_1, n_2, n_3, n_4, n_5, n_6, n_7, n_8, n_9, n_10, n_12, n_13, n_14, n_20, n_31, n_32, n_63, n_64, n_600, n_1024, n_4096, n_6157, n_add, n_mul, nm_def, Option.bind_some, Option.some.injEq, ck_in, ck_nz, ck_p, n_cl, n_lt, n_le, n_eq, n_div, n_rem, if_pos, if_neg, if_true, if_false, eq_self, n_192, n_256, n_20000, m1_n0, m1_np, m1_n0p, m1_lt0, m1_lt0p, mi_setIA, mi_setI, ml_setIA, ml_setI, mr_setI, mr_setIA, m1_neg]
    | succ x ih =>
      intro fu hx hf
      cases fu with
      | zero => omega
      | succ fu =>
        have hxs : x < lenX r0 := Nat.lt_of_lt_of_le (Nat.lt_of_lt_of_le hx (Nat.le_mul_of_pos_right sz h1)) hS
        have hm : x * h + h ≤ sz * h := by
          have := Nat.mul_le_mul_right h hx
          rw [Nat.succ_mul] at this
          exact this
        rw [pX10_lengthen_24, predI_s]
        simp (disch := omega) only [n_0, n_1, n_2, n_3, n_4, n_5, n_6, n_7, n_8, n_9, n_10, n_12, n_13, n_14, n_20, n_31, n_32, n_63, n_64, n_600, n_1024, n_4096, n_6157, n_add, n_mul, nm_def, Option.bind_some, Option.some.injEq, ck_in, ck_nz, ck_p, n_cl, n_lt, n_le, n_eq, n_div, n_rem, if_pos, if_neg, if_true, if_false, eq_self, n_192, n_256, n_20000, m1_n0, m1_np, m1_n0p, m1_lt0, m1_lt0p, mi_setIA, mi_setI, ml_setIA, ml_setI, mr_setI, mr_setIA, mi_setIA, n_sub1]
        have e : lenF (κ.1 r0) ((x + 1) * h) (sz * h) h w x = κ.1 r0 x := by
          unfold lenF
          rw [if_neg]
          have : x < (x + 1) * h := Nat.lt_of_lt_of_le (Nat.lt_succ_self x) (Nat.le_mul_of_pos_right (x + 1) h1)
          omega
        rw [e, show predI h = predI h from rfl, Nat.succ_mul, sX10_len_40 hm hS (by omega) h F (Nat.le_refl _) (by omega)]
        exact ih fu (by omega) (by omega)
  have hk := key sz F (Nat.le_refl _) (by omega)
  have e0 : setIA κ r0 (lenF (κ.1 r0) (sz * h) (sz * h) h w) = κ := by
    have : lenF (κ.1 r0) (sz * h) (sz * h) h w = κ.1 r0 := by
      funext y
      unfold lenF
      rw [if_neg (by omega)]
    rw [this, setIA_self]
  rw [e0] at hk
  have hle : sz * h < 2147483648 := by omega
  unfold pX10_lengthen
  simp (disch := omega) only [n_0, n_1, n_2, n_3, n_4, n_5, n_6, n_7, n_8, n_9, n_10, n_12, n_13, n_14, n_20, n_31, n_32, n_63, n_64, n_600, n_1024, n_4096, n_6157, n_add, n_mul, nm_def, Option.bind_some, Option.some.injEq, ck_in, ck_nz, ck_p, n_cl, n_lt, n_le, n_eq, n_div, n_rem, if_pos, if_neg, if_true, if_false, eq_self, n_192, n_256, n_20000, m1_n0, m1_np, m1_n0p, m1_lt0, m1_lt0p, mi_setIA, mi_setI, ml_setIA, ml_setI, mr_setI, mr_setIA, n_sub1]
  rw [show Int32.ofNat (lenX r0) = nI (lenX r0) from rfl]
  simp (disch := omega) only [n_0, n_1, n_2, n_3, n_4, n_5, n_6, n_7, n_8, n_9, n_10, n_12, n_13, n_14, n_20, n_31, n_32, n_63, n_64, n_600, n_1024, n_4096, n_6157, n_add, n_mul, nm_def, Option.bind_some, Option.some.injEq, ck_in, ck_nz, ck_p, n_cl, n_lt, n_le, n_eq, n_div, n_rem, if_pos, if_neg, if_true, if_false, eq_self, n_192, n_256, n_20000, m1_n0, m1_np, m1_n0p, m1_lt0, m1_lt0p, mi_setIA, mi_setI, ml_setIA, ml_setI, mr_setI, mr_setIA]
  exact hk
