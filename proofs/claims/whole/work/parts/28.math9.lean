/-! COLOURINGS OF THE CLASS: best tables -/
theorem cnt_part (A : Nat → Bool) (r : Nat → Nat) (m : Nat) : ∀ n, (∀ x, x < n → A x = true → r x < m) → sm (fun w => cnt (fun x => A x && decide (r x = w)) n) m = cnt A n
  | 0, _ => sm_zero (fun _ _ => rfl)
  | n + 1, h => by
    have e : sm (fun w => cnt (fun x => A x && decide (r x = w)) (n + 1)) m = sm (fun w => cnt (fun x => A x && decide (r x = w)) n + (A n && decide (r n = w)).toNat) m := rfl
    rw [e, sm_add, cnt_part A r m n (fun x hx => h x (by omega)), cnt_s]
    congr 1
    by_cases c : A n = true
    · rw [sm_one (k := r n) (h n (by omega) c) (fun i _ hi => by
        have : decide (r n = i) = false := by simp; exact fun z => hi z.symm
        rw [this]; simp)]
      simp
    · have c2 : A n = false := by simpa using c
      rw [c2]
      exact sm_zero (fun i _ => by simp)
def amx (f : Nat → Nat) : Nat → Nat
  | 0 => 0
  | k + 1 => if f (amx f k) < f k then k else amx f k
theorem amx_1 (f : Nat → Nat) : amx f 1 = 0 := by
  rw [amx, amx, if_neg (Nat.lt_irrefl _)]
theorem amx_lt (f : Nat → Nat) : ∀ {k : Nat}, 1 ≤ k → amx f k < k
  | 0, h => by omega
  | k + 1, _ => by
    rw [amx]
    split
    · omega
    · rcases Nat.eq_zero_or_pos k with z | z
      · subst z; rw [amx]; omega
      · have := amx_lt f z; omega
def onl (G : Gm) (p x : Nat) : Bool := decide (clr (rgt G x) p = 0)
def rsc (G : Gm) (p s c : Nat) : Nat := cnt (fun x => onl G p x && (decide (sOf G p x = s) && decide (col G p x = c))) (ncol G)
def bst (G : Gm) (p s : Nat) : Nat := amx (rsc G p s) (Gh G p)
def lw (G : Gm) (p : Nat) : Nat := cnt (onl G p) (ncol G) - sm (fun s => rsc G p s (bst G p s)) (sit G p)
def kyS (G : Gm) (p x : Nat) : Nat := sOf G p x * Gh G p + col G p x
theorem sm_mono (f : Nat → Nat) {a b : Nat} (h : a ≤ b) : sm f a ≤ sm f b := by
  obtain ⟨d, rfl⟩ := Nat.le.dest h
  rw [sm_app]; exact Nat.le_add_right _ _
theorem cntw2 (A : Nat → Bool) (r : Nat → Nat) (f0 : Nat → Int32) (m i : Nat) (hA : A i = true) (hr : r i < m) : upd (wr f0 0 m (fun w => nI (cnt (fun x => A x && decide (r x = w)) i))) (r i) (nI (cnt (fun x => A x && decide (r x = r i)) i + 1)) = wr f0 0 m (fun w => nI (cnt (fun x => A x && decide (r x = w)) (i + 1))) := by
  funext y
  unfold upd wr
  by_cases e : y = r i
  · subst e
    rw [if_pos rfl, if_pos ⟨Nat.zero_le _, hr⟩]
    show _ = nI (cnt (fun x => A x && decide (r x = r i)) (i + 1))
    rw [cnt_s]
    simp [hA]
  · rw [if_neg e]
    by_cases e2 : y < m
    · rw [if_pos ⟨Nat.zero_le _, e2⟩, if_pos ⟨Nat.zero_le _, e2⟩]
      show nI (cnt (fun x => A x && decide (r x = y)) i) = nI (cnt (fun x => A x && decide (r x = y)) (i + 1))
      rw [cnt_s]
      have e3 : decide (r i = y) = false := by simp; exact fun z => e z.symm
      rw [e3]
      simp
    · rw [if_neg (by omega), if_neg (by omega)]
section X1b
variable {κ : Mem} {G : Gm} {F p q x : Nat}
theorem ky_lt (hw : WF G) (hp : p < Gn G) (x : Nat) : kyS G p x < sit G p * Gh G p := mul_add_lt (sOf_lt hw) (col_lt hw hp)
theorem ky_eq (hw : WF G) (hp : p < Gn G) {s c : Nat} (hc : c < Gh G p) : (kyS G p x = s * Gh G p + c) ↔ (sOf G p x = s ∧ col G p x = c) := by
  have h1 := hw.h1 hp
  have h2 := col_lt (x := x) hw hp
  unfold kyS
  constructor
  · intro h
    have e1 := congrArg (· / Gh G p) h
    have e2 := congrArg (· % Gh G p) h
    simp only [Nat.add_comm _ (col G p x), Nat.add_comm _ c, Nat.add_mul_div_right _ _ h1, Nat.add_mul_mod_self_right, Nat.div_eq_of_lt h2, Nat.div_eq_of_lt hc, Nat.mod_eq_of_lt h2, Nat.mod_eq_of_lt hc, Nat.zero_add] at e1 e2
    exact ⟨e1, e2⟩
  · rintro ⟨h3, h4⟩
    rw [h3, h4]
theorem rsc_ky (hw : WF G) (hp : p < Gn G) {s c : Nat} (hc : c < Gh G p) : cnt (fun x => onl G p x && decide (kyS G p x = s * Gh G p + c)) (ncol G) = rsc G p s c := by
  refine cnt_congr (fun x _ => ?_)
  congr 1
  rw [← Bool.decide_and]
  exact decide_eq_decide.mpr (ky_eq hw hp hc)
theorem rsc_sum (hw : WF G) (hp : p < Gn G) : sm (fun s => sm (fun c => rsc G p s c) (Gh G p)) (sit G p) = cnt (onl G p) (ncol G) := by
  rw [← cnt_part (onl G p) (kyS G p) (sit G p * Gh G p) (ncol G) (fun x _ _ => ky_lt hw hp x), sm_grid]
  refine sm_congr (fun s _ => sm_congr (fun c hc => (rsc_ky hw hp hc).symm))
theorem bst_lt (hw : WF G) (hp : p < Gn G) (s : Nat) : bst G p s < Gh G p := amx_lt _ (hw.h1 hp)
theorem lw_part (hw : WF G) (hp : p < Gn G) {i : Nat} (hi : i ≤ sit G p) : sm (fun s => rsc G p s (bst G p s)) i ≤ cnt (onl G p) (ncol G) := by
  rw [← rsc_sum hw hp]
  refine Nat.le_trans (sm_le (fun s _ => ?_)) (sm_mono _ hi)
  exact sm_term (fun c => rsc G p s c) (bst_lt hw hp s)
theorem sX1_countRescued (h : AR κ G) (hj : JD κ G) (hw : WF G) (hF : 5000 < F) (hp : p < Gn G) : pX1_countRescued F κ (nI p) (nI (sit G p * Gh G p)) = some (nI (cnt (onl G p) (ncol G)), setIA κ 53 (wr (κ.1 53) 0 (sit G p * Gh G p) (fun w => nI (cnt (fun x => onl G p x && decide (kyS G p x = w)) (ncol G))))) := by
  have hp6 := hw_lt hw hp
  have hc := ncol_le hw
  have h4 := hw.h4 hp
  have hsl := sit_le hw hp
  have hm : sit G p * Gh G p ≤ 4096 := Nat.le_trans (Nat.mul_le_mul hsl h4) (by decide)
  unfold pX1_countRescued
  refine lp_upE F (fun fu i => pX1_countRescued_2 F (nI p) (nI (sit G p * Gh G p)) fu (setIA κ 53 (wr (κ.1 53) 0 i (fun _ => nI 0))) (nI i)) (0) (sit G p * Gh G p) _ _ ?_ (fun fu => ?_) (fun fu i hi1 hi2 => ?_) (by omega) (by omega)
  · rw [setIA_wr0]; rfl
  · show pX1_countRescued_2 F (nI p) (nI (sit G p * Gh G p)) (fu + 1) (setIA κ 53 (wr (κ.1 53) 0 (sit G p * Gh G p) (fun _ => nI 0))) (nI (sit G p * Gh G p)) = _
    rw [pX1_countRescued_2]
    simp (disch := omega) only [n_0, n_1, n_2, n_3, n_4, n_5, n_6, n_7, n_8, n_9, n_10, n_12, n_13, n_14, n_20, n_31, n_32, n_63, n_64, n_600, n_1024, n_4096, n_6157, n_add, n_mul, nm_def, Option.bind_some, Option.some.injEq, ck_in, ck_nz, ck_p, n_cl, n_lt, n_le, n_eq, n_div, n_rem, if_pos, if_neg, if_true, if_false, eq_self, n_192, n_256, n_20000, m1_n0, m1_np, m1_n0p, m1_lt0, m1_lt0p, mi_setIA, mi_setI, ml_setIA, ml_setI, mr_setI, mr_setIA, n_shl1]
    rw [show (fun _ => nI 0 : Nat → Int32) = (fun w => nI (cnt (fun x => onl G p x && decide (kyS G p x = w)) 0)) from rfl]
    refine lp_upE F (fun fu i => pX1_countRescued_32 F (nI p) (nI (2 ^ p) ^^^ predI 0) fu (setIA κ 53 (wr (κ.1 53) 0 (sit G p * Gh G p) (fun w => nI (cnt (fun x => onl G p x && decide (kyS G p x = w)) i)))) (nI (cnt (onl G p) i)) (nI i)) (0) (ncol G) _ _ rfl (fun fu => ?_) (fun fu i hi1 hi2 => ?_) (by omega) (by omega)
    · show pX1_countRescued_32 F (nI p) (nI (2 ^ p) ^^^ predI 0) (fu + 1) (setIA κ 53 (wr (κ.1 53) 0 (sit G p * Gh G p) (fun w => nI (cnt (fun x => onl G p x && decide (kyS G p x = w)) (ncol G))))) (nI (cnt (onl G p) (ncol G))) (nI (ncol G)) = _
      rw [pX1_countRescued_32]
      simp (disch := omega) only [n_0, n_1, n_2, n_3, n_4, n_5, n_6, n_7, n_8, n_9, n_10, n_12, n_13, n_14, n_20, n_31, n_32, n_63, n_64, n_600, n_1024, n_4096, n_6157, n_add, n_mul, nm_def, Option.bind_some, Option.some.injEq, ck_in, ck_nz, ck_p, n_cl, n_lt, n_le, n_eq, n_div, n_rem, if_pos, if_neg, if_true, if_false, eq_self, n_192, n_256, n_20000, m1_n0, m1_np, m1_n0p, m1_lt0, m1_lt0p, mi_setIA, mi_setI, ml_setIA, ml_setI, mr_setI, mr_setIA, h.c]
    · show pX1_countRescued_32 F (nI p) (nI (2 ^ p) ^^^ predI 0) (fu + 1) (setIA κ 53 (wr (κ.1 53) 0 (sit G p * Gh G p) (fun w => nI (cnt (fun x => onl G p x && decide (kyS G p x = w)) i)))) (nI (cnt (onl G p) i)) (nI i) = pX1_countRescued_32 F (nI p) (nI (2 ^ p) ^^^ predI 0) fu (setIA κ 53 (wr (κ.1 53) 0 (sit G p * Gh G p) (fun w => nI (cnt (fun x => onl G p x && decide (kyS G p x = w)) (i + 1))))) (nI (cnt (onl G p) (i + 1))) (nI (i + 1))
      have h2 := rgt_lt (x := i) hw
      have h3 := clr_lt h2 hp6
      have h5 := sOf_lt (p := p) (x := i) hw
      have h6 := ky_lt hw hp i
      have hA : AR (setIA κ 53 (wr (κ.1 53) 0 (sit G p * Gh G p) (fun w => nI (cnt (fun x => onl G p x && decide (kyS G p x = w)) i)))) G := h.set hw (by omega)
      have e7 : wr (κ.1 53) 0 (sit G p * Gh G p) (fun w => nI (cnt (fun x => onl G p x && decide (kyS G p x = w)) i)) (kyS G p i) = nI (cnt (fun x => onl G p x && decide (kyS G p x = kyS G p i)) i) := wr_in (Nat.zero_le _) h6
      have e8 : sOf G p i * Gh G p + col G p i = kyS G p i := rfl
      rw [pX1_countRescued_32, sX1_colourOf hA hw hp (by omega)]
      unfold pX1_countRescued_92
      simp (disch := omega) only [n_0, n_1, n_2, n_3, n_4, n_5, n_6, n_7, n_8, n_9, n_10, n_12, n_13, n_14, n_20, n_31, n_32, n_63, n_64, n_600, n_1024, n_4096, n_6157, n_add, n_mul, nm_def, Option.bind_some, Option.some.injEq, ck_in, ck_nz, ck_p, n_cl, n_lt, n_le, n_eq, n_div, n_rem, if_pos, if_neg, if_true, if_false, eq_self, n_192, n_256, n_20000, m1_n0, m1_np, m1_n0p, m1_lt0, m1_lt0p, mi_setIA, mi_setI, ml_setIA, ml_setI, mr_setI, mr_setIA, h.c, hj.r hi2, n_clr2, Nat.mul_one, h.si hp hi2, h.h hp, e8, e7, cnt_s (onl G p) i]
      by_cases c : clr (rgt G i) p = 0
      · have e9 : onl G p i = true := by unfold onl; simp [c]
        rw [if_pos c, setI_setIA, cntw2 (onl G p) (kyS G p) (κ.1 53) (sit G p * Gh G p) i e9 h6, e9]
        rfl
      · have e9 : onl G p i = false := by unfold onl; simp [c]
        rw [if_neg c, e9]
        simp only [cnt_s, e9, Bool.false_and, Bool.toNat_false, Nat.add_zero]
  · show pX1_countRescued_2 F (nI p) (nI (sit G p * Gh G p)) (fu + 1) (setIA κ 53 (wr (κ.1 53) 0 i (fun _ => nI 0))) (nI i) = pX1_countRescued_2 F (nI p) (nI (sit G p * Gh G p)) fu (setIA κ 53 (wr (κ.1 53) 0 (i + 1) (fun _ => nI 0))) (nI (i + 1))
    rw [pX1_countRescued_2]
    simp (disch := omega) only [n_0, n_1, n_2, n_3, n_4, n_5, n_6, n_7, n_8, n_9, n_10, n_12, n_13, n_14, n_20, n_31, n_32, n_63, n_64, n_600, n_1024, n_4096, n_6157, n_add, n_mul, nm_def, Option.bind_some, Option.some.injEq, ck_in, ck_nz, ck_p, n_cl, n_lt, n_le, n_eq, n_div, n_rem, if_pos, if_neg, if_true, if_false, eq_self, n_192, n_256, n_20000, m1_n0, m1_np, m1_n0p, m1_lt0, m1_lt0p, mi_setIA, mi_setI, ml_setIA, ml_setI, mr_setI, mr_setIA]
    rw [setI_wr_up (x := nI 0) (v := fun _ => nI 0) (Nat.zero_le _) rfl]
theorem sX1_wb_in {k32 : Mem → Int32 → Int32 → Option (Int32 × Mem)} {κ1 : Mem} {s : Nat} {v4 : Int32} (hw : WF G) (hF : 5000 < F) (hp : p < Gn G) (hs : s < sit G p) (hR : ∀ c, c < Gh G p → mi κ1 53 (s * Gh G p + c) = nI (rsc G p s c)) : pX1_weighBest_44 F k32 κ1 (nI (Gh G p)) (nI (sit G p)) v4 (nI s) F (nI 0) (nI 1) = k32 (setI κ1 52 s (nI (bst G p s))) (v4 - nI (rsc G p s (bst G p s))) (nI (s + 1)) := by
  have hp6 := hw_lt hw hp
  have h1 := hw.h1 hp
  have h4 := hw.h4 hp
  have hsl := sit_le hw hp
  have hm : sit G p * Gh G p ≤ 4096 := Nat.le_trans (Nat.mul_le_mul hsl h4) (by decide)
  have hk : ∀ c, c < Gh G p → s * Gh G p + c < 4096 := fun c hc => Nat.lt_of_lt_of_le (mul_add_lt hs hc) hm
  refine lp_upE F (fun fu i => pX1_weighBest_44 F k32 κ1 (nI (Gh G p)) (nI (sit G p)) v4 (nI s) fu (nI (amx (rsc G p s) i)) (nI i)) (1) (Gh G p) _ _ ?_ (fun fu => ?_) (fun fu i hi1 hi2 => ?_) (by omega) (by omega)
  · rw [amx_1]
  · show pX1_weighBest_44 F k32 κ1 (nI (Gh G p)) (nI (sit G p)) v4 (nI s) (fu + 1) (nI (amx (rsc G p s) (Gh G p))) (nI (Gh G p)) = _
    have hb := bst_lt hw hp s
    have hkb := hk _ hb
    have hRb := hR _ hb
    rw [pX1_weighBest_44]
    rw [show amx (rsc G p s) (Gh G p) = bst G p s from rfl]
    simp (disch := omega) only [n_0, n_1, n_2, n_3, n_4, n_5, n_6, n_7, n_8, n_9, n_10, n_12, n_13, n_14, n_20, n_31, n_32, n_63, n_64, n_600, n_1024, n_4096, n_6157, n_add, n_mul, nm_def, Option.bind_some, Option.some.injEq, ck_in, ck_nz, ck_p, n_cl, n_lt, n_le, n_eq, n_div, n_rem, if_pos, if_neg, if_true, if_false, eq_self, n_192, n_256, n_20000, m1_n0, m1_np, m1_n0p, m1_lt0, m1_lt0p, mi_setIA, mi_setI, ml_setIA, ml_setI, mr_setI, mr_setIA, hRb]
  · show pX1_weighBest_44 F k32 κ1 (nI (Gh G p)) (nI (sit G p)) v4 (nI s) (fu + 1) (nI (amx (rsc G p s) i)) (nI i) = pX1_weighBest_44 F k32 κ1 (nI (Gh G p)) (nI (sit G p)) v4 (nI s) fu (nI (amx (rsc G p s) (i + 1))) (nI (i + 1))
    have hb := amx_lt (rsc G p s) hi1
    have hk1 := hk i hi2
    have hk2 := hk (amx (rsc G p s) i) (by omega)
    have hR1 := hR i hi2
    have hR2 := hR (amx (rsc G p s) i) (by omega)
    have hc1 : rsc G p s i ≤ 4096 := cnt_n hw _
    have hc2 : rsc G p s (amx (rsc G p s) i) ≤ 4096 := cnt_n hw _
    rw [pX1_weighBest_44]
    unfold pX1_weighBest_81
    simp (disch := omega) only [n_0, n_1, n_2, n_3, n_4, n_5, n_6, n_7, n_8, n_9, n_10, n_12, n_13, n_14, n_20, n_31, n_32, n_63, n_64, n_600, n_1024, n_4096, n_6157, n_add, n_mul, nm_def, Option.bind_some, Option.some.injEq, ck_in, ck_nz, ck_p, n_cl, n_lt, n_le, n_eq, n_div, n_rem, if_pos, if_neg, if_true, if_false, eq_self, n_192, n_256, n_20000, m1_n0, m1_np, m1_n0p, m1_lt0, m1_lt0p, mi_setIA, mi_setI, ml_setIA, ml_setI, mr_setI, mr_setIA, hR1, hR2, amx]
    by_cases c : rsc G p s (amx (rsc G p s) i) < rsc G p s i
    · rw [if_neg (by omega), if_pos c]
    · rw [if_pos (by omega), if_neg c]
theorem sX1_weighBest (h : AR κ G) (hj : JD κ G) (hw : WF G) (hF : 5000 < F) (hp : p < Gn G) : ∃ κ1, agr (fun k => k = 52 ∨ k = 53) κ κ1 ∧ (∀ s, s < sit G p → mi κ1 52 s = nI (bst G p s)) ∧ pX1_weighBest F κ (nI p) = some (nI (lw G p), κ1) := by
  have hp6 := hw_lt hw hp
  have h4 := hw.h4 hp
  have hsl := sit_le hw hp
  have hm : sit G p * Gh G p ≤ 4096 := Nat.le_trans (Nat.mul_le_mul hsl h4) (by decide)
  obtain ⟨R, hR⟩ : ∃ R, R = wr (κ.1 53) 0 (sit G p * Gh G p) (fun w => nI (cnt (fun x => onl G p x && decide (kyS G p x = w)) (ncol G))) := ⟨_, rfl⟩
  have hR2 : ∀ s, s < sit G p → ∀ c, c < Gh G p → R (s * Gh G p + c) = nI (rsc G p s c) := fun s hs c hc => by
    rw [hR, wr_in (Nat.zero_le _) (mul_add_lt hs hc)]
    exact congrArg nI (rsc_ky hw hp hc)
  refine ⟨setIA (setIA κ 53 R) 52 (wr (κ.1 52) 0 (sit G p) (fun s => nI (bst G p s))), agr_trans (agr_setIA (Or.inr rfl)) (agr_setIA (Or.inl rfl)), fun s hs => by rw [mi_setIA, if_pos rfl, wr_in (Nat.zero_le _) hs], ?_⟩
  unfold pX1_weighBest
  rw [sX2_situations h.1 hw (by omega) hp]
  simp (disch := omega) only [n_0, n_1, n_2, n_3, n_4, n_5, n_6, n_7, n_8, n_9, n_10, n_12, n_13, n_14, n_20, n_31, n_32, n_63, n_64, n_600, n_1024, n_4096, n_6157, n_add, n_mul, nm_def, Option.bind_some, Option.some.injEq, ck_in, ck_nz, ck_p, n_cl, n_lt, n_le, n_eq, n_div, n_rem, if_pos, if_neg, if_true, if_false, eq_self, n_192, n_256, n_20000, m1_n0, m1_np, m1_n0p, m1_lt0, m1_lt0p, mi_setIA, mi_setI, ml_setIA, ml_setI, mr_setI, mr_setIA, h.h hp]
  rw [sX1_countRescued h hj hw hF hp, Option.bind_some, ← hR]
  show pX1_weighBest_32 F (nI (Gh G p)) (nI (sit G p)) F (setIA κ 53 R) (nI (cnt (onl G p) (ncol G))) (nI 0) = _
  refine lp_upE F (fun fu i => pX1_weighBest_32 F (nI (Gh G p)) (nI (sit G p)) fu (setIA (setIA κ 53 R) 52 (wr (κ.1 52) 0 i (fun s => nI (bst G p s)))) (nI (cnt (onl G p) (ncol G) - sm (fun s => rsc G p s (bst G p s)) i)) (nI i)) (0) (sit G p) _ _ ?_ (fun fu => ?_) (fun fu i hi1 hi2 => ?_) (by omega) (by omega)
  · rw [wr_0]
    have e : setIA (setIA κ 53 R) 52 (κ.1 52) = setIA κ 53 R := setIA_self (setIA κ 53 R) 52
    rw [e]
    rfl
  · show pX1_weighBest_32 F (nI (Gh G p)) (nI (sit G p)) (fu + 1) (setIA (setIA κ 53 R) 52 (wr (κ.1 52) 0 (sit G p) (fun s => nI (bst G p s)))) (nI (cnt (onl G p) (ncol G) - sm (fun s => rsc G p s (bst G p s)) (sit G p))) (nI (sit G p)) = _
    rw [pX1_weighBest_32]
    simp (disch := omega) only [n_0, n_1, n_2, n_3, n_4, n_5, n_6, n_7, n_8, n_9, n_10, n_12, n_13, n_14, n_20, n_31, n_32, n_63, n_64, n_600, n_1024, n_4096, n_6157, n_add, n_mul, nm_def, Option.bind_some, Option.some.injEq, ck_in, ck_nz, ck_p, n_cl, n_lt, n_le, n_eq, n_div, n_rem, if_pos, if_neg, if_true, if_false, eq_self, n_192, n_256, n_20000, m1_n0, m1_np, m1_n0p, m1_lt0, m1_lt0p, mi_setIA, mi_setI, ml_setIA, ml_setI, mr_setI, mr_setIA]
    rfl
  · show pX1_weighBest_32 F (nI (Gh G p)) (nI (sit G p)) (fu + 1) (setIA (setIA κ 53 R) 52 (wr (κ.1 52) 0 i (fun s => nI (bst G p s)))) (nI (cnt (onl G p) (ncol G) - sm (fun s => rsc G p s (bst G p s)) i)) (nI i) = pX1_weighBest_32 F (nI (Gh G p)) (nI (sit G p)) fu (setIA (setIA κ 53 R) 52 (wr (κ.1 52) 0 (i + 1) (fun s => nI (bst G p s)))) (nI (cnt (onl G p) (ncol G) - sm (fun s => rsc G p s (bst G p s)) (i + 1))) (nI (i + 1))
    have hq := lw_part hw hp (i := i + 1) (by omega)
    rw [sm] at hq
    rw [pX1_weighBest_32]
    simp (disch := omega) only [n_0, n_1, n_2, n_3, n_4, n_5, n_6, n_7, n_8, n_9, n_10, n_12, n_13, n_14, n_20, n_31, n_32, n_63, n_64, n_600, n_1024, n_4096, n_6157, n_add, n_mul, nm_def, Option.bind_some, Option.some.injEq, ck_in, ck_nz, ck_p, n_cl, n_lt, n_le, n_eq, n_div, n_rem, if_pos, if_neg, if_true, if_false, eq_self, n_192, n_256, n_20000, m1_n0, m1_np, m1_n0p, m1_lt0, m1_lt0p, mi_setIA, mi_setI, ml_setIA, ml_setI, mr_setI, mr_setIA]
    rw [sX1_wb_in hw hF hp hi2 (fun c hc => by rw [mi_setIA, if_neg (by omega), mi_setIA, if_pos rfl]; exact hR2 i hi2 c hc), setI_wr_up (v := fun s => nI (bst G p s)) (Nat.zero_le _) rfl, n_sub (by omega), sm, Nat.sub_sub]
end X1b
