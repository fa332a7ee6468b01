/-! COLOURINGS OF THE CLASS: laid out, judged, counted -/
/-- a row written from one place up to another -/
def wr (f0 : Nat → Int32) (a i : Nat) (v : Nat → Int32) : Nat → Int32 := fun y => if a ≤ y ∧ y < i then v y else f0 y
theorem wr_0 (f0 : Nat → Int32) (a : Nat) (v : Nat → Int32) : wr f0 a a v = f0 := by
  funext y; unfold wr; rw [if_neg (by omega)]
theorem wr_up {f0 v : Nat → Int32} {a i : Nat} {x : Int32} (h : a ≤ i) (hx : x = v i) : upd (wr f0 a i v) i x = wr f0 a (i + 1) v := by
  funext y
  unfold upd wr
  by_cases e : y = i
  · subst e
    rw [if_pos rfl, if_pos ⟨h, Nat.lt_succ_self y⟩, hx]
  · rw [if_neg e]
    by_cases e2 : a ≤ y ∧ y < i
    · rw [if_pos e2, if_pos ⟨e2.1, by omega⟩]
    · rw [if_neg e2, if_neg (by omega)]
theorem wr_dn {f0 v : Nat → Int32} {b i : Nat} {x : Int32} (h : i < b) (hx : x = v i) : upd (wr f0 (i + 1) b v) i x = wr f0 i b v := by
  funext y
  unfold upd wr
  by_cases e : y = i
  · subst e
    rw [if_pos rfl, if_pos ⟨Nat.le_refl y, h⟩, hx]
  · rw [if_neg e]
    by_cases e2 : i + 1 ≤ y ∧ y < b
    · rw [if_pos e2, if_pos ⟨by omega, e2.2⟩]
    · rw [if_neg e2, if_neg (by omega)]
theorem wr_in {f0 v : Nat → Int32} {a b y : Nat} (h1 : a ≤ y) (h2 : y < b) : wr f0 a b v y = v y := if_pos ⟨h1, h2⟩
theorem wr_out {f0 v : Nat → Int32} {a b y : Nat} (h : y < a ∨ b ≤ y) : wr f0 a b v y = f0 y := if_neg (by omega)
theorem setI_wr_up {κ : Mem} {k : Nat} {f0 v : Nat → Int32} {a i : Nat} {x : Int32} (h : a ≤ i) (hx : x = v i) : setI (setIA κ k (wr f0 a i v)) k i x = setIA κ k (wr f0 a (i + 1) v) := by rw [setI_setIA, wr_up h hx]
theorem setI_wr_dn {κ : Mem} {k : Nat} {f0 v : Nat → Int32} {b i : Nat} {x : Int32} (h : i < b) (hx : x = v i) : setI (setIA κ k (wr f0 (i + 1) b v)) k i x = setIA κ k (wr f0 i b v) := by rw [setI_setIA, wr_dn h hx]
theorem setIA_wr0 (κ : Mem) (k a : Nat) (v : Nat → Int32) : setIA κ k (wr (κ.1 k) a a v) = κ := by rw [wr_0, setIA_self]
theorem tol_setIA (κ : Mem) (k : Nat) (f : Nat → Int32) (g p σ : Nat) : tol (setIA κ k f) g p σ = tol κ g p σ := rfl
theorem tol_setI (κ : Mem) (k i : Nat) (x : Int32) (g p σ : Nat) : tol (setI κ k i x) g p σ = tol κ g p σ := rfl
theorem XG_setIA {κ : Mem} {g k : Nat} {G : Gm} {f : Nat → Int32} (h : XG κ g G) (hk : k < g ∨ g + 2 < k) : XG (setIA κ k f) g G :=
  ⟨by rw [mi_setIA, if_neg (by omega)]; exact h.1, fun p hp => by rw [mi_setIA, if_neg (by omega)]; exact h.h hp, fun p hp => by rw [mi_setIA, if_neg (by omega)]; exact h.s hp, fun p hp σ hs => h.t hp hs⟩
theorem XG_setI {κ : Mem} {g k i : Nat} {G : Gm} {x : Int32} (h : XG κ g G) (hk : k < g ∨ g + 2 < k) : XG (setI κ k i x) g G := by
  rw [setI_eq]; exact XG_setIA h hk
theorem lenX_sit {p : Nat} (hp : p < 6) : lenX (44 + p) = 4096 := by
  match p with
  | 0 => rfl
  | 1 => rfl
  | 2 => rfl
  | 3 => rfl
  | 4 => rfl
  | 5 => rfl
  | n + 6 => omega
theorem cnt_s (p : Nat → Bool) (n : Nat) : cnt p (n + 1) = cnt p n + (p n).toNat := rfl
theorem fst_setIA (κ : Mem) (k : Nat) (f : Nat → Int32) : (setIA κ k f).1 k = f := by
  unfold setIA
  simp
/-- all laid out -/
def AR (κ : Mem) (G : Gm) : Prop := XG κ 1 G ∧ mi κ 41 1 = nI (ncol G) ∧ (∀ p, p < Gn G → mi κ 42 p = nI (pw (Gh G) (p + 1) (Gn G - (p + 1)))) ∧ ∀ p, p < Gn G → ∀ x, x < ncol G → mi κ (44 + p) x = nI (sOf G p x)
section X1
variable {κ : Mem} {G : Gm} {F p q x : Nat}
theorem AR.g (h : AR κ G) : XG κ 1 G := h.1
theorem AR.n (h : AR κ G) : mi κ 1 0 = nI (Gn G) := h.1.1
theorem AR.h (h : AR κ G) (hp : p < Gn G) : mi κ 2 p = nI (Gh G p) := h.1.h hp
theorem AR.s (h : AR κ G) (hp : p < Gn G) : mi κ 3 p = nI (Gs G p) := h.1.s hp
theorem AR.c (h : AR κ G) : mi κ 41 1 = nI (ncol G) := h.2.1
theorem AR.pl (h : AR κ G) (hp : p < Gn G) : mi κ 42 p = nI (pw (Gh G) (p + 1) (Gn G - (p + 1))) := h.2.2.1 p hp
theorem AR.si (h : AR κ G) (hp : p < Gn G) (hx : x < ncol G) : mi κ (44 + p) x = nI (sOf G p x) := h.2.2.2 p hp x hx
theorem plc_le (hw : WF G) (p : Nat) : pw (Gh G) (p + 1) (Gn G - (p + 1)) ≤ 4096 :=
  Nat.le_trans (pw_le (c := 4) (fun i h1 h2 => hw.h4 (by omega))) (Nat.le_trans (Nat.pow_le_pow_right (by decide) (by have := hw.n6; omega : Gn G - (p + 1) ≤ 6)) (by decide))
theorem plc_pos (hw : WF G) (p : Nat) : 0 < pw (Gh G) (p + 1) (Gn G - (p + 1)) := pw_pos (fun i h1 h2 => hw.h1 (by omega))
theorem sX1_colourOf (h : AR κ G) (hw : WF G) (hp : p < Gn G) (hx : x < 2147483648) : pX1_colourOf κ (nI p) (nI x) = some (nI (col G p x)) := by
  have hp6 := hw_lt hw hp
  have h1 := hw.h1 hp
  have h4 := hw.h4 hp
  have l1 := plc_le hw p
  have l2 := plc_pos hw p
  have l3 : x / pw (Gh G) (p + 1) (Gn G - (p + 1)) ≤ x := Nat.div_le_self _ _
  have e1 := h.pl hp
  have e2 := h.h hp
  unfold pX1_colourOf
  rw [n_cl (by omega), e1, e2]
  simp (disch := omega) only [n_0, n_1, n_2, n_3, n_4, n_5, n_6, n_7, n_8, n_9, n_10, n_12, n_13, n_14, n_20, n_31, n_32, n_63, n_64, n_600, n_1024, n_4096, n_6157, n_add, n_mul, nm_def, Option.bind_some, Option.some.injEq, ck_in, ck_nz, ck_p, n_cl, n_lt, n_le, n_eq, n_div, n_rem, if_pos, if_neg, if_true, if_false, eq_self, n_192, n_256, n_20000, m1_n0, m1_np, m1_n0p, m1_lt0, m1_lt0p, mi_setIA, mi_setI, ml_setIA, ml_setI, mr_setI, mr_setIA]
  rfl
/-- who is right: a bit is put or taken -/
def sbit (a p : Nat) (b : Bool) : Nat := if b then a ||| 2 ^ p else a &&& (63 ^^^ 2 ^ p)
theorem n_clr : ∀ a, a < 64 → ∀ p, p < 6 → nI a &&& (nI (2 ^ p) ^^^ predI 0) = nI (a &&& (63 ^^^ 2 ^ p)) := by decide +kernel
theorem n_setb : ∀ a, a < 64 → ∀ p, p < 6 → a ||| 2 ^ p < 64 := by decide +kernel
theorem n_clrb : ∀ a, a < 64 → ∀ p, p < 6 → a &&& (63 ^^^ 2 ^ p) < 64 := by decide +kernel
theorem sbit_lt {a p : Nat} {b : Bool} (ha : a < 64) (hp : p < 6) : sbit a p b < 64 := by
  unfold sbit; split
  · exact n_setb a ha p hp
  · exact n_clrb a ha p hp
theorem sbit_bit : ∀ a, a < 64 → ∀ p, p < 6 → ∀ i, i < 6 → ∀ b : Bool, (sbit a p b).testBit i = if i = p then b else a.testBit i := by decide +kernel
theorem eq64 : ∀ a, a < 64 → ∀ b, b < 64 → (∀ i, i < 6 → a.testBit i = b.testBit i) → a = b := by
  intro a ha b hb h
  apply Nat.eq_of_testBit_eq
  intro i
  rcases Nat.lt_or_ge i 6 with z | z
  · exact h i z
  · have h64 : 64 ≤ 2 ^ i := Nat.le_trans (by decide : 64 ≤ 2 ^ 6) (Nat.pow_le_pow_right (by decide) z)
    rw [Nat.testBit_lt_two_pow (Nat.lt_of_lt_of_le ha h64), Nat.testBit_lt_two_pow (Nat.lt_of_lt_of_le hb h64)]
theorem sX1_judge {a : Nat → Nat} (h : AR κ G) (hw : WF G) (hF : 5000 < F) (hp : p < Gn G) (ha : ∀ x, x < ncol G → mi κ 50 x = nI (a x) ∧ a x < 64) : pX1_judge F κ (nI p) = some (setIA κ 50 (wr (κ.1 50) 0 (ncol G) (fun x => nI (sbit (a x) p (isR G p x))))) := by
  have hp6 := hw_lt hw hp
  have hc := ncol_le hw
  unfold pX1_judge
  simp (disch := omega) only [n_0, n_1, n_2, n_3, n_4, n_5, n_6, n_7, n_8, n_9, n_10, n_12, n_13, n_14, n_20, n_31, n_32, n_63, n_64, n_600, n_1024, n_4096, n_6157, n_add, n_mul, nm_def, Option.bind_some, Option.some.injEq, ck_in, ck_nz, ck_p, n_cl, n_lt, n_le, n_eq, n_div, n_rem, if_pos, if_neg, if_true, if_false, eq_self, n_192, n_256, n_20000, m1_n0, m1_np, m1_n0p, m1_lt0, m1_lt0p, mi_setIA, mi_setI, ml_setIA, ml_setI, mr_setI, mr_setIA, n_shl1, Nat.mul_one]
  refine lp_upE F (fun fu i => pX1_judge_14 F (nI p) (nI (2 ^ p)) (44 + p) fu (setIA κ 50 (wr (κ.1 50) 0 i (fun x => nI (sbit (a x) p (isR G p x))))) (nI i)) (0) (ncol G) _ _ ?_ (fun fu => ?_) (fun fu i hi1 hi2 => ?_) (by omega) (by omega)
  · rw [setIA_wr0]
  · show pX1_judge_14 F (nI p) (nI (2 ^ p)) (44 + p) (fu + 1) (setIA κ 50 (wr (κ.1 50) 0 (ncol G) (fun x => nI (sbit (a x) p (isR G p x))))) (nI (ncol G)) = _
    rw [pX1_judge_14]
    simp (disch := omega) only [n_0, n_1, n_2, n_3, n_4, n_5, n_6, n_7, n_8, n_9, n_10, n_12, n_13, n_14, n_20, n_31, n_32, n_63, n_64, n_600, n_1024, n_4096, n_6157, n_add, n_mul, nm_def, Option.bind_some, Option.some.injEq, ck_in, ck_nz, ck_p, n_cl, n_lt, n_le, n_eq, n_div, n_rem, if_pos, if_neg, if_true, if_false, eq_self, n_192, n_256, n_20000, m1_n0, m1_np, m1_n0p, m1_lt0, m1_lt0p, mi_setIA, mi_setI, ml_setIA, ml_setI, mr_setI, mr_setIA, h.c]
  · show pX1_judge_14 F (nI p) (nI (2 ^ p)) (44 + p) (fu + 1) (setIA κ 50 (wr (κ.1 50) 0 i (fun x => nI (sbit (a x) p (isR G p x))))) (nI i) = pX1_judge_14 F (nI p) (nI (2 ^ p)) (44 + p) fu (setIA κ 50 (wr (κ.1 50) 0 (i + 1) (fun x => nI (sbit (a x) p (isR G p x))))) (nI (i + 1))
    have hs := sOf_lt (p := p) (x := i) hw
    have hs2 := sit_le hw hp
    have e4 : AR (setIA κ 50 (wr (κ.1 50) 0 i (fun x => nI (sbit (a x) p (isR G p x))))) G := ⟨XG_setIA h.1 (by omega), by rw [mi_setIA, if_neg (by omega)]; exact h.c, fun p hp => by rw [mi_setIA, if_neg (by omega)]; exact h.pl hp, fun p hp x hx => by have := hw_lt hw hp; rw [mi_setIA, if_neg (by omega)]; exact h.si hp hx⟩
    have e5 : wr (κ.1 50) 0 i (fun x => nI (sbit (a x) p (isR G p x))) i = nI (a i) := by rw [wr_out (by omega)]; exact (ha i hi2).1
    have hal := (ha i hi2).2
    have htl := tol_lt κ 1 p (sOf G p i)
    have hcl := col_lt (x := i) hw hp
    have h4 := hw.h4 hp
    have e6 : tol κ 1 p (sOf G p i) = Gt G p (sOf G p i) := h.1.t hp hs
    rw [pX1_judge_14]
    simp (disch := omega) only [n_0, n_1, n_2, n_3, n_4, n_5, n_6, n_7, n_8, n_9, n_10, n_12, n_13, n_14, n_20, n_31, n_32, n_63, n_64, n_600, n_1024, n_4096, n_6157, n_add, n_mul, nm_def, Option.bind_some, Option.some.injEq, ck_in, ck_nz, ck_p, n_cl, n_lt, n_le, n_eq, n_div, n_rem, if_pos, if_neg, if_true, if_false, eq_self, n_192, n_256, n_20000, m1_n0, m1_np, m1_n0p, m1_lt0, m1_lt0p, mi_setIA, mi_setI, ml_setIA, ml_setI, mr_setI, mr_setIA, h.c, h.si hp hi2, sX2_told _ 1 hp6, tol_setIA, sX1_colourOf e4 hw hp]
    unfold pX1_judge_50 pX1_judge_86
    by_cases c : tol κ 1 p (sOf G p i) = col G p i
    · have e7 : isR G p i = true := by unfold isR; rw [← e6]; simp [c]
      simp (disch := omega) only [n_0, n_1, n_2, n_3, n_4, n_5, n_6, n_7, n_8, n_9, n_10, n_12, n_13, n_14, n_20, n_31, n_32, n_63, n_64, n_600, n_1024, n_4096, n_6157, n_add, n_mul, nm_def, Option.bind_some, Option.some.injEq, ck_in, ck_nz, ck_p, n_cl, n_lt, n_le, n_eq, n_div, n_rem, if_pos, if_neg, if_true, if_false, eq_self, n_192, n_256, n_20000, m1_n0, m1_np, m1_n0p, m1_lt0, m1_lt0p, mi_setIA, mi_setI, ml_setIA, ml_setI, mr_setI, mr_setIA, c, e5, n_or]
      rw [setI_wr_up (Nat.zero_le _) (by rw [e7]; rfl)]
    · have e7 : isR G p i = false := by unfold isR; rw [← e6]; simp [c]
      simp (disch := omega) only [n_0, n_1, n_2, n_3, n_4, n_5, n_6, n_7, n_8, n_9, n_10, n_12, n_13, n_14, n_20, n_31, n_32, n_63, n_64, n_600, n_1024, n_4096, n_6157, n_add, n_mul, nm_def, Option.bind_some, Option.some.injEq, ck_in, ck_nz, ck_p, n_cl, n_lt, n_le, n_eq, n_div, n_rem, if_pos, if_neg, if_true, if_false, eq_self, n_192, n_256, n_20000, m1_n0, m1_np, m1_n0p, m1_lt0, m1_lt0p, mi_setIA, mi_setI, ml_setIA, ml_setI, mr_setI, mr_setIA, c, e5]
      rw [n_clr _ hal p hp6, setI_wr_up (Nat.zero_le _) (by rw [e7]; rfl)]
theorem cntw_up (r : Nat → Nat) (f0 : Nat → Int32) (i : Nat) : upd (wr f0 0 64 (fun w => nI (cnt (fun x => decide (r x = w)) i))) (r i) (nI (cnt (fun x => decide (r x = r i)) i) + nI 1) = if r i < 64 then wr f0 0 64 (fun w => nI (cnt (fun x => decide (r x = w)) (i + 1))) else upd (wr f0 0 64 (fun w => nI (cnt (fun x => decide (r x = w)) i))) (r i) (nI (cnt (fun x => decide (r x = r i)) i) + nI 1) := by
  by_cases h : r i < 64
  · rw [if_pos h]
    funext y
    unfold upd wr
    by_cases e : y = r i
    · subst e
      rw [if_pos rfl, if_pos ⟨Nat.zero_le _, h⟩, n_add]
      show _ = nI (cnt (fun x => decide (r x = r i)) (i + 1))
      rw [cnt_s]
      simp
    · rw [if_neg e]
      by_cases e2 : y < 64
      · rw [if_pos ⟨Nat.zero_le _, e2⟩, if_pos ⟨Nat.zero_le _, e2⟩]
        show nI (cnt (fun x => decide (r x = y)) i) = nI (cnt (fun x => decide (r x = y)) (i + 1))
        rw [cnt_s]
        have e3 : decide (r i = y) = false := by simp; exact fun z => e z.symm
        rw [e3]
        simp
      · rw [if_neg (by omega), if_neg (by omega)]
  · rw [if_neg h]
theorem sX1_tally {r : Nat → Nat} {c : Nat} (hF : 5000 < F) (hc : mi κ 41 1 = nI c) (hc2 : c ≤ 4096) (hr : ∀ x, x < c → mi κ 50 x = nI (r x) ∧ r x < 64) : pX1_tally F κ = some (setIA κ 51 (wr (κ.1 51) 0 64 (fun w => nI (cnt (fun x => decide (r x = w)) c)))) := by
  unfold pX1_tally
  refine lp_upE F (fun fu i => pX1_tally_2 F fu (setIA κ 51 (wr (κ.1 51) 0 i (fun _ => nI 0))) (nI i)) (0) (64) _ _ ?_ (fun fu => ?_) (fun fu i hi1 hi2 => ?_) (by omega) (by omega)
  · rw [setIA_wr0]; rfl
  · show pX1_tally_2 F (fu + 1) (setIA κ 51 (wr (κ.1 51) 0 (64) (fun _ => nI 0))) (nI (64)) = _
    rw [pX1_tally_2]
    simp (disch := omega) only [n_0, n_1, n_2, n_3, n_4, n_5, n_6, n_7, n_8, n_9, n_10, n_12, n_13, n_14, n_20, n_31, n_32, n_63, n_64, n_600, n_1024, n_4096, n_6157, n_add, n_mul, nm_def, Option.bind_some, Option.some.injEq, ck_in, ck_nz, ck_p, n_cl, n_lt, n_le, n_eq, n_div, n_rem, if_pos, if_neg, if_true, if_false, eq_self, n_192, n_256, n_20000, m1_n0, m1_np, m1_n0p, m1_lt0, m1_lt0p, mi_setIA, mi_setI, ml_setIA, ml_setI, mr_setI, mr_setIA]
    rw [show (fun _ => nI 0 : Nat → Int32) = (fun w => nI (cnt (fun x => decide (r x = w)) 0)) from rfl]
    refine lp_upE F (fun fu i => pX1_tally_26 F fu (setIA κ 51 (wr (κ.1 51) 0 64 (fun w => nI (cnt (fun x => decide (r x = w)) i)))) (nI i)) (0) (c) _ _ rfl (fun fu => ?_) (fun fu i hi1 hi2 => ?_) (by omega) (by omega)
    · show pX1_tally_26 F (fu + 1) (setIA κ 51 (wr (κ.1 51) 0 64 (fun w => nI (cnt (fun x => decide (r x = w)) (c))))) (nI (c)) = _
      rw [pX1_tally_26]
      simp (disch := omega) only [n_0, n_1, n_2, n_3, n_4, n_5, n_6, n_7, n_8, n_9, n_10, n_12, n_13, n_14, n_20, n_31, n_32, n_63, n_64, n_600, n_1024, n_4096, n_6157, n_add, n_mul, nm_def, Option.bind_some, Option.some.injEq, ck_in, ck_nz, ck_p, n_cl, n_lt, n_le, n_eq, n_div, n_rem, if_pos, if_neg, if_true, if_false, eq_self, n_192, n_256, n_20000, m1_n0, m1_np, m1_n0p, m1_lt0, m1_lt0p, mi_setIA, mi_setI, ml_setIA, ml_setI, mr_setI, mr_setIA, hc]
    · show pX1_tally_26 F (fu + 1) (setIA κ 51 (wr (κ.1 51) 0 64 (fun w => nI (cnt (fun x => decide (r x = w)) i)))) (nI i) = pX1_tally_26 F fu (setIA κ 51 (wr (κ.1 51) 0 64 (fun w => nI (cnt (fun x => decide (r x = w)) (i + 1))))) (nI (i + 1))
      have h1 := (hr i hi2).1
      have h2 := (hr i hi2).2
      have h3 : wr (κ.1 51) 0 64 (fun w => nI (cnt (fun x => decide (r x = w)) i)) (r i) = nI (cnt (fun x => decide (r x = r i)) i) := wr_in (Nat.zero_le _) h2
      rw [pX1_tally_26]
      simp (disch := omega) only [n_0, n_1, n_2, n_3, n_4, n_5, n_6, n_7, n_8, n_9, n_10, n_12, n_13, n_14, n_20, n_31, n_32, n_63, n_64, n_600, n_1024, n_4096, n_6157, n_add, n_mul, nm_def, Option.bind_some, Option.some.injEq, ck_in, ck_nz, ck_p, n_cl, n_lt, n_le, n_eq, n_div, n_rem, if_pos, if_neg, if_true, if_false, eq_self, n_192, n_256, n_20000, m1_n0, m1_np, m1_n0p, m1_lt0, m1_lt0p, mi_setIA, mi_setI, ml_setIA, ml_setI, mr_setI, mr_setIA, hc, h1]
      have h4 := cntw_up r (κ.1 51) i
      rw [n_add, if_pos h2] at h4
      rw [h3, n_add, setI_setIA, h4]
  · show pX1_tally_2 F (fu + 1) (setIA κ 51 (wr (κ.1 51) 0 i (fun _ => nI 0))) (nI i) = pX1_tally_2 F fu (setIA κ 51 (wr (κ.1 51) 0 (i + 1) (fun _ => nI 0))) (nI (i + 1))
    rw [pX1_tally_2]
    simp (disch := omega) only [n_0, n_1, n_2, n_3, n_4, n_5, n_6, n_7, n_8, n_9, n_10, n_12, n_13, n_14, n_20, n_31, n_32, n_63, n_64, n_600, n_1024, n_4096, n_6157, n_add, n_mul, nm_def, Option.bind_some, Option.some.injEq, ck_in, ck_nz, ck_p, n_cl, n_lt, n_le, n_eq, n_div, n_rem, if_pos, if_neg, if_true, if_false, eq_self, n_192, n_256, n_20000, m1_n0, m1_np, m1_n0p, m1_lt0, m1_lt0p, mi_setIA, mi_setI, ml_setIA, ml_setI, mr_setI, mr_setIA]
    rw [setI_wr_up (Nat.zero_le _) rfl]
/-- judged and counted -/
def JD (κ : Mem) (G : Gm) : Prop := (∀ x, x < ncol G → mi κ 50 x = nI (rgt G x)) ∧ ∀ w, w < 64 → mi κ 51 w = nI (cnt (fun x => decide (rgt G x = w)) (ncol G))
def cS (k : Nat) : Prop := 50 ≤ k ∧ k ≤ 53
theorem AR.agr {S : Nat → Prop} {κ1 : Mem} (h : AR κ G) (hw : WF G) (ha : agr S κ κ1) (hs : ∀ k, S k → 4 < k ∧ (k < 41 ∨ 49 < k)) : AR κ1 G := by
  have q : ∀ k, (k ≤ 4 ∨ (41 ≤ k ∧ k ≤ 49)) → ¬ S k := fun k hk z => by have := hs k z; omega
  exact ⟨h.1.agr ha (q _ (by omega)) (q _ (by omega)) (q _ (by omega)) (q _ (by omega)), by rw [agr_mi ha (q _ (by omega))]; exact h.c, fun p hp => by rw [agr_mi ha (q _ (by omega))]; exact h.pl hp, fun p hp x hx => by have := hw_lt hw hp; rw [agr_mi ha (q _ (by omega))]; exact h.si hp hx⟩
theorem agr_cS {f : Nat → Int32} {k : Nat} (hk : 50 ≤ k ∧ k ≤ 53) : agr cS κ (setIA κ k f) := agr_setIA hk
theorem AR.set {f : Nat → Int32} {k : Nat} (h : AR κ G) (hw : WF G) (hk : 50 ≤ k ∧ k ≤ 53) : AR (setIA κ k f) G := h.agr hw (agr_cS hk) (fun k hk => by unfold cS at hk; omega)
theorem sX1_tallied (h : AR κ G) (hw : WF G) (hF : 5000 < F) (hr : ∀ x, x < ncol G → mi κ 50 x = nI (rgt G x)) : ∃ κ1, agr (fun k => k = 51) κ κ1 ∧ JD κ1 G ∧ pX1_tally F κ = some κ1 := by
  refine ⟨_, agr_setIA rfl, ⟨fun x hx => ?_, fun w hw => ?_⟩, sX1_tally (r := rgt G) hF h.c (ncol_le hw) (fun x hx => ⟨hr x hx, rgt_lt hw⟩)⟩
  · rw [mi_setIA, if_neg (by omega)]; exact hr x hx
  · rw [mi_setIA, if_pos rfl, wr_in (Nat.zero_le _) hw]
theorem msk_lt64 {f : Nat → Bool} {k : Nat} (hk : k ≤ 6) : msk f k < 64 := Nat.lt_of_lt_of_le (msk_lt _ _) (pow_le_64 hk)
theorem msk_sbit {f : Nat → Bool} {k : Nat} (hk : k < 6) : sbit (msk f k) k (f k) = msk f (k + 1) := by
  refine eq64 _ (sbit_lt (msk_lt64 (by omega)) hk) _ (msk_lt64 (by omega)) (fun i hi => ?_)
  rw [sbit_bit _ (msk_lt64 (by omega)) k hk i hi, msk_bit, msk_bit]
  by_cases e : i = k
  · subst e; simp
  · rw [if_neg e]
    congr 1
    apply decide_eq_decide.mpr
    omega
theorem sX1_judgeAll (h : AR κ G) (hw : WF G) (hF : 5000 < F) : ∃ κ1, agr cS κ κ1 ∧ JD κ1 G ∧ pX1_judgeAll F κ = some κ1 := by
  have hn := hw.n6
  have hc := ncol_le hw
  have e1 : pX1_judgeAll F κ = pX1_judgeAll_25 F F (setIA κ 50 (wr (κ.1 50) 0 (ncol G) (fun x => nI (msk (fun p => isR G p x) 0)))) (nI 0) := by
    unfold pX1_judgeAll
    refine lp_upE F (fun fu i => pX1_judgeAll_2 F fu (setIA κ 50 (wr (κ.1 50) 0 i (fun x => nI (msk (fun p => isR G p x) 0)))) (nI i)) (0) (ncol G) _ _ ?_ (fun fu => ?_) (fun fu i hi1 hi2 => ?_) (by omega) (by omega)
    · rw [setIA_wr0]; rfl
    · show pX1_judgeAll_2 F (fu + 1) (setIA κ 50 (wr (κ.1 50) 0 (ncol G) (fun x => nI (msk (fun p => isR G p x) 0)))) (nI (ncol G)) = _
      rw [pX1_judgeAll_2]
      simp (disch := omega) only [n_0, n_1, n_2, n_3, n_4, n_5, n_6, n_7, n_8, n_9, n_10, n_12, n_13, n_14, n_20, n_31, n_32, n_63, n_64, n_600, n_1024, n_4096, n_6157, n_add, n_mul, nm_def, Option.bind_some, Option.some.injEq, ck_in, ck_nz, ck_p, n_cl, n_lt, n_le, n_eq, n_div, n_rem, if_pos, if_neg, if_true, if_false, eq_self, n_192, n_256, n_20000, m1_n0, m1_np, m1_n0p, m1_lt0, m1_lt0p, mi_setIA, mi_setI, ml_setIA, ml_setI, mr_setI, mr_setIA, h.c]
    · show pX1_judgeAll_2 F (fu + 1) (setIA κ 50 (wr (κ.1 50) 0 i (fun x => nI (msk (fun p => isR G p x) 0)))) (nI i) = pX1_judgeAll_2 F fu (setIA κ 50 (wr (κ.1 50) 0 (i + 1) (fun x => nI (msk (fun p => isR G p x) 0)))) (nI (i + 1))
      rw [pX1_judgeAll_2]
      simp (disch := omega) only [n_0, n_1, n_2, n_3, n_4, n_5, n_6, n_7, n_8, n_9, n_10, n_12, n_13, n_14, n_20, n_31, n_32, n_63, n_64, n_600, n_1024, n_4096, n_6157, n_add, n_mul, nm_def, Option.bind_some, Option.some.injEq, ck_in, ck_nz, ck_p, n_cl, n_lt, n_le, n_eq, n_div, n_rem, if_pos, if_neg, if_true, if_false, eq_self, n_192, n_256, n_20000, m1_n0, m1_np, m1_n0p, m1_lt0, m1_lt0p, mi_setIA, mi_setI, ml_setIA, ml_setI, mr_setI, mr_setIA, h.c]
      rw [setI_wr_up (x := nI 0) (v := fun x => nI (msk (fun p => isR G p x) 0)) (Nat.zero_le _) rfl]
  have h2 : ∀ k, AR (setIA κ 50 (wr (κ.1 50) 0 (ncol G) (fun x => nI (msk (fun p => isR G p x) k)))) G := fun k => h.set hw (by omega)
  obtain ⟨κ1, a1, a2, a3⟩ := sX1_tallied (h2 (Gn G)) hw hF (fun x hx => by rw [mi_setIA, if_pos rfl, wr_in (Nat.zero_le _) hx]; rfl)
  refine ⟨κ1, agr_trans (agr_cS (by omega)) (agr_mono a1 (fun k hk => by unfold cS; omega)), a2, ?_⟩
  rw [e1]
  refine lp_upE F (fun fu i => pX1_judgeAll_25 F fu (setIA κ 50 (wr (κ.1 50) 0 (ncol G) (fun x => nI (msk (fun p => isR G p x) i)))) (nI i)) (0) (Gn G) _ _ rfl (fun fu => ?_) (fun fu i hi1 hi2 => ?_) (by omega) (by omega)
  · show pX1_judgeAll_25 F (fu + 1) (setIA κ 50 (wr (κ.1 50) 0 (ncol G) (fun x => nI (msk (fun p => isR G p x) (Gn G))))) (nI (Gn G)) = _
    rw [pX1_judgeAll_25]
    simp (disch := omega) only [n_0, n_1, n_2, n_3, n_4, n_5, n_6, n_7, n_8, n_9, n_10, n_12, n_13, n_14, n_20, n_31, n_32, n_63, n_64, n_600, n_1024, n_4096, n_6157, n_add, n_mul, nm_def, Option.bind_some, Option.some.injEq, ck_in, ck_nz, ck_p, n_cl, n_lt, n_le, n_eq, n_div, n_rem, if_pos, if_neg, if_true, if_false, eq_self, n_192, n_256, n_20000, m1_n0, m1_np, m1_n0p, m1_lt0, m1_lt0p, mi_setIA, mi_setI, ml_setIA, ml_setI, mr_setI, mr_setIA, h.n, a3]
  · show pX1_judgeAll_25 F (fu + 1) (setIA κ 50 (wr (κ.1 50) 0 (ncol G) (fun x => nI (msk (fun p => isR G p x) i)))) (nI i) = pX1_judgeAll_25 F fu (setIA κ 50 (wr (κ.1 50) 0 (ncol G) (fun x => nI (msk (fun p => isR G p x) (i + 1))))) (nI (i + 1))
    rw [pX1_judgeAll_25]
    simp (disch := omega) only [n_0, n_1, n_2, n_3, n_4, n_5, n_6, n_7, n_8, n_9, n_10, n_12, n_13, n_14, n_20, n_31, n_32, n_63, n_64, n_600, n_1024, n_4096, n_6157, n_add, n_mul, nm_def, Option.bind_some, Option.some.injEq, ck_in, ck_nz, ck_p, n_cl, n_lt, n_le, n_eq, n_div, n_rem, if_pos, if_neg, if_true, if_false, eq_self, n_192, n_256, n_20000, m1_n0, m1_np, m1_n0p, m1_lt0, m1_lt0p, mi_setIA, mi_setI, ml_setIA, ml_setI, mr_setI, mr_setIA, h.n]
    rw [sX1_judge (a := fun x => msk (fun p => isR G p x) i) (h2 i) hw hF hi2 (fun x hx => ⟨by rw [mi_setIA, if_pos rfl, wr_in (Nat.zero_le _) hx], msk_lt64 (by omega)⟩), setIA_setIA, Option.bind_some]
    congr 1
    congr 1
    funext y
    unfold wr
    by_cases e : y < ncol G
    · rw [if_pos ⟨Nat.zero_le _, e⟩, if_pos ⟨Nat.zero_le _, e⟩]
      exact congrArg nI (msk_sbit (f := fun p => isR G p y) (by omega))
    · rw [if_neg (by omega), if_neg (by omega)]
      rw [fst_setIA, if_neg (by omega)]
/-- judged anew, one's table having changed -/
theorem sX1_judgeAgain {a : Nat → Nat} (h : AR κ G) (hw : WF G) (hF : 5000 < F) (hp : p < Gn G) (ha : ∀ x, x < ncol G → mi κ 50 x = nI (a x) ∧ a x < 64 ∧ ∀ i, i < 6 → i ≠ p → (a x).testBit i = (rgt G x).testBit i) : ∃ κ1, agr cS κ κ1 ∧ JD κ1 G ∧ pX1_judgeAgain F κ (nI p) = some κ1 := by
  have hp6 := hw_lt hw hp
  have e1 := sX1_judge (a := a) h hw hF hp (fun x hx => ⟨(ha x hx).1, (ha x hx).2.1⟩)
  obtain ⟨κ1, a1, a2, a3⟩ := sX1_tallied (κ := setIA κ 50 (wr (κ.1 50) 0 (ncol G) (fun x => nI (sbit (a x) p (isR G p x))))) (h.set hw (by omega)) hw hF (fun x hx => by
    rw [mi_setIA, if_pos rfl, wr_in (Nat.zero_le _) hx]
    have h3 := ha x hx
    refine congrArg nI (eq64 _ (sbit_lt h3.2.1 hp6) _ (rgt_lt hw) (fun i hi => ?_))
    rw [sbit_bit _ h3.2.1 p hp6 i hi]
    by_cases e : i = p
    · subst e
      rw [if_pos rfl]
      unfold rgt
      rw [msk_bit]
      simp [hp]
    · rw [if_neg e]
      exact h3.2.2 i hi e)
  refine ⟨κ1, agr_trans (agr_cS (by omega)) (agr_mono a1 (fun k hk => by unfold cS; omega)), a2, ?_⟩
  unfold pX1_judgeAgain
  rw [e1, Option.bind_some, a3]
  rfl
/-- a row of situations, when so many players have been looked at -/
def wgt (G : Gm) (p q : Nat) : Nat := if sees G p q then wB G p (q + 1) else 0
def rowV (G : Gm) (p q y : Nat) : Nat := sm (fun r => dig (Gh G) q y r * wgt G p r) q
theorem rowV_s (hw : WF G) {q y : Nat} (hq : q < Gn G) : rowV G p (q + 1) y = rowV G p q (y / Gh G q) + (y % Gh G q) * wgt G p q := by
  have h1 := hw.h1 hq
  have e : y = y / Gh G q * Gh G q + y % Gh G q := (Nat.div_add_mod' y (Gh G q)).symm
  have hc : y % Gh G q < Gh G q := Nat.mod_lt _ h1
  unfold rowV
  rw [sm]
  congr 1
  · refine sm_congr (fun r hr => ?_)
    congr 1
    conv => lhs; rw [e]
    exact dig_front q _ _ r hc hr
  · congr 1
    conv => lhs; rw [e]
    exact dig_last q _ _ hc
theorem rowV_end (hw : WF G) (hp : p < Gn G) (x : Nat) : rowV G p (Gn G) x = sOf G p x := by
  unfold rowV sOf
  rw [hor_sum]
  refine sm_congr (fun r hr => ?_)
  unfold wgt col wB
  by_cases c : sees G p r = true
  · rw [if_pos c, if_pos c]
  · rw [if_neg c, if_neg c]
    simp
theorem pwq_le (hw : WF G) {q : Nat} (hq : q ≤ Gn G) : pw (Gh G) 0 q ≤ 4096 :=
  Nat.le_trans (pw_le (c := 4) (fun i h1 h2 => hw.h4 (by omega))) (Nat.le_trans (Nat.pow_le_pow_right (by decide) (by have := hw.n6; omega : q ≤ 6)) (by decide))
theorem wgt_le (hw : WF G) (p q : Nat) : wgt G p q ≤ 4096 := by
  unfold wgt; split
  · exact wB_le hw _
  · exact Nat.zero_le _
theorem lenF_wr {f0 : Nat → Int32} {q : Nat} (hw : WF G) (hq : q < Gn G) : lenF (wr f0 0 (pw (Gh G) 0 q) (fun y => nI (rowV G p q y))) 0 (pw (Gh G) 0 q * Gh G q) (Gh G q) (nI (wgt G p q)) = wr f0 0 (pw (Gh G) 0 (q + 1)) (fun y => nI (rowV G p (q + 1) y)) := by
  have h1 := hw.h1 hq
  have e : pw (Gh G) 0 (q + 1) = pw (Gh G) 0 q * Gh G q := by rw [pw, Nat.zero_add]
  funext y
  unfold lenF
  rw [e]
  by_cases c : y < pw (Gh G) 0 q * Gh G q
  · rw [if_pos ⟨Nat.zero_le _, c⟩, wr_in (Nat.zero_le _) c, wr_in (Nat.zero_le _) ((Nat.div_lt_iff_lt_mul h1).mpr c), rowV_s hw hq]
    simp only [n_mul, n_add]
  · have c2 : pw (Gh G) 0 q ≤ pw (Gh G) 0 q * Gh G q := Nat.le_mul_of_pos_right _ h1
    rw [if_neg (fun z => c z.2), wr_out (Or.inr (by omega)), wr_out (Or.inr (by omega))]
theorem sX1_row {k62 : Mem → Int32 → Option Mem} (hG : XG κ 1 G) (hw : WF G) (hF : 5000 < F) (hp : p < Gn G) (h0 : mi κ (44 + p) 0 = nI 0) : pX1_arrange_87 F k62 (nI p) F κ (nI 1) (nI 0) = k62 (setIA κ (44 + p) (wr (κ.1 (44 + p)) 0 (pw (Gh G) 0 (Gn G)) (fun x => nI (sOf G p x)))) (nI (p + 1)) := by
  have hp6 := hw_lt hw hp
  have hn := hw.n6
  have hGs : ∀ f, XG (setIA κ (44 + p) f) 1 G := fun f => XG_setIA hG (by omega)
  refine lp_upE F (fun fu i => pX1_arrange_87 F k62 (nI p) fu (setIA κ (44 + p) (wr (κ.1 (44 + p)) 0 (pw (Gh G) 0 i) (fun y => nI (rowV G p i y)))) (nI (pw (Gh G) 0 i)) (nI i)) (0) (Gn G) _ _ ?_ (fun fu => ?_) (fun fu i hi1 hi2 => ?_) (by omega) (by omega)
  · have e : wr (κ.1 (44 + p)) 0 (pw (Gh G) 0 0) (fun y => nI (rowV G p 0 y)) = κ.1 (44 + p) := by
      funext y
      unfold wr
      by_cases c : 0 ≤ y ∧ y < pw (Gh G) 0 0
      · rw [if_pos c]
        have : y = 0 := by have := c.2; rw [pw] at this; omega
        subst this
        exact h0.symm
      · rw [if_neg c]
    rw [e, setIA_self]
    rfl
  · show pX1_arrange_87 F k62 (nI p) (fu + 1) (setIA κ (44 + p) (wr (κ.1 (44 + p)) 0 (pw (Gh G) 0 (Gn G)) (fun y => nI (rowV G p (Gn G) y)))) (nI (pw (Gh G) 0 (Gn G))) (nI (Gn G)) = _
    have e2 : mi κ 1 0 = nI (Gn G) := hG.1
    rw [pX1_arrange_87]
    simp (disch := omega) only [n_0, n_1, n_2, n_3, n_4, n_5, n_6, n_7, n_8, n_9, n_10, n_12, n_13, n_14, n_20, n_31, n_32, n_63, n_64, n_600, n_1024, n_4096, n_6157, n_add, n_mul, nm_def, Option.bind_some, Option.some.injEq, ck_in, ck_nz, ck_p, n_cl, n_lt, n_le, n_eq, n_div, n_rem, if_pos, if_neg, if_true, if_false, eq_self, n_192, n_256, n_20000, m1_n0, m1_np, m1_n0p, m1_lt0, m1_lt0p, mi_setIA, mi_setI, ml_setIA, ml_setI, mr_setI, mr_setIA, e2]
    congr 2
    congr 1
    funext x
    rw [rowV_end hw hp]
  · show pX1_arrange_87 F k62 (nI p) (fu + 1) (setIA κ (44 + p) (wr (κ.1 (44 + p)) 0 (pw (Gh G) 0 i) (fun y => nI (rowV G p i y)))) (nI (pw (Gh G) 0 i)) (nI i) = pX1_arrange_87 F k62 (nI p) fu (setIA κ (44 + p) (wr (κ.1 (44 + p)) 0 (pw (Gh G) 0 (i + 1)) (fun y => nI (rowV G p (i + 1) y)))) (nI (pw (Gh G) 0 (i + 1))) (nI (i + 1))
    have e2 : mi κ 1 0 = nI (Gn G) := hG.1
    have e3 : mi κ 2 i = nI (Gh G i) := hG.h hi2
    have l1 := pwq_le hw (q := i) (by omega)
    have l2 := pwq_le hw (q := i + 1) (by omega)
    rw [pw, Nat.zero_add] at l2
    rw [pX1_arrange_87]
    simp (disch := omega) only [n_0, n_1, n_2, n_3, n_4, n_5, n_6, n_7, n_8, n_9, n_10, n_12, n_13, n_14, n_20, n_31, n_32, n_63, n_64, n_600, n_1024, n_4096, n_6157, n_add, n_mul, nm_def, Option.bind_some, Option.some.injEq, ck_in, ck_nz, ck_p, n_cl, n_lt, n_le, n_eq, n_div, n_rem, if_pos, if_neg, if_true, if_false, eq_self, n_192, n_256, n_20000, m1_n0, m1_np, m1_n0p, m1_lt0, m1_lt0p, mi_setIA, mi_setI, ml_setIA, ml_setI, mr_setI, mr_setIA, e2, e3]
    rw [sX2_weight (hGs _) hw (by omega) hp hi2, Option.bind_some, Nat.mul_one]
    rw [show (nI (if sees G p i = true then wB G p (i + 1) else 0)) = nI (wgt G p i) from rfl]
    rw [sX10_lengthen hF (hw.h1 hi2) (hw.h4 hi2) (by rw [lenX_sit hp6]; exact l2) (by rw [lenX_sit hp6]; omega) l1, Option.bind_some]
    show pX1_arrange_87 F k62 (nI p) fu (setIA (setIA κ (44 + p) _) (44 + p) (lenF ((setIA κ (44 + p) _).1 (44 + p)) _ _ _ _)) _ _ = _
    rw [fst_setIA, setIA_setIA, lenF_wr hw hi2]
    rw [pw, Nat.zero_add]
def cA (k : Nat) : Prop := k = 41 ∨ k = 42 ∨ (44 ≤ k ∧ k ≤ 53)
theorem ncol_pw (h : Gn G ≠ 0) : ncol G = pw (Gh G) 0 (Gn G) := if_neg h
theorem sX1_arrange (hG : XG κ 1 G) (hw : WF G) (hF : 5000 < F) : ∃ κ1, agr cA κ κ1 ∧ AR κ1 G ∧ JD κ1 G ∧ pX1_arrange F κ = some κ1 := by
  have hn := hw.n6
  have hcl := ncol_le hw
  have e1 : ∃ κ1, agr cA κ κ1 ∧ XG κ1 1 G ∧ mi κ1 41 1 = nI (ncol G) ∧ (∀ p, p < Gn G → mi κ1 42 p = nI (pw (Gh G) (p + 1) (Gn G - (p + 1)))) ∧ pX1_arrange F κ = pX1_arrange_62 F F κ1 (nI 0) := by
    refine ⟨setI (setIA κ 42 (wr (κ.1 42) 0 (Gn G) (fun p => nI (pw (Gh G) (p + 1) (Gn G - (p + 1)))))) 41 1 (nI (ncol G)), agr_trans (agr_setIA (Or.inr (Or.inl rfl))) (agr_setI (Or.inl rfl)), XG_setI (XG_setIA hG (by omega)) (by omega), ?_, fun p hp => ?_, ?_⟩
    · rw [mi_setI, if_pos ⟨rfl, rfl⟩]
    · rw [mi_setI, if_neg (by omega), mi_setIA, if_pos rfl, wr_in (Nat.zero_le _) hp]
    · unfold pX1_arrange
      have e0 : mi κ 1 0 = nI (Gn G) := hG.1
      simp (disch := omega) only [n_0, n_1, n_2, n_3, n_4, n_5, n_6, n_7, n_8, n_9, n_10, n_12, n_13, n_14, n_20, n_31, n_32, n_63, n_64, n_600, n_1024, n_4096, n_6157, n_add, n_mul, nm_def, Option.bind_some, Option.some.injEq, ck_in, ck_nz, ck_p, n_cl, n_lt, n_le, n_eq, n_div, n_rem, if_pos, if_neg, if_true, if_false, eq_self, n_192, n_256, n_20000, m1_n0, m1_np, m1_n0p, m1_lt0, m1_lt0p, mi_setIA, mi_setI, ml_setIA, ml_setI, mr_setI, mr_setIA, e0, n_sub1]
      refine lp_dnE F (fun fu i => pX1_arrange_12 F fu (setIA κ 42 (wr (κ.1 42) i (Gn G) (fun p => nI (pw (Gh G) (p + 1) (Gn G - (p + 1)))))) (nI (pw (Gh G) i (Gn G - i))) (predI i)) (Gn G) _ _ ?_ (fun fu => ?_) (fun fu i hi => ?_) (by omega)
      · rw [setIA_wr0, Nat.sub_self]; rfl
      · show pX1_arrange_12 F (fu + 1) (setIA κ 42 (wr (κ.1 42) 0 (Gn G) (fun p => nI (pw (Gh G) (p + 1) (Gn G - (p + 1)))))) (nI (pw (Gh G) 0 (Gn G - 0))) (predI 0) = _
        rw [pX1_arrange_12]
        unfold pX1_arrange_57
        by_cases c : Gn G = 0
        · rw [c] at e0
          have c2 : ncol G = 0 := if_pos c
          rw [c2]
          simp (disch := omega) only [n_0, n_1, n_2, n_3, n_4, n_5, n_6, n_7, n_8, n_9, n_10, n_12, n_13, n_14, n_20, n_31, n_32, n_63, n_64, n_600, n_1024, n_4096, n_6157, n_add, n_mul, nm_def, Option.bind_some, Option.some.injEq, ck_in, ck_nz, ck_p, n_cl, n_lt, n_le, n_eq, n_div, n_rem, if_pos, if_neg, if_true, if_false, eq_self, n_192, n_256, n_20000, m1_n0, m1_np, m1_n0p, m1_lt0, m1_lt0p, mi_setIA, mi_setI, ml_setIA, ml_setI, mr_setI, mr_setIA, e0]
        · simp (disch := omega) only [n_0, n_1, n_2, n_3, n_4, n_5, n_6, n_7, n_8, n_9, n_10, n_12, n_13, n_14, n_20, n_31, n_32, n_63, n_64, n_600, n_1024, n_4096, n_6157, n_add, n_mul, nm_def, Option.bind_some, Option.some.injEq, ck_in, ck_nz, ck_p, n_cl, n_lt, n_le, n_eq, n_div, n_rem, if_pos, if_neg, if_true, if_false, eq_self, n_192, n_256, n_20000, m1_n0, m1_np, m1_n0p, m1_lt0, m1_lt0p, mi_setIA, mi_setI, ml_setIA, ml_setI, mr_setI, mr_setIA, e0, Nat.sub_zero]
          rw [ncol_pw c]
      · show pX1_arrange_12 F (fu + 1) (setIA κ 42 (wr (κ.1 42) (i + 1) (Gn G) (fun p => nI (pw (Gh G) (p + 1) (Gn G - (p + 1)))))) (nI (pw (Gh G) (i + 1) (Gn G - (i + 1)))) (predI (i + 1)) = pX1_arrange_12 F fu (setIA κ 42 (wr (κ.1 42) i (Gn G) (fun p => nI (pw (Gh G) (p + 1) (Gn G - (p + 1)))))) (nI (pw (Gh G) i (Gn G - i))) (predI i)
        have e2 : mi κ 2 i = nI (Gh G i) := hG.h hi
        rw [pX1_arrange_12, predI_s]
        simp (disch := omega) only [n_0, n_1, n_2, n_3, n_4, n_5, n_6, n_7, n_8, n_9, n_10, n_12, n_13, n_14, n_20, n_31, n_32, n_63, n_64, n_600, n_1024, n_4096, n_6157, n_add, n_mul, nm_def, Option.bind_some, Option.some.injEq, ck_in, ck_nz, ck_p, n_cl, n_lt, n_le, n_eq, n_div, n_rem, if_pos, if_neg, if_true, if_false, eq_self, n_192, n_256, n_20000, m1_n0, m1_np, m1_n0p, m1_lt0, m1_lt0p, mi_setIA, mi_setI, ml_setIA, ml_setI, mr_setI, mr_setIA, e2, pk_m1]
        rw [setI_wr_dn hi (v := fun p => nI (pw (Gh G) (p + 1) (Gn G - (p + 1)))) rfl, show Gn G - i = (Gn G - (i + 1)) + 1 by omega, pw_cons, Nat.mul_comm (Gh G i)]
  obtain ⟨κ1, a1, a2, a3, a4, a5⟩ := e1
  have key := lp_inv (fun fu (s : Mem) i => pX1_arrange_62 F fu s (nI i)) (fun s i => agr (fun k => 44 ≤ k ∧ k ≤ 49) κ1 s ∧ ∀ p, p < i → ∀ x, x < pw (Gh G) 0 (Gn G) → mi s (44 + p) x = nI (sOf G p x)) (Gn G) (fun r => ∃ κ2, agr cA κ1 κ2 ∧ AR κ2 G ∧ JD κ2 G ∧ r = some κ2)
    (fun fu s hI => by
      obtain ⟨b1, b2⟩ := hI
      have hA : AR s G := ⟨a2.agr b1 (by omega) (by omega) (by omega) (by omega), by rw [agr_mi b1 (by omega)]; exact a3, fun p hp => by rw [agr_mi b1 (by omega)]; exact a4 p hp, fun p hp x hx => b2 p hp x (ncol_lt hx).2⟩
      obtain ⟨κ2, c1, c2, c3⟩ := sX1_judgeAll hA hw hF
      refine ⟨κ2, agr_trans (agr_mono b1 (fun k hk => Or.inr (Or.inr (by omega)))) (agr_mono c1 (fun k hk => Or.inr (Or.inr (by unfold cS at hk; omega)))), hA.agr hw c1 (fun k hk => by unfold cS at hk; omega), c2, ?_⟩
      show pX1_arrange_62 F (fu + 1) s (nI (Gn G)) = some κ2
      rw [pX1_arrange_62]
      simp (disch := omega) only [n_0, n_1, n_2, n_3, n_4, n_5, n_6, n_7, n_8, n_9, n_10, n_12, n_13, n_14, n_20, n_31, n_32, n_63, n_64, n_600, n_1024, n_4096, n_6157, n_add, n_mul, nm_def, Option.bind_some, Option.some.injEq, ck_in, ck_nz, ck_p, n_cl, n_lt, n_le, n_eq, n_div, n_rem, if_pos, if_neg, if_true, if_false, eq_self, n_192, n_256, n_20000, m1_n0, m1_np, m1_n0p, m1_lt0, m1_lt0p, mi_setIA, mi_setI, ml_setIA, ml_setI, mr_setI, mr_setIA, hA.n, c3])
    (fun fu s i hi hI => by
      obtain ⟨b1, b2⟩ := hI
      have hG2 : XG (setI s (44 + i) 0 (nI 0)) 1 G := XG_setI (a2.agr b1 (by omega) (by omega) (by omega) (by omega)) (by omega)
      have e0 : mi s 1 0 = nI (Gn G) := (agr_mi b1 (by omega) 0).trans a2.1
      refine ⟨setIA (setI s (44 + i) 0 (nI 0)) (44 + i) (wr ((setI s (44 + i) 0 (nI 0)).1 (44 + i)) 0 (pw (Gh G) 0 (Gn G)) (fun x => nI (sOf G i x))), ⟨?_, ?_⟩, ?_⟩
      rotate_left 2
      · show pX1_arrange_62 F (fu + 1) s (nI i) = _
        rw [pX1_arrange_62]
        simp (disch := omega) only [n_0, n_1, n_2, n_3, n_4, n_5, n_6, n_7, n_8, n_9, n_10, n_12, n_13, n_14, n_20, n_31, n_32, n_63, n_64, n_600, n_1024, n_4096, n_6157, n_add, n_mul, nm_def, Option.bind_some, Option.some.injEq, ck_in, ck_nz, ck_p, n_cl, n_lt, n_le, n_eq, n_div, n_rem, if_pos, if_neg, if_true, if_false, eq_self, n_192, n_256, n_20000, m1_n0, m1_np, m1_n0p, m1_lt0, m1_lt0p, mi_setIA, mi_setI, ml_setIA, ml_setI, mr_setI, mr_setIA, e0, Nat.mul_one]
        exact sX1_row hG2 hw hF hi (by rw [mi_setI, if_pos ⟨rfl, rfl⟩])
      · exact agr_trans (agr_trans b1 (agr_setI (by omega))) (agr_setIA (by omega))
      · intro p hp x hx
        rw [mi_setIA]
        by_cases c : p = i
        · subst c
          rw [if_pos rfl, wr_in (Nat.zero_le _) hx]
        · rw [if_neg (by omega), mi_setI, if_neg (by omega)]
          exact b2 p (by omega) x hx)
    F κ1 0 (by omega) (by omega) ⟨agr_rfl, fun p hp => by omega⟩
  obtain ⟨κ2, b1, b2, b3, b4⟩ := key
  exact ⟨κ2, agr_trans a1 b1, b2, b3, a5.trans b4⟩
end X1
