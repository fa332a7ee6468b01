/-! COLOURINGS OF THE CLASS: laid out, judged, counted -/
/-- a row written from one place up to another -/
def wr (f0 : Nat → Int32) (a i : Nat) (v : Nat → Int32) : Nat → Int32 := fun y => if a ≤ y ∧ y < i then v y else f0 y
theorem wr_0 (f0 : Nat → Int32) (a : Nat) (v : Nat → Int32) : wr f0 a a v = f0 := by
  funext y; unfold wr; rw [if_neg (by omega)]
theorem wr_up {f0 v : Nat → Int32} {a i : Nat} {x : Int32} (h : a ≤ i) (hx : x = v i) : upd (wr f0 a i v) i x = wr f0 a (i + 1) v := by
  funext y
  unfold upd wr
  by_cases e : y = i
  · subst e
    rw [if_pos rfl, if_pos ⟨h, Nat.lt_succ_self y⟩, hx]
  · rw [if_neg e]
    by_cases e2 : a ≤ y ∧ y < i
    · rw [if_pos e2, if_pos ⟨e2.1, by omega⟩]
    · rw [if_neg e2, if_neg (by omega)]
theorem wr_dn {f0 v : Nat → Int32} {b i : Nat} {x : Int32} (h : i < b) (hx : x = v i) : upd (wr f0 (i + 1) b v) i x = wr f0 i b v := by
  funext y
  unfold upd wr
  by_cases e : y = i
  · subst e
    rw [if_pos rfl, if_pos ⟨Nat.le_refl y, h⟩, hx]
  · rw [if_neg e]
    by_cases e2 : i + 1 ≤ y ∧ y < b
    · rw [if_pos e2, if_pos ⟨by omega, e2.2⟩]
    · rw [if_neg e2, if_neg (by omega)]
theorem wr_in {f0 v : Nat → Int32} {a b y : Nat} (h1 : a ≤ y) (h2 : y < b) : wr f0 a b v y = v y := if_pos ⟨h1, h2⟩
theorem wr_out {f0 v : Nat → Int32} {a b y : Nat} (h : y < a ∨ b ≤ y) : wr f0 a b v y = f0 y := if_neg (by omega)
theorem setI_wr_up {κ : Mem} {k : Nat} {f0 v : Nat → Int32} {a i : Nat} {x : Int32} (h : a ≤ i) (hx : x = v i) : setI (setIA κ k (wr f0 a i v)) k i x = setIA κ k (wr f0 a (i + 1) v) := by rw [setI_setIA, wr_up h hx]
theorem setI_wr_dn {κ : Mem} {k : Nat} {f0 v : Nat → Int32} {b i : Nat} {x : Int32} (h : i < b) (hx : x = v i) : setI (setIA κ k (wr f0 (i + 1) b v)) k i x = setIA κ k (wr f0 i b v) := by rw [setI_setIA, wr_dn h hx]
theorem setIA_wr0 (κ : Mem) (k a : Nat) (v : Nat → Int32) : setIA κ k (wr (κ.1 k) a a v) = κ := by rw [wr_0, setIA_self]
theorem tol_setIA (κ : Mem) (k : Nat) (f : Nat → Int32) (g p σ : Nat) : tol (setIA κ k f) g p σ = tol κ g p σ := rfl
theorem tol_setI (κ : Mem) (k i : Nat) (x : Int32) (g p σ : Nat) : tol (setI κ k i x) g p σ = tol κ g p σ := rfl
theorem XG_setIA {κ : Mem} {g k : Nat} {G : Gm} {f : Nat → Int32} (h : XG κ g G) (hk : k < g ∨ g + 2 < k) : XG (setIA κ k f) g G :=
  ⟨by rw [mi_setIA, if_neg (by omega)]; exact h.1, fun p hp => by rw [mi_setIA, if_neg (by omega)]; exact h.h hp, fun p hp => by rw [mi_setIA, if_neg (by omega)]; exact h.s hp, fun p hp σ hs => h.t hp hs⟩
theorem XG_setI {κ : Mem} {g k i : Nat} {G : Gm} {x : Int32} (h : XG κ g G) (hk : k < g ∨ g + 2 < k) : XG (setI κ k i x) g G := by
  rw [setI_eq]; exact XG_setIA h hk
theorem lenX_sit {p : Nat} (hp : p < 6) : lenX (44 + p) = 4096 := by
  match p with
  | 0 => rfl
  | 1 => rfl
  | 2 => rfl
  | 3 => rfl
  | 4 => rfl
  | 5 => rfl
  | n + 6 => omega
/-- all laid out -/
def AR (κ : Mem) (G : Gm) : Prop := XG κ 1 G ∧ mi κ 41 1 = nI (ncol G) ∧ (∀ p, p < Gn G → mi κ 42 p = nI (pw (Gh G) (p + 1) (Gn G - (p + 1)))) ∧ ∀ p, p < Gn G → ∀ x, x < ncol G → mi κ (44 + p) x = nI (sOf G p x)
section X1
variable {κ : Mem} {G : Gm} {F p q x : Nat}
theorem AR.g (h : AR κ G) : XG κ 1 G := h.1
theorem AR.n (h : AR κ G) : mi κ 1 0 = nI (Gn G) := h.1.1
theorem AR.h (h : AR κ G) (hp : p < Gn G) : mi κ 2 p = nI (Gh G p) := h.1.h hp
theorem AR.s (h : AR κ G) (hp : p < Gn G) : mi κ 3 p = nI (Gs G p) := h.1.s hp
theorem AR.c (h : AR κ G) : mi κ 41 1 = nI (ncol G) := h.2.1
theorem AR.pl (h : AR κ G) (hp : p < Gn G) : mi κ 42 p = nI (pw (Gh G) (p + 1) (Gn G - (p + 1))) := h.2.2.1 p hp
theorem AR.si (h : AR κ G) (hp : p < Gn G) (hx : x < ncol G) : mi κ (44 + p) x = nI (sOf G p x) := h.2.2.2 p hp x hx
theorem plc_le (hw : WF G) (p : Nat) : pw (Gh G) (p + 1) (Gn G - (p + 1)) ≤ 4096 :=
  Nat.le_trans (pw_le (c := 4) (fun i h1 h2 => hw.h4 (by omega))) (Nat.le_trans (Nat.pow_le_pow_right (by decide) (by have := hw.n6; omega : Gn G - (p + 1) ≤ 6)) (by decide))
theorem plc_pos (hw : WF G) (p : Nat) : 0 < pw (Gh G) (p + 1) (Gn G - (p + 1)) := pw_pos (fun i h1 h2 => hw.h1 (by omega))
theorem sX1_colourOf (h : AR κ G) (hw : WF G) (hp : p < Gn G) (hx : x < 2147483648) : pX1_colourOf κ (nI p) (nI x) = some (nI (col G p x)) := by
  have hp6 := hw_lt hw hp
  have h1 := hw.h1 hp
  have h4 := hw.h4 hp
  have l1 := plc_le hw p
  have l2 := plc_pos hw p
  have l3 : x / pw (Gh G) (p + 1) (Gn G - (p + 1)) ≤ x := Nat.div_le_self _ _
  have e1 := h.pl hp
  have e2 := h.h hp
  unfold pX1_colourOf
  rw [n_cl (by omega), e1, e2]
  simp (disch := omega) only [n_0, n_1, n_2, n_3, n_4, n_5, n_6, n_7, n_8, n_9, n_10, n_12, n_13, n_14, n_20, n_31, n_32, n_63, n_64, n_600, n_1024, n_4096, n_6157, n_add, n_mul, nm_def, Option.bind_some, Option.some.injEq, ck_in, ck_nz, ck_p, n_cl, n_lt, n_le, n_eq, n_div, n_rem, if_pos, if_neg, if_true, if_false, eq_self, n_192, n_256, n_20000, m1_n0, m1_np, m1_n0p, m1_lt0, m1_lt0p, mi_setIA, mi_setI, ml_setIA, ml_setI, mr_setI, mr_setIA]
  rfl
/-- who is right: a bit is put or taken -/
def sbit (a p : Nat) (b : Bool) : Nat := if b then a ||| 2 ^ p else a &&& (63 ^^^ 2 ^ p)
theorem n_clr : ∀ a, a < 64 → ∀ p, p < 6 → nI a &&& (nI (2 ^ p) ^^^ predI 0) = nI (a &&& (63 ^^^ 2 ^ p)) := by decide +kernel
theorem n_setb : ∀ a, a < 64 → ∀ p, p < 6 → a ||| 2 ^ p < 64 := by decide +kernel
theorem n_clrb : ∀ a, a < 64 → ∀ p, p < 6 → a &&& (63 ^^^ 2 ^ p) < 64 := by decide +kernel
theorem sbit_lt {a p : Nat} {b : Bool} (ha : a < 64) (hp : p < 6) : sbit a p b < 64 := by
  unfold sbit; split
  · exact n_setb a ha p hp
  · exact n_clrb a ha p hp
theorem sbit_bit : ∀ a, a < 64 → ∀ p, p < 6 → ∀ i, i < 6 → ∀ b : Bool, (sbit a p b).testBit i = if i = p then b else a.testBit i := by decide +kernel
theorem eq64 : ∀ a, a < 64 → ∀ b, b < 64 → (∀ i, i < 6 → a.testBit i = b.testBit i) → a = b := by
  intro a ha b hb h
  apply Nat.eq_of_testBit_eq
  intro i
  rcases Nat.lt_or_ge i 6 with z | z
  · exact h i z
  · have h64 : 64 ≤ 2 ^ i := Nat.le_trans (by decide : 64 ≤ 2 ^ 6) (Nat.pow_le_pow_right (by decide) z)
    rw [Nat.testBit_lt_two_pow (Nat.lt_of_lt_of_le ha h64), Nat.testBit_lt_two_pow (Nat.lt_of_lt_of_le hb h64)]
theorem sX1_judge {a : Nat → Nat} (h : AR κ G) (hw : WF G) (hF : 5000 < F) (hp : p < Gn G) (ha : ∀ x, x < ncol G → mi κ 50 x = nI (a x) ∧ a x < 64) : pX1_judge F κ (nI p) = some (setIA κ 50 (wr (κ.1 50) 0 (ncol G) (fun x => nI (sbit (a x) p (isR G p x))))) := by
  have hp6 := hw_lt hw hp
  have hc := ncol_le hw
  unfold pX1_judge
  simp (disch := omega) only [n_0, n_1, n_2, n_3, n_4, n_5, n_6, n_7, n_8, n_9, n_10, n_12, n_13, n_14, n_20, n_31, n_32, n_63, n_64, n_600, n_1024, n_4096, n_6157, n_add, n_mul, nm_def, Option.bind_some, Option.some.injEq, ck_in, ck_nz, ck_p, n_cl, n_lt, n_le, n_eq, n_div, n_rem, if_pos, if_neg, if_true, if_false, eq_self, n_192, n_256, n_20000, m1_n0, m1_np, m1_n0p, m1_lt0, m1_lt0p, mi_setIA, mi_setI, ml_setIA, ml_setI, mr_setI, mr_setIA, n_shl1, Nat.mul_one]
  refine lp_upE F (fun fu i => pX1_judge_14 F (nI p) (nI (2 ^ p)) (44 + p) fu (setIA κ 50 (wr (κ.1 50) 0 i (fun x => nI (sbit (a x) p (isR G p x))))) (nI i)) (0) (ncol G) _ _ ?_ (fun fu => ?_) (fun fu i hi1 hi2 => ?_) (by omega) (by omega)
  · rw [setIA_wr0]
  · show pX1_judge_14 F (nI p) (nI (2 ^ p)) (44 + p) (fu + 1) (setIA κ 50 (wr (κ.1 50) 0 (ncol G) (fun x => nI (sbit (a x) p (isR G p x))))) (nI (ncol G)) = _
    rw [pX1_judge_14]
    simp (disch := omega) only [n_0, n_1, n_2, n_3, n_4, n_5, n_6, n_7, n_8, n_9, n_10, n_12, n_13, n_14, n_20, n_31, n_32, n_63, n_64, n_600, n_1024, n_4096, n_6157, n_add, n_mul, nm_def, Option.bind_some, Option.some.injEq, ck_in, ck_nz, ck_p, n_cl, n_lt, n_le, n_eq, n_div, n_rem, if_pos, if_neg, if_true, if_false, eq_self, n_192, n_256, n_20000, m1_n0, m1_np, m1_n0p, m1_lt0, m1_lt0p, mi_setIA, mi_setI, ml_setIA, ml_setI, mr_setI, mr_setIA, h.c]
  · show pX1_judge_14 F (nI p) (nI (2 ^ p)) (44 + p) (fu + 1) (setIA κ 50 (wr (κ.1 50) 0 i (fun x => nI (sbit (a x) p (isR G p x))))) (nI i) = pX1_judge_14 F (nI p) (nI (2 ^ p)) (44 + p) fu (setIA κ 50 (wr (κ.1 50) 0 (i + 1) (fun x => nI (sbit (a x) p (isR G p x))))) (nI (i + 1))
    have hs := sOf_lt (p := p) (x := i) hw
    have hs2 := sit_le hw hp
    have e4 : AR (setIA κ 50 (wr (κ.1 50) 0 i (fun x => nI (sbit (a x) p (isR G p x))))) G := ⟨XG_setIA h.1 (by omega), by rw [mi_setIA, if_neg (by omega)]; exact h.c, fun p hp => by rw [mi_setIA, if_neg (by omega)]; exact h.pl hp, fun p hp x hx => by have := hw_lt hw hp; rw [mi_setIA, if_neg (by omega)]; exact h.si hp hx⟩
    have e5 : wr (κ.1 50) 0 i (fun x => nI (sbit (a x) p (isR G p x))) i = nI (a i) := by rw [wr_out (by omega)]; exact (ha i hi2).1
    have hal := (ha i hi2).2
    have htl := tol_lt κ 1 p (sOf G p i)
    have hcl := col_lt (x := i) hw hp
    have h4 := hw.h4 hp
    have e6 : tol κ 1 p (sOf G p i) = Gt G p (sOf G p i) := h.1.t hp hs
    rw [pX1_judge_14]
    simp (disch := omega) only [n_0, n_1, n_2, n_3, n_4, n_5, n_6, n_7, n_8, n_9, n_10, n_12, n_13, n_14, n_20, n_31, n_32, n_63, n_64, n_600, n_1024, n_4096, n_6157, n_add, n_mul, nm_def, Option.bind_some, Option.some.injEq, ck_in, ck_nz, ck_p, n_cl, n_lt, n_le, n_eq, n_div, n_rem, if_pos, if_neg, if_true, if_false, eq_self, n_192, n_256, n_20000, m1_n0, m1_np, m1_n0p, m1_lt0, m1_lt0p, mi_setIA, mi_setI, ml_setIA, ml_setI, mr_setI, mr_setIA, h.c, h.si hp hi2, sX2_told _ 1 hp6, tol_setIA, sX1_colourOf e4 hw hp]
    unfold pX1_judge_50 pX1_judge_86
    by_cases c : tol κ 1 p (sOf G p i) = col G p i
    · have e7 : isR G p i = true := by unfold isR; rw [← e6]; simp [c]
      simp (disch := omega) only [n_0, n_1, n_2, n_3, n_4, n_5, n_6, n_7, n_8, n_9, n_10, n_12, n_13, n_14, n_20, n_31, n_32, n_63, n_64, n_600, n_1024, n_4096, n_6157, n_add, n_mul, nm_def, Option.bind_some, Option.some.injEq, ck_in, ck_nz, ck_p, n_cl, n_lt, n_le, n_eq, n_div, n_rem, if_pos, if_neg, if_true, if_false, eq_self, n_192, n_256, n_20000, m1_n0, m1_np, m1_n0p, m1_lt0, m1_lt0p, mi_setIA, mi_setI, ml_setIA, ml_setI, mr_setI, mr_setIA, c, e5, n_or]
      rw [setI_wr_up (Nat.zero_le _) (by rw [e7]; rfl)]
    · have e7 : isR G p i = false := by unfold isR; rw [← e6]; simp [c]
      simp (disch := omega) only [n_0, n_1, n_2, n_3, n_4, n_5, n_6, n_7, n_8, n_9, n_10, n_12, n_13, n_14, n_20, n_31, n_32, n_63, n_64, n_600, n_1024, n_4096, n_6157, n_add, n_mul, nm_def, Option.bind_some, Option.some.injEq, ck_in, ck_nz, ck_p, n_cl, n_lt, n_le, n_eq, n_div, n_rem, if_pos, if_neg, if_true, if_false, eq_self, n_192, n_256, n_20000, m1_n0, m1_np, m1_n0p, m1_lt0, m1_lt0p, mi_setIA, mi_setI, ml_setIA, ml_setI, mr_setI, mr_setIA, c, e5]
      rw [n_clr _ hal p hp6, setI_wr_up (Nat.zero_le _) (by rw [e7]; rfl)]
end X1
