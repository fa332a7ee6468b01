/-! COLOURINGS OF THE CLASS: what is asked of them -/
/-- the first of some; as many as there are, if there is none -/
def fnd (P : Nat → Bool) : Nat → Nat
  | 0 => 0
  | n + 1 => if fnd P n < n then fnd P n else if P n then n else n + 1
theorem fnd_no {P : Nat → Bool} : ∀ {n : Nat}, (∀ j, j < n → P j = false) → fnd P n = n
  | 0, _ => rfl
  | n + 1, h => by
    rw [fnd, fnd_no (fun j hj => h j (by omega)), if_neg (by omega), h n (by omega)]
    rfl
theorem fnd_eq {P : Nat → Bool} {i : Nat} (hi : P i = true) (hn : ∀ j, j < i → P j = false) : ∀ {n : Nat}, i < n → fnd P n = i := by
  intro n
  induction n with
  | zero => intro h; omega
  | succ n ih =>
    intro h
    rw [fnd]
    rcases Nat.lt_or_ge i n with z | z
    · rw [ih z, if_pos z]
    · have : i = n := by omega
      subst this
      rw [fnd_no hn, if_neg (by omega), if_pos hi]
theorem lp_fst {β : Type} (fu0 : Nat) (f : Nat → Nat → β) (P : Nat → Bool) (n : Nat) (res : Nat → β) (no x : β) (hx : x = f fu0 0) (he : ∀ fu, f (fu + 1) n = no) (hs : ∀ fu i, i < n → f (fu + 1) i = if P i then res i else f fu (i + 1)) (hf : n < fu0) : x = if fnd P n < n then res (fnd P n) else no := by
  rw [hx]
  have key : ∀ fu a, a ≤ n → n - a < fu → (∀ j, j < a → P j = false) → f fu a = if fnd P n < n then res (fnd P n) else no := by
    intro fu
    induction fu with
    | zero => intro a _ h; omega
    | succ fu ih =>
      intro a h1 h2 h3
      rcases Nat.lt_or_ge a n with q | q
      · rw [hs fu a q]
        by_cases c : P a = true
        · rw [if_pos c, fnd_eq c h3 q, if_pos q]
        · rw [if_neg c]
          refine ih (a + 1) q (by omega) (fun j hj => ?_)
          rcases Nat.lt_or_ge j a with z | z
          · exact h3 j z
          · have : j = a := by omega
            subst this; simpa using c
      · have : a = n := by omega
        subst this
        rw [he fu, fnd_no h3, if_neg (by omega)]
  exact key fu0 0 (Nat.zero_le _) (by omega) (fun j hj => by omega)
def mx (f : Nat → Nat) : Nat → Nat
  | 0 => 0
  | n + 1 => if mx f n < f n then f n else mx f n
theorem mx_ge (f : Nat → Nat) : ∀ {n i : Nat}, i < n → f i ≤ mx f n
  | 0, _, h => by omega
  | n + 1, i, h => by
    rw [mx]
    rcases Nat.lt_succ_iff_lt_or_eq.mp h with z | z
    · have := mx_ge f z
      split <;> omega
    · subst z; split <;> omega
theorem mx_ex (f : Nat → Nat) : ∀ (n : Nat), mx f n = 0 ∨ ∃ i, i < n ∧ mx f n = f i
  | 0 => Or.inl rfl
  | n + 1 => by
    rw [mx]
    split
    · exact Or.inr ⟨n, Nat.lt_succ_self n, rfl⟩
    · rcases mx_ex f n with z | ⟨i, h1, h2⟩
      · exact Or.inl z
      · exact Or.inr ⟨i, by omega, h2⟩
theorem mx_le {f : Nat → Nat} {n m : Nat} (h : ∀ i, i < n → f i ≤ m) : mx f n ≤ m := by
  rcases mx_ex f n with z | ⟨i, h1, h2⟩
  · omega
  · rw [h2]; exact h i h1
/-- how many are in a set -/
def pc (w : Nat) : Nat := cnt (fun k => w.testBit k) 6
theorem pc_le (w : Nat) : pc w ≤ 6 := cnt_le _ 6
def mem0 : Mem := (fun _ _ => 0, fun _ _ => 0, fun _ _ => 0)
theorem bitCount0 : ∀ w, w < 64 → pJ6_bitCount_0f7a4 mem0 (nI w) = some (nI (pc w)) := by decide +kernel
theorem sJ_bitCount {w : Nat} (κ : Mem) (h : w < 64) : pJ6_bitCount_0f7a4 κ (nI w) = some (nI (pc w)) := bitCount0 w h
section X1q
variable {κ : Mem} {G : Gm} {F p q x : Nat}
theorem JD.r (h : JD κ G) (hx : x < ncol G) : mi κ 50 x = nI (rgt G x) := h.1 x hx
theorem JD.b (h : JD κ G) {w : Nat} (hw : w < 64) : mi κ 51 w = nI (cnt (fun x => decide (rgt G x = w)) (ncol G)) := h.2 w hw
theorem cnt_n (hw : WF G) (P : Nat → Bool) : cnt P (ncol G) ≤ 4096 := Nat.le_trans (cnt_le _ _) (ncol_le hw)
theorem sX1_situationOf (h : AR κ G) (hw : WF G) (hp : p < Gn G) (hx : x < ncol G) : pX1_situationOf κ (nI p) (nI x) = some (nI (sOf G p x)) := by
  have hp6 := hw_lt hw hp
  have hc := ncol_le hw
  unfold pX1_situationOf
  simp (disch := omega) only [n_0, n_1, n_2, n_3, n_4, n_5, n_6, n_7, n_8, n_9, n_10, n_12, n_13, n_14, n_20, n_31, n_32, n_63, n_64, n_600, n_1024, n_4096, n_6157, n_add, n_mul, nm_def, Option.bind_some, Option.some.injEq, ck_in, ck_nz, ck_p, n_cl, n_lt, n_le, n_eq, n_div, n_rem, if_pos, if_neg, if_true, if_false, eq_self, n_192, n_256, n_20000, m1_n0, m1_np, m1_n0p, m1_lt0, m1_lt0p, mi_setIA, mi_setI, ml_setIA, ml_setI, mr_setI, mr_setIA, Nat.mul_one, h.si hp hx]
theorem sX1_oneSit (h : AR κ G) (hw : WF G) (hF : 10 < F) (hp : p < Gn G) : pX1_colouringsOfOneSituation F κ (nI p) = some (nI (ncol G / sit G p)) := by
  have hc := ncol_le hw
  have h1 := sit_le hw hp
  have h2 := sit_pos (p := p) hw
  unfold pX1_colouringsOfOneSituation
  rw [sX2_situations h.1 hw hF hp]
  simp (disch := omega) only [n_0, n_1, n_2, n_3, n_4, n_5, n_6, n_7, n_8, n_9, n_10, n_12, n_13, n_14, n_20, n_31, n_32, n_63, n_64, n_600, n_1024, n_4096, n_6157, n_add, n_mul, nm_def, Option.bind_some, Option.some.injEq, ck_in, ck_nz, ck_p, n_cl, n_lt, n_le, n_eq, n_div, n_rem, if_pos, if_neg, if_true, if_false, eq_self, n_192, n_256, n_20000, m1_n0, m1_np, m1_n0p, m1_lt0, m1_lt0p, mi_setIA, mi_setI, ml_setIA, ml_setI, mr_setI, mr_setIA, h.c]
def lst (G : Gm) : Nat := cnt (fun x => decide (rgt G x = 0)) (ncol G)
theorem sX1_lostInAll (hj : JD κ G) : pX1_lostInAll κ = some (nI (lst G)) := by
  unfold pX1_lostInAll
  simp (disch := omega) only [n_0, n_1, n_2, n_3, n_4, n_5, n_6, n_7, n_8, n_9, n_10, n_12, n_13, n_14, n_20, n_31, n_32, n_63, n_64, n_600, n_1024, n_4096, n_6157, n_add, n_mul, nm_def, Option.bind_some, Option.some.injEq, ck_in, ck_nz, ck_p, n_cl, n_lt, n_le, n_eq, n_div, n_rem, if_pos, if_neg, if_true, if_false, eq_self, n_192, n_256, n_20000, m1_n0, m1_np, m1_n0p, m1_lt0, m1_lt0p, mi_setIA, mi_setI, ml_setIA, ml_setI, mr_setI, mr_setIA, hj.b]
  rfl
def lstK (G : Gm) (k x : Nat) : Bool := decide (rgt G x = 0) && decide (cnt (fun x => decide (rgt G x = 0)) x = k)
theorem sX1_lostAt {k : Nat} (h : AR κ G) (hj : JD κ G) (hw : WF G) (hF : 5000 < F) (hk : k < 2147483648) : pX1_lostAt F κ (nI k) = if fnd (lstK G k) (ncol G) < ncol G then some (nI (fnd (lstK G k) (ncol G))) else some (predI 0) := by
  have hc := ncol_le hw
  unfold pX1_lostAt
  refine lp_fst F (fun fu i => pX1_lostAt_4 F κ (nI k) fu (nI (cnt (fun x => decide (rgt G x = 0)) i)) (nI i)) (lstK G k) (ncol G) (fun i => some (nI i)) _ _ rfl (fun fu => ?_) (fun fu i hi => ?_) (by omega)
  · show pX1_lostAt_4 F κ (nI k) (fu + 1) _ (nI (ncol G)) = _
    rw [pX1_lostAt_4]
    simp (disch := omega) only [n_0, n_1, n_2, n_3, n_4, n_5, n_6, n_7, n_8, n_9, n_10, n_12, n_13, n_14, n_20, n_31, n_32, n_63, n_64, n_600, n_1024, n_4096, n_6157, n_add, n_mul, nm_def, Option.bind_some, Option.some.injEq, ck_in, ck_nz, ck_p, n_cl, n_lt, n_le, n_eq, n_div, n_rem, if_pos, if_neg, if_true, if_false, eq_self, n_192, n_256, n_20000, m1_n0, m1_np, m1_n0p, m1_lt0, m1_lt0p, mi_setIA, mi_setI, ml_setIA, ml_setI, mr_setI, mr_setIA, h.c]
  · show pX1_lostAt_4 F κ (nI k) (fu + 1) _ (nI i) = if lstK G k i then _ else pX1_lostAt_4 F κ (nI k) fu (nI (cnt (fun x => decide (rgt G x = 0)) (i + 1))) (nI (i + 1))
    have h1 := hj.r hi
    have h2 := rgt_lt (x := i) hw
    have h3 := cnt_le (fun x => decide (rgt G x = 0)) i
    rw [pX1_lostAt_4]
    unfold lstK pX1_lostAt_31
    simp (disch := omega) only [n_0, n_1, n_2, n_3, n_4, n_5, n_6, n_7, n_8, n_9, n_10, n_12, n_13, n_14, n_20, n_31, n_32, n_63, n_64, n_600, n_1024, n_4096, n_6157, n_add, n_mul, nm_def, Option.bind_some, Option.some.injEq, ck_in, ck_nz, ck_p, n_cl, n_lt, n_le, n_eq, n_div, n_rem, if_pos, if_neg, if_true, if_false, eq_self, n_192, n_256, n_20000, m1_n0, m1_np, m1_n0p, m1_lt0, m1_lt0p, mi_setIA, mi_setI, ml_setIA, ml_setI, mr_setI, mr_setIA, h.c, h1]
    by_cases c : rgt G i = 0
    · by_cases c2 : cnt (fun x => decide (rgt G x = 0)) i = k
      · simp [c, c2]
      · simp [c, c2, cnt_s, n_1, n_add]
    · simp [c, cnt_s]
theorem sX1_withRight {m m2 : Nat} (hj : JD κ G) (hw : WF G) (hF : 100 < F) (hm : m < 64) (hm2 : m2 < 64) : pX1_withRight F κ (nI m) (nI m2) = some (nI (cnt (fun x => decide (m ≤ pc (rgt G x)) && decide (pc (rgt G x) ≤ m2)) (ncol G))) := by
  rw [← cnt_by (rgt G) (fun w => decide (m ≤ pc w) && decide (pc w ≤ m2)) 64 (ncol G) (fun x _ => rgt_lt hw)]
  unfold pX1_withRight
  refine lp_upE F (fun fu i => pX1_withRight_5 F κ (nI m) (nI m2) fu (nI (sm (fun w => if (decide (m ≤ pc w) && decide (pc w ≤ m2)) = true then cnt (fun x => decide (rgt G x = w)) (ncol G) else 0) i)) (nI i)) (0) (64) _ _ rfl (fun fu => ?_) (fun fu i hi1 hi2 => ?_) (by omega) (by omega)
  · show pX1_withRight_5 F κ (nI m) (nI m2) (fu + 1) (nI (sm (fun w => if (decide (m ≤ pc w) && decide (pc w ≤ m2)) = true then cnt (fun x => decide (rgt G x = w)) (ncol G) else 0) (64))) (nI (64)) = _
    rw [pX1_withRight_5]
    simp (disch := omega) only [n_0, n_1, n_2, n_3, n_4, n_5, n_6, n_7, n_8, n_9, n_10, n_12, n_13, n_14, n_20, n_31, n_32, n_63, n_64, n_600, n_1024, n_4096, n_6157, n_add, n_mul, nm_def, Option.bind_some, Option.some.injEq, ck_in, ck_nz, ck_p, n_cl, n_lt, n_le, n_eq, n_div, n_rem, if_pos, if_neg, if_true, if_false, eq_self, n_192, n_256, n_20000, m1_n0, m1_np, m1_n0p, m1_lt0, m1_lt0p, mi_setIA, mi_setI, ml_setIA, ml_setI, mr_setI, mr_setIA]
  · show pX1_withRight_5 F κ (nI m) (nI m2) (fu + 1) (nI (sm (fun w => if (decide (m ≤ pc w) && decide (pc w ≤ m2)) = true then cnt (fun x => decide (rgt G x = w)) (ncol G) else 0) i)) (nI i) = pX1_withRight_5 F κ (nI m) (nI m2) fu (nI (sm (fun w => if (decide (m ≤ pc w) && decide (pc w ≤ m2)) = true then cnt (fun x => decide (rgt G x = w)) (ncol G) else 0) (i + 1))) (nI (i + 1))
    have hpc := pc_le i
    rw [pX1_withRight_5, sJ_bitCount κ hi2]
    unfold pX1_withRight_44
    simp (disch := omega) only [n_0, n_1, n_2, n_3, n_4, n_5, n_6, n_7, n_8, n_9, n_10, n_12, n_13, n_14, n_20, n_31, n_32, n_63, n_64, n_600, n_1024, n_4096, n_6157, n_add, n_mul, nm_def, Option.bind_some, Option.some.injEq, ck_in, ck_nz, ck_p, n_cl, n_lt, n_le, n_eq, n_div, n_rem, if_pos, if_neg, if_true, if_false, eq_self, n_192, n_256, n_20000, m1_n0, m1_np, m1_n0p, m1_lt0, m1_lt0p, mi_setIA, mi_setI, ml_setIA, ml_setI, mr_setI, mr_setIA, hj.b hi2, sm]
    by_cases c : pc i < m
    · have c2 : ¬ m ≤ pc i := by omega
      simp [c, c2]
    · have c2 : m ≤ pc i := by omega
      by_cases c3 : pc i ≤ m2
      · simp [c, c2, c3]
      · simp [c, c2, c3]
theorem sX1_allRightOf {u : Nat} (hj : JD κ G) (hw : WF G) (hF : 100 < F) (hu : u < 2147483648) : pX1_allRightOf F κ (nI u) = some (nI (cnt (fun x => decide (rgt G x &&& u = u)) (ncol G))) := by
  rw [← cnt_by (rgt G) (fun w => decide (w &&& u = u)) 64 (ncol G) (fun x _ => rgt_lt hw)]
  unfold pX1_allRightOf
  refine lp_upE F (fun fu i => pX1_allRightOf_4 F κ (nI u) fu (nI (sm (fun w => if (decide (w &&& u = u)) = true then cnt (fun x => decide (rgt G x = w)) (ncol G) else 0) i)) (nI i)) (0) (64) _ _ rfl (fun fu => ?_) (fun fu i hi1 hi2 => ?_) (by omega) (by omega)
  · show pX1_allRightOf_4 F κ (nI u) (fu + 1) (nI (sm (fun w => if (decide (w &&& u = u)) = true then cnt (fun x => decide (rgt G x = w)) (ncol G) else 0) (64))) (nI (64)) = _
    rw [pX1_allRightOf_4]
    simp (disch := omega) only [n_0, n_1, n_2, n_3, n_4, n_5, n_6, n_7, n_8, n_9, n_10, n_12, n_13, n_14, n_20, n_31, n_32, n_63, n_64, n_600, n_1024, n_4096, n_6157, n_add, n_mul, nm_def, Option.bind_some, Option.some.injEq, ck_in, ck_nz, ck_p, n_cl, n_lt, n_le, n_eq, n_div, n_rem, if_pos, if_neg, if_true, if_false, eq_self, n_192, n_256, n_20000, m1_n0, m1_np, m1_n0p, m1_lt0, m1_lt0p, mi_setIA, mi_setI, ml_setIA, ml_setI, mr_setI, mr_setIA]
  · show pX1_allRightOf_4 F κ (nI u) (fu + 1) (nI (sm (fun w => if (decide (w &&& u = u)) = true then cnt (fun x => decide (rgt G x = w)) (ncol G) else 0) i)) (nI i) = pX1_allRightOf_4 F κ (nI u) fu (nI (sm (fun w => if (decide (w &&& u = u)) = true then cnt (fun x => decide (rgt G x = w)) (ncol G) else 0) (i + 1))) (nI (i + 1))
    have hb : i &&& u ≤ u := Nat.and_le_right
    rw [pX1_allRightOf_4]
    unfold pX1_allRightOf_29
    simp (disch := omega) only [n_0, n_1, n_2, n_3, n_4, n_5, n_6, n_7, n_8, n_9, n_10, n_12, n_13, n_14, n_20, n_31, n_32, n_63, n_64, n_600, n_1024, n_4096, n_6157, n_add, n_mul, nm_def, Option.bind_some, Option.some.injEq, ck_in, ck_nz, ck_p, n_cl, n_lt, n_le, n_eq, n_div, n_rem, if_pos, if_neg, if_true, if_false, eq_self, n_192, n_256, n_20000, m1_n0, m1_np, m1_n0p, m1_lt0, m1_lt0p, mi_setIA, mi_setI, ml_setIA, ml_setI, mr_setI, mr_setIA, hj.b hi2, sm, n_and]
    by_cases c : i &&& u = u
    · simp [c]
    · simp [c]
theorem sX1_noneRightOf {u : Nat} (hj : JD κ G) (hw : WF G) (hF : 100 < F) (hu : u < 2147483648) : pX1_noneRightOf F κ (nI u) = some (nI (cnt (fun x => decide (rgt G x &&& u = 0)) (ncol G))) := by
  rw [← cnt_by (rgt G) (fun w => decide (w &&& u = 0)) 64 (ncol G) (fun x _ => rgt_lt hw)]
  unfold pX1_noneRightOf
  refine lp_upE F (fun fu i => pX1_noneRightOf_4 F κ (nI u) fu (nI (sm (fun w => if (decide (w &&& u = 0)) = true then cnt (fun x => decide (rgt G x = w)) (ncol G) else 0) i)) (nI i)) (0) (64) _ _ rfl (fun fu => ?_) (fun fu i hi1 hi2 => ?_) (by omega) (by omega)
  · show pX1_noneRightOf_4 F κ (nI u) (fu + 1) (nI (sm (fun w => if (decide (w &&& u = 0)) = true then cnt (fun x => decide (rgt G x = w)) (ncol G) else 0) (64))) (nI (64)) = _
    rw [pX1_noneRightOf_4]
    simp (disch := omega) only [n_0, n_1, n_2, n_3, n_4, n_5, n_6, n_7, n_8, n_9, n_10, n_12, n_13, n_14, n_20, n_31, n_32, n_63, n_64, n_600, n_1024, n_4096, n_6157, n_add, n_mul, nm_def, Option.bind_some, Option.some.injEq, ck_in, ck_nz, ck_p, n_cl, n_lt, n_le, n_eq, n_div, n_rem, if_pos, if_neg, if_true, if_false, eq_self, n_192, n_256, n_20000, m1_n0, m1_np, m1_n0p, m1_lt0, m1_lt0p, mi_setIA, mi_setI, ml_setIA, ml_setI, mr_setI, mr_setIA]
  · show pX1_noneRightOf_4 F κ (nI u) (fu + 1) (nI (sm (fun w => if (decide (w &&& u = 0)) = true then cnt (fun x => decide (rgt G x = w)) (ncol G) else 0) i)) (nI i) = pX1_noneRightOf_4 F κ (nI u) fu (nI (sm (fun w => if (decide (w &&& u = 0)) = true then cnt (fun x => decide (rgt G x = w)) (ncol G) else 0) (i + 1))) (nI (i + 1))
    have hb : i &&& u ≤ u := Nat.and_le_right
    rw [pX1_noneRightOf_4]
    unfold pX1_noneRightOf_28
    simp (disch := omega) only [n_0, n_1, n_2, n_3, n_4, n_5, n_6, n_7, n_8, n_9, n_10, n_12, n_13, n_14, n_20, n_31, n_32, n_63, n_64, n_600, n_1024, n_4096, n_6157, n_add, n_mul, nm_def, Option.bind_some, Option.some.injEq, ck_in, ck_nz, ck_p, n_cl, n_lt, n_le, n_eq, n_div, n_rem, if_pos, if_neg, if_true, if_false, eq_self, n_192, n_256, n_20000, m1_n0, m1_np, m1_n0p, m1_lt0, m1_lt0p, mi_setIA, mi_setI, ml_setIA, ml_setI, mr_setI, mr_setIA, hj.b hi2, sm, n_and]
    by_cases c : i &&& u = 0
    · simp [c]
    · simp [c]
def mostR (G : Gm) : Nat := mx (fun x => pc (rgt G x)) (ncol G)
theorem sX1_mostRight (hj : JD κ G) (hw : WF G) (hF : 100 < F) : pX1_mostRight F κ = some (nI (mostR G)) := by
  have e : mostR G = mx (fun w => if 0 < cnt (fun x => decide (rgt G x = w)) (ncol G) then pc w else 0) 64 := by
    apply Nat.le_antisymm
    · refine mx_le (fun x hx => ?_)
      have h1 := mx_ge (fun w => if 0 < cnt (fun x => decide (rgt G x = w)) (ncol G) then pc w else 0) (rgt_lt (x := x) hw)
      have h2 : 0 < cnt (fun y => decide (rgt G y = rgt G x)) (ncol G) := cnt_pos hx (by simp)
      simp only [h2, if_true] at h1
      exact h1
    · refine mx_le (fun w hw => ?_)
      by_cases c : 0 < cnt (fun x => decide (rgt G x = w)) (ncol G)
      · rw [if_pos c]
        obtain ⟨x, h1, h2⟩ := cnt_ex c
        have h3 : rgt G x = w := by simpa using h2
        have h4 := mx_ge (fun x => pc (rgt G x)) h1
        unfold mostR
        simp only [h3] at h4
        exact h4
      · rw [if_neg c]; exact Nat.zero_le _
  rw [e]
  unfold pX1_mostRight
  refine lp_upE F (fun fu i => pX1_mostRight_4 F κ fu (nI (mx (fun w => if 0 < cnt (fun x => decide (rgt G x = w)) (ncol G) then pc w else 0) i)) (nI i)) (0) (64) _ _ rfl (fun fu => ?_) (fun fu i hi1 hi2 => ?_) (by omega) (by omega)
  · show pX1_mostRight_4 F κ (fu + 1) (nI (mx (fun w => if 0 < cnt (fun x => decide (rgt G x = w)) (ncol G) then pc w else 0) (64))) (nI (64)) = _
    rw [pX1_mostRight_4]
    simp (disch := omega) only [n_0, n_1, n_2, n_3, n_4, n_5, n_6, n_7, n_8, n_9, n_10, n_12, n_13, n_14, n_20, n_31, n_32, n_63, n_64, n_600, n_1024, n_4096, n_6157, n_add, n_mul, nm_def, Option.bind_some, Option.some.injEq, ck_in, ck_nz, ck_p, n_cl, n_lt, n_le, n_eq, n_div, n_rem, if_pos, if_neg, if_true, if_false, eq_self, n_192, n_256, n_20000, m1_n0, m1_np, m1_n0p, m1_lt0, m1_lt0p, mi_setIA, mi_setI, ml_setIA, ml_setI, mr_setI, mr_setIA]
  · show pX1_mostRight_4 F κ (fu + 1) (nI (mx (fun w => if 0 < cnt (fun x => decide (rgt G x = w)) (ncol G) then pc w else 0) i)) (nI i) = pX1_mostRight_4 F κ fu (nI (mx (fun w => if 0 < cnt (fun x => decide (rgt G x = w)) (ncol G) then pc w else 0) (i + 1))) (nI (i + 1))
    have hpc := pc_le i
    have hc := cnt_n hw (fun x => decide (rgt G x = i))
    have hm : mx (fun w => if 0 < cnt (fun x => decide (rgt G x = w)) (ncol G) then pc w else 0) i ≤ 6 := mx_le (fun w _ => by split; exact pc_le w; omega)
    rw [pX1_mostRight_4, sJ_bitCount κ hi2]
    unfold pX1_mostRight_31
    simp (disch := omega) only [n_0, n_1, n_2, n_3, n_4, n_5, n_6, n_7, n_8, n_9, n_10, n_12, n_13, n_14, n_20, n_31, n_32, n_63, n_64, n_600, n_1024, n_4096, n_6157, n_add, n_mul, nm_def, Option.bind_some, Option.some.injEq, ck_in, ck_nz, ck_p, n_cl, n_lt, n_le, n_eq, n_div, n_rem, if_pos, if_neg, if_true, if_false, eq_self, n_192, n_256, n_20000, m1_n0, m1_np, m1_n0p, m1_lt0, m1_lt0p, mi_setIA, mi_setI, ml_setIA, ml_setI, mr_setI, mr_setIA, hj.b hi2, mx]
    by_cases c : 0 < cnt (fun x => decide (rgt G x = i)) (ncol G)
    · have c2 : ¬ cnt (fun x => decide (rgt G x = i)) (ncol G) ≤ 0 := by omega
      by_cases c3 : mx (fun w => if 0 < cnt (fun x => decide (rgt G x = w)) (ncol G) then pc w else 0) i < pc i
      · simp only [c, c2, c3, if_true, if_false]
      · simp only [c, c2, c3, if_true, if_false]
    · have c2 : cnt (fun x => decide (rgt G x = i)) (ncol G) ≤ 0 := by omega
      simp only [c, c2, if_true, if_false, Nat.not_lt_zero]
theorem sX1_firstWithRight {m : Nat} (h : AR κ G) (hj : JD κ G) (hw : WF G) (hF : 5000 < F) (hm : m < 64) : pX1_firstWithRight F κ (nI m) = if fnd (fun x => decide (pc (rgt G x) = m)) (ncol G) < ncol G then some (nI (fnd (fun x => decide (pc (rgt G x) = m)) (ncol G))) else some (predI 0) := by
  have hc := ncol_le hw
  unfold pX1_firstWithRight
  refine lp_fst F (fun fu i => pX1_firstWithRight_2 F κ (nI m) fu (nI i)) (fun x => decide (pc (rgt G x) = m)) (ncol G) (fun i => some (nI i)) _ _ rfl (fun fu => ?_) (fun fu i hi => ?_) (by omega)
  · show pX1_firstWithRight_2 F κ (nI m) (fu + 1) (nI (ncol G)) = _
    rw [pX1_firstWithRight_2]
    simp (disch := omega) only [n_0, n_1, n_2, n_3, n_4, n_5, n_6, n_7, n_8, n_9, n_10, n_12, n_13, n_14, n_20, n_31, n_32, n_63, n_64, n_600, n_1024, n_4096, n_6157, n_add, n_mul, nm_def, Option.bind_some, Option.some.injEq, ck_in, ck_nz, ck_p, n_cl, n_lt, n_le, n_eq, n_div, n_rem, if_pos, if_neg, if_true, if_false, eq_self, n_192, n_256, n_20000, m1_n0, m1_np, m1_n0p, m1_lt0, m1_lt0p, mi_setIA, mi_setI, ml_setIA, ml_setI, mr_setI, mr_setIA, h.c]
  · show pX1_firstWithRight_2 F κ (nI m) (fu + 1) (nI i) = if decide (pc (rgt G i) = m) then some (nI i) else pX1_firstWithRight_2 F κ (nI m) fu (nI (i + 1))
    have h1 := hj.r hi
    have hpc := pc_le (rgt G i)
    rw [pX1_firstWithRight_2]
    simp (disch := omega) only [n_0, n_1, n_2, n_3, n_4, n_5, n_6, n_7, n_8, n_9, n_10, n_12, n_13, n_14, n_20, n_31, n_32, n_63, n_64, n_600, n_1024, n_4096, n_6157, n_add, n_mul, nm_def, Option.bind_some, Option.some.injEq, ck_in, ck_nz, ck_p, n_cl, n_lt, n_le, n_eq, n_div, n_rem, if_pos, if_neg, if_true, if_false, eq_self, n_192, n_256, n_20000, m1_n0, m1_np, m1_n0p, m1_lt0, m1_lt0p, mi_setIA, mi_setI, ml_setIA, ml_setI, mr_setI, mr_setIA, h.c, h1, sJ_bitCount κ (rgt_lt hw)]
    by_cases c : pc (rgt G i) = m
    · simp [c]
    · simp [c]
def secR (G : Gm) (x p : Nat) : Bool := decide ((Gt G p (sOf G p x) + 1) % Gh G p = col G p x)
theorem ex01 (P : Nat → Bool) (n : Nat) : (if fnd P n < n then some (nI 1) else some (nI 0) : Option Int32) = some (nI (exb P n).toNat) := by
  by_cases c : exb P n = true
  · obtain ⟨i, h1, h2⟩ := (exb_iff P n).mp c
    rw [c]
    have : fnd P n < n := by
      rcases Nat.lt_or_ge (fnd P n) n with z | z
      · exact z
      · exfalso
        have h3 : ∀ k, (∃ j, j < k ∧ P j = true) → fnd P k < k := by
          intro k
          induction k with
          | zero => rintro ⟨j, hj, _⟩; omega
          | succ k ih =>
            rintro ⟨j, hj, hP⟩
            rw [fnd]
            by_cases d : fnd P k < k
            · rw [if_pos d]; omega
            · rw [if_neg d]
              have : j = k := by
                rcases Nat.lt_or_ge j k with y | y
                · exact absurd (ih ⟨j, y, hP⟩) d
                · omega
              subst this
              rw [if_pos hP]; omega
        exact Nat.lt_irrefl _ (Nat.lt_of_lt_of_le (h3 n ⟨i, h1, h2⟩) z)
    rw [if_pos this]
    rfl
  · have c2 : exb P n = false := by simpa using c
    rw [c2, fnd_no (fun j hj => by
      by_cases d : P j = true
      · exact absurd ((exb_iff P n).mpr ⟨j, hj, d⟩) c
      · simpa using d), if_neg (by omega)]
    rfl
theorem sX1_secondIsRight (h : AR κ G) (hw : WF G) (hF : 5000 < F) (hx : x < ncol G) : pX1_secondIsRight F κ (nI x) = some (nI (exb (secR G x) (Gn G)).toNat) := by
  have hc := ncol_le hw
  have hn := hw.n6
  rw [← ex01]
  unfold pX1_secondIsRight
  refine lp_fst F (fun fu i => pX1_secondIsRight_2 F κ (nI x) fu (nI i)) (secR G x) (Gn G) (fun i => some (nI 1)) _ _ rfl (fun fu => ?_) (fun fu i hi => ?_) (by omega)
  · show pX1_secondIsRight_2 F κ (nI x) (fu + 1) (nI (Gn G)) = _
    rw [pX1_secondIsRight_2]
    simp (disch := omega) only [n_0, n_1, n_2, n_3, n_4, n_5, n_6, n_7, n_8, n_9, n_10, n_12, n_13, n_14, n_20, n_31, n_32, n_63, n_64, n_600, n_1024, n_4096, n_6157, n_add, n_mul, nm_def, Option.bind_some, Option.some.injEq, ck_in, ck_nz, ck_p, n_cl, n_lt, n_le, n_eq, n_div, n_rem, if_pos, if_neg, if_true, if_false, eq_self, n_192, n_256, n_20000, m1_n0, m1_np, m1_n0p, m1_lt0, m1_lt0p, mi_setIA, mi_setI, ml_setIA, ml_setI, mr_setI, mr_setIA, h.n]
  · show pX1_secondIsRight_2 F κ (nI x) (fu + 1) (nI i) = if secR G x i then some (nI 1) else pX1_secondIsRight_2 F κ (nI x) fu (nI (i + 1))
    have h1 := hw.h1 hi
    have h4 := hw.h4 hi
    have hs := sOf_lt (p := i) (x := x) hw
    have hs2 := sit_le hw hi
    have ht : tol κ 1 i (sOf G i x) = Gt G i (sOf G i x) := h.1.t hi hs
    have htl := hw.t hi hs
    have hcl := col_lt (x := x) hw hi
    have hml := Nat.mod_lt (Gt G i (sOf G i x) + 1) h1
    have hi6 := hw_lt hw hi
    rw [pX1_secondIsRight_2]
    unfold secR
    simp (disch := omega) only [n_0, n_1, n_2, n_3, n_4, n_5, n_6, n_7, n_8, n_9, n_10, n_12, n_13, n_14, n_20, n_31, n_32, n_63, n_64, n_600, n_1024, n_4096, n_6157, n_add, n_mul, nm_def, Option.bind_some, Option.some.injEq, ck_in, ck_nz, ck_p, n_cl, n_lt, n_le, n_eq, n_div, n_rem, if_pos, if_neg, if_true, if_false, eq_self, n_192, n_256, n_20000, m1_n0, m1_np, m1_n0p, m1_lt0, m1_lt0p, mi_setIA, mi_setI, ml_setIA, ml_setI, mr_setI, mr_setIA, h.n, Nat.mul_one, h.si hi hx, sX2_told κ 1 hi6, ht, h.h hi, sX1_colourOf h hw hi]
    by_cases c : (Gt G i (sOf G i x) + 1) % Gh G i = col G i x
    · simp [c]
    · simp [c]
theorem sX1_lostOfTwo (h : AR κ G) (hj : JD κ G) (hw : WF G) (hF : 5000 < F) : pX1_lostOfTwoGuesses F κ = some (nI (cnt (fun x => decide (rgt G x = 0) && !exb (secR G x) (Gn G)) (ncol G))) := by
  have hc := ncol_le hw
  unfold pX1_lostOfTwoGuesses
  refine lp_upE F (fun fu i => pX1_lostOfTwoGuesses_4 F κ fu (nI (cnt (fun x => decide (rgt G x = 0) && !exb (secR G x) (Gn G)) i)) (nI i)) (0) (ncol G) _ _ rfl (fun fu => ?_) (fun fu i hi1 hi2 => ?_) (by omega) (by omega)
  · show pX1_lostOfTwoGuesses_4 F κ (fu + 1) (nI (cnt (fun x => decide (rgt G x = 0) && !exb (secR G x) (Gn G)) (ncol G))) (nI (ncol G)) = _
    rw [pX1_lostOfTwoGuesses_4]
    simp (disch := omega) only [n_0, n_1, n_2, n_3, n_4, n_5, n_6, n_7, n_8, n_9, n_10, n_12, n_13, n_14, n_20, n_31, n_32, n_63, n_64, n_600, n_1024, n_4096, n_6157, n_add, n_mul, nm_def, Option.bind_some, Option.some.injEq, ck_in, ck_nz, ck_p, n_cl, n_lt, n_le, n_eq, n_div, n_rem, if_pos, if_neg, if_true, if_false, eq_self, n_192, n_256, n_20000, m1_n0, m1_np, m1_n0p, m1_lt0, m1_lt0p, mi_setIA, mi_setI, ml_setIA, ml_setI, mr_setI, mr_setIA, h.c]
  · show pX1_lostOfTwoGuesses_4 F κ (fu + 1) (nI (cnt (fun x => decide (rgt G x = 0) && !exb (secR G x) (Gn G)) i)) (nI i) = pX1_lostOfTwoGuesses_4 F κ fu (nI (cnt (fun x => decide (rgt G x = 0) && !exb (secR G x) (Gn G)) (i + 1))) (nI (i + 1))
    have h2 := rgt_lt (x := i) hw
    rw [pX1_lostOfTwoGuesses_4, sX1_secondIsRight h hw hF hi2]
    unfold pX1_lostOfTwoGuesses_32
    simp (disch := omega) only [n_0, n_1, n_2, n_3, n_4, n_5, n_6, n_7, n_8, n_9, n_10, n_12, n_13, n_14, n_20, n_31, n_32, n_63, n_64, n_600, n_1024, n_4096, n_6157, n_add, n_mul, nm_def, Option.bind_some, Option.some.injEq, ck_in, ck_nz, ck_p, n_cl, n_lt, n_le, n_eq, n_div, n_rem, if_pos, if_neg, if_true, if_false, eq_self, n_192, n_256, n_20000, m1_n0, m1_np, m1_n0p, m1_lt0, m1_lt0p, mi_setIA, mi_setI, ml_setIA, ml_setI, mr_setI, mr_setIA, h.c, hj.r hi2, cnt_s]
    by_cases c : rgt G i = 0
    · cases exb (secR G i) (Gn G) <;> simp [c, n_0, n_1, n_add, n_eq]
    · simp [c]
theorem sX1_lostWith {c0 : Nat} (h : AR κ G) (hj : JD κ G) (hw : WF G) (hF : 5000 < F) (hp : p < Gn G) (hc0 : c0 < 2147483648) : pX1_lostWith F κ (nI p) (nI c0) = some (nI (cnt (fun x => decide (rgt G x = 0) && decide (col G p x = c0)) (ncol G))) := by
  have hc := ncol_le hw
  unfold pX1_lostWith
  refine lp_upE F (fun fu i => pX1_lostWith_5 F κ (nI p) (nI c0) fu (nI (cnt (fun x => decide (rgt G x = 0) && decide (col G p x = c0)) i)) (nI i)) (0) (ncol G) _ _ rfl (fun fu => ?_) (fun fu i hi1 hi2 => ?_) (by omega) (by omega)
  · show pX1_lostWith_5 F κ (nI p) (nI c0) (fu + 1) (nI (cnt (fun x => decide (rgt G x = 0) && decide (col G p x = c0)) (ncol G))) (nI (ncol G)) = _
    rw [pX1_lostWith_5]
    simp (disch := omega) only [n_0, n_1, n_2, n_3, n_4, n_5, n_6, n_7, n_8, n_9, n_10, n_12, n_13, n_14, n_20, n_31, n_32, n_63, n_64, n_600, n_1024, n_4096, n_6157, n_add, n_mul, nm_def, Option.bind_some, Option.some.injEq, ck_in, ck_nz, ck_p, n_cl, n_lt, n_le, n_eq, n_div, n_rem, if_pos, if_neg, if_true, if_false, eq_self, n_192, n_256, n_20000, m1_n0, m1_np, m1_n0p, m1_lt0, m1_lt0p, mi_setIA, mi_setI, ml_setIA, ml_setI, mr_setI, mr_setIA, h.c]
  · show pX1_lostWith_5 F κ (nI p) (nI c0) (fu + 1) (nI (cnt (fun x => decide (rgt G x = 0) && decide (col G p x = c0)) i)) (nI i) = pX1_lostWith_5 F κ (nI p) (nI c0) fu (nI (cnt (fun x => decide (rgt G x = 0) && decide (col G p x = c0)) (i + 1))) (nI (i + 1))
    have h2 := rgt_lt (x := i) hw
    have h3 := col_lt (x := i) hw hp
    have h4 := hw.h4 hp
    rw [pX1_lostWith_5, sX1_colourOf h hw hp (by omega)]
    unfold pX1_lostWith_38
    simp (disch := omega) only [n_0, n_1, n_2, n_3, n_4, n_5, n_6, n_7, n_8, n_9, n_10, n_12, n_13, n_14, n_20, n_31, n_32, n_63, n_64, n_600, n_1024, n_4096, n_6157, n_add, n_mul, nm_def, Option.bind_some, Option.some.injEq, ck_in, ck_nz, ck_p, n_cl, n_lt, n_le, n_eq, n_div, n_rem, if_pos, if_neg, if_true, if_false, eq_self, n_192, n_256, n_20000, m1_n0, m1_np, m1_n0p, m1_lt0, m1_lt0p, mi_setIA, mi_setI, ml_setIA, ml_setI, mr_setI, mr_setIA, h.c, hj.r hi2, cnt_s]
    by_cases c : rgt G i = 0
    · by_cases c2 : col G p i = c0
      · simp [c, c2]
      · simp [c, c2]
    · simp [c]
def unl (G : Gm) (x y : Nat) : Nat := cnt (fun p => decide (col G p x ≠ col G p y)) (Gn G)
theorem sX1_unlike {y : Nat} (h : AR κ G) (hw : WF G) (hF : 5000 < F) (hx : x < 2147483648) (hy : y < 2147483648) : pX1_unlike F κ (nI x) (nI y) = some (nI (unl G x y)) := by
  have hn := hw.n6
  unfold pX1_unlike unl
  refine lp_upE F (fun fu i => pX1_unlike_5 F κ (nI x) (nI y) fu (nI (cnt (fun p => decide (col G p x ≠ col G p y)) i)) (nI i)) (0) (Gn G) _ _ rfl (fun fu => ?_) (fun fu i hi1 hi2 => ?_) (by omega) (by omega)
  · show pX1_unlike_5 F κ (nI x) (nI y) (fu + 1) (nI (cnt (fun p => decide (col G p x ≠ col G p y)) (Gn G))) (nI (Gn G)) = _
    rw [pX1_unlike_5]
    simp (disch := omega) only [n_0, n_1, n_2, n_3, n_4, n_5, n_6, n_7, n_8, n_9, n_10, n_12, n_13, n_14, n_20, n_31, n_32, n_63, n_64, n_600, n_1024, n_4096, n_6157, n_add, n_mul, nm_def, Option.bind_some, Option.some.injEq, ck_in, ck_nz, ck_p, n_cl, n_lt, n_le, n_eq, n_div, n_rem, if_pos, if_neg, if_true, if_false, eq_self, n_192, n_256, n_20000, m1_n0, m1_np, m1_n0p, m1_lt0, m1_lt0p, mi_setIA, mi_setI, ml_setIA, ml_setI, mr_setI, mr_setIA, h.n]
  · show pX1_unlike_5 F κ (nI x) (nI y) (fu + 1) (nI (cnt (fun p => decide (col G p x ≠ col G p y)) i)) (nI i) = pX1_unlike_5 F κ (nI x) (nI y) fu (nI (cnt (fun p => decide (col G p x ≠ col G p y)) (i + 1))) (nI (i + 1))
    have h3 := col_lt (x := x) hw hi2
    have h5 := col_lt (x := y) hw hi2
    have h4 := hw.h4 hi2
    rw [pX1_unlike_5, sX1_colourOf h hw hi2 hx, sX1_colourOf h hw hi2 hy]
    unfold pX1_unlike_37
    simp (disch := omega) only [n_0, n_1, n_2, n_3, n_4, n_5, n_6, n_7, n_8, n_9, n_10, n_12, n_13, n_14, n_20, n_31, n_32, n_63, n_64, n_600, n_1024, n_4096, n_6157, n_add, n_mul, nm_def, Option.bind_some, Option.some.injEq, ck_in, ck_nz, ck_p, n_cl, n_lt, n_le, n_eq, n_div, n_rem, if_pos, if_neg, if_true, if_false, eq_self, n_192, n_256, n_20000, m1_n0, m1_np, m1_n0p, m1_lt0, m1_lt0p, mi_setIA, mi_setI, ml_setIA, ml_setI, mr_setI, mr_setIA, h.n, cnt_s]
    by_cases c2 : col G i x = col G i y
    · simp [c2]
    · simp [c2]
/-- the nearest that is lost: how far it is, and one more than its number (0: none) -/
def nrL (G : Gm) (y : Nat) : Nat → Nat × Nat
  | 0 => (7, 0)
  | k + 1 => if rgt G k = 0 ∧ unl G y k < (nrL G y k).1 then (unl G y k, k + 1) else nrL G y k
theorem nrL_le (G : Gm) (y : Nat) : ∀ k, (nrL G y k).1 ≤ 7 ∧ (nrL G y k).2 ≤ k
  | 0 => ⟨Nat.le_refl _, Nat.le_refl _⟩
  | k + 1 => by
    have := nrL_le G y k
    rw [nrL]
    split
    · rename_i c; exact ⟨by show unl G y k ≤ 7; omega, Nat.le_refl _⟩
    · exact ⟨this.1, by omega⟩
theorem sX1_nearestLost {y : Nat} (h : AR κ G) (hj : JD κ G) (hw : WF G) (hF : 5000 < F) (hy : y < 2147483648) : pX1_nearestLost F κ (nI y) = some (predI (nrL G y (ncol G)).2) := by
  have hc := ncol_le hw
  unfold pX1_nearestLost
  refine lp_upE F (fun fu i => pX1_nearestLost_8 F κ (nI y) fu (predI (nrL G y i).2) (nI (nrL G y i).1) (nI i)) (0) (ncol G) _ _ rfl (fun fu => ?_) (fun fu i hi1 hi2 => ?_) (by omega) (by omega)
  · show pX1_nearestLost_8 F κ (nI y) (fu + 1) (predI (nrL G y (ncol G)).2) (nI (nrL G y (ncol G)).1) (nI (ncol G)) = _
    rw [pX1_nearestLost_8]
    simp (disch := omega) only [n_0, n_1, n_2, n_3, n_4, n_5, n_6, n_7, n_8, n_9, n_10, n_12, n_13, n_14, n_20, n_31, n_32, n_63, n_64, n_600, n_1024, n_4096, n_6157, n_add, n_mul, nm_def, Option.bind_some, Option.some.injEq, ck_in, ck_nz, ck_p, n_cl, n_lt, n_le, n_eq, n_div, n_rem, if_pos, if_neg, if_true, if_false, eq_self, n_192, n_256, n_20000, m1_n0, m1_np, m1_n0p, m1_lt0, m1_lt0p, mi_setIA, mi_setI, ml_setIA, ml_setI, mr_setI, mr_setIA, h.c]
  · show pX1_nearestLost_8 F κ (nI y) (fu + 1) (predI (nrL G y i).2) (nI (nrL G y i).1) (nI i) = pX1_nearestLost_8 F κ (nI y) fu (predI (nrL G y (i + 1)).2) (nI (nrL G y (i + 1)).1) (nI (i + 1))
    have h2 := rgt_lt (x := i) hw
    have h3 := nrL_le G y i
    have h4 : unl G y i ≤ 6 := Nat.le_trans (cnt_le _ _) hw.n6
    rw [pX1_nearestLost_8, sX1_unlike h hw hF hy (by omega)]
    unfold pX1_nearestLost_49
    simp (disch := omega) only [n_0, n_1, n_2, n_3, n_4, n_5, n_6, n_7, n_8, n_9, n_10, n_12, n_13, n_14, n_20, n_31, n_32, n_63, n_64, n_600, n_1024, n_4096, n_6157, n_add, n_mul, nm_def, Option.bind_some, Option.some.injEq, ck_in, ck_nz, ck_p, n_cl, n_lt, n_le, n_eq, n_div, n_rem, if_pos, if_neg, if_true, if_false, eq_self, n_192, n_256, n_20000, m1_n0, m1_np, m1_n0p, m1_lt0, m1_lt0p, mi_setIA, mi_setI, ml_setIA, ml_setI, mr_setI, mr_setIA, h.c, hj.r hi2, nrL]
    by_cases c : rgt G i = 0
    · by_cases c2 : unl G y i < (nrL G y i).1
      · simp [c, c2, predI_s]
      · simp [c, c2]
    · simp [c]
theorem sm_term (f : Nat → Nat) : ∀ {n i : Nat}, i < n → f i ≤ sm f n
  | 0, _, h => by omega
  | n + 1, i, h => by
    rw [sm]
    rcases Nat.lt_succ_iff_lt_or_eq.mp h with z | z
    · have := sm_term f z; omega
    · subst z; omega
def clr (a p : Nat) : Nat := a &&& (63 ^^^ 2 ^ p)
theorem n_clr2 {a p : Nat} (ha : a < 64) (hp : p < 6) : nI a &&& (nI (2 ^ p) ^^^ predI 0) = nI (clr a p) := n_clr a ha p hp
theorem clr_lt {a p : Nat} (ha : a < 64) (hp : p < 6) : clr a p < 64 := n_clrb a ha p hp
/-- a situation with another's colour hidden -/
def shn (G : Gm) (p q x : Nat) : Nat := sOf G p x - col G q x * wgt G p q
theorem shn_le (hw : WF G) (hp : p < Gn G) (hs : sees G p q = true) (x : Nat) : col G q x * wgt G p q ≤ sOf G p x := by
  have hq := hw.see_lt hp hs
  rw [← rowV_end hw hp x]
  exact sm_term (fun r => dig (Gh G) (Gn G) x r * wgt G p r) hq
def lstU (G : Gm) (p q x : Nat) : Bool := decide (clr (rgt G x) p = 0) && decide (Gt G p (shn G p q x) ≠ col G p x)
theorem sX1_lostUnseen (h : AR κ G) (hj : JD κ G) (hw : WF G) (hF : 5000 < F) (hp : p < Gn G) (hs : sees G p q = true) : pX1_lostUnseen F κ (nI p) (nI q) = some (nI (cnt (lstU G p q) (ncol G))) := by
  have hc := ncol_le hw
  have hp6 := hw_lt hw hp
  have hq := hw.see_lt hp hs
  unfold pX1_lostUnseen
  rw [sX2_weight h.1 hw (by omega) hp hq, Option.bind_some, show (nI (if sees G p q = true then wB G p (q + 1) else 0)) = nI (wgt G p q) from rfl]
  simp (disch := omega) only [n_0, n_1, n_2, n_3, n_4, n_5, n_6, n_7, n_8, n_9, n_10, n_12, n_13, n_14, n_20, n_31, n_32, n_63, n_64, n_600, n_1024, n_4096, n_6157, n_add, n_mul, nm_def, Option.bind_some, Option.some.injEq, ck_in, ck_nz, ck_p, n_cl, n_lt, n_le, n_eq, n_div, n_rem, if_pos, if_neg, if_true, if_false, eq_self, n_192, n_256, n_20000, m1_n0, m1_np, m1_n0p, m1_lt0, m1_lt0p, mi_setIA, mi_setI, ml_setIA, ml_setI, mr_setI, mr_setIA, n_shl1]
  refine lp_upE F (fun fu i => pX1_lostUnseen_23 F κ (nI p) (nI q) (nI (wgt G p q)) (nI (2 ^ p) ^^^ predI 0) fu (nI (cnt (lstU G p q) i)) (nI i)) (0) (ncol G) _ _ rfl (fun fu => ?_) (fun fu i hi1 hi2 => ?_) (by omega) (by omega)
  · show pX1_lostUnseen_23 F κ (nI p) (nI q) (nI (wgt G p q)) (nI (2 ^ p) ^^^ predI 0) (fu + 1) (nI (cnt (lstU G p q) (ncol G))) (nI (ncol G)) = _
    rw [pX1_lostUnseen_23]
    simp (disch := omega) only [n_0, n_1, n_2, n_3, n_4, n_5, n_6, n_7, n_8, n_9, n_10, n_12, n_13, n_14, n_20, n_31, n_32, n_63, n_64, n_600, n_1024, n_4096, n_6157, n_add, n_mul, nm_def, Option.bind_some, Option.some.injEq, ck_in, ck_nz, ck_p, n_cl, n_lt, n_le, n_eq, n_div, n_rem, if_pos, if_neg, if_true, if_false, eq_self, n_192, n_256, n_20000, m1_n0, m1_np, m1_n0p, m1_lt0, m1_lt0p, mi_setIA, mi_setI, ml_setIA, ml_setI, mr_setI, mr_setIA, h.c]
  · show pX1_lostUnseen_23 F κ (nI p) (nI q) (nI (wgt G p q)) (nI (2 ^ p) ^^^ predI 0) (fu + 1) (nI (cnt (lstU G p q) i)) (nI i) = pX1_lostUnseen_23 F κ (nI p) (nI q) (nI (wgt G p q)) (nI (2 ^ p) ^^^ predI 0) fu (nI (cnt (lstU G p q) (i + 1))) (nI (i + 1))
    have h2 := rgt_lt (x := i) hw
    have h3 := clr_lt h2 hp6
    have h4 := shn_le hw hp hs i
    have h5 := sOf_lt (p := p) (x := i) hw
    have h6 : shn G p q i < sit G p := by unfold shn; omega
    have h7 := sit_le hw hp
    have ht : tol κ 1 p (shn G p q i) = Gt G p (shn G p q i) := h.1.t hp h6
    have htl := hw.t hp h6
    have hcl := col_lt (x := i) hw hp
    have h8 := hw.h4 hp
    have e : sOf G p i - col G q i * wgt G p q = shn G p q i := rfl
    rw [pX1_lostUnseen_23, sX1_colourOf h hw hq (by omega), sX1_colourOf h hw hp (by omega)]
    unfold pX1_lostUnseen_89
    simp (disch := omega) only [n_0, n_1, n_2, n_3, n_4, n_5, n_6, n_7, n_8, n_9, n_10, n_12, n_13, n_14, n_20, n_31, n_32, n_63, n_64, n_600, n_1024, n_4096, n_6157, n_add, n_mul, nm_def, Option.bind_some, Option.some.injEq, ck_in, ck_nz, ck_p, n_cl, n_lt, n_le, n_eq, n_div, n_rem, if_pos, if_neg, if_true, if_false, eq_self, n_192, n_256, n_20000, m1_n0, m1_np, m1_n0p, m1_lt0, m1_lt0p, mi_setIA, mi_setI, ml_setIA, ml_setI, mr_setI, mr_setIA, h.c, hj.r hi2, n_clr2, Nat.mul_one, h.si hp hi2, n_sub, e, sX2_told κ 1 hp6, ht, cnt_s]
    unfold lstU
    by_cases c : clr (rgt G i) p = 0
    · by_cases c2 : Gt G p (shn G p q i) = col G p i
      · simp [c, c2]
      · simp [c, c2]
    · simp [c]
/-- without whom all of a set are lost no more than all: the fewest that are needed -/
def nrt (G : Gm) (u : Nat) : Nat := cnt (fun x => decide (rgt G x &&& u = 0)) (ncol G)
def fwN (G : Gm) (all : Nat) : Nat → Nat
  | 0 => all
  | i + 1 => if 1 ≤ i ∧ pc i < pc (fwN G all i) ∧ nrt G i ≤ lst G then i else fwN G all i
theorem fwN_le {all : Nat} : ∀ {i : Nat}, i ≤ all + 1 → fwN G all i ≤ all
  | 0, _ => Nat.le_refl _
  | i + 1, h => by
    rw [fwN]; split
    · omega
    · exact fwN_le (by omega)
theorem sX1_fewestNeeded (h : AR κ G) (hj : JD κ G) (hw : WF G) (hF : 5000 < F) (h0 : Gn G ≠ 0) : pX1_fewestNeeded F κ = some (nI (fwN G (2 ^ Gn G - 1) (2 ^ Gn G - 1))) := by
  have hn := hw.n6
  have h64 := pow_le_64 hn
  have h1 : 2 ^ 1 ≤ 2 ^ Gn G := Nat.pow_le_pow_right (by decide) (by omega)
  unfold pX1_fewestNeeded
  simp (disch := omega) only [n_0, n_1, n_2, n_3, n_4, n_5, n_6, n_7, n_8, n_9, n_10, n_12, n_13, n_14, n_20, n_31, n_32, n_63, n_64, n_600, n_1024, n_4096, n_6157, n_add, n_mul, nm_def, Option.bind_some, Option.some.injEq, ck_in, ck_nz, ck_p, n_cl, n_lt, n_le, n_eq, n_div, n_rem, if_pos, if_neg, if_true, if_false, eq_self, n_192, n_256, n_20000, m1_n0, m1_np, m1_n0p, m1_lt0, m1_lt0p, mi_setIA, mi_setI, ml_setIA, ml_setI, mr_setI, mr_setIA, h.n, n_shl1, n_sub]
  refine lp_upE F (fun fu i => pX1_fewestNeeded_16 F κ (nI (2 ^ Gn G - 1)) fu (nI (fwN G (2 ^ Gn G - 1) i)) (nI i)) (1) (2 ^ Gn G - 1) _ _ rfl (fun fu => ?_) (fun fu i hi1 hi2 => ?_) (by omega) (by omega)
  · show pX1_fewestNeeded_16 F κ (nI (2 ^ Gn G - 1)) (fu + 1) (nI (fwN G (2 ^ Gn G - 1) (2 ^ Gn G - 1))) (nI (2 ^ Gn G - 1)) = _
    rw [pX1_fewestNeeded_16]
    simp (disch := omega) only [n_0, n_1, n_2, n_3, n_4, n_5, n_6, n_7, n_8, n_9, n_10, n_12, n_13, n_14, n_20, n_31, n_32, n_63, n_64, n_600, n_1024, n_4096, n_6157, n_add, n_mul, nm_def, Option.bind_some, Option.some.injEq, ck_in, ck_nz, ck_p, n_cl, n_lt, n_le, n_eq, n_div, n_rem, if_pos, if_neg, if_true, if_false, eq_self, n_192, n_256, n_20000, m1_n0, m1_np, m1_n0p, m1_lt0, m1_lt0p, mi_setIA, mi_setI, ml_setIA, ml_setI, mr_setI, mr_setIA]
  · show pX1_fewestNeeded_16 F κ (nI (2 ^ Gn G - 1)) (fu + 1) (nI (fwN G (2 ^ Gn G - 1) i)) (nI i) = pX1_fewestNeeded_16 F κ (nI (2 ^ Gn G - 1)) fu (nI (fwN G (2 ^ Gn G - 1) (i + 1))) (nI (i + 1))
    have h2 := fwN_le (G := G) (all := 2 ^ Gn G - 1) (i := i) (by omega)
    have h3 := pc_le i
    have h4 := pc_le (fwN G (2 ^ Gn G - 1) i)
    have h5 := cnt_n hw (fun x => decide (rgt G x &&& i = 0))
    have h6 := cnt_n hw (fun x => decide (rgt G x = 0))
    have e1 : nrt G i = cnt (fun x => decide (rgt G x &&& i = 0)) (ncol G) := rfl
    have e2 : lst G = cnt (fun x => decide (rgt G x = 0)) (ncol G) := rfl
    rw [pX1_fewestNeeded_16, sJ_bitCount κ (by omega : i < 64), sJ_bitCount κ (by omega : fwN G (2 ^ Gn G - 1) i < 64)]
    unfold pX1_fewestNeeded_37
    unfold pX1_fewestNeeded_58
    rw [sX1_noneRightOf hj hw (by omega) (by omega), sX1_lostInAll hj]
    simp (disch := omega) only [n_0, n_1, n_2, n_3, n_4, n_5, n_6, n_7, n_8, n_9, n_10, n_12, n_13, n_14, n_20, n_31, n_32, n_63, n_64, n_600, n_1024, n_4096, n_6157, n_add, n_mul, nm_def, Option.bind_some, Option.some.injEq, ck_in, ck_nz, ck_p, n_cl, n_lt, n_le, n_eq, n_div, n_rem, if_pos, if_neg, if_true, if_false, eq_self, n_192, n_256, n_20000, m1_n0, m1_np, m1_n0p, m1_lt0, m1_lt0p, mi_setIA, mi_setI, ml_setIA, ml_setI, mr_setI, mr_setIA, e2, fwN, e1]
    by_cases c : pc i < pc (fwN G (2 ^ Gn G - 1) i)
    · by_cases c2 : cnt (fun x => decide (rgt G x &&& i = 0)) (ncol G) ≤ cnt (fun x => decide (rgt G x = 0)) (ncol G)
      · simp [c, c2, hi1]
      · simp [c, c2]
    · simp [c]
end X1q
