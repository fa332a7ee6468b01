/-! THE LAW'S WALK: rows -/
abbrev LCtx : Type := JCtx × ((Nat → Nat) × Nat × Nat × (Nat → Int32))
def qm (Γ : LCtx) : Nat → Nat := Γ.2.1
def qb (Γ : LCtx) : Nat := Γ.2.2.1
def qL (Γ : LCtx) : Nat := Γ.2.2.2.1
def qx (Γ : LCtx) : Nat → Int32 := Γ.2.2.2.2
def lX (Γ : LCtx) (ρ : Mem) : DCtx := ((gΔ Γ.1).1, (layX, 147, gad Γ.1, cwd layM 15 (dcA (gΔ Γ.1)) (qm Γ) ρ), (gΔ Γ.1).2.2)
def lM (Γ : LCtx) (κ : Mem) : DCtx := ((gΔ Γ.1).1, (layM, 15, qm Γ, cwd layX 147 (dcA (gΔ Γ.1)) (gad Γ.1) κ), (gΔ Γ.1).2.2)
def lH (Γ : LCtx) (κ ρ : Mem) (H : Heap) (locs : List Loc) : Prop := va_P (dD (gΔ Γ.1)) vwCl (dW (lX Γ ρ) κ) H ∧ va_S (dA (gΔ Γ.1)) (gs Γ.1).heap H locs
def lC (Γ : LCtx) : Prop :=
  (gp Γ.1).tables.exec = Jvm.exec ∧ (gc Γ.1).code = cL_law ∧ (gc Γ.1).maxLocals = 4 ∧ (gs Γ.1).vm.findClass RL = some (gm Γ.1).cls ∧ (∀ w ∈ wsL_law, w.before (gargs Γ.1) (gs Γ.1) = true) ∧ va_K (dD (gΔ Γ.1)) vwCl (tysL (dcA (gΔ Γ.1))) (gs Γ.1) ∧ (∀ κ ρ : Mem, va_D (dA (gΔ Γ.1)) (dW (lX Γ ρ) κ)) ∧ dB (gΔ Γ.1) = (gs Γ.1).heap.size ∧ (gmeth Γ.1).locks = false ∧ (gR Γ.1) = room_1 ∧ (gcells Γ.1 ≤ 600000 ∧ gslots Γ.1 ≤ 7302250) ∧ strF (dadK (gΔ Γ.1)) (dadV (gΔ Γ.1)) (dA (gΔ Γ.1)) (gs Γ.1) (gs Γ.1).heap ∧ strR (dadK (gΔ Γ.1)) (gs Γ.1) ∧ va_X (qb Γ) (qL Γ) (qx Γ) (gs Γ.1) (gs Γ.1).heap ∧ qb Γ < (gs Γ.1).heap.size ∧ qL Γ ≤ 3072 ∧ gargs Γ.1 = #[.ref (qb Γ)]
def LQ (Γ : LCtx) (κ ρ : Mem) (pc : Nat) (loc : List (Nat × Value)) (st : List Value) : Prop :=
  ∀ ls, lv_has ls (gc Γ.1).maxLocals loc → ∀ H locs, lH Γ κ ρ H locs → W (gp Γ.1) (gl Γ.1) (ge Γ.1) (gR Γ.1) (gs Γ.1) (gm Γ.1) (gargs Γ.1) (gbelow Γ.1) (gmeth Γ.1) (gc Γ.1) H locs (gcells Γ.1) (gslots Γ.1) (lw_Z (gbelow Γ.1) (gargs Γ.1) (gs Γ.1)) (F0 (gm Γ.1) pc ls st)
def lo (Γ : LCtx) (i : Nat) : List (Nat × Value) := [(3, .int (nI i)), (2, .ref (qm Γ 0)), (1, .ref (gad Γ.1 0)), (0, .ref (qb Γ))]
section LROWS
variable {Γ : LCtx} {κ ρ κ1 ρ1 : Mem} {pc i : Nat} {loc : List (Nat × Value)} {st rest : List Value}
theorem lC.x (h : lC Γ) : (gp Γ.1).tables.exec = Jvm.exec := h.1
theorem lC.b (h : lC Γ) : (gc Γ.1).code = cL_law := h.2.1
theorem lC.n4 (h : lC Γ) : (gc Γ.1).maxLocals = 4 := h.2.2.1
theorem lC.o (h : lC Γ) : (gs Γ.1).vm.findClass RL = some (gm Γ.1).cls := h.2.2.2.1
theorem lC.ts (h : lC Γ) : ∀ w ∈ wsL_law, w.before (gargs Γ.1) (gs Γ.1) = true := h.2.2.2.2.1
theorem lC.k (h : lC Γ) : va_K (dD (gΔ Γ.1)) vwCl (tysL (dcA (gΔ Γ.1))) (gs Γ.1) := h.2.2.2.2.2.1
theorem lC.d (h : lC Γ) : ∀ κ ρ : Mem, va_D (dA (gΔ Γ.1)) (dW (lX Γ ρ) κ) := h.2.2.2.2.2.2.1
theorem lC.sz (h : lC Γ) : dB (gΔ Γ.1) = (gs Γ.1).heap.size := h.2.2.2.2.2.2.2.1
theorem lC.lk (h : lC Γ) : (gmeth Γ.1).locks = false := h.2.2.2.2.2.2.2.2.1
theorem lC.R (h : lC Γ) : (gR Γ.1) = room_1 := h.2.2.2.2.2.2.2.2.2.1
theorem lC.cs (h : lC Γ) : gcells Γ.1 ≤ 600000 ∧ gslots Γ.1 ≤ 7302250 := h.2.2.2.2.2.2.2.2.2.2.1
theorem lC.sf (h : lC Γ) : strF (dadK (gΔ Γ.1)) (dadV (gΔ Γ.1)) (dA (gΔ Γ.1)) (gs Γ.1) (gs Γ.1).heap := h.2.2.2.2.2.2.2.2.2.2.2.1
theorem lC.sr (h : lC Γ) : strR (dadK (gΔ Γ.1)) (gs Γ.1) := h.2.2.2.2.2.2.2.2.2.2.2.2.1
theorem lC.X (h : lC Γ) : va_X (qb Γ) (qL Γ) (qx Γ) (gs Γ.1) (gs Γ.1).heap := h.2.2.2.2.2.2.2.2.2.2.2.2.2.1
theorem lC.bl (h : lC Γ) : qb Γ < (gs Γ.1).heap.size := h.2.2.2.2.2.2.2.2.2.2.2.2.2.2.1
theorem lC.L (h : lC Γ) : qL Γ ≤ 3072 := h.2.2.2.2.2.2.2.2.2.2.2.2.2.2.2.1
theorem lC.a (h : lC Γ) : gargs Γ.1 = #[.ref (qb Γ)] := h.2.2.2.2.2.2.2.2.2.2.2.2.2.2.2.2
theorem lC.bA (h : lC Γ) : ¬ dA (gΔ Γ.1) (qb Γ) := fun z => by
  have z : dB (gΔ Γ.1) ≤ qb Γ := z
  have := h.bl
  have := h.sz
  omega
theorem va_P_l {D : va_G} {cl : List vw_C} {a b : va_W} {H : Heap} (h : va_P D cl (a ++ b) H) : va_P D cl a H := fun k q hq => h k q (by rw [List.getElem?_append_left (List.getElem?_eq_some_iff.mp hq).1]; exact hq)
theorem va_P_r {D : va_G} {cl : List vw_C} {a b : va_W} {H : Heap} (h : va_P D cl (a ++ b) H) : va_P D cl b H := fun k q hq => h (a.length + k) q (by rw [List.getElem?_append_right (Nat.le_add_right _ _), Nat.add_sub_cancel_left]; exact hq)
theorem va_P_c {D : va_G} {cl : List vw_C} {a b : va_W} {H : Heap} (h : va_P D cl (a ++ b) H) : va_P D cl (b ++ a) H := (va_P_r h).app (va_P_l h)
theorem va_D_c {A : Nat → Prop} {a b : va_W} (h : va_D A (a ++ b)) : va_D A (b ++ a) := by
  have g : ∀ (k : Nat) (q : Nat × va_E), (b ++ a)[k]? = some q → (a ++ b)[if k < b.length then a.length + k else k - b.length]? = some q := fun k q hq => by
    by_cases hk : k < b.length
    · rw [List.getElem?_append_left hk] at hq
      rw [if_pos hk, List.getElem?_append_right (Nat.le_add_right _ _), Nat.add_sub_cancel_left]
      exact hq
    · rw [List.getElem?_append_right (Nat.not_lt.mp hk)] at hq
      rw [if_neg hk, List.getElem?_append_left (List.getElem?_eq_some_iff.mp hq).1]
      exact hq
  refine ⟨fun i j p q hi hj hpq => ?_, fun k q hq => h.2 _ q (g k q hq)⟩
  have e := h.1 _ _ p q (g i p hi) (g j q hj) hpq
  have li := (List.getElem?_eq_some_iff.mp hi).1
  have lj := (List.getElem?_eq_some_iff.mp hj).1
  rw [List.length_append] at li lj
  split at e <;> split at e <;> omega
theorem l_aload (hC : lC Γ) {k : Fin 4} {a x : Nat} (d : decode cL_law pc = .ok (.aload_n k, 1)) (q : Nat) (hq : loc[q]? = some (a, .ref x)) (hi : (k : Nat) = a) (kk : LQ Γ κ ρ (pc + 1) loc (.ref x :: st)) : LQ Γ κ ρ pc loc st :=
  fun ls hl H locs hj => lv_aload_n hC.x hC.b d hi (lv_at hl q hq) (kk ls hl H locs hj)
theorem l_iload (hC : lC Γ) {k : Fin 4} {a : Nat} {x : Int32} (d : decode cL_law pc = .ok (.iload_n k, 1)) (q : Nat) (hq : loc[q]? = some (a, .int x)) (hi : (k : Nat) = a) (kk : LQ Γ κ ρ (pc + 1) loc (.int x :: st)) : LQ Γ κ ρ pc loc st :=
  fun ls hl H locs hj => lv_iload_n hC.x hC.b d hi (lv_at hl q hq) (kk ls hl H locs hj)
theorem l_iconst (hC : lC Γ) {x : Int} {v : Int32} (d : decode cL_law pc = .ok (.iconst x, 1)) (hv : Int32.ofInt x = v) (k : LQ Γ κ ρ (pc + 1) loc (.int v :: st)) : LQ Γ κ ρ pc loc st :=
  fun ls hl H locs hj => lv_iconst hC.x hC.b d hv (k ls hl H locs hj)
theorem l_bipush (hC : lC Γ) {x : Int} {v : Int32} (d : decode cL_law pc = .ok (.bipush x, 2)) (hv : (Int8.ofInt x).toInt32 = v) (k : LQ Γ κ ρ (pc + 2) loc (.int v :: st)) : LQ Γ κ ρ pc loc st :=
  fun ls hl H locs hj => lv_bipush hC.x hC.b d hv (k ls hl H locs hj)
theorem l_iadd (hC : lC Γ) {x y : Int32} (d : decode cL_law pc = .ok (.iadd, 1)) (k : LQ Γ κ ρ (pc + 1) loc (.int (x + y) :: st)) : LQ Γ κ ρ pc loc (.int y :: .int x :: st) :=
  fun ls hl H locs hj => lv_iadd hC.x hC.b d (k ls hl H locs hj)
theorem l_isub (hC : lC Γ) {x y : Int32} (d : decode cL_law pc = .ok (.isub, 1)) (k : LQ Γ κ ρ (pc + 1) loc (.int (x - y) :: st)) : LQ Γ κ ρ pc loc (.int y :: .int x :: st) :=
  fun ls hl H locs hj => lv_isub hC.x hC.b d (k ls hl H locs hj)
theorem l_iand (hC : lC Γ) {x y : Int32} (d : decode cL_law pc = .ok (.iand, 1)) (k : LQ Γ κ ρ (pc + 1) loc (.int (x &&& y) :: st)) : LQ Γ κ ρ pc loc (.int y :: .int x :: st) :=
  fun ls hl H locs hj => lv_iand hC.x hC.b d (k ls hl H locs hj)
theorem l_goto (hC : lC Γ) {off : Int} {tgt : Nat} (d : decode cL_law pc = .ok (.goto off, 3)) (ht : (pc : Int) + off = (tgt : Int)) (k : LQ Γ κ ρ tgt loc st) : LQ Γ κ ρ pc loc st :=
  fun ls hl H locs hj => lv_goto hC.x hC.b d ht (k ls hl H locs hj)
theorem l_iinc (hC : lC Γ) {a : Nat} {x : Int} {v w : Int32} {loc' : List (Nat × Value)} (d : decode cL_law pc = .ok (.iinc a x, 3)) (q : Nat) (hq : loc[q]? = some (a, .int v)) (hv : v + Int32.ofInt x = w) (hn : a < 4) (hl' : (a, Value.int w) :: loc.filter (fun q => !(q.1 == a) && !(q.1 + 1 == a && q.2.category == 2)) = loc') (kk : LQ Γ κ ρ (pc + 3) loc' st) : LQ Γ κ ρ pc loc st :=
  fun _ hl H locs hj => lv_iinc hC.x hC.b d hl hq hv (hC.n4 ▸ hn) hl' (fun ls hl => kk ls hl H locs hj)
theorem l_sld (hC : lC Γ) {j : Nat} (hj : j < qL Γ) (d : decode cL_law pc = .ok (.iaload, 1)) (kk : LQ Γ κ ρ (pc + 1) loc (.int (qx Γ j) :: st)) : LQ Γ κ ρ pc loc (.int (nI j) :: .ref (qb Γ) :: st) := by
  intro ls hl H locs h
  have hb : j < 2147483648 := Nat.lt_of_lt_of_le hj (Nat.le_trans hC.L (by decide))
  refine va_sld hC.x hC.b hC.X hC.bl hC.bA h.2 (i := nI j) (fun z => ?_) d ?_
  · rcases z with z | z
    · have z2 : nI j < nI 0 := z
      rw [n_neg hb] at z2
      exact z2
    · rw [n_cl hb] at z
      omega
  · rw [n_cl hb]
    exact kk ls hl H locs h
theorem l_slen (hC : lC Γ) (d : decode cL_law pc = .ok (.arraylength, 1)) (kk : LQ Γ κ ρ (pc + 1) loc (.int (nI (qL Γ)) :: st)) : LQ Γ κ ρ pc loc (.ref (qb Γ) :: st) :=
  fun ls hl H locs h => va_slen hC.x hC.b hC.X hC.bl hC.bA h.2 d (kk ls hl H locs h)
theorem l_eq (hC : lC Γ) {x : Int32} {off : Int} {tgt : Nat} (d : decode cL_law pc = .ok (.if_icmp .eq off, 3)) (ht : (pc : Int) + off = (tgt : Int)) (k : LQ Γ κ ρ tgt loc st) : LQ Γ κ ρ pc loc (.int x :: .int x :: st) :=
  fun ls hl H locs hj => lv_icmp_eq hC.x hC.b d ht (fun _ => k ls hl H locs hj) (fun c => absurd rfl c)
theorem l_gt (hC : lC Γ) {x y : Int32} {off : Int} {tgt : Nat} (d : decode cL_law pc = .ok (.if_icmp .gt off, 3)) (ht : (pc : Int) + off = (tgt : Int)) (k1 : y < x → LQ Γ κ ρ tgt loc st) (k2 : x ≤ y → LQ Γ κ ρ (pc + 3) loc st) : LQ Γ κ ρ pc loc (.int y :: .int x :: st) :=
  fun ls hl H locs hj => lv_icmp_gt hC.x hC.b d ht (fun c => k1 c ls hl H locs hj) (fun c => k2 (Int32.not_lt.mp c) ls hl H locs hj)
theorem l_if0 (hC : lC Γ) {x : Int32} {off : Int} {tgt : Nat} (d : decode cL_law pc = .ok (.ifCond .eq off, 3)) (ht : (pc : Int) + off = (tgt : Int)) (k1 : LQ Γ κ ρ tgt loc st) (k2 : LQ Γ κ ρ (pc + 3) loc st) : LQ Γ κ ρ pc loc (.int x :: st) :=
  fun ls hl H locs hj => lv_if_eq hC.x hC.b d ht (fun _ => k1 ls hl H locs hj) (fun _ => k2 ls hl H locs hj)
theorem l_tin (hC : lC Γ) {dflt lo hi : Int} {offs : Array Int} {len : Nat} {x : Int32} {off : Int} {tgt : Nat} (d : decode cL_law pc = .ok (.tableswitch dflt lo hi offs, len)) (v : Int) (hx : x.toInt = v) (h1 : lo ≤ v) (h2 : v ≤ hi) (ho : offs[(v - lo).toNat]? = some off) (ht : (pc : Int) + off = (tgt : Int)) (k : LQ Γ κ ρ tgt loc st) : LQ Γ κ ρ pc loc (.int x :: st) := by
  subst hx
  exact fun ls hl H locs hj => lv_tableIn hC.x hC.b d (Int.not_lt.mpr h1) (Int.not_lt.mpr h2) ho ht (k ls hl H locs hj)
theorem l_tout (hC : lC Γ) {dflt lo hi : Int} {offs : Array Int} {len : Nat} {x : Int32} {tgt : Nat} (d : decode cL_law pc = .ok (.tableswitch dflt lo hi offs, len)) (h : x.toInt < lo ∨ hi < x.toInt) (ht : (pc : Int) + dflt = (tgt : Int)) (k : LQ Γ κ ρ tgt loc st) : LQ Γ κ ρ pc loc (.int x :: st) :=
  fun ls hl H locs hj => lv_tableOut hC.x hC.b d h ht (k ls hl H locs hj)
end LROWS
section LROWS1
variable {Γ : LCtx} {κ ρ κ1 ρ1 : Mem} {pc i : Nat} {loc : List (Nat × Value)} {st rest : List Value}
theorem l_if0y (hC : lC Γ) {x : Int32} {off : Int} {tgt : Nat} (h : x = 0) (d : decode cL_law pc = .ok (.ifCond .eq off, 3)) (ht : (pc : Int) + off = (tgt : Int)) (k : LQ Γ κ ρ tgt loc st) : LQ Γ κ ρ pc loc (.int x :: st) :=
  fun ls hl H locs hj => lv_if_eq hC.x hC.b d ht (fun _ => k ls hl H locs hj) (fun c => absurd h c)
theorem l_if0n (hC : lC Γ) {x : Int32} {off : Int} {tgt : Nat} (h : ¬ x = 0) (d : decode cL_law pc = .ok (.ifCond .eq off, 3)) (ht : (pc : Int) + off = (tgt : Int)) (k : LQ Γ κ ρ (pc + 3) loc st) : LQ Γ κ ρ pc loc (.int x :: st) :=
  fun ls hl H locs hj => lv_if_eq hC.x hC.b d ht (fun c => absurd c h) (fun _ => k ls hl H locs hj)
end LROWS1
