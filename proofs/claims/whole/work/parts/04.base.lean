/-! THE WORLD: cells by their number; a memory tells what they hold -/
abbrev Kd : Type := Nat × Nat × Nat × Nat × List (Nat × Nat)
abbrev kIA (n : Nat) : Kd := (0, 0, n, 0, [])
abbrev kBA (n : Nat) : Kd := (0, 1, n, 0, [])
abbrev kLA (n : Nat) : Kd := (1, 2, n, 0, [])
abbrev kRA (ty n base stride : Nat) : Kd := (2, ty, n, base, [(stride, 0)])
abbrev kOB (ci : Nat) (fs : List (Nat × Nat)) : Kd := (3, ci, 0, 0, fs)
abbrev Mem : Type := (Nat → Nat → Int32) × (Nat → Nat → Int64) × (Nat → Nat → Nat)
def mi (κ : Mem) (k i : Nat) : Int32 := κ.1 k i
def ml (κ : Mem) (k i : Nat) : Int64 := κ.2.1 k i
def mr (κ : Mem) (k i : Nat) : Nat := κ.2.2 k i
def setI (κ : Mem) (k i : Nat) (x : Int32) : Mem := (fun a => if a = k then upd (κ.1 k) i x else κ.1 a, κ.2)
def setL (κ : Mem) (k i : Nat) (x : Int64) : Mem := (κ.1, fun a => if a = k then vp_updL (κ.2.1 k) i x else κ.2.1 a, κ.2.2)
def setR (κ : Mem) (k i : Nat) (x : Nat) : Mem := (κ.1, κ.2.1, fun a j => if a = k ∧ j = i then x else κ.2.2 a j)
def setIA (κ : Mem) (k : Nat) (f : Nat → Int32) : Mem := (fun a => if a = k then f else κ.1 a, κ.2)
def setLA (κ : Mem) (k : Nat) (f : Nat → Int64) : Mem := (κ.1, fun a => if a = k then f else κ.2.1 a, κ.2.2)
def fv (ad : Nat → Nat) (κ : Mem) (k i : Nat) (f : Nat × Nat) : Value := match f with
  | (0, _) => .int (κ.1 k i)
  | (1, r) => .ref (ad r)
  | (2, _) => .ref (ad (κ.2.2 k i))
  | (_, _) => .long (κ.2.1 k i)
def cel (cA : Nat → ClassId) (ad : Nat → Nat) (κ : Mem) (kd : Kd) (k : Nat) : va_E := match kd with
  | (0, ty, n, _, _) => .inl (cA ty, n, .inl (κ.1 k))
  | (1, ty, n, _, _) => .inl (cA ty, n, .inr (.inl (κ.2.1 k)))
  | (2, ty, n, b, fs) => .inl (cA ty, n, .inr (.inr (.inr (.inr (fun i => some (ad (b + i * (fs.headD (1, 0)).1)))))))
  | (_, ci, _, _, fs) => .inr (ci, (List.range fs.length).map (fun i => fv ad κ k i (fs.getD i (0, 0))))
def cwd (lay : Nat → Kd) (N : Nat) (cA : Nat → ClassId) (ad : Nat → Nat) (κ : Mem) : va_W := (List.range N).map (fun k => (ad k, cel cA ad κ (lay k) k))
theorem cwd_get {lay : Nat → Kd} {N : Nat} {cA : Nat → ClassId} {ad : Nat → Nat} {κ : Mem} {rs : va_W} {k : Nat} (hk : k < N) : (cwd lay N cA ad κ ++ rs)[k]? = some (ad k, cel cA ad κ (lay k) k) := by
  rw [List.getElem?_append_left (by simp [cwd, hk])]
  simp [cwd, List.getElem?_map, List.getElem?_range hk]
theorem cwd_set {lay : Nat → Kd} {N : Nat} {cA : Nat → ClassId} {ad : Nat → Nat} {κ κ1 : Mem} {rs : va_W} {k : Nat} {e : va_E} (hk : k < N) (he : e = cel cA ad κ1 (lay k) k) (h : ∀ j, j ≠ k → cel cA ad κ (lay j) j = cel cA ad κ1 (lay j) j) : (cwd lay N cA ad κ ++ rs).set k (ad k, e) = cwd lay N cA ad κ1 ++ rs := by
  have hl : k < (cwd lay N cA ad κ).length := by simp [cwd, hk]
  rw [List.set_append_left _ _ hl]
  congr 1
  apply List.ext_getElem?
  intro j
  rw [List.getElem?_set]
  simp only [cwd, List.getElem?_map, List.length_map, List.length_range]
  by_cases hj : k = j
  · subst hj
    simp [hk, he, List.getElem?_range hk]
  · rw [if_neg hj]
    rcases Nat.lt_or_ge j N with q | q
    · rw [List.getElem?_range q]
      simp [h j (fun z => hj z.symm)]
    · rw [List.getElem?_eq_none (by simpa using q)]
      rfl
abbrev DCtx : Type := (va_G × (Nat → ClassId) × Nat) × ((Nat → Kd) × Nat × (Nat → Nat) × va_W) × ((Nat → Nat) × (Nat → Nat))
def tysL (cA : Nat → ClassId) : List (ClassId × FieldType) := [(cA 0, .int), (cA 1, .byte), (cA 2, .long), (cA 3, .array .int), (cA 4, .array .long), (cA 5, .object "HatNet$Game")]
def dD (Δ : DCtx) : va_G := Δ.1.1
def dcA (Δ : DCtx) : Nat → ClassId := Δ.1.2.1
def dB (Δ : DCtx) : Nat := Δ.1.2.2
def dlay (Δ : DCtx) : Nat → Kd := Δ.2.1.1
def dN (Δ : DCtx) : Nat := Δ.2.1.2.1
def dad (Δ : DCtx) : Nat → Nat := Δ.2.1.2.2.1
def drs (Δ : DCtx) : va_W := Δ.2.1.2.2.2
def dadK (Δ : DCtx) : Nat → Nat := Δ.2.2.1
def dadV (Δ : DCtx) : Nat → Nat := Δ.2.2.2
def dA (Δ : DCtx) : Nat → Prop := fun q => dB Δ ≤ q
def dW (Δ : DCtx) (κ : Mem) : va_W := cwd (dlay Δ) (dN Δ) (dcA Δ) (dad Δ) κ ++ drs Δ
/-- the strings' constants and the statics that the JDK's String reads -/
def nJS : Nat := 20
def lenJS : List Nat := [7, 4, 4, 4, 5, 3, 4, 4, 5, 5, 7, 4, 4, 5, 5, 7, 4, 4, 5, 6]
def bytJS : List (List Int32) := [[112, 108, 97, 121, 101, 114, 115], [104, 97, 116, 115], [108, 105, 110, 107], [115, 101, 101, 115], [103, 117, 101, 115, 115], [115, 117, 109], [115, 97, 109, 101], [110, 101, 120, 116], [102, 105, 120, 101, 100], [116, 97, 98, 108, 101], [112, 108, 97, 121, 101, 114, 115], [104, 97, 116, 115], [115, 101, 101, 115], [103, 117, 101, 115, 115], [116, 97, 98, 108, 101], [112, 108, 97, 121, 101, 114, 115], [104, 97, 116, 115], [115, 101, 101, 115], [103, 117, 101, 115, 115], [32, 116, 97, 98, 108, 101]]
def tmJS : List (String × Nat × String) := [("HatNet$Tokens", 66, "players"), ("HatNet$Tokens", 68, "hats"), ("HatNet$Tokens", 70, "link"), ("HatNet$Tokens", 72, "sees"), ("HatNet$Tokens", 74, "guess"), ("HatNet$Tokens", 76, "sum"), ("HatNet$Tokens", 78, "same"), ("HatNet$Tokens", 80, "next"), ("HatNet$Tokens", 82, "fixed"), ("HatNet$Tokens", 84, "table"), ("HatNet$Printer", 30, "players"), ("HatNet$Printer", 53, "hats"), ("HatNet$Printer", 62, "sees"), ("HatNet$Printer", 64, "guess"), ("HatNet$Printer", 66, "table"), ("HatNetModel", 349, "players"), ("HatNetModel", 350, "hats"), ("HatNetModel", 355, "sees"), ("HatNetModel", 356, "guess"), ("HatNetModel", 358, " table")]
def strF (adK adV : Nat → Nat) (A : Nat → Prop) (U : State) (H : Heap) : Prop :=
  (∀ i : Nat, i < nJS → va_O "java/lang/String" (adK i) A U H ∧ va_OF "java/lang/String" "coder" "B" (.int 0) (adK i) A U H ∧ va_OF "java/lang/String" "value" "[B" (.ref (adV i)) (adK i) A U H ∧ va_T .byte (adV i) (lenJS.getD i 0) (fun j => .int ((bytJS.getD i []).getD j 0)) A U H) ∧ va_Z "java/lang/String" "COMPACT_STRINGS" "Z" (.int 1) A U H ∧ va_Zq "jdk/internal/util/Preconditions" "SIOOBE_FORMATTER" "Ljava/util/function/BiFunction;" A U H
theorem strF.moved {adK adV : Nat → Nat} {A : Nat → Prop} {u U : State} {H : Heap} (hvm : u.vm.Alike U.vm) (h : strF adK adV A u H) : strF adK adV A U H :=
  ⟨fun i hi => ⟨va_O.moved hvm (h.1 i hi).1, va_OF.moved hvm (h.1 i hi).2.1, va_OF.moved hvm (h.1 i hi).2.2.1, va_T.moved hvm (h.1 i hi).2.2.2⟩, va_Z.moved hvm h.2.1, va_Zq.moved hvm h.2.2⟩
theorem strF.kept {adK adV : Nat → Nat} {A : Nat → Prop} {U : State} {H H1 : Heap} (h : strF adK adV A U H) (hq : ∀ a : Nat, a < H.size → ¬ A a → H1[a]? = H[a]?) : strF adK adV A U H1 :=
  ⟨fun i hi => ⟨(h.1 i hi).1.kept hq, (h.1 i hi).2.1.kept hq, (h.1 i hi).2.2.1.kept hq, (h.1 i hi).2.2.2.kept hq⟩, h.2.1.kept hq, h.2.2.kept hq⟩
def nestL : List (String × Nat) := [("HatNet$Colourings", 52), ("HatNet$Reader", 123), ("HatNet$Renumbering", 64)]
def strR (adK : Nat → Nat) (U : State) : Prop := (∀ (i : Nat) (q : String × Nat × String), tmJS[i]? = some q → vk_R q.1 q.2.1 q.2.2 (adK i) U) ∧ ∀ q ∈ nestL, va_Nw (.methodLinkNest q.1 q.2 yX10_lengthen "HatNet") U
theorem strR.warm {adK : Nat → Nat} {s U : State} (hW : s.WarmedH U.vm) (h : strR adK s) : strR adK U := ⟨fun i q hq => vk_R.warm hW (h.1 i q hq), fun q hq => va_Nw.warmM hW (h.2 q hq)⟩
theorem strR.same {adK : Nat → Nat} {u U : State} (hv : U.vm = u.vm) (h : strR adK u) : strR adK U := ⟨fun i q hq => vk_R.same hv (h.1 i q hq), fun q hq => va_Nw.same rfl hv.symm (h.2 q hq)⟩
/-- the whole world at a state -/
def ctW (Δ : DCtx) (κ : Mem) (U : State) : Prop := va_P (dD Δ) vwCl (dW Δ κ) U.heap ∧ va_K (dD Δ) vwCl (tysL (dcA Δ)) U ∧ (∀ κ : Mem, va_D (dA Δ) (dW Δ κ)) ∧ dB Δ ≤ U.heap.size ∧ strF (dadK Δ) (dadV Δ) (dA Δ) U U.heap ∧ strR (dadK Δ) U
def CT (Δ : DCtx) (l : Launch) (y : MethodName) (cc : ByteArray) (nL : Nat) (ret : Option FieldType) (rm : Room) (As : List Value) (κ : Mem) (v : Option Value) (κ1 : Mem) : Prop :=
  Met l y (.code y cc nL ret :: wsL_law) rm (va_Pc As (ctW Δ κ)) (fun _ st oc t => (oc = .returned v ∧ ctW Δ κ1 t) ∧ va_F (dA Δ) st t) 0 0 (dA Δ)
def rmH (h : Nat) : Room := { frames := h, cells := 0, slots := 0, locals := 64 * h }
abbrev JCtx : Type := (Program × Launch × Env × Room × State) × (MethodId × Array Value × List Frame × Method × Code) × (Nat × Nat) × DCtx
def gp (Γ : JCtx) : Program := Γ.1.1
def gl (Γ : JCtx) : Launch := Γ.1.2.1
def ge (Γ : JCtx) : Env := Γ.1.2.2.1
def gR (Γ : JCtx) : Room := Γ.1.2.2.2.1
def gs (Γ : JCtx) : State := Γ.1.2.2.2.2
def gm (Γ : JCtx) : MethodId := Γ.2.1.1
def gargs (Γ : JCtx) : Array Value := Γ.2.1.2.1
def gbelow (Γ : JCtx) : List Frame := Γ.2.1.2.2.1
def gmeth (Γ : JCtx) : Method := Γ.2.1.2.2.2.1
def gc (Γ : JCtx) : Code := Γ.2.1.2.2.2.2
def gcells (Γ : JCtx) : Nat := Γ.2.2.1.1
def gslots (Γ : JCtx) : Nat := Γ.2.2.1.2
def gΔ (Γ : JCtx) : DCtx := Γ.2.2.2
abbrev gad (Γ : JCtx) : Nat → Nat := dad (gΔ Γ)
/-- the heap and what was written, at a place of a method's walk -/
def jH (Γ : JCtx) (κ : Mem) (H : Heap) (locs : List Loc) : Prop := va_P (dD (gΔ Γ)) vwCl (dW (gΔ Γ) κ) H ∧ va_S (dA (gΔ Γ)) (gs Γ).heap H locs
/-- what stands at every place of a method's walk -/
def jC (Γ : JCtx) (cc : ByteArray) (nL : Nat) (own : String) (ret : Option FieldType) (lay : Nat → Kd) (N : Nat) : Prop :=
  (gp Γ).tables.exec = Jvm.exec ∧ (gc Γ).code = cc ∧ (gc Γ).maxLocals = nL ∧ (gs Γ).vm.findClass own = some (gm Γ).cls ∧ (∀ w ∈ wsL_law, w.before (gargs Γ) (gs Γ) = true) ∧ va_K (dD (gΔ Γ)) vwCl (tysL (dcA (gΔ Γ))) (gs Γ) ∧ (∀ κ : Mem, va_D (dA (gΔ Γ)) (dW (gΔ Γ) κ)) ∧ dB (gΔ Γ) ≤ (gs Γ).heap.size ∧ (gmeth Γ).locks = false ∧ (gmeth Γ).sig.returnType = ret ∧ (dlay (gΔ Γ) = lay ∧ dN (gΔ Γ) = N) ∧ strF (dadK (gΔ Γ)) (dadV (gΔ Γ)) (dA (gΔ Γ)) (gs Γ) (gs Γ).heap ∧ strR (dadK (gΔ Γ)) (gs Γ)
def JP {ρ : Type} (Γ : JCtx) (Qf : ρ → State → Prop) (prog : Option ρ) (κ : Mem) (pc : Nat) (loc : List (Nat × Value)) (st : List Value) : Prop :=
  ∀ r, prog = some r → ∀ ls, lv_has ls (gc Γ).maxLocals loc → ∀ H locs, jH Γ κ H locs → W (gp Γ) (gl Γ) (ge Γ) (gR Γ) (gs Γ) (gm Γ) (gargs Γ) (gbelow Γ) (gmeth Γ) (gc Γ) H locs (gcells Γ) (gslots Γ) (Qf r) (F0 (gm Γ) pc ls st)
def qf {ρ : Type} (Γ : JCtx) (out : ρ → Option Value × Mem) (r : ρ) : State → Prop :=
  MQ (gbelow Γ) (fun _ st oc t => (oc = .returned (out r).1 ∧ ctW (gΔ Γ) (out r).2 t) ∧ va_F (dA (gΔ Γ)) st t) (gargs Γ) (gs Γ) (gcells Γ) (gslots Γ) (dA (gΔ Γ))
-- programs: guards, names
def ckI {ρ : Type} (i : Int32) (n : Nat) (x : Option ρ) : Option ρ := if i < 0 ∨ n ≤ i.toNatClampNeg then none else x
def ckZ {ρ : Type} (y : Int32) (x : Option ρ) : Option ρ := if y = 0 then none else x
def ckZL {ρ : Type} (y : Int64) (x : Option ρ) : Option ρ := if y = 0 then none else x
def ckP {ρ : Type} (c : Bool) (x : Option ρ) : Option ρ := if c = true then x else none
def nm {α β : Type} (a : α) (f : α → β) : β := f a
theorem ckI_some {ρ : Type} {i : Int32} {n : Nat} {x : Option ρ} {r : ρ} (h : ckI i n x = some r) : vp_in i n ∧ x = some r := by
  unfold ckI at h
  split at h
  · cases h
  · exact ⟨by assumption, h⟩
theorem ckZ_some {ρ : Type} {y : Int32} {x : Option ρ} {r : ρ} (h : ckZ y x = some r) : ¬ y = 0 ∧ x = some r := by
  unfold ckZ at h
  split at h
  · cases h
  · exact ⟨by assumption, h⟩
theorem ckZL_some {ρ : Type} {y : Int64} {x : Option ρ} {r : ρ} (h : ckZL y x = some r) : ¬ y = 0 ∧ x = some r := by
  unfold ckZL at h
  split at h
  · cases h
  · exact ⟨by assumption, h⟩
theorem ckP_some {ρ : Type} {c : Bool} {x : Option ρ} {r : ρ} (h : ckP c x = some r) : c = true ∧ x = some r := by
  unfold ckP at h
  split at h
  · exact ⟨by assumption, h⟩
  · cases h
