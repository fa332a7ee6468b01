/-! CONSTRUCTORS: the cells that a method makes lie one behind the other -/
def adW : Nat → List va_E → va_W
  | _, [] => []
  | h, e :: M => (h, e) :: adW (h + 1) M
theorem adW_get : ∀ (M : List va_E) (h k : Nat), (adW h M)[k]? = (M[k]?).map (fun e => (h + k, e))
  | [], h, k => by simp [adW]
  | e :: M, h, 0 => rfl
  | e :: M, h, k + 1 => by
    show (adW (h + 1) M)[k]? = _
    rw [adW_get M (h + 1) k]
    simp [Nat.add_assoc, Nat.add_comm 1 k]
theorem adW_at {M : List va_E} {h k : Nat} {e : va_E} (hk : M[k]? = some e) : (adW h M)[k]? = some (h + k, e) := by
  rw [adW_get, hk]; rfl
theorem adW_app : ∀ (a b : List va_E) (h : Nat), adW h (a ++ b) = adW h a ++ adW (h + a.length) b
  | [], b, h => rfl
  | e :: a, b, h => by
    show (h, e) :: adW (h + 1) (a ++ b) = (h, e) :: (adW (h + 1) a ++ _)
    rw [adW_app a b (h + 1)]
    simp [Nat.add_assoc, Nat.add_comm 1 a.length]
theorem adW_len : ∀ (M : List va_E) (h : Nat), (adW h M).length = M.length
  | [], _ => rfl
  | e :: M, h => by
    show (adW (h + 1) M).length + 1 = _
    rw [adW_len M (h + 1)]; rfl
theorem adW_set : ∀ (M : List va_E) (h k : Nat) (e : va_E), (adW h M).set k (h + k, e) = adW h (M.set k e)
  | [], h, k, e => by simp [adW]
  | x :: M, h, 0, e => rfl
  | x :: M, h, k + 1, e => by
    show (h, x) :: (adW (h + 1) M).set k (h + (k + 1), e) = (h, x) :: adW (h + 1) (M.set k e)
    rw [show h + (k + 1) = h + 1 + k by omega, adW_set M (h + 1) k e]
theorem adW_D {h : Nat} {M : List va_E} : va_D (fun q => h ≤ q) (adW h M) := by
  refine ⟨fun i j p q hi hj hpq => ?_, fun k q hk => ?_⟩
  · rw [adW_get] at hi hj
    obtain ⟨a, -, rfl⟩ := Option.map_eq_some_iff.mp hi
    obtain ⟨b, -, rfl⟩ := Option.map_eq_some_iff.mp hj
    dsimp only at hpq
    omega
  · rw [adW_get] at hk
    obtain ⟨a, -, rfl⟩ := Option.map_eq_some_iff.mp hk
    exact Nat.le_add_right _ _
def zOA (ty : FieldType) (U : State) : Prop := (Cond.arrayOver (.array ty)).before #[] U = true
theorem zOA.moved {ty : FieldType} {u U : State} (hvm : u.vm.Alike U.vm) (h : zOA ty u) : zOA ty U := by
  obtain ⟨comp, c, k, h1, h2, h3, h4, h5⟩ := arrayOverA_spec h
  obtain ⟨k', hk', he⟩ := hvm.2.2 _ _ h3
  have hi : (U.vm.classes.findIdx? fun (x : Class) => match x.kind with | .array component _ => component == comp | _ => false) = some c := by
    refine (va_idx_bare U.vm comp).symm.trans ?_
    first | rw [hvm.bare_eq] | rw [← hvm.bare_eq]
    exact (va_idx_bare u.vm comp).trans h2
  have hkind : k'.kind = .array comp (.array ty) := by rw [he]; exact h4
  have f1 : U.vm.findClass (FieldType.array ty).toString = some comp := by rw [hvm.findClass]; exact h1
  have f2 : U.vm.findClass ("[" ++ (FieldType.array ty).toString) = some c := by rw [hvm.findClass]; exact h5
  unfold zOA Cond.before Cond.holds
  simp only [Cond.value]
  rw [f1, Option.bind_some]
  refine (congrArg (fun o : Option Nat => (o.bind (fun c => (U.vm.classes[c]?).map fun (k : Class) => match k.kind with | .array _ t => decide (t = FieldType.array ty) && decide (U.vm.findClass ("[" ++ (FieldType.array ty).toString) = some c) | _ => false) == some true)) hi).trans ?_
  simp [hk', hkind, f2]
theorem zOA.use {ty : FieldType} {A : Array Value} {U : State} (h : zOA ty U) : (Cond.arrayOver (.array ty)).before A U = true := h
def nestI : List (String × Nat × MethodName) := [("HatNet", 9, yX2_init), ("HatNet$History", 24, yX2_init), ("HatNet$Reader", 11, yX2_init), ("HatNet", 77, yX5_init)]
def zAO (U : State) : Prop := (va_AO "HatNet$Game" U ∧ zOA .int U ∧ zOA .long U) ∧ ∀ q ∈ nestI, va_Nw (.methodLinkNest q.1 q.2.1 q.2.2 "HatNet") U
theorem zAO.warm {u U : State} (hW : u.WarmedH U.vm) (h : zAO u) : zAO U := ⟨⟨va_AO.moved hW.alike h.1.1, zOA.moved hW.alike h.1.2.1, zOA.moved hW.alike h.1.2.2⟩, fun q hq => va_Nw.warmM hW (h.2 q hq)⟩
theorem zAO.same {u U : State} (hv : U.vm = u.vm) (h : zAO u) : zAO U := ⟨⟨va_AO.moved (by rw [hv]; exact Vm.Alike.refl u.vm) h.1.1, zOA.moved (by rw [hv]; exact Vm.Alike.refl u.vm) h.1.2.1, zOA.moved (by rw [hv]; exact Vm.Alike.refl u.vm) h.1.2.2⟩, fun q hq => va_Nw.same rfl hv.symm (h.2 q hq)⟩
/-- a context: the machine's, the frame's, the classes', the first cell's address with what lies ahead of it, and what else holds -/
abbrev ZCtx : Type := (Program × Launch × Env × Room × State) × (MethodId × Array Value × List Frame × Method × Code) × (va_G × (Nat → ClassId)) × (Nat × va_W × (State → Prop))
def zp (Γ : ZCtx) : Program := Γ.1.1
def zl (Γ : ZCtx) : Launch := Γ.1.2.1
def ze (Γ : ZCtx) : Env := Γ.1.2.2.1
def zR (Γ : ZCtx) : Room := Γ.1.2.2.2.1
def zs (Γ : ZCtx) : State := Γ.1.2.2.2.2
def zm (Γ : ZCtx) : MethodId := Γ.2.1.1
def zargs (Γ : ZCtx) : Array Value := Γ.2.1.2.1
def zbelow (Γ : ZCtx) : List Frame := Γ.2.1.2.2.1
def zmeth (Γ : ZCtx) : Method := Γ.2.1.2.2.2.1
def zc (Γ : ZCtx) : Code := Γ.2.1.2.2.2.2
def zD (Γ : ZCtx) : va_G := Γ.2.2.1.1
def zA (Γ : ZCtx) : Nat → ClassId := Γ.2.2.1.2
def zh (Γ : ZCtx) : Nat := Γ.2.2.2.1
def z0 (Γ : ZCtx) : va_W := Γ.2.2.2.2.1
def zE (Γ : ZCtx) : State → Prop := Γ.2.2.2.2.2
/-- what a context rests on -/
def zOk (h : Nat) (ws0 : va_W) (E : State → Prop) : Prop := (∀ (k : Nat) (q : Nat × va_E), ws0[k]? = some q → q.1 < h) ∧ (∀ u U : State, u.WarmedH U.vm → h ≤ u.heap.size → (∀ q : Nat, q < h → U.heap[q]? = u.heap[q]?) → E u → E U) ∧ (∀ u U : State, U.vm = u.vm → U.heap = u.heap → E u → E U)
def zW (D : va_G) (cA : Nat → ClassId) (h : Nat) (ws0 : va_W) (E : State → Prop) (M : List va_E) (U : State) : Prop := va_P D vwCl (adW h M) U.heap ∧ U.heap.size = h + M.length ∧ va_K D vwCl (tysL cA) U ∧ zAO U ∧ va_P D vwCl ws0 U.heap ∧ E U
def zH (Γ : ZCtx) (M : List va_E) (H : Heap) (locs : List Loc) : Prop := va_P (zD Γ) vwCl (adW (zh Γ) M) H ∧ H.size = zh Γ + M.length ∧ va_S (fun q => zh Γ ≤ q) (zs Γ).heap H locs
def zC (Γ : ZCtx) (cc : ByteArray) (nL : Nat) (own : String) : Prop :=
  (zp Γ).tables.exec = Jvm.exec ∧ (zc Γ).code = cc ∧ (zc Γ).maxLocals = nL ∧ (zs Γ).vm.findClass own = some (zm Γ).cls ∧ (∀ w ∈ wsL_law, w.before (zargs Γ) (zs Γ) = true) ∧ va_K (zD Γ) vwCl (tysL (zA Γ)) (zs Γ) ∧ zh Γ ≤ (zs Γ).heap.size ∧ (zmeth Γ).locks = false ∧ zAO (zs Γ) ∧ va_P (zD Γ) vwCl (z0 Γ) (zs Γ).heap ∧ zE Γ (zs Γ) ∧ zOk (zh Γ) (z0 Γ) (zE Γ)
def ZP (Γ : ZCtx) (Qf : State → Prop) (n sl : Nat) (M : List va_E) (pc : Nat) (loc : List (Nat × Value)) (st : List Value) : Prop :=
  ∀ ls, lv_has ls (zc Γ).maxLocals loc → ∀ H locs, zH Γ M H locs → W (zp Γ) (zl Γ) (ze Γ) (zR Γ) (zs Γ) (zm Γ) (zargs Γ) (zbelow Γ) (zmeth Γ) (zc Γ) H locs n sl Qf (F0 (zm Γ) pc ls st)
def zQ (Γ : ZCtx) (M' : List va_E) (mc ms : Nat) : State → Prop := MQ (zbelow Γ) (fun _ st oc t => (oc = .returned none ∧ zW (zD Γ) (zA Γ) (zh Γ) (z0 Γ) (zE Γ) M' t) ∧ va_F (fun q => zh Γ ≤ q) st t) (zargs Γ) (zs Γ) mc ms (fun q => zh Γ ≤ q)
def ZT (D : va_G) (cA : Nat → ClassId) (h : Nat) (ws0 : va_W) (E : State → Prop) (l : Launch) (y : MethodName) (cc : ByteArray) (nL : Nat) (rm : Room) (mc ms : Nat) (As : List Value) (e0 : va_E) (M' : List va_E) : Prop :=
  Met l y (.code y cc nL none :: wsL_law) rm (va_Pc As (zW D cA h ws0 E [e0])) (fun _ st oc t => (oc = .returned none ∧ zW D cA h ws0 E M' t) ∧ va_F (fun q => h ≤ q) st t) mc ms (fun q => h ≤ q)
def rmK (h mc ms : Nat) : Room := { frames := h, cells := mc, slots := ms, locals := 64 * h }
section ZROWS
variable {Γ : ZCtx} {cc : ByteArray} {nL : Nat} {own : String} {Qf : State → Prop} {n sl : Nat} {M : List va_E} {pc : Nat} {loc loc' : List (Nat × Value)} {st rest : List Value}
theorem zC.x (h : zC Γ cc nL own) : (zp Γ).tables.exec = Jvm.exec := h.1
theorem zC.b (h : zC Γ cc nL own) : (zc Γ).code = cc := h.2.1
theorem zC.nn (h : zC Γ cc nL own) : (zc Γ).maxLocals = nL := h.2.2.1
theorem zC.o (h : zC Γ cc nL own) : (zs Γ).vm.findClass own = some (zm Γ).cls := h.2.2.2.1
theorem zC.ts (h : zC Γ cc nL own) : ∀ w ∈ wsL_law, w.before (zargs Γ) (zs Γ) = true := h.2.2.2.2.1
theorem zC.k (h : zC Γ cc nL own) : va_K (zD Γ) vwCl (tysL (zA Γ)) (zs Γ) := h.2.2.2.2.2.1
theorem zC.sz (h : zC Γ cc nL own) : zh Γ ≤ (zs Γ).heap.size := h.2.2.2.2.2.2.1
theorem zC.lk (h : zC Γ cc nL own) : (zmeth Γ).locks = false := h.2.2.2.2.2.2.2.1
theorem zC.ao (h : zC Γ cc nL own) : zAO (zs Γ) := h.2.2.2.2.2.2.2.2.1
theorem zC.w0 (h : zC Γ cc nL own) : va_P (zD Γ) vwCl (z0 Γ) (zs Γ).heap := h.2.2.2.2.2.2.2.2.2.1
theorem zC.e (h : zC Γ cc nL own) : zE Γ (zs Γ) := h.2.2.2.2.2.2.2.2.2.2.1
theorem zC.ok (h : zC Γ cc nL own) : zOk (zh Γ) (z0 Γ) (zE Γ) := h.2.2.2.2.2.2.2.2.2.2.2
theorem zH.w0 (hC : zC Γ cc nL own) {H : Heap} {locs : List Loc} (h : zH Γ M H locs) : va_P (zD Γ) vwCl (z0 Γ) H :=
  hC.w0.kept (fun k q hq => h.2.2.2.1 q.1 (Nat.lt_of_lt_of_le (hC.ok.1 k q hq) hC.sz) (Nat.not_le.mpr (hC.ok.1 k q hq)))
theorem zH.e (hC : zC Γ cc nL own) {H : Heap} {locs : List Loc} (h : zH Γ M H locs) (U : State) (hU : U.heap = H) (hW : (zs Γ).WarmedH U.vm) : zE Γ U :=
  hC.ok.2.1 (zs Γ) U hW hC.sz (fun q hq => by rw [hU]; exact h.2.2.2.1 q (Nat.lt_of_lt_of_le hq hC.sz) (Nat.not_le.mpr hq)) hC.e
theorem zH.w (hC : zC Γ cc nL own) {H : Heap} {locs : List Loc} (h : zH Γ M H locs) (U : State) (hU : U.heap = H) (hW : (zs Γ).WarmedH U.vm) : zW (zD Γ) (zA Γ) (zh Γ) (z0 Γ) (zE Γ) M U := by
  refine ⟨?_, ?_, va_K.moved hW.alike hC.k, zAO.warm hW hC.ao, ?_, zH.e hC h U hU hW⟩
  · rw [hU]; exact h.1
  · rw [hU]; exact h.2.1
  · rw [hU]; exact zH.w0 hC h
theorem z_iconst (hC : zC Γ cc nL own) {x : Int} {v : Int32} (d : decode cc pc = .ok (.iconst x, 1)) (hv : Int32.ofInt x = v) (k : ZP Γ Qf n sl M (pc + 1) loc (.int v :: st)) : ZP Γ Qf n sl M pc loc st :=
  fun ls hl H locs hj => lv_iconst hC.x hC.b d hv (k ls hl H locs hj)
theorem z_bipush (hC : zC Γ cc nL own) {x : Int} {v : Int32} (d : decode cc pc = .ok (.bipush x, 2)) (hv : (Int8.ofInt x).toInt32 = v) (k : ZP Γ Qf n sl M (pc + 2) loc (.int v :: st)) : ZP Γ Qf n sl M pc loc st :=
  fun ls hl H locs hj => lv_bipush hC.x hC.b d hv (k ls hl H locs hj)
theorem z_sipush (hC : zC Γ cc nL own) {x : Int} {v : Int32} (d : decode cc pc = .ok (.sipush x, 3)) (hv : (Int16.ofInt x).toInt32 = v) (k : ZP Γ Qf n sl M (pc + 3) loc (.int v :: st)) : ZP Γ Qf n sl M pc loc st :=
  fun ls hl H locs hj => lv_sipush hC.x hC.b d hv (k ls hl H locs hj)
theorem z_ldc (hC : zC Γ cc nL own) {i : Nat} {v : Int32} (d : decode cc pc = .ok (.ldc i, 2)) (hw : Cond.constant own i v ∈ wsL_law) (k : ZP Γ Qf n sl M (pc + 2) loc (.int v :: st)) : ZP Γ Qf n sl M pc loc st :=
  fun ls hl H locs hj => lv_ldc hC.x hC.b hC.o (hC.ts _ hw) d (k ls hl H locs hj)
theorem z_ldc2 (hC : zC Γ cc nL own) {i : Nat} {v : Int64} (d : decode cc pc = .ok (.ldc2_w i, 3)) (hw : Cond.constantLong own i v ∈ wsL_law) (k : ZP Γ Qf n sl M (pc + 3) loc (.long v :: st)) : ZP Γ Qf n sl M pc loc st :=
  fun ls hl H locs hj => lv_ldc2 hC.x hC.b hC.o (hC.ts _ hw) d (k ls hl H locs hj)
theorem z_aload_n (hC : zC Γ cc nL own) {k : Fin 4} {i x : Nat} (d : decode cc pc = .ok (.aload_n k, 1)) (q : Nat) (hq : loc[q]? = some (i, .ref x)) (hi : (k : Nat) = i) (kk : ZP Γ Qf n sl M (pc + 1) loc (.ref x :: st)) : ZP Γ Qf n sl M pc loc st :=
  fun ls hl H locs hj => lv_aload_n hC.x hC.b d hi (lv_at hl q hq) (kk ls hl H locs hj)
theorem z_iload_n (hC : zC Γ cc nL own) {k : Fin 4} {i : Nat} {x : Int32} (d : decode cc pc = .ok (.iload_n k, 1)) (q : Nat) (hq : loc[q]? = some (i, .int x)) (hi : (k : Nat) = i) (kk : ZP Γ Qf n sl M (pc + 1) loc (.int x :: st)) : ZP Γ Qf n sl M pc loc st :=
  fun ls hl H locs hj => lv_iload_n hC.x hC.b d hi (lv_at hl q hq) (kk ls hl H locs hj)
theorem z_istore_n (hC : zC Γ cc nL own) {k : Fin 4} {i : Nat} {x : Int32} (d : decode cc pc = .ok (.istore_n k, 1)) (hi : (k : Nat) = i) (hn : i < nL) (hl' : (i, Value.int x) :: loc.filter (fun q => !(q.1 == i) && !(q.1 + 1 == i && q.2.category == 2)) = loc') (kk : ZP Γ Qf n sl M (pc + 1) loc' st) : ZP Γ Qf n sl M pc loc (.int x :: st) :=
  fun _ hl H locs hj => lv_istore_n hC.x hC.b d hi hl (hC.nn ▸ hn) hl' (fun ls hl => kk ls hl H locs hj)
theorem z_iinc (hC : zC Γ cc nL own) {i : Nat} {x : Int} {v w : Int32} (d : decode cc pc = .ok (.iinc i x, 3)) (q : Nat) (hq : loc[q]? = some (i, .int v)) (hv : v + Int32.ofInt x = w) (hn : i < nL) (hl' : (i, Value.int w) :: loc.filter (fun q => !(q.1 == i) && !(q.1 + 1 == i && q.2.category == 2)) = loc') (kk : ZP Γ Qf n sl M (pc + 3) loc' st) : ZP Γ Qf n sl M pc loc st :=
  fun _ hl H locs hj => lv_iinc hC.x hC.b d hl hq hv (hC.nn ▸ hn) hl' (fun ls hl => kk ls hl H locs hj)
theorem z_goto (hC : zC Γ cc nL own) {off : Int} {tgt : Nat} (d : decode cc pc = .ok (.goto off, 3)) (ht : (pc : Int) + off = (tgt : Int)) (k : ZP Γ Qf n sl M tgt loc st) : ZP Γ Qf n sl M pc loc st :=
  fun ls hl H locs hj => lv_goto hC.x hC.b d ht (k ls hl H locs hj)
theorem z_dup (hC : zC Γ cc nL own) {v : Value} (d : decode cc pc = .ok (.dup, 1)) (hv : v.category = 1) (k : ZP Γ Qf n sl M (pc + 1) loc (v :: v :: st)) : ZP Γ Qf n sl M pc loc (v :: st) :=
  fun ls hl H locs hj => lv_dup hC.x hC.b d hv (k ls hl H locs hj)
theorem z_obj (hC : zC Γ cc nL own) {idx a : Nat} (hw : Cond.methodLink own idx Lib.objectInit ∈ wsL_law ∧ Cond.instanceMethod Lib.objectInit ∈ wsL_law ∧ Cond.code Lib.objectInit ⟨#[0xb1]⟩ 1 none ∈ wsL_law) (hf : 1 ≤ (zR Γ).frames) (hlo : 12 ≤ (zR Γ).locals) (d : decode cc pc = .ok (.invokespecial idx, 3)) (kk : ZP Γ Qf n sl M (pc + 3) loc []) : ZP Γ Qf n sl M pc loc [.ref a] := by
  intro ls hl H locs hj
  refine W.objInit hC.x hC.b hC.o (hC.ts _ hw.1) (hC.ts _ hw.2.1) (hC.ts _ hw.2.2) rfl hl.1 rfl d hf ?_ (kk ls hl H locs hj)
  show 2 * 0 + 0 + 12 ≤ _
  omega
/-- a class, as 'new' wants it -/
def kwC (ci : Nat) (C : String) (T : u_T) (N : Nat) (ty : Nat → FieldType) (fs : List Value) : Prop := vwCl[ci]? = some (C, T, N) ∧ (∀ w ∈ u_ws C T N, w ∈ wsL_law) ∧ (∀ k, k < N → parseFieldDescriptor (T k).2.2.1 = some (ty k)) ∧ Cond.instantiable C N ∈ wsL_law ∧ Cond.initialized C ∈ wsL_law ∧ (∀ j, j < N → defaultValue (ty j) = vp_V fs j)
theorem z_new (hC : zC Γ cc nL own) {ci idx N : Nat} {C : String} {T : u_T} {ty : Nat → FieldType} {fs : List Value} {a : Nat} (hk : kwC ci C T N ty fs) (hcl : Cond.classLink own idx C ∈ wsL_law) (hce : n + 1 ≤ (zR Γ).cells) (hsl : sl + N ≤ (zR Γ).slots) (ha : zh Γ + M.length = a) (d : decode cc pc = .ok (.new idx, 3)) (kk : ZP Γ Qf (n + 1) (sl + N) (M ++ [.inr (ci, fs)]) (pc + 3) loc (.ref a :: st)) : ZP Γ Qf n sl M pc loc st := by
  intro ls hl H locs hj
  obtain ⟨k1, k2, k3, k4, k5, k6⟩ := hk
  have hKn := hC.k.1 ci _ k1
  obtain ⟨hP, hz, hS⟩ := hj
  refine W.newcK hC.x hC.b hC.o (hC.ts _ hcl) (hC.ts _ k4) (hC.ts _ k5) rfl d hce hsl hKn.2.1 (hz.trans ha) fun H1 kC hkC e1 z1 o1 => ?_
  refine kk ls hl H1 locs ⟨?_, ?_, ?_⟩
  · rw [adW_app]
    refine (hP.kept fun k x hx => o1 x.1 ?_).app fun k x hx => ?_
    · have := (hP k x hx).lt
      omega
    · have h0 : k < 1 := (List.getElem?_eq_some_iff.mp hx).1
      rw [show k = 0 by omega] at hx
      cases hx
      rw [show zh Γ + M.length = a from ha]
      exact ⟨_, k1, (u_born ty hC.ts k2 hKn hkC e1 k3).to k6⟩
  · rw [z1, List.length_append]
    show a + 1 = zh Γ + (M.length + 1)
    omega
  · refine ⟨?_, fun x h1 h2 => (o1 x ?_).trans (hS.2.1 x h1 h2), hS.2.2⟩
    · have := hS.1
      omega
    · have := hS.1
      omega
theorem arrV_congr {c : ClassId} {N : Nat} {f g : Nat → Value} (h : ∀ j, j < N → f j = g j) : arrV c N f = arrV c N g := by
  unfold arrV
  congr 2
  funext j
  exact h j.val j.isLt
/-- cells put behind the others -/
theorem zH.push {H H1 : Heap} {locs : List Loc} {L : List va_E} (hj : zH Γ M H locs) (hz : H1.size = H.size + L.length) (ho : ∀ q : Nat, q < H.size → H1[q]? = H[q]?) (hL : ∀ (k : Nat) (e : va_E), L[k]? = some e → va_at (zD Γ) vwCl (H.size + k, e) H1) : zH Γ (M ++ L) H1 locs := by
  obtain ⟨hP, hz0, hS⟩ := hj
  refine ⟨?_, ?_, ?_⟩
  · rw [adW_app]
    refine (hP.kept fun k x hx => ho x.1 (hP k x hx).lt).app fun k x hx => ?_
    rw [adW_get] at hx
    obtain ⟨e, he, rfl⟩ := Option.map_eq_some_iff.mp hx
    rw [← hz0]
    exact hL k e he
  · rw [hz, List.length_append]
    omega
  · refine ⟨by have := hS.1; omega, fun x h1 h2 => (ho x (Nat.lt_of_lt_of_le h1 hS.1)).trans (hS.2.1 x h1 h2), hS.2.2⟩
theorem z_newa (hC : zC Γ cc nL own) {at_ : ArrayType} {ty : FieldType} {x : Int32} {N t0 a : Nat} {a0 : vp_A} (hty : newarray.typeOf at_ = ty) (hw : Cond.arrayClass ty ∈ wsL_law) (ht : (tysL (zA Γ))[t0]? = some (zA Γ t0, ty)) (hra : ∀ U cA, va_RA U cA ty → U.vm.findClass ("[" ++ ty.toString) = some cA) (ha0 : ∀ cA : ClassId, vp_cell cA a0 = arrV cA N (fun _ => defaultValue ty)) (hx : ¬ x < 0) (hN : x.toNatClampNeg = N) (hb : N * componentBytes ty ≤ 536870912) (hce : n + 1 ≤ (zR Γ).cells) (hsl : sl + N ≤ (zR Γ).slots) (ha : zh Γ + M.length = a) (d : decode cc pc = .ok (.newarray at_, 2)) (kk : ZP Γ Qf (n + 1) (sl + N) (M ++ [.inl (zA Γ t0, a0)]) (pc + 2) loc (.ref a :: st)) : ZP Γ Qf n sl M pc loc (.int x :: st) := by
  intro ls hl H locs hj
  subst hty
  refine va_newaK hC.x hC.b (hC.ts _ hw) rfl d rfl hx hN hb hce hsl (hj.2.1.trans ha) fun H1 cA e1 z1 o1 hAr hNm => ?_
  have hcA : cA = zA Γ t0 := Option.some.inj (hNm.symm.trans (hra _ _ (hC.k.2 t0 _ ht).2))
  subst hcA
  have hs : H.size = a := hj.2.1.trans ha
  subst hs
  refine kk ls hl H1 locs (hj.push z1 (fun q hq => o1 q hq) fun k e he => ?_)
  have h0 : k < 1 := (List.getElem?_eq_some_iff.mp he).1
  obtain rfl : k = 0 := by omega
  cases he
  show H1[H.size + 0]? = some (vp_cell _ _)
  rw [ha0]
  exact e1
end ZROWS
