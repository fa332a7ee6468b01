section JROWS
variable {Γ : JCtx} {cc : ByteArray} {nL : Nat} {own : String} {ret : Option FieldType} {lay : Nat → Kd} {N : Nat} {ρ : Type} {Qf : ρ → State → Prop} {κ : Mem} {pc : Nat} {loc loc' : List (Nat × Value)} {st rest : List Value} {P P1 P2 : Option ρ}
theorem jC.x (h : jC Γ cc nL own ret lay N) : (gp Γ).tables.exec = Jvm.exec := h.1
theorem jC.b (h : jC Γ cc nL own ret lay N) : (gc Γ).code = cc := h.2.1
theorem jC.n (h : jC Γ cc nL own ret lay N) : (gc Γ).maxLocals = nL := h.2.2.1
theorem jC.o (h : jC Γ cc nL own ret lay N) : (gs Γ).vm.findClass own = some (gm Γ).cls := h.2.2.2.1
theorem jC.ts (h : jC Γ cc nL own ret lay N) : ∀ w ∈ wsL_law, w.before (gargs Γ) (gs Γ) = true := h.2.2.2.2.1
theorem jC.k (h : jC Γ cc nL own ret lay N) : va_K (dD (gΔ Γ)) vwCl (tysL (dcA (gΔ Γ))) (gs Γ) := h.2.2.2.2.2.1
theorem jC.d (h : jC Γ cc nL own ret lay N) : ∀ κ : Mem, va_D (dA (gΔ Γ)) (dW (gΔ Γ) κ) := h.2.2.2.2.2.2.1
theorem jC.sz (h : jC Γ cc nL own ret lay N) : dB (gΔ Γ) ≤ (gs Γ).heap.size := h.2.2.2.2.2.2.2.1
theorem jC.lk (h : jC Γ cc nL own ret lay N) : (gmeth Γ).locks = false := h.2.2.2.2.2.2.2.2.1
theorem jC.r (h : jC Γ cc nL own ret lay N) : (gmeth Γ).sig.returnType = ret := h.2.2.2.2.2.2.2.2.2.1
theorem jC.l (h : jC Γ cc nL own ret lay N) : dlay (gΔ Γ) = lay := h.2.2.2.2.2.2.2.2.2.2.1.1
theorem jC.cn (h : jC Γ cc nL own ret lay N) : dN (gΔ Γ) = N := h.2.2.2.2.2.2.2.2.2.2.1.2
theorem jC.sf (h : jC Γ cc nL own ret lay N) : strF (dadK (gΔ Γ)) (dadV (gΔ Γ)) (dA (gΔ Γ)) (gs Γ) (gs Γ).heap := h.2.2.2.2.2.2.2.2.2.2.2.1
theorem jC.sr (h : jC Γ cc nL own ret lay N) : strR (dadK (gΔ Γ)) (gs Γ) := h.2.2.2.2.2.2.2.2.2.2.2.2
-- straight rows
theorem j_sub (ks : List Nat) (h : lv_pick loc ks = loc') (k : JP Γ Qf P κ pc loc' st) : JP Γ Qf P κ pc loc st :=
  fun r hp ls hl => k r hp ls (lv_sub hl ks h)
theorem j_iconst (hC : jC Γ cc nL own ret lay N) {n : Int} {v : Int32} (d : decode cc pc = .ok (.iconst n, 1)) (hv : Int32.ofInt n = v) (k : JP Γ Qf P κ (pc + 1) loc (.int v :: st)) : JP Γ Qf P κ pc loc st :=
  fun r hp ls hl H locs hj => lv_iconst hC.x hC.b d hv (k r hp ls hl H locs hj)
theorem j_bipush (hC : jC Γ cc nL own ret lay N) {n : Int} {v : Int32} (d : decode cc pc = .ok (.bipush n, 2)) (hv : (Int8.ofInt n).toInt32 = v) (k : JP Γ Qf P κ (pc + 2) loc (.int v :: st)) : JP Γ Qf P κ pc loc st :=
  fun r hp ls hl H locs hj => lv_bipush hC.x hC.b d hv (k r hp ls hl H locs hj)
theorem j_sipush (hC : jC Γ cc nL own ret lay N) {n : Int} {v : Int32} (d : decode cc pc = .ok (.sipush n, 3)) (hv : (Int16.ofInt n).toInt32 = v) (k : JP Γ Qf P κ (pc + 3) loc (.int v :: st)) : JP Γ Qf P κ pc loc st :=
  fun r hp ls hl H locs hj => lv_sipush hC.x hC.b d hv (k r hp ls hl H locs hj)
theorem j_lconst (hC : jC Γ cc nL own ret lay N) {n : Fin 2} {v : Int64} (d : decode cc pc = .ok (.lconst n, 1)) (hv : Int64.ofNat (n : Nat) = v) (k : JP Γ Qf P κ (pc + 1) loc (.long v :: st)) : JP Γ Qf P κ pc loc st :=
  fun r hp ls hl H locs hj => lv_lconst hC.x hC.b d hv (k r hp ls hl H locs hj)
theorem j_ldc (hC : jC Γ cc nL own ret lay N) {i : Nat} {v : Int32} (d : decode cc pc = .ok (.ldc i, 2)) (hw : Cond.constant own i v ∈ wsL_law) (k : JP Γ Qf P κ (pc + 2) loc (.int v :: st)) : JP Γ Qf P κ pc loc st :=
  fun r hp ls hl H locs hj => lv_ldc hC.x hC.b hC.o (hC.ts _ hw) d (k r hp ls hl H locs hj)
theorem j_ldcw (hC : jC Γ cc nL own ret lay N) {i : Nat} {v : Int32} (d : decode cc pc = .ok (.ldc_w i, 3)) (hw : Cond.constant own i v ∈ wsL_law) (k : JP Γ Qf P κ (pc + 3) loc (.int v :: st)) : JP Γ Qf P κ pc loc st :=
  fun r hp ls hl H locs hj => lv_ldcw hC.x hC.b hC.o (hC.ts _ hw) d (k r hp ls hl H locs hj)
theorem j_ldc2 (hC : jC Γ cc nL own ret lay N) {i : Nat} {v : Int64} (d : decode cc pc = .ok (.ldc2_w i, 3)) (hw : Cond.constantLong own i v ∈ wsL_law) (k : JP Γ Qf P κ (pc + 3) loc (.long v :: st)) : JP Γ Qf P κ pc loc st :=
  fun r hp ls hl H locs hj => lv_ldc2 hC.x hC.b hC.o (hC.ts _ hw) d (k r hp ls hl H locs hj)
theorem j_ldcS (hC : jC Γ cc nL own ret lay N) {i x : Nat} {tx : String} (d : decode cc pc = .ok (.ldc i, 2)) (hq : tmJS[x]? = some (own, i, tx)) (k : JP Γ Qf P κ (pc + 2) loc (.ref (dadK (gΔ Γ) x) :: st)) : JP Γ Qf P κ pc loc st :=
  fun r hp ls hl H locs hj => va_ldcS hC.x hC.b hC.o (hC.sr.1 x _ hq) d (k r hp ls hl H locs hj)
theorem j_iload_n (hC : jC Γ cc nL own ret lay N) {n : Fin 4} {i : Nat} {x : Int32} (d : decode cc pc = .ok (.iload_n n, 1)) (q : Nat) (hq : loc[q]? = some (i, .int x)) (hi : (n : Nat) = i) (k : JP Γ Qf P κ (pc + 1) loc (.int x :: st)) : JP Γ Qf P κ pc loc st :=
  fun r hp ls hl H locs hj => lv_iload_n hC.x hC.b d hi (lv_at hl q hq) (k r hp ls hl H locs hj)
theorem j_iload (hC : jC Γ cc nL own ret lay N) {i : Nat} {x : Int32} (d : decode cc pc = .ok (.iload i, 2)) (q : Nat) (hq : loc[q]? = some (i, .int x)) (k : JP Γ Qf P κ (pc + 2) loc (.int x :: st)) : JP Γ Qf P κ pc loc st :=
  fun r hp ls hl H locs hj => lv_iload hC.x hC.b d (lv_at hl q hq) (k r hp ls hl H locs hj)
theorem j_lload_n (hC : jC Γ cc nL own ret lay N) {n : Fin 4} {i : Nat} {x : Int64} (d : decode cc pc = .ok (.lload_n n, 1)) (q : Nat) (hq : loc[q]? = some (i, .long x)) (hi : (n : Nat) = i) (k : JP Γ Qf P κ (pc + 1) loc (.long x :: st)) : JP Γ Qf P κ pc loc st :=
  fun r hp ls hl H locs hj => lv_lload_n hC.x hC.b d hi (lv_at hl q hq) (k r hp ls hl H locs hj)
theorem j_lload (hC : jC Γ cc nL own ret lay N) {i : Nat} {x : Int64} (d : decode cc pc = .ok (.lload i, 2)) (q : Nat) (hq : loc[q]? = some (i, .long x)) (k : JP Γ Qf P κ (pc + 2) loc (.long x :: st)) : JP Γ Qf P κ pc loc st :=
  fun r hp ls hl H locs hj => lv_lload hC.x hC.b d (lv_at hl q hq) (k r hp ls hl H locs hj)
theorem j_aload_n (hC : jC Γ cc nL own ret lay N) {n : Fin 4} {i : Nat} {x : Nat} (d : decode cc pc = .ok (.aload_n n, 1)) (q : Nat) (hq : loc[q]? = some (i, .ref x)) (hi : (n : Nat) = i) (k : JP Γ Qf P κ (pc + 1) loc (.ref x :: st)) : JP Γ Qf P κ pc loc st :=
  fun r hp ls hl H locs hj => lv_aload_n hC.x hC.b d hi (lv_at hl q hq) (k r hp ls hl H locs hj)
theorem j_aload (hC : jC Γ cc nL own ret lay N) {i : Nat} {x : Nat} (d : decode cc pc = .ok (.aload i, 2)) (q : Nat) (hq : loc[q]? = some (i, .ref x)) (k : JP Γ Qf P κ (pc + 2) loc (.ref x :: st)) : JP Γ Qf P κ pc loc st :=
  fun r hp ls hl H locs hj => lv_aload hC.x hC.b d (lv_at hl q hq) (k r hp ls hl H locs hj)
theorem j_istore_n (hC : jC Γ cc nL own ret lay N) {n : Fin 4} {i : Nat} {x : Int32} (d : decode cc pc = .ok (.istore_n n, 1)) (hi : (n : Nat) = i) (hn : i < nL) (hl' : (i, Value.int x) :: loc.filter (fun q => !(q.1 == i) && !(q.1 + 1 == i && q.2.category == 2)) = loc') (k : JP Γ Qf P κ (pc + 1) loc' st) : JP Γ Qf P κ pc loc (.int x :: st) :=
  fun r hp _ hl H locs hj => lv_istore_n hC.x hC.b d hi hl (hC.n ▸ hn) hl' (fun ls hl => k r hp ls hl H locs hj)
theorem j_istore (hC : jC Γ cc nL own ret lay N) {i : Nat} {x : Int32} (d : decode cc pc = .ok (.istore i, 2)) (hn : i < nL) (hl' : (i, Value.int x) :: loc.filter (fun q => !(q.1 == i) && !(q.1 + 1 == i && q.2.category == 2)) = loc') (k : JP Γ Qf P κ (pc + 2) loc' st) : JP Γ Qf P κ pc loc (.int x :: st) :=
  fun r hp _ hl H locs hj => lv_istore hC.x hC.b d hl (hC.n ▸ hn) hl' (fun ls hl => k r hp ls hl H locs hj)
theorem j_lstore_n (hC : jC Γ cc nL own ret lay N) {n : Fin 4} {i : Nat} {x : Int64} (d : decode cc pc = .ok (.lstore_n n, 1)) (hi : (n : Nat) = i) (hn : i + 1 < nL) (hl' : (i, Value.long x) :: loc.filter (fun q => !(q.1 == i) && (!(q.1 == i + 1) && !(q.1 + 1 == i && q.2.category == 2))) = loc') (k : JP Γ Qf P κ (pc + 1) loc' st) : JP Γ Qf P κ pc loc (.long x :: st) :=
  fun r hp _ hl H locs hj => lv_lstore_n hC.x hC.b d hi hl (hC.n ▸ hn) hl' (fun ls hl => k r hp ls hl H locs hj)
theorem j_lstore (hC : jC Γ cc nL own ret lay N) {i : Nat} {x : Int64} (d : decode cc pc = .ok (.lstore i, 2)) (hn : i + 1 < nL) (hl' : (i, Value.long x) :: loc.filter (fun q => !(q.1 == i) && (!(q.1 == i + 1) && !(q.1 + 1 == i && q.2.category == 2))) = loc') (k : JP Γ Qf P κ (pc + 2) loc' st) : JP Γ Qf P κ pc loc (.long x :: st) :=
  fun r hp _ hl H locs hj => lv_lstore hC.x hC.b d hl (hC.n ▸ hn) hl' (fun ls hl => k r hp ls hl H locs hj)
theorem j_astore_n (hC : jC Γ cc nL own ret lay N) {n : Fin 4} {i : Nat} {x : Nat} (d : decode cc pc = .ok (.astore_n n, 1)) (hi : (n : Nat) = i) (hn : i < nL) (hl' : (i, Value.ref x) :: loc.filter (fun q => !(q.1 == i) && !(q.1 + 1 == i && q.2.category == 2)) = loc') (k : JP Γ Qf P κ (pc + 1) loc' st) : JP Γ Qf P κ pc loc (.ref x :: st) :=
  fun r hp _ hl H locs hj => lv_astore_n hC.x hC.b d hi hl (hC.n ▸ hn) hl' (fun ls hl => k r hp ls hl H locs hj)
theorem j_astore (hC : jC Γ cc nL own ret lay N) {i : Nat} {x : Nat} (d : decode cc pc = .ok (.astore i, 2)) (hn : i < nL) (hl' : (i, Value.ref x) :: loc.filter (fun q => !(q.1 == i) && !(q.1 + 1 == i && q.2.category == 2)) = loc') (k : JP Γ Qf P κ (pc + 2) loc' st) : JP Γ Qf P κ pc loc (.ref x :: st) :=
  fun r hp _ hl H locs hj => lv_astore hC.x hC.b d hl (hC.n ▸ hn) hl' (fun ls hl => k r hp ls hl H locs hj)
theorem j_iinc (hC : jC Γ cc nL own ret lay N) {i : Nat} {n : Int} {x v : Int32} (d : decode cc pc = .ok (.iinc i n, 3)) (q : Nat) (hq : loc[q]? = some (i, .int x)) (hv : Int32.ofInt n = v) (hn : i < nL) (hl' : (i, Value.int (x + v)) :: loc.filter (fun q => !(q.1 == i) && !(q.1 + 1 == i && q.2.category == 2)) = loc') (k : JP Γ Qf P κ (pc + 3) loc' st) : JP Γ Qf P κ pc loc st :=
  fun r hp _ hl H locs hj => lv_iinc hC.x hC.b d hl hq (by rw [hv]) (hC.n ▸ hn) hl' (fun ls hl => k r hp ls hl H locs hj)
theorem j_iadd (hC : jC Γ cc nL own ret lay N) {x y : Int32} (d : decode cc pc = .ok (.iadd, 1)) (k : JP Γ Qf P κ (pc + 1) loc (.int (x + y) :: st)) : JP Γ Qf P κ pc loc (.int y :: .int x :: st) :=
  fun r hp ls hl H locs hj => lv_iadd hC.x hC.b d (k r hp ls hl H locs hj)
theorem j_isub (hC : jC Γ cc nL own ret lay N) {x y : Int32} (d : decode cc pc = .ok (.isub, 1)) (k : JP Γ Qf P κ (pc + 1) loc (.int (x - y) :: st)) : JP Γ Qf P κ pc loc (.int y :: .int x :: st) :=
  fun r hp ls hl H locs hj => lv_isub hC.x hC.b d (k r hp ls hl H locs hj)
theorem j_imul (hC : jC Γ cc nL own ret lay N) {x y : Int32} (d : decode cc pc = .ok (.imul, 1)) (k : JP Γ Qf P κ (pc + 1) loc (.int (x * y) :: st)) : JP Γ Qf P κ pc loc (.int y :: .int x :: st) :=
  fun r hp ls hl H locs hj => lv_imul hC.x hC.b d (k r hp ls hl H locs hj)
theorem j_iand (hC : jC Γ cc nL own ret lay N) {x y : Int32} (d : decode cc pc = .ok (.iand, 1)) (k : JP Γ Qf P κ (pc + 1) loc (.int (x &&& y) :: st)) : JP Γ Qf P κ pc loc (.int y :: .int x :: st) :=
  fun r hp ls hl H locs hj => lv_iand hC.x hC.b d (k r hp ls hl H locs hj)
theorem j_ior (hC : jC Γ cc nL own ret lay N) {x y : Int32} (d : decode cc pc = .ok (.ior, 1)) (k : JP Γ Qf P κ (pc + 1) loc (.int (x ||| y) :: st)) : JP Γ Qf P κ pc loc (.int y :: .int x :: st) :=
  fun r hp ls hl H locs hj => lv_ior hC.x hC.b d (k r hp ls hl H locs hj)
theorem j_ixor (hC : jC Γ cc nL own ret lay N) {x y : Int32} (d : decode cc pc = .ok (.ixor, 1)) (k : JP Γ Qf P κ (pc + 1) loc (.int (x ^^^ y) :: st)) : JP Γ Qf P κ pc loc (.int y :: .int x :: st) :=
  fun r hp ls hl H locs hj => lv_ixor hC.x hC.b d (k r hp ls hl H locs hj)
theorem j_ishl (hC : jC Γ cc nL own ret lay N) {x y : Int32} (d : decode cc pc = .ok (.ishl, 1)) (k : JP Γ Qf P κ (pc + 1) loc (.int (x <<< (y &&& 31)) :: st)) : JP Γ Qf P κ pc loc (.int y :: .int x :: st) :=
  fun r hp ls hl H locs hj => lv_ishl hC.x hC.b d (k r hp ls hl H locs hj)
theorem j_ishr (hC : jC Γ cc nL own ret lay N) {x y : Int32} (d : decode cc pc = .ok (.ishr, 1)) (k : JP Γ Qf P κ (pc + 1) loc (.int (x >>> (y &&& 31)) :: st)) : JP Γ Qf P κ pc loc (.int y :: .int x :: st) :=
  fun r hp ls hl H locs hj => lv_ishr hC.x hC.b d (k r hp ls hl H locs hj)
theorem j_ladd (hC : jC Γ cc nL own ret lay N) {x y : Int64} (d : decode cc pc = .ok (.ladd, 1)) (k : JP Γ Qf P κ (pc + 1) loc (.long (x + y) :: st)) : JP Γ Qf P κ pc loc (.long y :: .long x :: st) :=
  fun r hp ls hl H locs hj => lv_ladd hC.x hC.b d (k r hp ls hl H locs hj)
theorem j_lsub (hC : jC Γ cc nL own ret lay N) {x y : Int64} (d : decode cc pc = .ok (.lsub, 1)) (k : JP Γ Qf P κ (pc + 1) loc (.long (x - y) :: st)) : JP Γ Qf P κ pc loc (.long y :: .long x :: st) :=
  fun r hp ls hl H locs hj => lv_lsub hC.x hC.b d (k r hp ls hl H locs hj)
theorem j_lmul (hC : jC Γ cc nL own ret lay N) {x y : Int64} (d : decode cc pc = .ok (.lmul, 1)) (k : JP Γ Qf P κ (pc + 1) loc (.long (x * y) :: st)) : JP Γ Qf P κ pc loc (.long y :: .long x :: st) :=
  fun r hp ls hl H locs hj => lv_lmul hC.x hC.b d (k r hp ls hl H locs hj)
theorem j_land (hC : jC Γ cc nL own ret lay N) {x y : Int64} (d : decode cc pc = .ok (.land, 1)) (k : JP Γ Qf P κ (pc + 1) loc (.long (x &&& y) :: st)) : JP Γ Qf P κ pc loc (.long y :: .long x :: st) :=
  fun r hp ls hl H locs hj => lv_land hC.x hC.b d (k r hp ls hl H locs hj)
theorem j_lor (hC : jC Γ cc nL own ret lay N) {x y : Int64} (d : decode cc pc = .ok (.lor, 1)) (k : JP Γ Qf P κ (pc + 1) loc (.long (x ||| y) :: st)) : JP Γ Qf P κ pc loc (.long y :: .long x :: st) :=
  fun r hp ls hl H locs hj => lv_lor hC.x hC.b d (k r hp ls hl H locs hj)
theorem j_lxor (hC : jC Γ cc nL own ret lay N) {x y : Int64} (d : decode cc pc = .ok (.lxor, 1)) (k : JP Γ Qf P κ (pc + 1) loc (.long (x ^^^ y) :: st)) : JP Γ Qf P κ pc loc (.long y :: .long x :: st) :=
  fun r hp ls hl H locs hj => lv_lxor hC.x hC.b d (k r hp ls hl H locs hj)
theorem j_iushr (hC : jC Γ cc nL own ret lay N) {x y : Int32} (d : decode cc pc = .ok (.iushr, 1)) (k : JP Γ Qf P κ (pc + 1) loc (.int ((x.toUInt32 >>> (y.toUInt32 &&& Int32.toUInt32 31)).toInt32) :: st)) : JP Γ Qf P κ pc loc (.int y :: .int x :: st) :=
  fun r hp ls hl H locs hj => lv_iushr hC.x hC.b d rfl (k r hp ls hl H locs hj)
theorem j_lushr (hC : jC Γ cc nL own ret lay N) {x : Int64} {y : Int32} (d : decode cc pc = .ok (.lushr, 1)) (k : JP Γ Qf P κ (pc + 1) loc (.long ((x.toUInt64 >>> (y.toInt64.toUInt64 &&& Int64.toUInt64 63)).toInt64) :: st)) : JP Γ Qf P κ pc loc (.int y :: .long x :: st) :=
  fun r hp ls hl H locs hj => lv_lushr hC.x hC.b d rfl (k r hp ls hl H locs hj)
theorem j_lshl (hC : jC Γ cc nL own ret lay N) {x : Int64} {y : Int32} (d : decode cc pc = .ok (.lshl, 1)) (k : JP Γ Qf P κ (pc + 1) loc (.long (x <<< (y.toInt64 &&& 63)) :: st)) : JP Γ Qf P κ pc loc (.int y :: .long x :: st) :=
  fun r hp ls hl H locs hj => lv_lshl hC.x hC.b d rfl (k r hp ls hl H locs hj)
theorem j_idiv (hC : jC Γ cc nL own ret lay N) {x y : Int32} (d : decode cc pc = .ok (.idiv, 1)) (k : JP Γ Qf P κ (pc + 1) loc (.int (x / y) :: st)) : JP Γ Qf (ckZ y P) κ pc loc (.int y :: .int x :: st) :=
  fun r hp ls hl H locs hj => lv_idiv hC.x hC.b d (ckZ_some hp).1 (k r (ckZ_some hp).2 ls hl H locs hj)
theorem j_irem (hC : jC Γ cc nL own ret lay N) {x y : Int32} (d : decode cc pc = .ok (.irem, 1)) (k : JP Γ Qf P κ (pc + 1) loc (.int (x - x / y * y) :: st)) : JP Γ Qf (ckZ y P) κ pc loc (.int y :: .int x :: st) :=
  fun r hp ls hl H locs hj => lv_irem hC.x hC.b d (ckZ_some hp).1 (k r (ckZ_some hp).2 ls hl H locs hj)
theorem j_lrem (hC : jC Γ cc nL own ret lay N) {x y : Int64} (d : decode cc pc = .ok (.lrem, 1)) (k : JP Γ Qf P κ (pc + 1) loc (.long (x - x / y * y) :: st)) : JP Γ Qf (ckZL y P) κ pc loc (.long y :: .long x :: st) :=
  fun r hp ls hl H locs hj => lv_lrem hC.x hC.b d (ckZL_some hp).1 (k r (ckZL_some hp).2 ls hl H locs hj)
theorem j_i2l (hC : jC Γ cc nL own ret lay N) {x : Int32} (d : decode cc pc = .ok (.i2l, 1)) (k : JP Γ Qf P κ (pc + 1) loc (.long x.toInt64 :: st)) : JP Γ Qf P κ pc loc (.int x :: st) :=
  fun r hp ls hl H locs hj => lv_i2l hC.x hC.b d rfl (k r hp ls hl H locs hj)
theorem j_l2i (hC : jC Γ cc nL own ret lay N) {x : Int64} (d : decode cc pc = .ok (.l2i, 1)) (k : JP Γ Qf P κ (pc + 1) loc (.int x.toInt32 :: st)) : JP Γ Qf P κ pc loc (.long x :: st) :=
  fun r hp ls hl H locs hj => lv_l2i hC.x hC.b d rfl (k r hp ls hl H locs hj)
theorem j_i2b (hC : jC Γ cc nL own ret lay N) {x : Int32} (d : decode cc pc = .ok (.i2b, 1)) (k : JP Γ Qf P κ (pc + 1) loc (.int x.toInt8.toInt32 :: st)) : JP Γ Qf P κ pc loc (.int x :: st) :=
  fun r hp ls hl H locs hj => lv_i2b hC.x hC.b d rfl (k r hp ls hl H locs hj)
theorem j_i2c (hC : jC Γ cc nL own ret lay N) {x : Int32} (d : decode cc pc = .ok (.i2c, 1)) (k : JP Γ Qf P κ (pc + 1) loc (.int (x.toUInt32 % 65536).toInt32 :: st)) : JP Γ Qf P κ pc loc (.int x :: st) :=
  fun r hp ls hl H locs hj => lv_i2c hC.x hC.b d rfl (k r hp ls hl H locs hj)
theorem j_lcmp (hC : jC Γ cc nL own ret lay N) {x y : Int64} (d : decode cc pc = .ok (.lcmp, 1)) (k : JP Γ Qf P κ (pc + 1) loc (.int (lg_cmp x y) :: st)) : JP Γ Qf P κ pc loc (.long y :: .long x :: st) :=
  fun r hp ls hl H locs hj => W.lcmp hC.x hC.b d (k r hp ls hl H locs hj)
theorem j_dup (hC : jC Γ cc nL own ret lay N) {v : Value} (d : decode cc pc = .ok (.dup, 1)) (hv : v.category = 1) (k : JP Γ Qf P κ (pc + 1) loc (v :: v :: st)) : JP Γ Qf P κ pc loc (v :: st) :=
  fun r hp ls hl H locs hj => lv_dup hC.x hC.b d hv (k r hp ls hl H locs hj)
theorem j_dupx1 (hC : jC Γ cc nL own ret lay N) {v w : Value} (d : decode cc pc = .ok (.dup_x1, 1)) (hv : v.category = 1) (hw : w.category = 1) (k : JP Γ Qf P κ (pc + 1) loc (v :: w :: v :: st)) : JP Γ Qf P κ pc loc (v :: w :: st) :=
  fun r hp ls hl H locs hj => lv_dup_x1 hC.x hC.b d hv hw (k r hp ls hl H locs hj)
theorem j_dup2 (hC : jC Γ cc nL own ret lay N) {v w : Value} (d : decode cc pc = .ok (.dup2, 1)) (hv : v.category = 1) (hw : w.category = 1) (k : JP Γ Qf P κ (pc + 1) loc (v :: w :: v :: w :: st)) : JP Γ Qf P κ pc loc (v :: w :: st) :=
  fun r hp ls hl H locs hj => lv_dup2_11 hC.x hC.b d hv hw (k r hp ls hl H locs hj)
theorem j_pop (hC : jC Γ cc nL own ret lay N) {v : Value} (d : decode cc pc = .ok (.pop, 1)) (hv : v.category = 1) (k : JP Γ Qf P κ (pc + 1) loc st) : JP Γ Qf P κ pc loc (v :: st) :=
  fun r hp ls hl H locs hj => lv_pop hC.x hC.b d hv (k r hp ls hl H locs hj)
theorem j_goto (hC : jC Γ cc nL own ret lay N) {off : Int} {tgt : Nat} (d : decode cc pc = .ok (.goto off, 3)) (ht : (pc : Int) + off = (tgt : Int)) (k : JP Γ Qf P κ tgt loc st) : JP Γ Qf P κ pc loc st :=
  fun r hp ls hl H locs hj => lv_goto hC.x hC.b d ht (k r hp ls hl H locs hj)
-- names
theorem j_nmi {x : Int32} {p : Int32 → Option ρ} (k : ∀ y : Int32, JP Γ Qf (p y) κ pc loc (.int y :: st)) : JP Γ Qf (nm x p) κ pc loc (.int x :: st) := k x
theorem j_nml {x : Int64} {p : Int64 → Option ρ} (k : ∀ y : Int64, JP Γ Qf (p y) κ pc loc (.long y :: st)) : JP Γ Qf (nm x p) κ pc loc (.long x :: st) := k x
theorem j_icmp_eq (hC : jC Γ cc nL own ret lay N) {x y : Int32} {off : Int} {tgt : Nat} (d : decode cc pc = .ok (.if_icmp .eq off, 3)) (ht : (pc : Int) + off = (tgt : Int)) (k1 : JP Γ Qf P1 κ tgt loc st) (k2 : JP Γ Qf P2 κ (pc + 3) loc st) : JP Γ Qf (if x = y then P1 else P2) κ pc loc (.int y :: .int x :: st) :=
  fun r hp ls hl H locs hj => lv_icmp_eq hC.x hC.b d ht (fun c => k1 r (by rwa [if_pos c] at hp) ls hl H locs hj) (fun c => k2 r (by rwa [if_neg c] at hp) ls hl H locs hj)
theorem j_icmp_ne (hC : jC Γ cc nL own ret lay N) {x y : Int32} {off : Int} {tgt : Nat} (d : decode cc pc = .ok (.if_icmp .ne off, 3)) (ht : (pc : Int) + off = (tgt : Int)) (k1 : JP Γ Qf P1 κ (pc + 3) loc st) (k2 : JP Γ Qf P2 κ tgt loc st) : JP Γ Qf (if x = y then P1 else P2) κ pc loc (.int y :: .int x :: st) :=
  fun r hp ls hl H locs hj => lv_icmp_ne hC.x hC.b d ht (fun c => k2 r (by rwa [if_neg (c)] at hp) ls hl H locs hj) (fun c => k1 r (by rwa [if_pos (c)] at hp) ls hl H locs hj)
theorem j_icmp_lt (hC : jC Γ cc nL own ret lay N) {x y : Int32} {off : Int} {tgt : Nat} (d : decode cc pc = .ok (.if_icmp .lt off, 3)) (ht : (pc : Int) + off = (tgt : Int)) (k1 : JP Γ Qf P1 κ tgt loc st) (k2 : JP Γ Qf P2 κ (pc + 3) loc st) : JP Γ Qf (if x < y then P1 else P2) κ pc loc (.int y :: .int x :: st) :=
  fun r hp ls hl H locs hj => lv_icmp_lt hC.x hC.b d ht (fun c => k1 r (by rwa [if_pos c] at hp) ls hl H locs hj) (fun c => k2 r (by rwa [if_neg c] at hp) ls hl H locs hj)
theorem j_icmp_ge (hC : jC Γ cc nL own ret lay N) {x y : Int32} {off : Int} {tgt : Nat} (d : decode cc pc = .ok (.if_icmp .ge off, 3)) (ht : (pc : Int) + off = (tgt : Int)) (k1 : JP Γ Qf P1 κ (pc + 3) loc st) (k2 : JP Γ Qf P2 κ tgt loc st) : JP Γ Qf (if x < y then P1 else P2) κ pc loc (.int y :: .int x :: st) :=
  fun r hp ls hl H locs hj => lv_icmp_ge hC.x hC.b d ht (fun c => k2 r (by rwa [if_neg (Int32.not_lt.mpr c)] at hp) ls hl H locs hj) (fun c => k1 r (by rwa [if_pos (Int32.not_le.mp c)] at hp) ls hl H locs hj)
theorem j_icmp_le (hC : jC Γ cc nL own ret lay N) {x y : Int32} {off : Int} {tgt : Nat} (d : decode cc pc = .ok (.if_icmp .le off, 3)) (ht : (pc : Int) + off = (tgt : Int)) (k1 : JP Γ Qf P1 κ tgt loc st) (k2 : JP Γ Qf P2 κ (pc + 3) loc st) : JP Γ Qf (if x ≤ y then P1 else P2) κ pc loc (.int y :: .int x :: st) :=
  fun r hp ls hl H locs hj => lv_icmp_le hC.x hC.b d ht (fun c => k1 r (by rwa [if_pos c] at hp) ls hl H locs hj) (fun c => k2 r (by rwa [if_neg c] at hp) ls hl H locs hj)
theorem j_icmp_gt (hC : jC Γ cc nL own ret lay N) {x y : Int32} {off : Int} {tgt : Nat} (d : decode cc pc = .ok (.if_icmp .gt off, 3)) (ht : (pc : Int) + off = (tgt : Int)) (k1 : JP Γ Qf P1 κ (pc + 3) loc st) (k2 : JP Γ Qf P2 κ tgt loc st) : JP Γ Qf (if x ≤ y then P1 else P2) κ pc loc (.int y :: .int x :: st) :=
  fun r hp ls hl H locs hj => lv_icmp_gt hC.x hC.b d ht (fun c => k2 r (by rwa [if_neg (Int32.not_le.mpr c)] at hp) ls hl H locs hj) (fun c => k1 r (by rwa [if_pos (Int32.not_lt.mp c)] at hp) ls hl H locs hj)
theorem j_if_eq (hC : jC Γ cc nL own ret lay N) {x : Int32} {off : Int} {tgt : Nat} (d : decode cc pc = .ok (.ifCond .eq off, 3)) (ht : (pc : Int) + off = (tgt : Int)) (k1 : JP Γ Qf P1 κ tgt loc st) (k2 : JP Γ Qf P2 κ (pc + 3) loc st) : JP Γ Qf (if x = 0 then P1 else P2) κ pc loc (.int x :: st) :=
  fun r hp ls hl H locs hj => lv_if_eq hC.x hC.b d ht (fun c => k1 r (by rwa [if_pos c] at hp) ls hl H locs hj) (fun c => k2 r (by rwa [if_neg c] at hp) ls hl H locs hj)
theorem j_if_ne (hC : jC Γ cc nL own ret lay N) {x : Int32} {off : Int} {tgt : Nat} (d : decode cc pc = .ok (.ifCond .ne off, 3)) (ht : (pc : Int) + off = (tgt : Int)) (k1 : JP Γ Qf P1 κ (pc + 3) loc st) (k2 : JP Γ Qf P2 κ tgt loc st) : JP Γ Qf (if x = 0 then P1 else P2) κ pc loc (.int x :: st) :=
  fun r hp ls hl H locs hj => lv_if_ne hC.x hC.b d ht (fun c => k2 r (by rwa [if_neg (c)] at hp) ls hl H locs hj) (fun c => k1 r (by rwa [if_pos (c)] at hp) ls hl H locs hj)
theorem j_if_lt (hC : jC Γ cc nL own ret lay N) {x : Int32} {off : Int} {tgt : Nat} (d : decode cc pc = .ok (.ifCond .lt off, 3)) (ht : (pc : Int) + off = (tgt : Int)) (k1 : JP Γ Qf P1 κ tgt loc st) (k2 : JP Γ Qf P2 κ (pc + 3) loc st) : JP Γ Qf (if x < 0 then P1 else P2) κ pc loc (.int x :: st) :=
  fun r hp ls hl H locs hj => lv_if_lt hC.x hC.b d ht (fun c => k1 r (by rwa [if_pos c] at hp) ls hl H locs hj) (fun c => k2 r (by rwa [if_neg c] at hp) ls hl H locs hj)
theorem j_if_ge (hC : jC Γ cc nL own ret lay N) {x : Int32} {off : Int} {tgt : Nat} (d : decode cc pc = .ok (.ifCond .ge off, 3)) (ht : (pc : Int) + off = (tgt : Int)) (k1 : JP Γ Qf P1 κ (pc + 3) loc st) (k2 : JP Γ Qf P2 κ tgt loc st) : JP Γ Qf (if x < 0 then P1 else P2) κ pc loc (.int x :: st) :=
  fun r hp ls hl H locs hj => lv_if_ge hC.x hC.b d ht (fun c => k2 r (by rwa [if_neg (Int32.not_lt.mpr c)] at hp) ls hl H locs hj) (fun c => k1 r (by rwa [if_pos (Int32.not_le.mp c)] at hp) ls hl H locs hj)
theorem j_if_le (hC : jC Γ cc nL own ret lay N) {x : Int32} {off : Int} {tgt : Nat} (d : decode cc pc = .ok (.ifCond .le off, 3)) (ht : (pc : Int) + off = (tgt : Int)) (k1 : JP Γ Qf P1 κ tgt loc st) (k2 : JP Γ Qf P2 κ (pc + 3) loc st) : JP Γ Qf (if x ≤ 0 then P1 else P2) κ pc loc (.int x :: st) :=
  fun r hp ls hl H locs hj => lv_if_le hC.x hC.b d ht (fun c => k1 r (by rwa [if_pos c] at hp) ls hl H locs hj) (fun c => k2 r (by rwa [if_neg c] at hp) ls hl H locs hj)
theorem j_if_gt (hC : jC Γ cc nL own ret lay N) {x : Int32} {off : Int} {tgt : Nat} (d : decode cc pc = .ok (.ifCond .gt off, 3)) (ht : (pc : Int) + off = (tgt : Int)) (k1 : JP Γ Qf P1 κ (pc + 3) loc st) (k2 : JP Γ Qf P2 κ tgt loc st) : JP Γ Qf (if x ≤ 0 then P1 else P2) κ pc loc (.int x :: st) :=
  fun r hp ls hl H locs hj => lv_if_gt hC.x hC.b d ht (fun c => k2 r (by rwa [if_neg (Int32.not_le.mpr c)] at hp) ls hl H locs hj) (fun c => k1 r (by rwa [if_pos (Int32.not_lt.mp c)] at hp) ls hl H locs hj)
theorem j_ite {c : Prop} [Decidable c] (k1 : c → JP Γ Qf P1 κ pc loc st) (k2 : ¬ c → JP Γ Qf P2 κ pc loc st) : JP Γ Qf (if c then P1 else P2) κ pc loc st := by
  by_cases h : c
  · rw [if_pos h]; exact k1 h
  · rw [if_neg h]; exact k2 h
theorem j_tin (hC : jC Γ cc nL own ret lay N) {dflt lo hi : Int} {offs : Array Int} {len : Nat} {x : Int32} {off : Int} {tgt : Nat} (d : decode cc pc = .ok (.tableswitch dflt lo hi offs, len)) (v : Int) (hx : x.toInt = v) (h1 : lo ≤ v) (h2 : v ≤ hi) (ho : offs[(v - lo).toNat]? = some off) (ht : (pc : Int) + off = (tgt : Int)) (k : JP Γ Qf P κ tgt loc st) : JP Γ Qf P κ pc loc (.int x :: st) := by
  subst hx
  exact fun r hp ls hl H locs hj => lv_tableIn hC.x hC.b d (Int.not_lt.mpr h1) (Int.not_lt.mpr h2) ho ht (k r hp ls hl H locs hj)
theorem j_tout (hC : jC Γ cc nL own ret lay N) {dflt lo hi : Int} {offs : Array Int} {len : Nat} {x : Int32} {tgt : Nat} (d : decode cc pc = .ok (.tableswitch dflt lo hi offs, len)) (h : x.toInt < lo ∨ hi < x.toInt) (ht : (pc : Int) + dflt = (tgt : Int)) (k : JP Γ Qf P κ tgt loc st) : JP Γ Qf P κ pc loc (.int x :: st) :=
  fun r hp ls hl H locs hj => lv_tableOut hC.x hC.b d h ht (k r hp ls hl H locs hj)
-- heap rows
/-- what a field's use links: class number, place -/
def kwF (own : String) (idx ci fi : Nat) : Prop := ∃ (C : String) (T : u_T) (M : Nat), vwCl[ci]? = some (C, T, M) ∧ fi < M ∧ (∀ w ∈ u_ws C T M, w ∈ wsL_law) ∧ Cond.fieldLink own idx (T fi).1 (T fi).2.1 (T fi).2.2.1 ∈ wsL_law
/-- and what a write wants more -/
def kwP (own : String) (idx ci fi : Nat) (ty : FieldType) : Prop := ∃ (C : String) (T : u_T) (M : Nat) (ty0 : Nat → FieldType), vwCl[ci]? = some (C, T, M) ∧ fi < M ∧ (∀ w ∈ u_ws C T M, w ∈ wsL_law) ∧ Cond.fieldLink own idx (T fi).1 (T fi).2.1 (T fi).2.2.1 ∈ wsL_law ∧ (∀ k, k < M → parseFieldDescriptor (T k).2.2.1 = some (ty0 k)) ∧ (∀ a, a < M → ∀ b, b < M → a ≠ b → (T a).2.1 ≠ (T b).2.1) ∧ (T fi).2.2.2 = false ∧ parseFieldDescriptor (T fi).2.2.1 = some ty
theorem jH.cell (hC : jC Γ cc nL own ret lay N) {k : Nat} {kd : Kd} (hk : lay k = kd) (hkN : k < N) : (dW (gΔ Γ) κ)[k]? = some (gad Γ k, cel (dcA (gΔ Γ)) (gad Γ) κ kd k) := by
  unfold dW
  rw [hC.l, hC.cn]
  have h := cwd_get (lay := lay) (N := N) (cA := dcA (gΔ Γ)) (ad := dad (gΔ Γ)) (κ := κ) (rs := drs (gΔ Γ)) hkN
  rw [hk] at h
  exact h
theorem dW_set (hC : jC Γ cc nL own ret lay N) {κ1 : Mem} {k : Nat} {e : va_E} (hkN : k < N) (he : e = cel (dcA (gΔ Γ)) (gad Γ) κ1 (lay k) k) (h : ∀ j, j ≠ k → κ.1 j = κ1.1 j ∧ κ.2.1 j = κ1.2.1 j ∧ κ.2.2 j = κ1.2.2 j) : (dW (gΔ Γ) κ).set k (gad Γ k, e) = dW (gΔ Γ) κ1 := by
  unfold dW
  rw [hC.l, hC.cn]
  refine cwd_set hkN he (fun j hj => ?_)
  obtain ⟨h1, h2, h3⟩ := h j hj
  unfold cel fv
  simp only [h1, h2, h3]
theorem j_getf (hC : jC Γ cc nL own ret lay N) {idx ci fi k : Nat} {fs : List (Nat × Nat)} {f : Nat × Nat} {v : Value} (d : decode cc pc = .ok (.getfield idx, 3)) (hf : kwF own idx ci fi) (hk : lay k = kOB ci fs) (hkN : k < N) (hfi : fs[fi]? = some f) (hv : fv (gad Γ) κ k fi f = v) (kk : JP Γ Qf P κ (pc + 3) loc (v :: st)) : JP Γ Qf P κ pc loc (.ref (gad Γ k) :: st) := by
  intro r hp ls hl H locs hj
  obtain ⟨C, T, M, h1, h2, h3, h4⟩ := hf
  have hl2 : fi < fs.length := (List.getElem?_eq_some_iff.mp hfi).1
  refine va_get (D := dD (gΔ Γ)) (ci := ci) (v := v) (C := C) (T := T) (N := M) hC.x hC.b hC.ts h3 hC.o hC.k hj.1 k (jH.cell hC hk hkN) h1 fi h2 (hC.ts _ h4) (fun _ h => h) ?_ d (kk r hp ls hl H locs hj)
  rw [List.getElem?_map, List.getElem?_range hl2]
  simp [List.getD, hfi, hv]
theorem j_getI (hC : jC Γ cc nL own ret lay N) {idx ci fi k z : Nat} {fs : List (Nat × Nat)} (d : decode cc pc = .ok (.getfield idx, 3)) (hf : kwF own idx ci fi) (hk : lay k = kOB ci fs) (hkN : k < N) (hfi : fs[fi]? = some (0, z)) (kk : JP Γ Qf P κ (pc + 3) loc (.int (mi κ k fi) :: st)) : JP Γ Qf P κ pc loc (.ref (gad Γ k) :: st) := j_getf hC d hf hk hkN hfi rfl kk
theorem j_getL (hC : jC Γ cc nL own ret lay N) {idx ci fi k z : Nat} {fs : List (Nat × Nat)} (d : decode cc pc = .ok (.getfield idx, 3)) (hf : kwF own idx ci fi) (hk : lay k = kOB ci fs) (hkN : k < N) (hfi : fs[fi]? = some (3, z)) (kk : JP Γ Qf P κ (pc + 3) loc (.long (ml κ k fi) :: st)) : JP Γ Qf P κ pc loc (.ref (gad Γ k) :: st) := j_getf hC d hf hk hkN hfi rfl kk
theorem j_getR (hC : jC Γ cc nL own ret lay N) {idx ci fi k z : Nat} {fs : List (Nat × Nat)} (d : decode cc pc = .ok (.getfield idx, 3)) (hf : kwF own idx ci fi) (hk : lay k = kOB ci fs) (hkN : k < N) (hfi : fs[fi]? = some (1, z)) (kk : JP Γ Qf P κ (pc + 3) loc (.ref (gad Γ z) :: st)) : JP Γ Qf P κ pc loc (.ref (gad Γ k) :: st) := j_getf hC d hf hk hkN hfi rfl kk
theorem j_getD (hC : jC Γ cc nL own ret lay N) {idx ci fi k z : Nat} {fs : List (Nat × Nat)} (d : decode cc pc = .ok (.getfield idx, 3)) (hf : kwF own idx ci fi) (hk : lay k = kOB ci fs) (hkN : k < N) (hfi : fs[fi]? = some (2, z)) (kk : JP Γ Qf P κ (pc + 3) loc (.ref (gad Γ (mr κ k fi)) :: st)) : JP Γ Qf P κ pc loc (.ref (gad Γ k) :: st) := j_getf hC d hf hk hkN hfi rfl kk
theorem j_putf (hC : jC Γ cc nL own ret lay N) {idx ci fi k : Nat} {fs : List (Nat × Nat)} {f : Nat × Nat} {ty : FieldType} {v : Value} {κ1 : Mem} (d : decode cc pc = .ok (.putfield idx, 3)) (hf : kwP own idx ci fi ty) (hk : lay k = kOB ci fs) (hkN : k < N) (hfi : fs[fi]? = some f) (hn : narrow ty v = v) (hfit : fits ty v = true) (h1 : ∀ j, j ≠ k → κ.1 j = κ1.1 j ∧ κ.2.1 j = κ1.2.1 j ∧ κ.2.2 j = κ1.2.2 j) (h2 : fv (gad Γ) κ1 k fi f = v) (h3 : ∀ i, i ≠ fi → κ.1 k i = κ1.1 k i ∧ κ.2.1 k i = κ1.2.1 k i ∧ κ.2.2 k i = κ1.2.2 k i)
    (kk : JP Γ Qf P κ1 (pc + 3) loc st) : JP Γ Qf P κ pc loc (v :: .ref (gad Γ k) :: st) := by
  intro r hp ls hl H locs hj
  obtain ⟨C, T, M, ty0, g1, g2, g3, g4, g5, g6, g7, g8⟩ := hf
  have hl2 : fi < fs.length := (List.getElem?_eq_some_iff.mp hfi).1
  refine va_put (D := dD (gΔ Γ)) (ci := ci) (v := v) (C := C) (T := T) (N := M) hC.x hC.b hC.ts g3 ty0 g5 g6 hC.o hC.k hj.1 (hC.d κ) hj.2 k (jH.cell hC hk hkN) g1 fi g2 (hC.ts _ g4) (fun _ h => h) g7 g8 hn hfit (by simp [hl2]) d (fun H1 locs1 hP _ hS => ?_)
  refine kk r hp ls hl H1 locs1 ⟨?_, hS⟩
  rw [dW_set hC (κ := κ) (κ1 := κ1) hkN ?_ h1] at hP
  · exact hP
  · rw [hk]
    show Sum.inr _ = Sum.inr _
    congr 2
    apply List.ext_getElem?
    intro j
    rw [List.getElem?_set]
    simp only [List.length_map, List.length_range, List.getElem?_map]
    by_cases hj2 : fi = j
    · subst hj2
      simp only [if_true, hl2, List.getElem?_range hl2, Option.map_some]
      congr 1
      simp [List.getD, hfi, h2]
    · rw [if_neg hj2]
      rcases Nat.lt_or_ge j fs.length with q | q
      · rw [List.getElem?_range q]
        simp only [Option.map_some]
        congr 1
        obtain ⟨a, b, c⟩ := h3 j (fun z => hj2 z.symm)
        unfold fv
        simp only [a, b, c]
      · rw [List.getElem?_eq_none (by simpa using q)]
        rfl
theorem j_putI (hC : jC Γ cc nL own ret lay N) {idx ci fi k z : Nat} {fs : List (Nat × Nat)} {x : Int32} {ty : FieldType} {p : Mem → Option ρ} (d : decode cc pc = .ok (.putfield idx, 3)) (hf : kwP own idx ci fi ty) (hk : lay k = kOB ci fs) (hkN : k < N) (hfi : fs[fi]? = some (0, z)) (hn : narrow ty (.int x) = .int x) (hfit : fits ty (.int x) = true) (kk : ∀ κ1 : Mem, JP Γ Qf (p κ1) κ1 (pc + 3) loc st) : JP Γ Qf (nm (setI κ k fi x) p) κ pc loc (.int x :: .ref (gad Γ k) :: st) := by
  refine j_putf (κ1 := setI κ k fi x) hC d hf hk hkN hfi hn hfit (fun j hj => ⟨by simp [setI, hj], rfl, rfl⟩) ?_ (fun i hi => ⟨by simp [setI, upd, hi], rfl, rfl⟩) (kk _)
  simp [fv, setI, upd]
theorem j_putL (hC : jC Γ cc nL own ret lay N) {idx ci fi k z : Nat} {fs : List (Nat × Nat)} {x : Int64} {p : Mem → Option ρ} (d : decode cc pc = .ok (.putfield idx, 3)) (hf : kwP own idx ci fi .long) (hk : lay k = kOB ci fs) (hkN : k < N) (hfi : fs[fi]? = some (3, z)) (kk : ∀ κ1 : Mem, JP Γ Qf (p κ1) κ1 (pc + 3) loc st) : JP Γ Qf (nm (setL κ k fi x) p) κ pc loc (.long x :: .ref (gad Γ k) :: st) := by
  refine j_putf (κ1 := setL κ k fi x) hC d hf hk hkN hfi rfl rfl (fun j hj => ⟨rfl, by simp [setL, hj], rfl⟩) ?_ (fun i hi => ⟨rfl, by simp [setL, vp_updL, hi], rfl⟩) (kk _)
  simp [fv, setL, vp_updL]
theorem j_putD (hC : jC Γ cc nL own ret lay N) {idx ci fi k z x : Nat} {fs : List (Nat × Nat)} {ty : FieldType} {p : Mem → Option ρ} (d : decode cc pc = .ok (.putfield idx, 3)) (hf : kwP own idx ci fi ty) (hk : lay k = kOB ci fs) (hkN : k < N) (hfi : fs[fi]? = some (2, z)) (hn : narrow ty (.ref (gad Γ x)) = .ref (gad Γ x)) (hfit : fits ty (.ref (gad Γ x)) = true) (kk : ∀ κ1 : Mem, JP Γ Qf (p κ1) κ1 (pc + 3) loc st) : JP Γ Qf (nm (setR κ k fi x) p) κ pc loc (.ref (gad Γ x) :: .ref (gad Γ k) :: st) := by
  refine j_putf (κ1 := setR κ k fi x) hC d hf hk hkN hfi hn hfit (fun j hj => ⟨rfl, rfl, by funext i; simp [setR, hj]⟩) ?_ (fun i hi => ⟨rfl, rfl, by simp [setR, hi]⟩) (kk _)
  simp [fv, setR]
theorem j_iald (hC : jC Γ cc nL own ret lay N) {k n : Nat} {i : Int32} (d : decode cc pc = .ok (.iaload, 1)) (hk : lay k = kIA n) (hkN : k < N) (kk : JP Γ Qf P κ (pc + 1) loc (.int (mi κ k i.toNatClampNeg) :: st)) : JP Γ Qf (ckI i n P) κ pc loc (.int i :: .ref (gad Γ k) :: st) :=
  fun r hp ls hl H locs hj => va_iald (D := dD (gΔ Γ)) hC.x hC.b hC.k hj.1 k 0 (jH.cell hC hk hkN) rfl (ckI_some hp).1 d (kk r (ckI_some hp).2 ls hl H locs hj)
theorem j_bald (hC : jC Γ cc nL own ret lay N) {k n : Nat} {i : Int32} (d : decode cc pc = .ok (.baload, 1)) (hk : lay k = kBA n) (hkN : k < N) (kk : JP Γ Qf P κ (pc + 1) loc (.int (mi κ k i.toNatClampNeg) :: st)) : JP Γ Qf (ckI i n P) κ pc loc (.int i :: .ref (gad Γ k) :: st) :=
  fun r hp ls hl H locs hj => va_bald (D := dD (gΔ Γ)) hC.x hC.b hC.k hj.1 k 1 (jH.cell hC hk hkN) rfl (ckI_some hp).1 d (kk r (ckI_some hp).2 ls hl H locs hj)
theorem j_lald (hC : jC Γ cc nL own ret lay N) {k n : Nat} {i : Int32} (d : decode cc pc = .ok (.laload, 1)) (hk : lay k = kLA n) (hkN : k < N) (kk : JP Γ Qf P κ (pc + 1) loc (.long (ml κ k i.toNatClampNeg) :: st)) : JP Γ Qf (ckI i n P) κ pc loc (.int i :: .ref (gad Γ k) :: st) :=
  fun r hp ls hl H locs hj => va_lald (D := dD (gΔ Γ)) hC.x hC.b hC.k hj.1 k 2 (jH.cell hC hk hkN) rfl (ckI_some hp).1 d (kk r (ckI_some hp).2 ls hl H locs hj)
theorem j_iast (hC : jC Γ cc nL own ret lay N) {k n : Nat} {i x : Int32} {p : Mem → Option ρ} (d : decode cc pc = .ok (.iastore, 1)) (hk : lay k = kIA n) (hkN : k < N) (kk : ∀ κ1 : Mem, JP Γ Qf (p κ1) κ1 (pc + 1) loc st) : JP Γ Qf (ckI i n (nm (setI κ k i.toNatClampNeg x) p)) κ pc loc (.int x :: .int i :: .ref (gad Γ k) :: st) := by
  intro r hp ls hl H locs hj
  refine va_iast (D := dD (gΔ Γ)) hC.x hC.b hC.k hj.1 (hC.d κ) hj.2 k 0 (jH.cell hC hk hkN) rfl (ckI_some hp).1 d (fun H1 locs1 hP _ hS => ?_)
  refine kk _ r (ckI_some hp).2 ls hl H1 locs1 ⟨?_, hS⟩
  rw [dW_set hC (κ := κ) (κ1 := setI κ k i.toNatClampNeg x) hkN (by rw [hk]; simp [cel, setI]) (fun j hj => ⟨by simp [setI, hj], rfl, rfl⟩)] at hP
  exact hP
theorem j_bast (hC : jC Γ cc nL own ret lay N) {k n : Nat} {i x : Int32} {p : Mem → Option ρ} (d : decode cc pc = .ok (.bastore, 1)) (hk : lay k = kBA n) (hkN : k < N) (kk : ∀ κ1 : Mem, JP Γ Qf (p κ1) κ1 (pc + 1) loc st) : JP Γ Qf (ckI i n (nm (setI κ k i.toNatClampNeg x.toInt8.toInt32) p)) κ pc loc (.int x :: .int i :: .ref (gad Γ k) :: st) := by
  intro r hp ls hl H locs hj
  refine va_bast (D := dD (gΔ Γ)) hC.x hC.b hC.k hj.1 (hC.d κ) hj.2 k 1 (jH.cell hC hk hkN) rfl (ckI_some hp).1 d (fun H1 locs1 hP _ hS => ?_)
  refine kk _ r (ckI_some hp).2 ls hl H1 locs1 ⟨?_, hS⟩
  rw [vp_nar_byte, dW_set hC (κ := κ) (κ1 := setI κ k i.toNatClampNeg x.toInt8.toInt32) hkN (by rw [hk]; simp [cel, setI]) (fun j hj => ⟨by simp [setI, hj], rfl, rfl⟩)] at hP
  exact hP
theorem j_last (hC : jC Γ cc nL own ret lay N) {k n : Nat} {i : Int32} {x : Int64} {p : Mem → Option ρ} (d : decode cc pc = .ok (.lastore, 1)) (hk : lay k = kLA n) (hkN : k < N) (kk : ∀ κ1 : Mem, JP Γ Qf (p κ1) κ1 (pc + 1) loc st) : JP Γ Qf (ckI i n (nm (setL κ k i.toNatClampNeg x) p)) κ pc loc (.long x :: .int i :: .ref (gad Γ k) :: st) := by
  intro r hp ls hl H locs hj
  refine va_last (D := dD (gΔ Γ)) hC.x hC.b hC.k hj.1 (hC.d κ) hj.2 k 2 (jH.cell hC hk hkN) rfl (ckI_some hp).1 d (fun H1 locs1 hP _ hS => ?_)
  refine kk _ r (ckI_some hp).2 ls hl H1 locs1 ⟨?_, hS⟩
  rw [dW_set hC (κ := κ) (κ1 := setL κ k i.toNatClampNeg x) hkN (by rw [hk]; simp [cel, setL]) (fun j hj => ⟨rfl, by simp [setL, hj], rfl⟩)] at hP
  exact hP
theorem j_alenI (hC : jC Γ cc nL own ret lay N) {k n : Nat} {v : Int32} (d : decode cc pc = .ok (.arraylength, 1)) (hk : lay k = kIA n) (hkN : k < N) (hv : Int32.ofNat n = v) (kk : JP Γ Qf P κ (pc + 1) loc (.int v :: st)) : JP Γ Qf P κ pc loc (.ref (gad Γ k) :: st) :=
  fun r hp ls hl H locs hj => va_alen (D := dD (gΔ Γ)) hC.x hC.b hC.k hj.1 k 0 (jH.cell hC hk hkN) rfl hv d (kk r hp ls hl H locs hj)
theorem j_alenB (hC : jC Γ cc nL own ret lay N) {k n : Nat} {v : Int32} (d : decode cc pc = .ok (.arraylength, 1)) (hk : lay k = kBA n) (hkN : k < N) (hv : Int32.ofNat n = v) (kk : JP Γ Qf P κ (pc + 1) loc (.int v :: st)) : JP Γ Qf P κ pc loc (.ref (gad Γ k) :: st) :=
  fun r hp ls hl H locs hj => va_alen (D := dD (gΔ Γ)) hC.x hC.b hC.k hj.1 k 1 (jH.cell hC hk hkN) rfl hv d (kk r hp ls hl H locs hj)
theorem j_alenL (hC : jC Γ cc nL own ret lay N) {k n : Nat} {v : Int32} (d : decode cc pc = .ok (.arraylength, 1)) (hk : lay k = kLA n) (hkN : k < N) (hv : Int32.ofNat n = v) (kk : JP Γ Qf P κ (pc + 1) loc (.int v :: st)) : JP Γ Qf P κ pc loc (.ref (gad Γ k) :: st) :=
  fun r hp ls hl H locs hj => va_alen (D := dD (gΔ Γ)) hC.x hC.b hC.k hj.1 k 2 (jH.cell hC hk hkN) rfl hv d (kk r hp ls hl H locs hj)
theorem j_aald (hC : jC Γ cc nL own ret lay N) {k ty n b sd : Nat} {i : Int32} (d : decode cc pc = .ok (.aaload, 1)) (hk : lay k = kRA ty n b sd) (hkN : k < N) (hty : ∃ t, (tysL (dcA (gΔ Γ)))[ty]? = some (dcA (gΔ Γ) ty, t) ∧ t.isReference = true) (kk : i.toNatClampNeg < n → JP Γ Qf P κ (pc + 1) loc (.ref (gad Γ (b + i.toNatClampNeg * sd)) :: st)) : JP Γ Qf (ckI i n P) κ pc loc (.int i :: .ref (gad Γ k) :: st) := by
  intro r hp ls hl H locs hj
  obtain ⟨t, ht, hr⟩ := hty
  have hin := (ckI_some hp).1
  have hlt : i.toNatClampNeg < n := Nat.not_le.mp fun q => hin (Or.inr q)
  have hcell := hj.1 k _ (jH.cell hC hk hkN)
  exact W.aald (v := va_rf (some (gad Γ (b + i.toNatClampNeg * sd)))) (ty := t) hC.x hC.b hcell ((hC.k.2 ty _ ht).1 n (fun j => va_rf (some (gad Γ (b + j * sd))))) hr (fun q => by cases q) (by show ¬ (i < 0 ∨ (arrV _ _ _).slots.size ≤ _); rw [arrV_size]; exact hin) (by show (arrV _ _ _).slots[_]? = _; rw [arrV_read _ _ hlt]; rfl) rfl rfl d (kk hlt r (ckI_some hp).2 ls hl H locs hj)
-- the method's end
theorem qf_ok (hC : jC Γ cc nL own ret lay N) {out : ρ → Option Value × Mem} {r : ρ} {H : Heap} {locs : List Loc} {v : Option Value} (hj : jH Γ κ H locs) (ho : out r = (v, κ)) (t : State) (ht : t.heap = H) (hW : (gs Γ).WarmedH t.vm) : ((Outcome.returned v = Outcome.returned (out r).1 ∧ ctW (gΔ Γ) (out r).2 t) ∧ va_F (dA (gΔ Γ)) (gs Γ) t) := by
  rw [ho]
  refine ⟨⟨rfl, ?_, va_K.moved hW.alike hC.k, hC.d, ?_, ?_, strR.warm hW hC.sr⟩, hj.2.F ht⟩
  · rw [ht]; exact hj.1
  · rw [ht]; exact Nat.le_trans hC.sz hj.2.1
  · rw [ht]; exact (hC.sf.moved hW.alike).kept hj.2.2.1
theorem j_iret (hC : jC Γ cc nL own ret lay N) {out : ρ → Option Value × Mem} {r : ρ} {x : Int32} {ty : FieldType} (d : decode cc pc = .ok (.ireturn, 1)) (hr : ret = some ty) (hn : narrow ty (.int x) = .int x) (ho : out r = (some (.int x), κ)) : JP Γ (qf Γ out) (some r) κ pc loc [.int x] := by
  intro r' hp ls hl H locs hj
  obtain rfl := Option.some.inj hp
  exact W.zret (ty := ty) hC.x hC.b (hC.r.trans hr) hn (fun t ht hW => qf_ok hC hj ho t ht hW) hj.2.2.2 d hC.lk
theorem j_vret (hC : jC Γ cc nL own ret lay N) {out : ρ → Option Value × Mem} {r : ρ} (d : decode cc pc = .ok (.return_, 1)) (hr : ret = none) (ho : out r = (none, κ)) : JP Γ (qf Γ out) (some r) κ pc loc [] := by
  intro r' hp ls hl H locs hj
  obtain rfl := Option.some.inj hp
  exact W.vret hC.x hC.b (hC.r.trans hr) (fun t ht hW => qf_ok hC hj ho t ht hW) hj.2.2.2 d hC.lk
theorem j_aret (hC : jC Γ cc nL own ret lay N) {out : ρ → Option Value × Mem} {r : ρ} {a : Nat} {nme : String} (d : decode cc pc = .ok (.areturn, 1)) (hr : ret = some (.object nme)) (ho : out r = (some (.ref a), κ)) : JP Γ (qf Γ out) (some r) κ pc loc [.ref a] := by
  intro r' hp ls hl H locs hj
  obtain rfl := Option.some.inj hp
  exact W.aret (v := .ref a) hC.x hC.b (hC.r.trans hr) (Or.inl ⟨_, rfl⟩) (Or.inr ⟨_, rfl⟩) (fun t ht hW => qf_ok hC hj ho t ht hW) hj.2.2.2 d hC.lk
-- calls
theorem wsL_good : ∀ w ∈ wsL_law, (w.onTables && w.keeps) = true ∨ ∃ ty, w = .arrayClass ty := fun w h => good_of_word (List.mem_filter.mp h).2
theorem goodL {ws : List Cond} (h : ∀ w ∈ ws, w ∈ wsL_law) : GoodIn wsL_law ws := fun w hw => ⟨h w hw, wsL_good w (h w hw)⟩
def kwV (own : String) (idx : Nat) (C : String) (y : MethodName) (c : ByteArray) (n : Nat) (rt : Option FieldType) (nA : Nat) : Prop := (Cond.methodLink own idx y ∈ wsL_law ∧ Cond.instanceMethod y ∈ wsL_law ∧ Cond.selects C y y ∈ wsL_law ∧ Cond.initialized C ∈ wsL_law ∧ Cond.code y c n rt ∈ wsL_law) ∧ (y.cls = C ∧ y.cls ≠ "java/lang/invoke/MethodHandle" ∧ y.cls ≠ "java/lang/invoke/VarHandle" ∧ (parseMethodDescriptor y.desc).map (fun d => d.parameters.length) = some nA)
def kwS (own : String) (idx : Nat) (y : MethodName) (c : ByteArray) (n : Nat) (rt : Option FieldType) (nA : Nat) : Prop := (Cond.methodLink own idx y ∈ wsL_law ∧ Cond.static y ∈ wsL_law ∧ Cond.initialized y.cls ∈ wsL_law ∧ Cond.code y c n rt ∈ wsL_law) ∧ (y.cls ≠ "java/lang/invoke/MethodHandle" ∧ y.cls ≠ "java/lang/invoke/VarHandle" ∧ (parseMethodDescriptor y.desc).map (fun d => d.parameters.length) = some nA)
def kwN (own : String) (idx : Nat) (y : MethodName) (host : String) (c : ByteArray) (n : Nat) (rt : Option FieldType) (nA : Nat) : Prop := (((own, idx) ∈ nestL ∧ y = yX10_lengthen ∧ host = "HatNet") ∧ Cond.static y ∈ wsL_law ∧ Cond.initialized y.cls ∈ wsL_law ∧ Cond.code y c n rt ∈ wsL_law) ∧ (y.cls ≠ "java/lang/invoke/MethodHandle" ∧ y.cls ≠ "java/lang/invoke/VarHandle" ∧ (parseMethodDescriptor y.desc).map (fun d => d.parameters.length) = some nA)
theorem ctW_blind {Δ : DCtx} {As : List Value} : FrameBlind (va_Pc As (ctW Δ κ)) := by
  rintro a U g mk ⟨h0, h1, h2, h3, h4, h5, h6⟩
  exact ⟨h0, h1, va_K.moved (u := U) (U := U.calling g mk a) (Vm.Alike.refl U.vm) h2, h3, h4, strF.moved (u := U) (U := U.calling g mk a) (Vm.Alike.refl U.vm) h5, strR.same (u := U) (U := U.calling g mk a) rfl h6⟩
theorem ctW_start (hC : jC Γ cc nL own ret lay N) {H : Heap} {locs : List Loc} (hj : jH Γ κ H locs) {As : List Value} (U : State) (hU : U.heap = H) (hW : (gs Γ).WarmedH U.vm) : va_Pc As (ctW (gΔ Γ) κ) As.toArray U := by
  refine ⟨rfl, ?_, va_K.moved hW.alike hC.k, hC.d, ?_, ?_, strR.warm hW hC.sr⟩
  · rw [hU]; exact hj.1
  · rw [hU]; exact Nat.le_trans hC.sz hj.2.1
  · rw [hU]; exact (hC.sf.moved hW.alike).kept hj.2.2.1
theorem j_run (hC : jC Γ cc nL own ret lay N) {ρ' : Type} {f : Option ρ'} {p : ρ' → Option ρ} {out : ρ' → Option Value × Mem} {As : List Value} {sargs : Array Value} (hs : sargs = As.toArray)
    (hrun : ∀ r, f = some r → ∀ ls, lv_has ls (gc Γ).maxLocals loc → ∀ H locs, jH Γ κ H locs → va_Run (gp Γ) (gl Γ) (ge Γ) (gR Γ) (gs Γ) (gm Γ) (gargs Γ) (gbelow Γ) (gmeth Γ) (gc Γ) H locs (gcells Γ) (gslots Γ) 0 0 (F0 (gm Γ) pc ls st) rest ((fun _ st oc t => (oc = .returned (out r).1 ∧ ctW (gΔ Γ) (out r).2 t) ∧ va_F (dA (gΔ Γ)) st t) sargs) (dA (gΔ Γ)))
    (kk : ∀ r, JP Γ Qf (p r) (out r).2 (pc + 3) loc ((out r).1.toList ++ rest)) : JP Γ Qf (f.bind p) κ pc loc st := by
  intro r hp ls hl H locs hj
  obtain ⟨r1, h1, h2⟩ := Option.bind_eq_some_iff.mp hp
  intro T hT X
  obtain ⟨v, st₀, t, T', L, h0, X', hL, e1, e2, ⟨⟨hv, hw⟩, hz, hk⟩, stp⟩ := hrun r1 h1 ls hl H locs hj T hT X
  cases hv
  rw [h0] at hz hk
  have hS := hj.2
  obtain ⟨t2, a1, b1⟩ := kk r1 r h2 ls hl T'.heap (locs ++ L) ⟨by rw [e1]; exact hw.1, Nat.le_trans hS.1 (by rw [e1]; exact hz), fun q g1 g2 => by rw [e1, hk q (Nat.lt_of_lt_of_le g1 hS.1) g2]; exact hS.2.1 q g1 g2, fun q hq => by
      rcases List.mem_append.mp hq with h | h
      · exact hS.2.2 q h
      · exact hL q h⟩ T' rfl X'
  exact ⟨t2, stp t2 a1, b1⟩
theorem rm_le {h hc n : Nat} (hh : hc < h) (hn : n ≤ 40) : (rmH hc).frames + 1 ≤ (rmH h).frames ∧ 8 + (n + 11) + (rmH hc).locals ≤ (rmH h).locals := by
  unfold rmH
  constructor
  · exact hh
  · show 8 + (n + 11) + 64 * hc ≤ 64 * h
    omega
theorem j_callV (hC : jC Γ cc nL own ret lay N) {h hc : Nat} (hR : gR Γ = rmH h) {ρ' : Type} {f : Option ρ'} {p : ρ' → Option ρ} {out : ρ' → Option Value × Mem} {y : MethodName} {C : String} {c' : ByteArray} {n' nA idx ci k : Nat} {rt : Option FieldType} {fs : List (Nat × Nat)} {T : u_T} {M : Nat} {As : List Value}
    (hM : ∀ r, f = some r → CT (gΔ Γ) (gl Γ) y c' n' rt (rmH hc) (.ref (gad Γ k) :: As) κ (out r).1 (out r).2)
    (hw : kwV own idx C y c' n' rt nA) (hh : hc < h) (hn : n' ≤ 40) (hk : lay k = kOB ci fs) (hkN : k < N) (hci : vwCl[ci]? = some (C, T, M)) (hst : st = As.reverse ++ .ref (gad Γ k) :: rest) (hlen : As.length = nA) (hcat : (rest.map fun v => v.category).sum ≤ 8) (hmc : (gcells Γ) ≤ (gR Γ).cells ∧ (gslots Γ) ≤ (gR Γ).slots)
    (d : decode cc pc = .ok (.invokevirtual idx, 3)) (kk : ∀ r, JP Γ Qf (p r) (out r).2 (pc + 3) loc ((out r).1.toList ++ rest)) : JP Γ Qf (f.bind p) κ pc loc st := by
  refine j_run hC (out := out) (As := .ref (gad Γ k) :: As) rfl (fun r h1 ls hl H locs hj => ?_) kk
  obtain ⟨⟨w1, w2, w3, w4, w5⟩, w6⟩ := hw
  have hG : GoodIn wsL_law (wsV own idx C y (.code y c' n' rt :: wsL_law)) := goodL (fun w hq => by
    unfold wsV at hq
    simp only [List.mem_append, List.mem_cons, List.not_mem_nil, or_false] at hq
    rcases hq with (h | h | h | h) | h | h <;> first | exact h | (rw [h]; assumption))
  exact va_runV (As := As) (rest := rest) ⟨hC.x, hC.b, rfl, hC.o, hC.ts⟩ (hM r h1) (cwV nA hC.ts hG rfl rfl rfl w6 (by rw [hR]; exact rm_le hh hn)) ⟨ctW_blind, va_recv hC.k hj.1 hci (jH.cell hC hk hkN), fun U hU hW => ctW_start hC hj U hU hW⟩ rfl hlen hl.1 hst (lv_room hcat) d hmc
theorem j_callS (hC : jC Γ cc nL own ret lay N) {h hc : Nat} (hR : gR Γ = rmH h) {ρ' : Type} {f : Option ρ'} {p : ρ' → Option ρ} {out : ρ' → Option Value × Mem} {y : MethodName} {c' : ByteArray} {n' nA idx : Nat} {rt : Option FieldType} {As : List Value}
    (hM : ∀ r, f = some r → CT (gΔ Γ) (gl Γ) y c' n' rt (rmH hc) As κ (out r).1 (out r).2)
    (hw : kwS own idx y c' n' rt nA) (hh : hc < h) (hn : n' ≤ 40) (hst : st = As.reverse ++ rest) (hlen : As.length = nA) (hcat : (rest.map fun v => v.category).sum ≤ 8) (hmc : (gcells Γ) ≤ (gR Γ).cells ∧ (gslots Γ) ≤ (gR Γ).slots)
    (d : decode cc pc = .ok (.invokestatic idx, 3)) (kk : ∀ r, JP Γ Qf (p r) (out r).2 (pc + 3) loc ((out r).1.toList ++ rest)) : JP Γ Qf (f.bind p) κ pc loc st := by
  refine j_run hC (out := out) (As := As) rfl (fun r h1 ls hl H locs hj => ?_) kk
  obtain ⟨⟨w1, w2, w4, w5⟩, w6⟩ := hw
  have hG : GoodIn wsL_law (.code y c' n' rt :: wsL_law) := goodL (fun w hq => by
    rcases List.mem_cons.mp hq with h | h
    · rw [h]; exact w5
    · exact h)
  exact va_runS (As := As) (rest := rest) ⟨hC.x, hC.b, rfl, hC.o, hC.ts⟩ (hM r h1) ⟨callB_of nA hC.ts hG rfl rfl rfl (hC.ts _ w4) (hC.ts _ w1) w6 (by rw [hR]; exact rm_le hh hn), hC.ts _ w2⟩ ⟨ctW_blind, fun U hU hW => ctW_start hC hj U hU hW⟩ rfl hlen hl.1 hst (lv_room hcat) d hmc
theorem j_callN (hC : jC Γ cc nL own ret lay N) {h hc : Nat} (hR : gR Γ = rmH h) {ρ' : Type} {f : Option ρ'} {p : ρ' → Option ρ} {out : ρ' → Option Value × Mem} {y : MethodName} {host : String} {c' : ByteArray} {n' nA idx : Nat} {rt : Option FieldType} {As : List Value}
    (hM : ∀ r, f = some r → CT (gΔ Γ) (gl Γ) y c' n' rt (rmH hc) As κ (out r).1 (out r).2)
    (hw : kwN own idx y host c' n' rt nA) (hh : hc < h) (hn : n' ≤ 40) (hst : st = As.reverse ++ rest) (hlen : As.length = nA) (hcat : (rest.map fun v => v.category).sum ≤ 8) (hmc : (gcells Γ) ≤ (gR Γ).cells ∧ (gslots Γ) ≤ (gR Γ).slots)
    (d : decode cc pc = .ok (.invokestatic idx, 3)) (kk : ∀ r, JP Γ Qf (p r) (out r).2 (pc + 3) loc ((out r).1.toList ++ rest)) : JP Γ Qf (f.bind p) κ pc loc st := by
  refine j_run hC (out := out) (As := As) rfl (fun r h1 ls hl H locs hj => ?_) kk
  obtain ⟨⟨w1, w2, w4, w5⟩, w6⟩ := hw
  have hG : GoodIn wsL_law (.code y c' n' rt :: wsL_law) := goodL (fun w hq => by
    rcases List.mem_cons.mp hq with h | h
    · rw [h]; exact w5
    · exact h)
  exact va_runSN (As := As) (rest := rest) ⟨hC.x, hC.b, rfl, hC.o, hC.ts⟩ (hM r h1) ⟨va_cnB nA hC.ts hG rfl rfl rfl (by obtain ⟨q1, rfl, rfl⟩ := w1; exact hC.sr.2 _ q1) (hC.ts _ w4) w6 (by rw [hR]; exact rm_le hh hn), hC.ts _ w2, trivial⟩ ⟨ctW_blind, fun U hU hW => ctW_start hC hj U hU hW⟩ rfl hlen hl.1 hst (lv_room hcat) d hmc
theorem Met_ofWF {l : Launch} {y : MethodName} {ws ws' : List Cond} {rm : Room} {Pc : Array Value → State → Prop} {Qc : Array Value → State → Outcome → State → Prop} {mc ms : Nat} {free : Addr → Prop} {cc : ByteArray} {maxL : Nat} {ret : Option FieldType}
    (hy : plainFor y = true) (hw : ws = Cond.code y cc maxL ret :: ws')
    (body : ∀ p e s m args below meth c s₁, BodyLoose p l y (headSpec ws rm) cc maxL ret e s m args below meth c s₁ → c.maxLocals = maxL → Pc args s →
      W p l e (headSpec ws rm).room s m args below meth c s.heap [] 0 0 (MQ below Qc args s mc ms free) (entryFrame m args maxL)) : Met l y ws rm Pc Qc mc ms free := by
  refine MetFree.of_bodySF (code := cc) (maxLocals := maxL) (ret := ret) hy ?_ ?_
  · intro args s m h hn
    obtain ⟨meth, c, h1, h2, h3, h4, h5, h6, -, -⟩ := Cond.code_spec hn (atoms_spec (ws := ws) h _ (by rw [hw]; exact List.mem_cons_self))
    exact ⟨meth, c, h1, h2, h3, h4, h5, h6⟩
  · intro p e s m args below meth c s₁ B hml hP _
    have hh0 : s₁.heap = s.heap := by rw [B.state]; rfl
    obtain ⟨t, a1, o, b1, b2, b3⟩ := body p e s m args below meth c s₁ B hml hP s₁ hh0 (Stand.of_body B)
    exact ⟨t, o, a1, b1, b2, ⟨b3.1, b3.2⟩⟩
theorem ct_of {y : MethodName} {rm : Room} (hy : plainFor y = true) (As : DCtx → List Value) {prog : Option ρ} (out : DCtx → ρ → Option Value × Mem) (hA : ∀ Δ, (lg_sl (As Δ)).length ≤ nL)
    (body : ∀ Γ : JCtx, gR Γ = rm → (gcells Γ ≤ (gR Γ).cells ∧ gslots Γ ≤ (gR Γ).slots) → jC Γ cc nL y.cls ret lay N → JP Γ (qf Γ (out (gΔ Γ))) prog κ 0 (lv_args 0 (As (gΔ Γ))) []) (Δ : DCtx) (l : Launch) (hl : dlay Δ = lay) (hN : dN Δ = N) : ∀ r, prog = some r → CT Δ l y cc nL ret rm (As Δ) κ (out Δ r).1 (out Δ r).2 := by
  intro r hr
  unfold CT
  refine Met_ofWF (cc := cc) (maxL := nL) (ret := ret) hy rfl ?_
  intro p e s m args below meth c s₁ B hml hv
  obtain ⟨rfl, h1, h2, h3, h4, h5, h6⟩ := hv
  have hts := atoms_spec (ws := Cond.code y cc nL ret :: wsL_law) B.pre
  have hown : s.vm.findClass y.cls = some m.cls := findClass_of_methodNamed B.named
  have hb := body ((p, l, e, rm, s), (m, (As Δ).toArray, below, meth, c), (0, 0), Δ) rfl ⟨Nat.zero_le _, Nat.zero_le _⟩ ⟨B.exec, B.bytes, hml, hown, fun w hw => hts w (List.mem_cons_of_mem _ hw), h2, h3, h4, B.notSynchronized, B.returns, ⟨hl, hN⟩, h5, h6⟩
  have hlv := lv_entry (As Δ) (n := nL) (hA Δ)
  rw [lg_entry_eq]
  exact hb r hr _ (by rw [show (gc ((p, l, e, rm, s), (m, (As Δ).toArray, below, meth, c), (0, 0), Δ)).maxLocals = nL from hml]; exact hlv) s.heap [] ⟨h1, va_S.rf⟩
end JROWS
