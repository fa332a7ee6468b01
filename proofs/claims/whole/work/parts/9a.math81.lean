/-! CONSTRUCTORS: rows that don't look into the cells behind the first -/
section ZROWS5
variable {Γ : ZCtx} {cc : ByteArray} {nL : Nat} {own : String} {Qf : State → Prop} {n sl k : Nat} {e : va_E} {B : List va_E} {pc : Nat} {loc loc' : List (Nat × Value)} {st rest : List Value}
theorem zz_len {x : va_E} (hB : B.length = k) : (B ++ [x]).length = k + 1 := by rw [List.length_append, hB]; rfl
theorem zz_new (hC : zC Γ cc nL own) (hB : B.length = k) {ci idx N : Nat} {C : String} {T : u_T} {ty : Nat → FieldType} {fs : List Value} {a : Nat} (hk : kwC ci C T N ty fs) (hcl : Cond.classLink own idx C ∈ wsL_law) (hce : n + 1 ≤ (zR Γ).cells) (hsl : sl + N ≤ (zR Γ).slots) (ha : zh Γ + (k + 1) = a) (d : decode cc pc = .ok (.new idx, 3)) (kk : ZP Γ Qf (n + 1) (sl + N) ((e :: B) ++ [.inr (ci, fs)]) (pc + 3) loc (.ref a :: st)) : ZP Γ Qf n sl (e :: B) pc loc st :=
  z_new hC hk hcl hce hsl (by rw [List.length_cons, hB]; exact ha) d kk
theorem zz_newI (hC : zC Γ cc nL own) (hB : B.length = k) {x : Int32} {N a : Nat} (hw : Cond.arrayClass .int ∈ wsL_law) (hx : ¬ x < 0) (hN : x.toNatClampNeg = N) (hb : N * 4 ≤ 536870912) (hce : n + 1 ≤ (zR Γ).cells) (hsl : sl + N ≤ (zR Γ).slots) (ha : zh Γ + (k + 1) = a) (d : decode cc pc = .ok (.newarray .int, 2)) (kk : (B ++ [(.inl (zA Γ 0, N, .inl (fun _ => 0)) : va_E)]).length = k + 1 → ZP Γ Qf (n + 1) (sl + N) (e :: (B ++ [.inl (zA Γ 0, N, .inl (fun _ => 0))])) (pc + 2) loc (.ref a :: st)) : ZP Γ Qf n sl (e :: B) pc loc (.int x :: st) :=
  z_newI hC hw hx hN hb hce hsl (by rw [List.length_cons, hB]; exact ha) d (kk (zz_len hB))
theorem zz_newB (hC : zC Γ cc nL own) (hB : B.length = k) {x : Int32} {N a : Nat} (hw : Cond.arrayClass .byte ∈ wsL_law) (hx : ¬ x < 0) (hN : x.toNatClampNeg = N) (hb : N * 1 ≤ 536870912) (hce : n + 1 ≤ (zR Γ).cells) (hsl : sl + N ≤ (zR Γ).slots) (ha : zh Γ + (k + 1) = a) (d : decode cc pc = .ok (.newarray .byte, 2)) (kk : (B ++ [(.inl (zA Γ 1, N, .inl (fun _ => 0)) : va_E)]).length = k + 1 → ZP Γ Qf (n + 1) (sl + N) (e :: (B ++ [.inl (zA Γ 1, N, .inl (fun _ => 0))])) (pc + 2) loc (.ref a :: st)) : ZP Γ Qf n sl (e :: B) pc loc (.int x :: st) :=
  z_newB hC hw hx hN hb hce hsl (by rw [List.length_cons, hB]; exact ha) d (kk (zz_len hB))
theorem zz_newL (hC : zC Γ cc nL own) (hB : B.length = k) {x : Int32} {N a : Nat} (hw : Cond.arrayClass .long ∈ wsL_law) (hx : ¬ x < 0) (hN : x.toNatClampNeg = N) (hb : N * 8 ≤ 536870912) (hce : n + 1 ≤ (zR Γ).cells) (hsl : sl + N ≤ (zR Γ).slots) (ha : zh Γ + (k + 1) = a) (d : decode cc pc = .ok (.newarray .long, 2)) (kk : ZP Γ Qf (n + 1) (sl + N) (e :: (B ++ [.inl (zA Γ 2, N, .inr (.inl (fun _ => 0)))])) (pc + 2) loc (.ref a :: st)) : ZP Γ Qf n sl (e :: B) pc loc (.int x :: st) :=
  z_newL hC hw hx hN hb hce hsl (by rw [List.length_cons, hB]; exact ha) d kk
theorem zz_get (hC : zC Γ cc nL own) {idx ci fi : Nat} {fs : List Value} {v : Value} (hf : kwF own idx ci fi) (hv : fs[fi]? = some v) (d : decode cc pc = .ok (.getfield idx, 3)) (kk : ZP Γ Qf n sl (.inr (ci, fs) :: B) (pc + 3) loc (v :: st)) : ZP Γ Qf n sl (.inr (ci, fs) :: B) pc loc (.ref (zh Γ) :: st) :=
  z_get hC (k := 0) hf rfl hv rfl d kk
theorem zz_put (hC : zC Γ cc nL own) {idx ci fi : Nat} {ty : FieldType} {fs : List Value} {v : Value} (fs' : List Value) (hf : kwP own idx ci fi ty) (hl2 : fi < fs.length) (hs : fs.set fi v = fs') (hn : narrow ty v = v) (hfit : fits ty v = true) (d : decode cc pc = .ok (.putfield idx, 3)) (kk : ZP Γ Qf n sl (.inr (ci, fs') :: B) (pc + 3) loc st) : ZP Γ Qf n sl (.inr (ci, fs) :: B) pc loc (v :: .ref (zh Γ) :: st) :=
  z_put hC (k := 0) hf rfl hl2 hs rfl hn hfit rfl d kk
theorem zz_putF (hC : zC Γ cc nL own) (hin : (zmeth Γ).name = "<init>") {idx ci fi : Nat} {ty : FieldType} {fs : List Value} {v : Value} (fs' : List Value) (hf : kwPF own idx ci fi ty) (hl2 : fi < fs.length) (hs : fs.set fi v = fs') (hn : narrow ty v = v) (hfit : fits ty v = true) (d : decode cc pc = .ok (.putfield idx, 3)) (kk : ZP Γ Qf n sl (.inr (ci, fs') :: B) (pc + 3) loc st) : ZP Γ Qf n sl (.inr (ci, fs) :: B) pc loc (v :: .ref (zh Γ) :: st) :=
  z_putF hC hin (k := 0) hf rfl hl2 hs rfl hn hfit rfl d kk
theorem zz_last (hC : zC Γ cc nL own) (hB : B.length = k) {N a : Nat} {f f' : Nat → Int64} {i : Int32} {x : Int64} (hin : vp_in i N) (hf : vp_updL f i.toNatClampNeg x = f') (ha : zh Γ + (k + 1) = a) (d : decode cc pc = .ok (.lastore, 1)) (kk : ZP Γ Qf n sl (e :: (B ++ [.inl (zA Γ 2, N, .inr (.inl f'))])) (pc + 1) loc st) : ZP Γ Qf n sl (e :: (B ++ [.inl (zA Γ 2, N, .inr (.inl f))])) pc loc (.long x :: .int i :: .ref a :: st) := by
  subst hf
  refine z_last hC (k := k + 1) (N := N) (f := f) ?_ hin ?_ ha d kk
  · show (B ++ [_])[k]? = _
    rw [List.getElem?_append_right (by omega), hB]
    simp
  · show e :: (B ++ [_]).set k _ = _
    rw [List.set_append_right _ _ (by omega), hB]
    simp
theorem zz_call (hC : zC Γ cc nL own) (hB : B.length = k) {idx b nA n' mc1 ms1 ci k1 : Nat} {y : MethodName} {c' : ByteArray} {rm : Room} {vs : List Value} (As rest : List Value) {ws0 : va_W} {E : State → Prop} {M1 : List va_E}
    (hM : ZT (zD Γ) (zA Γ) b ws0 E (zl Γ) y c' n' rm mc1 ms1 (.ref b :: As) (.inr (ci, vs)) M1) (hw : kwI own idx y c' n' nA) (hrm : (rm.cells = mc1 ∧ rm.slots = ms1) ∧ rm.frames + 1 ≤ (zR Γ).frames ∧ 8 + (n' + 11) + rm.locals ≤ (zR Γ).locals) (hok : zOk b ws0 E)
    (hE : ∀ H locs, zH Γ ((e :: B) ++ [.inr (ci, vs)]) H locs → va_P (zD Γ) vwCl ws0 H ∧ ∀ U : State, U.heap = H → (zs Γ).WarmedH U.vm → E U) (hb : zh Γ + (k + 1) = b) (hst : st = As.reverse ++ .ref b :: rest) (hlen : As.length = nA) (hcat : (rest.map fun v => v.category).sum ≤ 8) (hce : n + mc1 ≤ (zR Γ).cells) (hsl : sl + ms1 ≤ (zR Γ).slots) (h1 : M1.length = k1) (d : decode cc pc = .ok (.invokespecial idx, 3))
    (kk : (B ++ M1).length = k + k1 → ZP Γ Qf (n + mc1) (sl + ms1) (e :: (B ++ M1)) (pc + 3) loc rest) : ZP Γ Qf n sl ((e :: B) ++ [.inr (ci, vs)]) pc loc st :=
  z_call hC hM hw hrm hok hE (by rw [List.length_cons, hB]; exact hb) hst hlen hcat hce hsl d (kk (by rw [List.length_append, hB, h1]))
end ZROWS5
