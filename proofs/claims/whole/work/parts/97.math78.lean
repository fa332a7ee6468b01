/-! CONSTRUCTORS: a call of one, and its contract out of its walk -/
theorem zW_blind {D : va_G} {cA : Nat → ClassId} {h : Nat} {ws0 : va_W} {E : State → Prop} {M : List va_E} {As : List Value} (hok : zOk h ws0 E) : FrameBlind (va_Pc As (zW D cA h ws0 E M)) := by
  rintro a U g mk ⟨h0, h1, h2, h3, h4, h5, h6⟩
  exact ⟨h0, h1, h2, va_K.moved (u := U) (U := U.calling g mk a) (Vm.Alike.refl U.vm) h3, zAO.same (u := U) (U := U.calling g mk a) rfl h4, h5, hok.2.2 U (U.calling g mk a) rfl rfl h6⟩
/-- a call of a constructor, as the words tell it -/
def kwI (own : String) (idx : Nat) (y : MethodName) (c : ByteArray) (n nA : Nat) : Prop := ((Cond.methodLink own idx y ∈ wsL_law ∨ (own, idx, y) ∈ nestI) ∧ Cond.instanceMethod y ∈ wsL_law ∧ Cond.initialized y.cls ∈ wsL_law ∧ Cond.code y c n none ∈ wsL_law) ∧ y.name = "<init>" ∧ (y.cls ≠ "java/lang/invoke/MethodHandle" ∧ y.cls ≠ "java/lang/invoke/VarHandle" ∧ (parseMethodDescriptor y.desc).map (fun d => d.parameters.length) = some nA)
section ZROWS3
variable {Γ : ZCtx} {cc : ByteArray} {nL : Nat} {own : String} {Qf : State → Prop} {n sl : Nat} {M : List va_E} {pc : Nat} {loc loc' : List (Nat × Value)} {st rest : List Value}
theorem z_call (hC : zC Γ cc nL own) {idx b nA n' mc1 ms1 ci : Nat} {y : MethodName} {c' : ByteArray} {rm : Room} {As vs : List Value} {ws0 : va_W} {E : State → Prop} {M1 : List va_E}
    (hM : ZT (zD Γ) (zA Γ) b ws0 E (zl Γ) y c' n' rm mc1 ms1 (.ref b :: As) (.inr (ci, vs)) M1) (hw : kwI own idx y c' n' nA) (hrm : (rm.cells = mc1 ∧ rm.slots = ms1) ∧ rm.frames + 1 ≤ (zR Γ).frames ∧ 8 + (n' + 11) + rm.locals ≤ (zR Γ).locals) (hok : zOk b ws0 E)
    (hE : ∀ H locs, zH Γ (M ++ [.inr (ci, vs)]) H locs → va_P (zD Γ) vwCl ws0 H ∧ ∀ U : State, U.heap = H → (zs Γ).WarmedH U.vm → E U) (hb : zh Γ + M.length = b) (hst : st = As.reverse ++ .ref b :: rest) (hlen : As.length = nA) (hcat : (rest.map fun v => v.category).sum ≤ 8) (hce : n + mc1 ≤ (zR Γ).cells) (hsl : sl + ms1 ≤ (zR Γ).slots) (d : decode cc pc = .ok (.invokespecial idx, 3))
    (kk : ZP Γ Qf (n + mc1) (sl + ms1) (M ++ M1) (pc + 3) loc rest) : ZP Γ Qf n sl (M ++ [.inr (ci, vs)]) pc loc st := by
  intro ls hl H locs hj
  obtain ⟨⟨w1, w2, w3, w4⟩, w5, w6⟩ := hw
  have hG : GoodIn wsL_law (.code y c' n' none :: wsL_law) := goodL (fun w hq => by
    rcases List.mem_cons.mp hq with h | h
    · rw [h]; exact w4
    · exact h)
  have hp : PreS (zs Γ) H (va_Pc (.ref b :: As) (zW (zD Γ) (zA Γ) b ws0 E [.inr (ci, vs)])) (.ref b :: As) := ⟨zW_blind hok, fun U hU hW => by
    refine ⟨rfl, ?_, ?_, va_K.moved hW.alike hC.k, zAO.warm hW hC.ao, ?_, (hE H locs hj).2 U hU hW⟩
    · rw [hU]
      intro k q hq
      have h0 : k < 1 := (List.getElem?_eq_some_iff.mp hq).1
      obtain rfl : k = 0 := by omega
      cases hq
      have := hj.1 M.length (zh Γ + M.length, .inr (ci, vs)) (adW_at (by simp))
      rw [hb] at this
      exact this
    · rw [hU, hj.2.1, List.length_append]
      show zh Γ + (M.length + 1) = b + 1
      omega
    · rw [hU]
      exact (hE H locs hj).1⟩
  have hrun : va_Run (zp Γ) (zl Γ) (ze Γ) (zR Γ) (zs Γ) (zm Γ) (zargs Γ) (zbelow Γ) (zmeth Γ) (zc Γ) H locs n sl mc1 ms1 (F0 (zm Γ) pc ls st) rest ((fun _ st oc t => (oc = .returned none ∧ zW (zD Γ) (zA Γ) b ws0 E M1 t) ∧ va_F (fun q => b ≤ q) st t) (Value.ref b :: As).toArray) (fun q => b ≤ q) := by
    rcases w1 with w1 | w1
    · exact va_runI (As := As) (rest := rest) (n := nA) (index := idx) ⟨hC.x, hC.b, rfl, hC.o, hC.ts⟩ hM ⟨callB_of nA hC.ts hG rfl hrm.1.1 hrm.1.2 (hC.ts _ w3) (hC.ts _ w1) w6 hrm.2, w5, hC.ts _ w2⟩ hp rfl hlen hl.1 hst (lv_room hcat) d ⟨hce, hsl⟩
    · exact va_runIN (As := As) (rest := rest) (n := nA) (index := idx) ⟨hC.x, hC.b, rfl, hC.o, hC.ts⟩ hM ⟨va_cnB nA hC.ts hG rfl hrm.1.1 hrm.1.2 (hC.ao.2 _ w1) (hC.ts _ w3) w6 hrm.2, w5, hC.ts _ w2⟩ hp rfl hlen hl.1 hst (lv_room hcat) d ⟨hce, hsl⟩
  intro T hT X
  obtain ⟨v, st₀, t, T', L, h0, X', hL, e1, e2, ⟨⟨hv, hw'⟩, hz, hk⟩, stp⟩ := hrun T hT X
  cases hv
  rw [h0] at hz hk
  obtain ⟨g1, g2, -⟩ := hw'
  obtain ⟨hP, hzz, hS⟩ := hj
  rw [List.length_append] at hzz
  have hzz : H.size = zh Γ + (M.length + 1) := hzz
  rw [adW_app] at hP
  have hP0 : va_P (zD Γ) vwCl (adW (zh Γ) M) H := fun k q hq => hP k q (by rw [List.getElem?_append_left (List.getElem?_eq_some_iff.mp hq).1]; exact hq)
  obtain ⟨t2, a1, b1⟩ := kk ls hl T'.heap (locs ++ L) ⟨by
      rw [e1, adW_app, hb]
      refine (hP0.kept fun k q hq => hk q.1 (hP0 k q hq).lt ?_).app g1
      rw [adW_get] at hq
      obtain ⟨e, he, rfl⟩ := Option.map_eq_some_iff.mp hq
      have := (List.getElem?_eq_some_iff.mp he).1
      dsimp only
      omega, by
      rw [e1, g2, List.length_append]
      omega, by rw [e1]; have := hS.1; omega, fun q q1 q2 => by
      have := hS.1
      rw [e1, hk q (by omega) (by omega)]
      exact hS.2.1 q q1 q2, fun q hq => by
      rcases List.mem_append.mp hq with h | h
      · exact hS.2.2 q h
      · have := hL q h
        omega⟩ T' rfl X'
  exact ⟨t2, stp t2 a1, b1⟩
theorem zt_of {y : MethodName} (hy : plainFor y = true) (hini : y.name = "<init>") {D : va_G} {cA : Nat → ClassId} {h : Nat} {ws0 : va_W} {E : State → Prop} {l : Launch} {rm : Room} {mc ms : Nat} {As : List Value} {e0 : va_E} {M' : List va_E} (hok : zOk h ws0 E) (hA : (lg_sl As).length ≤ nL)
    (body : ∀ Γ : ZCtx, zR Γ = rm → zl Γ = l → zD Γ = D → zA Γ = cA → zh Γ = h → z0 Γ = ws0 → zE Γ = E → zC Γ cc nL y.cls → (zmeth Γ).name = "<init>" → (zmeth Γ).sig.returnType = none → ZP Γ (zQ Γ M' mc ms) 0 0 [e0] 0 (lv_args 0 As) []) : ZT D cA h ws0 E l y cc nL rm mc ms As e0 M' := by
  unfold ZT
  refine Met_ofWF (cc := cc) (maxL := nL) (ret := none) hy rfl ?_
  intro p e s m args below meth c s₁ B hml hv
  obtain ⟨rfl, h1, h2, h3, h4, h5, h6⟩ := hv
  have hts := atoms_spec (ws := Cond.code y cc nL none :: wsL_law) B.pre
  have hown : s.vm.findClass y.cls = some m.cls := findClass_of_methodNamed B.named
  have hin : meth.name = "<init>" := (name_of_methodNamed B.named B.method).1.trans hini
  have hb := body ((p, l, e, rm, s), (m, As.toArray, below, meth, c), (D, cA), (h, ws0, E)) rfl rfl rfl rfl rfl rfl rfl ⟨B.exec, B.bytes, hml, hown, fun w hw => hts w (List.mem_cons_of_mem _ hw), h3, (by show h ≤ s.heap.size; rw [h2]; exact Nat.le_add_right _ _), B.notSynchronized, h4, h5, h6, hok⟩ hin B.returns
  have hlv := lv_entry As (n := nL) hA
  rw [lg_entry_eq]
  exact hb _ (by rw [show (zc ((p, l, e, rm, s), (m, As.toArray, below, meth, c), (D, cA), (h, ws0, E))).maxLocals = nL from hml]; exact hlv) s.heap [] ⟨h1, h2, va_S.rf⟩
end ZROWS3
section ZROWS4
variable {Γ : ZCtx} {cc : ByteArray} {nL : Nat} {own : String} {Qf : State → Prop} {n sl : Nat} {M : List va_E} {pc : Nat} {loc loc' : List (Nat × Value)} {st rest : List Value}
theorem z_ge_no (hC : zC Γ cc nL own) {x y : Int32} {off : Int} {tgt : Nat} (d : decode cc pc = .ok (.if_icmp .ge off, 3)) (ht : (pc : Int) + off = (tgt : Int)) (hx : x < y) (k : ZP Γ Qf n sl M (pc + 3) loc st) : ZP Γ Qf n sl M pc loc (.int y :: .int x :: st) :=
  fun ls hl H locs hj => lv_icmp_ge hC.x hC.b d ht (fun c => absurd hx (Int32.not_lt.mpr c)) (fun _ => k ls hl H locs hj)
theorem z_ge_yes (hC : zC Γ cc nL own) {x y : Int32} {off : Int} {tgt : Nat} (d : decode cc pc = .ok (.if_icmp .ge off, 3)) (ht : (pc : Int) + off = (tgt : Int)) (hx : y ≤ x) (k : ZP Γ Qf n sl M tgt loc st) : ZP Γ Qf n sl M pc loc (.int y :: .int x :: st) :=
  fun ls hl H locs hj => lv_icmp_ge hC.x hC.b d ht (fun _ => k ls hl H locs hj) (fun c => absurd (Int32.not_le.mp c) (Int32.not_lt.mpr hx))
theorem z_newI (hC : zC Γ cc nL own) {x : Int32} {N a : Nat} (hw : Cond.arrayClass .int ∈ wsL_law) (hx : ¬ x < 0) (hN : x.toNatClampNeg = N) (hb : N * 4 ≤ 536870912) (hce : n + 1 ≤ (zR Γ).cells) (hsl : sl + N ≤ (zR Γ).slots) (ha : zh Γ + M.length = a) (d : decode cc pc = .ok (.newarray .int, 2)) (kk : ZP Γ Qf (n + 1) (sl + N) (M ++ [.inl (zA Γ 0, N, .inl (fun _ => 0))]) (pc + 2) loc (.ref a :: st)) : ZP Γ Qf n sl M pc loc (.int x :: st) :=
  z_newa hC (ty := .int) (t0 := 0) (a0 := (N, .inl (fun _ => 0))) rfl hw rfl (fun _ _ h => h) (fun _ => rfl) hx hN hb hce hsl ha d kk
theorem z_newB (hC : zC Γ cc nL own) {x : Int32} {N a : Nat} (hw : Cond.arrayClass .byte ∈ wsL_law) (hx : ¬ x < 0) (hN : x.toNatClampNeg = N) (hb : N * 1 ≤ 536870912) (hce : n + 1 ≤ (zR Γ).cells) (hsl : sl + N ≤ (zR Γ).slots) (ha : zh Γ + M.length = a) (d : decode cc pc = .ok (.newarray .byte, 2)) (kk : ZP Γ Qf (n + 1) (sl + N) (M ++ [.inl (zA Γ 1, N, .inl (fun _ => 0))]) (pc + 2) loc (.ref a :: st)) : ZP Γ Qf n sl M pc loc (.int x :: st) :=
  z_newa hC (ty := .byte) (t0 := 1) (a0 := (N, .inl (fun _ => 0))) rfl hw rfl (fun _ _ h => h) (fun _ => rfl) hx hN hb hce hsl ha d kk
theorem z_newL (hC : zC Γ cc nL own) {x : Int32} {N a : Nat} (hw : Cond.arrayClass .long ∈ wsL_law) (hx : ¬ x < 0) (hN : x.toNatClampNeg = N) (hb : N * 8 ≤ 536870912) (hce : n + 1 ≤ (zR Γ).cells) (hsl : sl + N ≤ (zR Γ).slots) (ha : zh Γ + M.length = a) (d : decode cc pc = .ok (.newarray .long, 2)) (kk : ZP Γ Qf (n + 1) (sl + N) (M ++ [.inl (zA Γ 2, N, .inr (.inl (fun _ => 0)))]) (pc + 2) loc (.ref a :: st)) : ZP Γ Qf n sl M pc loc (.int x :: st) :=
  z_newa hC (ty := .long) (t0 := 2) (a0 := (N, .inr (.inl (fun _ => 0)))) rfl hw rfl (fun _ _ h => h) (fun _ => rfl) hx hN hb hce hsl ha d kk
theorem z_mnaI (hC : zC Γ cc nL own) {idx N K a : Nat} {x y : Int32} (hcl : Cond.classLink own idx "[[I" ∈ wsL_law) (hac : Cond.arrayClass .int ∈ wsL_law) (hx : ¬ x < 0) (hN : x.toNatClampNeg = N) (hy : ¬ y < 0) (hK : y.toNatClampNeg = K) (hb1 : N * 4 ≤ 536870912) (hb2 : K * 4 ≤ 536870912) (hce : n + (1 + N) ≤ (zR Γ).cells) (hsl : sl + (N + N * K) ≤ (zR Γ).slots) (ha : zh Γ + M.length = a) (d : decode cc pc = .ok (.multianewarray idx 2, 4)) (kk : ZP Γ Qf (n + 1 + N) (sl + N + N * K) (M ++ (.inl (zA Γ 3, N, .inr (.inr (.inr (.inr (fun i => some (a + 1 + i)))))) :: List.replicate N (.inl (zA Γ 0, K, .inl (fun _ => 0))))) (pc + 4) loc (.ref a :: st)) : ZP Γ Qf n sl M pc loc (.int y :: .int x :: st) :=
  z_mna hC (ty := .int) (t0 := 0) (t1 := 3) (z := (K, .inl (fun _ => 0))) hcl hC.ao.1.2.1 hac rfl rfl (fun _ _ h => h) hx hN hy hK hb1 hb2 (by omega) rfl rfl (fun c => arrV_new c K (.int 0)) hce hsl ha d kk
theorem z_mnaL (hC : zC Γ cc nL own) {idx N K a : Nat} {x y : Int32} (hcl : Cond.classLink own idx "[[J" ∈ wsL_law) (hac : Cond.arrayClass .long ∈ wsL_law) (hx : ¬ x < 0) (hN : x.toNatClampNeg = N) (hy : ¬ y < 0) (hK : y.toNatClampNeg = K) (hb1 : N * 4 ≤ 536870912) (hb2 : K * 8 ≤ 536870912) (hce : n + (1 + N) ≤ (zR Γ).cells) (hsl : sl + (N + N * K) ≤ (zR Γ).slots) (ha : zh Γ + M.length = a) (d : decode cc pc = .ok (.multianewarray idx 2, 4)) (kk : ZP Γ Qf (n + 1 + N) (sl + N + N * K) (M ++ (.inl (zA Γ 4, N, .inr (.inr (.inr (.inr (fun i => some (a + 1 + i)))))) :: List.replicate N (.inl (zA Γ 2, K, .inr (.inl (fun _ => 0)))))) (pc + 4) loc (.ref a :: st)) : ZP Γ Qf n sl M pc loc (.int y :: .int x :: st) :=
  z_mna hC (ty := .long) (t0 := 2) (t1 := 4) (z := (K, .inr (.inl (fun _ => 0)))) hcl hC.ao.1.2.2 hac rfl rfl (fun _ _ h => h) hx hN hy hK hb1 hb2 (by omega) rfl rfl (fun c => arrV_new c K (.long 0)) hce hsl ha d kk
theorem zOk_nil {b : Nat} : zOk b [] (fun _ => True) := ⟨fun k q h => (by simp at h), fun _ _ _ _ _ _ => trivial, fun _ _ _ _ _ => trivial⟩
theorem zE_nil {H : Heap} : va_P (zD Γ) vwCl [] H ∧ ∀ U : State, U.heap = H → (zs Γ).WarmedH U.vm → True := ⟨fun k q h => (by simp at h), fun _ _ _ => trivial⟩
theorem zH.pick {H : Heap} {locs : List Loc} (hj : zH Γ M H locs) {k a : Nat} {e : va_E} (hk : M[k]? = some e) (ha : zh Γ + k = a) : va_P (zD Γ) vwCl [(a, e)] H := by
  intro j q hq
  have h0 : j < 1 := (List.getElem?_eq_some_iff.mp hq).1
  obtain rfl : j = 0 := by omega
  cases hq
  subst ha
  exact hj.1 k _ (adW_at hk)
theorem rmK_1 {h mc ms : Nat} (hR : zR Γ = rmK (h + 1) mc ms) : 1 ≤ (zR Γ).frames ∧ 12 ≤ (zR Γ).locals := by
  rw [hR]
  exact ⟨Nat.le_add_left _ _, by show 12 ≤ 64 * (h + 1); omega⟩
theorem rmK_le {h hc n' mc ms mc1 ms1 : Nat} (hR : zR Γ = rmK h mc ms) (hh : hc < h) (hn : n' ≤ 40) : ((rmK hc mc1 ms1).cells = mc1 ∧ (rmK hc mc1 ms1).slots = ms1) ∧ (rmK hc mc1 ms1).frames + 1 ≤ (zR Γ).frames ∧ 8 + (n' + 11) + (rmK hc mc1 ms1).locals ≤ (zR Γ).locals := by
  rw [hR]
  refine ⟨⟨rfl, rfl⟩, hh, ?_⟩
  show 8 + (n' + 11) + 64 * hc ≤ 64 * h
  omega
end ZROWS4
