/-! CONSTRUCTORS: arrays of references, fields, calls, the end -/
theorem vm_outer (c : ClassId) (N h0 : Nat) : ∀ i : Nat, Jvm.Free.Multi.outerC c N h0 i = arrV c N (fun j => va_rf (if j < i then some (h0 + 1 + j) else none))
  | 0 => by
    show ({ cls := c, slots := Array.replicate N .null, vm := .none } : Cell) = _
    rw [arrV_new]
    exact arrV_congr fun j _ => by simp [va_rf]
  | i + 1 => by
    show (Jvm.Free.Multi.outerC c N h0 i).setSlot i (.ref (h0 + 1 + i)) = _
    rw [vm_outer c N h0 i, arrV_store]
    refine arrV_congr fun j _ => ?_
    by_cases e : j = i
    · subst e
      simp [updV, va_rf]
    · by_cases h : j < i
      · simp [updV, e, h, Nat.lt_succ_of_lt h]
      · simp [updV, e, h, show ¬ j < i + 1 by omega]
section ZROWS2
variable {Γ : ZCtx} {cc : ByteArray} {nL : Nat} {own : String} {Qf : State → Prop} {n sl : Nat} {M : List va_E} {pc : Nat} {loc loc' : List (Nat × Value)} {st rest : List Value}
theorem z_anew (hC : zC Γ cc nL own) {idx N a : Nat} {x : Int32} (hcl : Cond.classLink own idx "HatNet$Game" ∈ wsL_law) (hx : ¬ x < 0) (hN : x.toNatClampNeg = N) (hb : N * 4 ≤ 536870912) (hce : n + 1 ≤ (zR Γ).cells) (hsl : sl + N ≤ (zR Γ).slots) (ha : zh Γ + M.length = a) (d : decode cc pc = .ok (.anewarray idx, 3)) (kk : ZP Γ Qf (n + 1) (sl + N) (M ++ [.inl (zA Γ 5, N, .inr (.inr (.inr (.inr (fun _ => none)))))]) (pc + 3) loc (.ref a :: st)) : ZP Γ Qf n sl M pc loc (.int x :: st) := by
  intro ls hl H locs hj
  subst hN
  have hs : H.size = a := hj.2.1.trans ha
  subst hs
  refine W.anew hC.x hC.b hC.o (hC.ts _ hcl) (va_AO.use hC.ao.1.1) rfl d rfl hx hb hce hsl fun cA kA comp h1 h2 h3 h4 => ?_
  obtain ⟨kA', comp', g1, g2, g3, g4⟩ := (hC.k.2 5 (zA Γ 5, .object "HatNet$Game") rfl).2
  have hcA : cA = zA Γ 5 := Option.some.inj (h1.symm.trans g4)
  subst hcA
  refine kk ls hl _ locs (hj.push (by simp) (fun q hq => by rw [Array.getElem?_push, if_neg (Nat.ne_of_lt hq)]) fun k e he => ?_)
  have h0 : k < 1 := (List.getElem?_eq_some_iff.mp he).1
  obtain rfl : k = 0 := by omega
  cases he
  show (H.push _)[H.size + 0]? = some (vp_cell _ _)
  rw [vp_cell_q, arrV_new]
  simp [va_rf]
theorem z_mna (hC : zC Γ cc nL own) {idx N K t0 t1 a : Nat} {x y : Int32} {ty : FieldType} {z : vp_A} (hcl : Cond.classLink own idx ("[" ++ (FieldType.array ty).toString) ∈ wsL_law) (hov : zOA ty (zs Γ)) (hac : Cond.arrayClass ty ∈ wsL_law) (ht0 : (tysL (zA Γ))[t0]? = some (zA Γ t0, ty)) (ht1 : (tysL (zA Γ))[t1]? = some (zA Γ t1, .array ty)) (hra : ∀ U cA, va_RA U cA ty → U.vm.findClass (FieldType.array ty).toString = some cA) (hx : ¬ x < 0) (hN : x.toNatClampNeg = N) (hy : ¬ y < 0) (hK : y.toNatClampNeg = K) (hb1 : N * 4 ≤ 536870912) (hb2 : K * componentBytes ty ≤ 536870912) (hb3 : K ≤ 536870912) (hdf : fits ty (defaultValue ty) = true) (hdd : (defaultValue ty).isDefault = true) (hz : ∀ c : ClassId, Jvm.Free.Multi.innerC c K (defaultValue ty) = vp_cell c z) (hce : n + (1 + N) ≤ (zR Γ).cells) (hsl : sl + (N + N * K) ≤ (zR Γ).slots) (ha : zh Γ + M.length = a) (d : decode cc pc = .ok (.multianewarray idx 2, 4)) (kk : ZP Γ Qf (n + 1 + N) (sl + N + N * K) (M ++ (.inl (zA Γ t1, N, .inr (.inr (.inr (.inr (fun i => some (a + 1 + i)))))) :: List.replicate N (.inl (zA Γ t0, z)))) (pc + 4) loc (.ref a :: st)) : ZP Γ Qf n sl M pc loc (.int y :: .int x :: st) := by
  intro ls hl H locs hj
  subst hN
  subst hK
  have hs : H.size = a := hj.2.1.trans ha
  intro T hT Xs
  obtain ⟨vm₁, cA, comp, -, fA, fC, hO, -, X', step⟩ := Xs.multianewarray2F hC.x hC.o (hC.ts _ hcl) (zOA.use hov) (hC.ts _ hac) (g := F0 (zm Γ) pc ls (.int y :: .int x :: st)) rfl (by rw [hC.b]; exact d) rfl hx hy hb1 hb2 hb3 hdf hdd hce hsl
  have ec : comp = zA Γ t0 := Option.some.inj (fC.symm.trans (hra _ _ (hC.k.2 t0 _ ht0).2))
  have eo : cA = zA Γ t1 := Option.some.inj (fA.symm.trans (show (zs Γ).vm.findClass _ = _ from (hC.k.2 t1 _ ht1).2))
  subst ec
  subst eo
  generalize hF : Jvm.Free.Multi.fill (T.setVm vm₁) (zA Γ t1) (zA Γ t0) x.toNatClampNeg y.toNatClampNeg (defaultValue ty) x.toNatClampNeg = F at X' step
  have hTh : (T.setVm vm₁).heap = H := hT
  obtain ⟨f1, f2, -, -⟩ := Jvm.Free.Multi.fill_facts (T.setVm vm₁) (zA Γ t1) (zA Γ t0) x.toNatClampNeg y.toNatClampNeg (defaultValue ty) x.toNatClampNeg
  rw [hF, hTh] at f1 f2
  have hold : ∀ q : Nat, q < H.size → F.heap[q]? = H[q]? := fun q hq => by
    have := Jvm.Free.Multi.fill_old (T.setVm vm₁) (zA Γ t1) (zA Γ t0) x.toNatClampNeg y.toNatClampNeg (defaultValue ty) (a := q) (by rw [hTh]; exact hq) x.toNatClampNeg
    rw [hF, hTh] at this
    exact this
  have hrow : ∀ j : Nat, j < x.toNatClampNeg → F.heap[H.size + 1 + j]? = some (vp_cell (zA Γ t0) z) := fun j hj => by
    have := Jvm.Free.Multi.fill_inner (T.setVm vm₁) (zA Γ t1) (zA Γ t0) x.toNatClampNeg y.toNatClampNeg (defaultValue ty) x.toNatClampNeg j hj
    rw [hF, hTh, hz] at this
    exact this
  rw [vm_outer] at f2
  subst hs
  obtain ⟨t, a1, b1⟩ := kk ls hl F.heap locs (hj.push (by rw [f1]; simp; omega) hold fun k e he => by
    cases k with
    | zero =>
      cases he
      show F.heap[H.size + 0]? = some (vp_cell _ _)
      rw [vp_cell_q]
      refine f2.trans (congrArg some (arrV_congr fun j hj => ?_))
      rw [if_pos hj]
    | succ k =>
      have hk : k < x.toNatClampNeg := by
        have := (List.getElem?_eq_some_iff.mp he).1
        simpa using this
      have he2 : (List.replicate x.toNatClampNeg (Sum.inl (zA Γ t0, z) : va_E))[k]? = some e := he
      rw [List.getElem?_replicate, if_pos hk] at he2
      cases he2
      show F.heap[H.size + (k + 1)]? = some (vp_cell _ _)
      rw [show H.size + (k + 1) = H.size + 1 + k by omega]
      exact hrow k hk) F rfl X'
  refine ⟨t, step t ?_, b1⟩
  have e : T.heap.size = H.size := by rw [hT]
  rw [e]
  exact a1
theorem z_get (hC : zC Γ cc nL own) {idx ci fi k a : Nat} {fs : List Value} {v : Value} (hf : kwF own idx ci fi) (hk : M[k]? = some (.inr (ci, fs))) (hv : fs[fi]? = some v) (ha : zh Γ + k = a) (d : decode cc pc = .ok (.getfield idx, 3)) (kk : ZP Γ Qf n sl M (pc + 3) loc (v :: st)) : ZP Γ Qf n sl M pc loc (.ref a :: st) := by
  intro ls hl H locs hj
  obtain ⟨C, T, N, h1, h2, h3, h4⟩ := hf
  subst ha
  exact va_get (D := zD Γ) (ci := ci) (v := v) (C := C) (T := T) (N := N) hC.x hC.b hC.ts h3 hC.o hC.k hj.1 k (adW_at hk) h1 fi h2 (hC.ts _ h4) (fun _ h => h) hv d (kk ls hl H locs hj)
theorem z_get0 (hC : zC Γ cc nL own) {idx ci fi k a : Nat} {fs : List Value} {v : Value} (hf : kwF own idx ci fi) (hk : (z0 Γ)[k]? = some (a, .inr (ci, fs))) (hv : fs[fi]? = some v) (d : decode cc pc = .ok (.getfield idx, 3)) (kk : ZP Γ Qf n sl M (pc + 3) loc (v :: st)) : ZP Γ Qf n sl M pc loc (.ref a :: st) := by
  intro ls hl H locs hj
  obtain ⟨C, T, N, h1, h2, h3, h4⟩ := hf
  exact va_get (D := zD Γ) (ci := ci) (v := v) (C := C) (T := T) (N := N) hC.x hC.b hC.ts h3 hC.o hC.k (hj.w0 hC) k hk h1 fi h2 (hC.ts _ h4) (fun _ h => h) hv d (kk ls hl H locs hj)
theorem z_put (hC : zC Γ cc nL own) {idx ci fi k a : Nat} {ty : FieldType} {fs fs' : List Value} {v : Value} (hf : kwP own idx ci fi ty) (hk : M[k]? = some (.inr (ci, fs))) (hl2 : fi < fs.length) (hs : fs.set fi v = fs') {M' : List va_E} (hM : M.set k (.inr (ci, fs')) = M') (hn : narrow ty v = v) (hfit : fits ty v = true) (ha : zh Γ + k = a) (d : decode cc pc = .ok (.putfield idx, 3)) (kk : ZP Γ Qf n sl M' (pc + 3) loc st) : ZP Γ Qf n sl M pc loc (v :: .ref a :: st) := by
  intro ls hl H locs hj
  obtain ⟨C, T, N, ty0, g1, g2, g3, g4, g5, g6, g7, g8⟩ := hf
  subst ha
  have hap := va_apart (own := own) hC.ts g3 ty0 g5 g6 hC.k g1
  obtain ⟨hP, hz, hS⟩ := hj
  obtain ⟨r, h1, cell, q1, q2, q3, q4⟩ := hP k _ (adW_at hk)
  have hr : r = (C, T, N) := Option.some.inj (h1.symm.trans g1)
  subst hr
  obtain ⟨hSl, hfc, kC, hkC, hkind⟩ := hC.k.1 ci _ g1
  obtain ⟨cf, kf, fi', f, hi, hsl⟩ := hSl fi g2
  have hlay := hC.ts _ (g3 _ (u_in_lay g2))
  unfold u_lay at hlay
  rw [if_neg (by rw [g7]; decide)] at hlay
  have hst := (u_facts hfc hkC (u_lays hC.ts g3 g2) hi).1
  have h6 := u_store hfc hkC hkind hlay hi g8 hn hfit
  refine W.putK hC.x hC.b (f := f) ⟨hC.o, hC.ts _ g4, ⟨_, _, _, hi⟩, hst⟩ (by rw [q2]; exact h6) q1 q3 (by rw [hsl]; exact k2_hasslot (q4 fi g2)) rfl rfl d fun H' e1 e2 e3 => ?_
  rw [hsl] at e1 ⊢
  refine kk ls hl H' _ ⟨?_, ?_, hS.put e2 e3 (Nat.le_add_right _ _)⟩
  · rw [← hM, ← hs, ← adW_set]
    exact hP.set (e := .inr (ci, fs.set fi v)) (adW_D (h := zh Γ)) (adW_at hk) ⟨_, g1, t_OB.to (V := updV (vp_V fs) fi v) ⟨_, e1, q2, q3, t_set q4 hap g2 v⟩ (fun j _ => vp_updV_set hl2 v j)⟩ e3
  · rw [e2, ← hM, List.length_set]
    exact hz
/-- a final field, in its own class's constructor -/
def kwPF (own : String) (idx ci fi : Nat) (ty : FieldType) : Prop := ∃ (C : String) (T : u_T) (M : Nat) (ty0 : Nat → FieldType), vwCl[ci]? = some (C, T, M) ∧ fi < M ∧ (∀ w ∈ u_ws C T M, w ∈ wsL_law) ∧ Cond.fieldLink own idx (T fi).1 (T fi).2.1 (T fi).2.2.1 ∈ wsL_law ∧ (∀ k, k < M → parseFieldDescriptor (T k).2.2.1 = some (ty0 k)) ∧ (∀ a, a < M → ∀ b, b < M → a ≠ b → (T a).2.1 ≠ (T b).2.1) ∧ (T fi).2.2.2 = true ∧ parseFieldDescriptor (T fi).2.2.1 = some ty ∧ (T fi).1 = own
theorem z_putF (hC : zC Γ cc nL own) (hin : (zmeth Γ).name = "<init>") {idx ci fi k a : Nat} {ty : FieldType} {fs fs' : List Value} {v : Value} (hf : kwPF own idx ci fi ty) (hk : M[k]? = some (.inr (ci, fs))) (hl2 : fi < fs.length) (hs : fs.set fi v = fs') {M' : List va_E} (hM : M.set k (.inr (ci, fs')) = M') (hn : narrow ty v = v) (hfit : fits ty v = true) (ha : zh Γ + k = a) (d : decode cc pc = .ok (.putfield idx, 3)) (kk : ZP Γ Qf n sl M' (pc + 3) loc st) : ZP Γ Qf n sl M pc loc (v :: .ref a :: st) := by
  intro ls hl H locs hj
  obtain ⟨C, T, N, ty0, g1, g2, g3, g4, g5, g6, g7, g8, g9⟩ := hf
  subst ha
  have hap := va_apart (own := own) hC.ts g3 ty0 g5 g6 hC.k g1
  obtain ⟨hP, hz, hS⟩ := hj
  obtain ⟨r, h1, cell, q1, q2, q3, q4⟩ := hP k _ (adW_at hk)
  have hr : r = (C, T, N) := Option.some.inj (h1.symm.trans g1)
  subst hr
  obtain ⟨hSl, hfc, kC, hkC, hkind⟩ := hC.k.1 ci _ g1
  obtain ⟨cf, kf, fi', f, hi, hsl⟩ := hSl fi g2
  have hlay := hC.ts _ (g3 _ (u_in_lay g2))
  unfold u_lay at hlay
  rw [if_pos g7] at hlay
  have hst := (u_facts hfc hkC (u_lays hC.ts g3 g2) hi).1
  have hcf : (zm Γ).cls = cf := by
    obtain ⟨_, _, c', _, _, _, -, -, hf', -, -, -, hown2, -⟩ := Cond.laysFinal_spec hlay
    have e1 : c' = cf := by have := hi.symm.trans hf'; simp at this; exact this.1.symm
    rw [g9] at hown2
    rw [← e1]; exact Option.some.inj (hC.o.symm.trans hown2)
  have h6 := u_fits hfc hkC hkind (Or.inr hlay) hi g8 hn hfit
  refine W.putFinK hC.x hC.b hC.o (hC.ts _ g4) hi hst hcf hin (by rw [q2]; exact h6) q1 q3 (by rw [hsl]; exact k2_hasslot (q4 fi g2)) rfl rfl d fun H' e1 e2 e3 => ?_
  rw [hsl] at e1 ⊢
  refine kk ls hl H' _ ⟨?_, ?_, hS.put e2 e3 (Nat.le_add_right _ _)⟩
  · rw [← hM, ← hs, ← adW_set]
    exact hP.set (e := .inr (ci, fs.set fi v)) (adW_D (h := zh Γ)) (adW_at hk) ⟨_, g1, t_OB.to (V := updV (vp_V fs) fi v) ⟨_, e1, q2, q3, t_set q4 hap g2 v⟩ (fun j _ => vp_updV_set hl2 v j)⟩ e3
  · rw [e2, ← hM, List.length_set]
    exact hz
theorem z_last (hC : zC Γ cc nL own) {k N a : Nat} {f : Nat → Int64} {i : Int32} {x : Int64} (hk : M[k]? = some (.inl (zA Γ 2, N, .inr (.inl f)))) (hin : vp_in i N) {M' : List va_E} (hM : M.set k (.inl (zA Γ 2, N, .inr (.inl (vp_updL f i.toNatClampNeg x)))) = M') (ha : zh Γ + k = a) (d : decode cc pc = .ok (.lastore, 1)) (kk : ZP Γ Qf n sl M' (pc + 1) loc st) : ZP Γ Qf n sl M pc loc (.long x :: .int i :: .ref a :: st) := by
  intro ls hl H locs hj
  subst ha
  obtain ⟨hP, hz, hS⟩ := hj
  refine W.last hC.x hC.b (hP k _ (adW_at hk)) ((hC.k.2 2 (zA Γ 2, .long) rfl).1 N (fun j => .long (f j))) (fun q => by cases q) (by show ¬ (i < 0 ∨ (arrV _ _ _).slots.size ≤ _); rw [arrV_size]; exact hin) rfl rfl d fun H1 e z oq => ?_
  refine kk ls hl H1 _ ⟨?_, ?_, hS.put z oq (Nat.le_add_right _ _)⟩
  · rw [← hM, ← adW_set]
    refine hP.set (e := .inl (zA Γ 2, N, .inr (.inl (vp_updL f i.toNatClampNeg x)))) (adW_D (h := zh Γ)) (adW_at hk) ?_ oq
    show H1[zh Γ + k]? = some (vp_cell _ _)
    rw [e, vp_cell_l, vp_cell_l, arrV_store]
    refine congrArg some (arrV_congr fun j _ => ?_)
    by_cases q : j = i.toNatClampNeg
    · subst q
      simp [updV, vp_updL]
    · simp [updV, vp_updL, q]
  · rw [z, ← hM, List.length_set]
    exact hz
theorem z_aast (hC : zC Γ cc nL own) {k N a qk v : Nat} {f : Nat → Option Nat} {vs : List Value} {i : Int32} (hk : M[k]? = some (.inl (zA Γ 5, N, .inr (.inr (.inr (.inr f)))))) (hv : M[qk]? = some (.inr (2, vs))) (hin : vp_in i N) {M' : List va_E} (hM : M.set k (.inl (zA Γ 5, N, .inr (.inr (.inr (.inr (va_up f i.toNatClampNeg (some v))))))) = M') (ha : zh Γ + k = a) (hqv : zh Γ + qk = v) (d : decode cc pc = .ok (.aastore, 1)) (kk : ZP Γ Qf n sl M' (pc + 1) loc st) : ZP Γ Qf n sl M pc loc (.ref v :: .int i :: .ref a :: st) := by
  intro ls hl H locs hj
  subst ha
  subst hqv
  obtain ⟨hP, hz, hS⟩ := hj
  have hlt : i.toNatClampNeg < N := Nat.not_le.mp fun q => hin (Or.inr q)
  have h0 : ¬ i < 0 := fun q => hin (Or.inl q)
  obtain ⟨r', hr', cellV, g1, g2, g3, -⟩ := hP qk _ (adW_at hv)
  have hcls := (hC.k.1 2 _ rfl).2
  obtain ⟨kA, comp, k1, k2, k3, -⟩ := (hC.k.2 5 (zA Γ 5, .object "HatNet$Game") rfl).2
  have hcomp : comp = (zD Γ).1 2 := Option.some.inj (k3.symm.trans hcls.1)
  subst hcomp
  obtain ⟨kC, hkC, -⟩ := hcls.2
  refine W.aast hC.x hC.b (hP k _ (adW_at hk)) (fun q h => by cases h) (fun h => by cases h) k1 k2 rfl hkC ⟨h0, by show _ < (arrV _ _ _).slots.size; rw [arrV_size]; exact hlt⟩ g1 (fun q h => by rw [g3] at h; cases h) (by rw [g2]; exact hkC) (by rw [g2]; exact va_assign hcls) rfl rfl d fun H1 e z oq => ?_
  refine kk ls hl H1 _ ⟨?_, ?_, hS.put z oq (Nat.le_add_right _ _)⟩
  · rw [← hM, ← adW_set]
    refine hP.set (e := .inl (zA Γ 5, N, .inr (.inr (.inr (.inr (va_up f i.toNatClampNeg (some (zh Γ + qk)))))))) (adW_D (h := zh Γ)) (adW_at hk) ?_ oq
    show H1[zh Γ + k]? = some (vp_cell _ _)
    rw [e, vp_cell_q, vp_cell_q, arrV_store]
    refine congrArg some (arrV_congr fun j _ => ?_)
    by_cases q : j = i.toNatClampNeg
    · subst q
      simp [updV, va_up, va_rf]
    · simp [updV, va_up, q]
  · rw [z, ← hM, List.length_set]
    exact hz
theorem z_vret (hC : zC Γ cc nL own) {mc ms : Nat} (hr : (zmeth Γ).sig.returnType = none) (d : decode cc pc = .ok (.return_, 1)) : ZP Γ (zQ Γ M mc ms) mc ms M pc loc [] := by
  intro ls hl H locs hj
  exact W.vret hC.x hC.b hr (fun t ht hW => ⟨⟨rfl, hj.w hC t ht hW⟩, hj.2.2.F ht⟩) hj.2.2.2.2 d hC.lk
end ZROWS2
