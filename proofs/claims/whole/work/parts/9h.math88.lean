/-! CONSTRUCTORS: the class's contract, with its game cleared -/
theorem zv_0 : Cond.methodLink RX10 98 yX2_clear ∈ wsL_law := wsL_of (List.mem_of_getElem? (i := 431) (by decide +kernel)) rfl
theorem zv_1 : Cond.instanceMethod yX2_clear ∈ wsL_law := wsL_of (List.mem_of_getElem? (i := 432) (by decide +kernel)) rfl
theorem zv_2 : Cond.selects RX2 yX2_clear yX2_clear ∈ wsL_law := wsL_of (List.mem_of_getElem? (i := 433) (by decide +kernel)) rfl
theorem zv_3 : Cond.initialized RX2 ∈ wsL_law := wsL_of (List.mem_of_getElem? (i := 141) (by decide +kernel)) rfl
theorem zv_4 : Cond.code yX2_clear cX2_clear 3 none ∈ wsL_law := wsL_of (List.mem_of_getElem? (i := 434) (by decide +kernel)) rfl
theorem zv_clear : kwV RX10 98 RX2 yX2_clear cX2_clear 3 none 1 := ⟨⟨zv_0, zv_1, zv_2, zv_3, zv_4⟩, by decide +kernel⟩
def eX (adK adV : Nat → Nat) (h : Nat) : State → Prop := fun U => strF adK adV (fun q => h ≤ q) U U.heap ∧ strR adK U
theorem zOk_eX {adK adV : Nat → Nat} {h : Nat} : zOk h [] (eX adK adV h) := by
  refine ⟨fun k q hq => (by simp at hq), fun u U hW hs hq hE => ⟨(hE.1.moved hW.alike).kept (fun a ha hA => hq a (Nat.not_le.mp hA)), strR.warm hW hE.2⟩, fun u U hv hh hE => ⟨?_, strR.same hv hE.2⟩⟩
  rw [hh]
  exact strF.moved (u := u) (U := U) (by rw [hv]; exact Vm.Alike.refl u.vm) hE.1
abbrev dX (D : va_G) (cA : Nat → ClassId) (h : Nat) (adK adV : Nat → Nat) : DCtx := ((D, cA, h), (layX, 147, adX h, []), (adK, adV))
theorem dX_W {D : va_G} {cA : Nat → ClassId} {h : Nat} {adK adV : Nat → Nat} {κ : Mem} : dW (dX D cA h adK adV) κ = cwd layX 147 cA (adX h) κ := List.append_nil _
def dfX10 : List Value := [.null, .null, .null, .null, .null, .null, .null, .null, .null, .null, .null, .int 0, .int 0, .int 0, .int 0]
theorem zt_X10 {D : va_G} {cA : Nat → ClassId} {h : Nat} {adK adV : Nat → Nat} {l : Launch} {F : Nat} {κ1 : Mem} (hκ : pX2_clear F 1 kX0 0 = some κ1) : Met l yX10_init (.code yX10_init cX10_init 1 none :: wsL_law) (rmK 3 146 46299) (va_Pc [.ref h] (zW D cA h [] (eX adK adV h) [.inr (10, dfX10)])) (fun _ st oc t => (oc = .returned none ∧ ctW (dX D cA h adK adV) κ1 t ∧ zAO t) ∧ va_F (fun q => h ≤ q) st t) 146 46299 (fun q => h ≤ q) := by
  refine Met_ofWF (cc := cX10_init) (maxL := 1) (ret := none) (by decide +kernel) rfl ?_
  intro p e s m args below meth c s₁ B hml hv
  obtain ⟨rfl, h1, h2, h3, h4, h5, h6⟩ := hv
  have hts := atoms_spec (ws := Cond.code yX10_init cX10_init 1 none :: wsL_law) B.pre
  have hown : s.vm.findClass yX10_init.cls = some m.cls := findClass_of_methodNamed B.named
  have hin : meth.name = "<init>" := (name_of_methodNamed B.named B.method).1
  have hsz : h ≤ s.heap.size := by rw [h2]; exact Nat.le_add_right _ _
  generalize hΓ : ((((p, l, e, rmK 3 146 46299, s), (m, #[.ref h], below, meth, c), (D, cA), (h, [], eX adK adV h)) : ZCtx)) = Γ
  have hC : zC Γ cX10_init 1 yX10_init.cls := by
    subst hΓ
    exact ⟨B.exec, B.bytes, hml, hown, fun w hw => hts w (List.mem_cons_of_mem _ hw), h3, hsz, B.notSynchronized, h4, h5, h6, zOk_eX⟩
  have hlv := lv_entry [.ref h] (n := 1) (Nat.le_of_ble_eq_true rfl)
  rw [lg_entry_eq]
  have hR : zR Γ = rmK 3 146 46299 := by subst hΓ; rfl
  have hin2 : (zmeth Γ).name = "<init>" := by subst hΓ; exact hin
  have key : ZP Γ (MQ (zbelow Γ) (fun _ st oc t => (oc = .returned none ∧ ctW (dX D cA h adK adV) κ1 t ∧ zAO t) ∧ va_F (fun q => h ≤ q) st t) (zargs Γ) (zs Γ) 146 46299 (fun q => h ≤ q)) 0 0 [.inr (10, dfX10)] 0 (lv_args 0 [.ref (zh Γ)]) [] := by
    refine zw_X10 hR hC hin2 ?_
    intro ls hl H locs hj
    have hP := mX_P ((zb_all (zA Γ) (zh Γ)).P hj.1)
    obtain ⟨⟨w1, w2, w3, w4, w5⟩, w6⟩ := zv_clear
    have hG : GoodIn wsL_law (wsV RX10 98 RX2 yX2_clear (.code yX2_clear cX2_clear 3 none :: wsL_law)) := goodL (fun w hq => by
      unfold wsV at hq
      simp only [List.mem_append, List.mem_cons, List.not_mem_nil, or_false] at hq
      rcases hq with (h | h | h | h) | h | h <;> first | exact h | (rw [h]; assumption))
    have hcell : (cwd layX 147 (zA Γ) (adX (zh Γ)) kX0)[1]? = some (adX (zh Γ) 1, cel (zA Γ) (adX (zh Γ)) kX0 (layX 1) 1) := by simp [cwd, List.getElem?_map, List.getElem?_range]
    have hst : ∀ U : State, U.heap = H → (zs Γ).WarmedH U.vm → ctW (dX (zD Γ) (zA Γ) (zh Γ) adK adV) kX0 U := fun U hU hW => by
      have hE := hj.e hC U hU hW
      have hE2 : eX adK adV (zh Γ) U := by subst hΓ; exact hE
      refine ⟨?_, va_K.moved hW.alike hC.k, fun κ => by rw [dX_W]; exact cwd_DX, ?_, hE2.1, hE2.2⟩
      · rw [dX_W, hU]; exact hP
      · show zh Γ ≤ _
        rw [hU, hj.2.1]; exact Nat.le_add_right _ _
    have hrun := va_runV (R := zR Γ) (meth := zmeth Γ) (below := zbelow Γ) (e := ze Γ) (l := zl Γ) (As := [.int 0]) (rest := []) (g := F0 (zm Γ) 172 ls [.int 0, .ref (zh Γ + 1)]) (cells := 146) (slots := 46299) (locs := locs) (H := H) (b := zh Γ + 1) (index := 98) ⟨hC.x, hC.b, rfl, hC.o, hC.ts⟩ (ctX2_clear (Δ := dX (zD Γ) (zA Γ) (zh Γ) adK adV) rfl rfl 1 isG_1 F kX0 0 κ1 hκ) (cwV 1 hC.ts hG rfl rfl rfl w6 (by rw [hR]; decide)) ⟨ctW_blind, va_recv hC.k hP (ci := 2) rfl hcell, fun U hU hW => ⟨rfl, hst U hU hW⟩⟩ rfl rfl hl.1 rfl (lv_room (Nat.le_of_ble_eq_true rfl)) dX10_init_172 ⟨by rw [hR]; decide, by rw [hR]; decide⟩
    intro T hT X
    obtain ⟨v, st₀, t, T', L, h0, X', hL, e1, e2, ⟨⟨hv, hw'⟩, hz, hk⟩, stp⟩ := hrun T hT X
    cases hv
    rw [h0] at hz hk
    have hS := hj.2.2
    have hS2 : va_S (fun q => zh Γ ≤ q) (zs Γ).heap T'.heap (locs ++ L) := by
      refine ⟨by rw [e1]; exact Nat.le_trans hS.1 hz, fun q q1 q2 => ?_, fun q hq => ?_⟩
      · rw [e1, hk q (Nat.lt_of_lt_of_le q1 hS.1) q2]
        exact hS.2.1 q q1 q2
      · rcases List.mem_append.mp hq with h | h
        · exact hS.2.2 q h
        · exact hL q h
    have hret : (zmeth Γ).sig.returnType = none := by subst hΓ; exact B.returns
    obtain ⟨t2, a1, b1⟩ := W.vret (pc := 175) (ls := ls) (Qc := (fun _ st oc t => (oc = .returned none ∧ ctW (dX D cA h adK adV) κ1 t ∧ zAO t) ∧ va_F (fun q => h ≤ q) st t)) (free := fun q => h ≤ q) hC.x hC.b hret (fun t' ht hW => by
      have hE := hC.ok.2.1 (zs Γ) t' hW hC.sz (fun q hq => by rw [ht]; exact hS2.2.1 q (Nat.lt_of_lt_of_le hq hC.sz) (Nat.not_le.mpr hq)) hC.e
      have hw1 := hw'.1
      rw [← e1] at hw1
      subst hΓ
      refine ⟨⟨rfl, ⟨?_, va_K.moved hW.alike hC.k, fun κ => by rw [dX_W]; exact cwd_DX, ?_, hE.1, hE.2⟩, zAO.warm hW hC.ao⟩, hS2.F ht⟩
      · rw [ht]; exact hw1
      · rw [ht]; exact Nat.le_trans hC.sz hS2.1) (by subst hΓ; exact hS2.2.2) dX10_init_175 hC.lk T' rfl X'
    exact ⟨t2, stp t2 a1, b1⟩
  subst hΓ
  exact key _ (by rw [show (zc ((p, l, e, rmK 3 146 46299, s), (m, #[.ref h], below, meth, c), (D, cA), (h, [], eX adK adV h))).maxLocals = 1 from hml]; exact hlv) s.heap [] ⟨h1, h2, va_S.rf⟩
