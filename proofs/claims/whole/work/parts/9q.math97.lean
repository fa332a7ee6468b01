/-! AT THE LAW'S START: classes, arrays, strings, statics (laid by wip/gen/startgen.py) -/
theorem zx_0 : Cond.instantiable RX10 15 ∈ wsL_law := wsL_of (List.mem_of_getElem? (i := 161) (by decide +kernel)) rfl
theorem zx_1 : Cond.initialized RX10 ∈ wsL_law := wsL_of (List.mem_of_getElem? (i := 140) (by decide +kernel)) rfl
theorem zx_2 : Cond.instantiable RX11 36 ∈ wsL_law := wsL_of (List.mem_of_getElem? (i := 1387) (by decide +kernel)) rfl
theorem zx_3 : Cond.initialized RX11 ∈ wsL_law := wsL_of (List.mem_of_getElem? (i := 151) (by decide +kernel)) rfl
theorem zx_4 : Cond.classLink RL 7 RX10 ∈ wsL_law := wsL_of (List.mem_of_getElem? (i := 160) (by decide +kernel)) rfl
theorem zx_5 : Cond.methodLink RL 9 yX10_init ∈ wsL_law := wsL_of (List.mem_of_getElem? (i := 162) (by decide +kernel)) rfl
theorem zx_6 : Cond.instanceMethod yX10_init ∈ wsL_law := wsL_of (List.mem_of_getElem? (i := 163) (by decide +kernel)) rfl
theorem zx_7 : Cond.code yX10_init cX10_init 1 none ∈ wsL_law := wsL_of (List.mem_of_getElem? (i := 164) (by decide +kernel)) rfl
theorem zx_8 : Cond.classLink RL 10 RX11 ∈ wsL_law := wsL_of (List.mem_of_getElem? (i := 1386) (by decide +kernel)) rfl
theorem zx_9 : Cond.methodLink RL 12 yX11_init ∈ wsL_law := wsL_of (List.mem_of_getElem? (i := 1388) (by decide +kernel)) rfl
theorem zx_10 : Cond.instanceMethod yX11_init ∈ wsL_law := wsL_of (List.mem_of_getElem? (i := 1389) (by decide +kernel)) rfl
theorem zx_11 : Cond.code yX11_init cX11_init 1 none ∈ wsL_law := wsL_of (List.mem_of_getElem? (i := 1390) (by decide +kernel)) rfl
theorem zx_12 : Cond.arrayClass .int ∈ wsL_law := wsL_of (List.mem_of_getElem? (i := 207) (by decide +kernel)) rfl
theorem zx_13 : Cond.arrayClass .long ∈ wsL_law := wsL_of (List.mem_of_getElem? (i := 208) (by decide +kernel)) rfl
theorem zx_14 : Cond.arrayClass .byte ∈ wsL_law := wsL_of (List.mem_of_getElem? (i := 378) (by decide +kernel)) rfl
theorem zc_X10 : kwC 10 RX10 TX10 15 tyX10 [.null, .null, .null, .null, .null, .null, .null, .null, .null, .null, .null, .int 0, .int 0, .int 0, .int 0] := ⟨rfl, inX10, tyX10_ok, zx_0, zx_1, fun j hj => match j, hj with | 0, _ => rfl | 1, _ => rfl | 2, _ => rfl | 3, _ => rfl | 4, _ => rfl | 5, _ => rfl | 6, _ => rfl | 7, _ => rfl | 8, _ => rfl | 9, _ => rfl | 10, _ => rfl | 11, _ => rfl | 12, _ => rfl | 13, _ => rfl | 14, _ => rfl | j + 15, h => absurd h (by omega)⟩
theorem zc_X11 : kwC 11 RX11 TX11 36 tyX11 [.int 0, .int 0, .null, .null, .null, .null, .int 0, .null, .null, .null, .null, .int 0, .int 0, .null, .int 0, .int 0, .null, .null, .null, .int 0, .int 0, .null, .int 0, .int 0, .int 0, .int 0, .int 0, .int 0, .int 0, .int 0, .int 0, .int 0, .int 0, .int 0, .long 0, .null] := ⟨rfl, inX11, tyX11_ok, zx_2, zx_3, fun j hj => match j, hj with | 0, _ => rfl | 1, _ => rfl | 2, _ => rfl | 3, _ => rfl | 4, _ => rfl | 5, _ => rfl | 6, _ => rfl | 7, _ => rfl | 8, _ => rfl | 9, _ => rfl | 10, _ => rfl | 11, _ => rfl | 12, _ => rfl | 13, _ => rfl | 14, _ => rfl | 15, _ => rfl | 16, _ => rfl | 17, _ => rfl | 18, _ => rfl | 19, _ => rfl | 20, _ => rfl | 21, _ => rfl | 22, _ => rfl | 23, _ => rfl | 24, _ => rfl | 25, _ => rfl | 26, _ => rfl | 27, _ => rfl | 28, _ => rfl | 29, _ => rfl | 30, _ => rfl | 31, _ => rfl | 32, _ => rfl | 33, _ => rfl | 34, _ => rfl | 35, _ => rfl | j + 36, h => absurd h (by omega)⟩
theorem zy_new10 : Cond.classLink RL 7 RX10 ∈ wsL_law := zx_4
theorem zy_ini10 : kwI RL 9 yX10_init cX10_init 1 0 := ⟨⟨Or.inl zx_5, zx_6, zx_1, zx_7⟩, rfl, by decide +kernel⟩
theorem zy_new11 : Cond.classLink RL 10 RX11 ∈ wsL_law := zx_8
theorem zy_ini11 : kwI RL 12 yX11_init cX11_init 1 0 := ⟨⟨Or.inl zx_9, zx_10, zx_3, zx_11⟩, rfl, by decide +kernel⟩
theorem zy_int : Cond.arrayClass .int ∈ wsL_law := zx_12
theorem zy_long : Cond.arrayClass .long ∈ wsL_law := zx_13
theorem zy_byte : Cond.arrayClass .byte ∈ wsL_law := zx_14
theorem zt_ao : Cond.arrayOver (.object "HatNet$Game") ∈ lw_tbl := List.mem_of_getElem? (i := 332) (by decide +kernel)
theorem zt_ai : Cond.arrayOver (.array .int) ∈ lw_tbl := List.mem_of_getElem? (i := 216) (by decide +kernel)
theorem zt_al : Cond.arrayOver (.array .long) ∈ lw_tbl := List.mem_of_getElem? (i := 291) (by decide +kernel)
theorem zt_cs : Cond.laysStatic "java/lang/String" "COMPACT_STRINGS" "Z" ∈ lw_tbl := List.mem_of_getElem? (i := 557) (by decide +kernel)
theorem zt_sf : Cond.laysStatic "jdk/internal/util/Preconditions" "SIOOBE_FORMATTER" "Ljava/util/function/BiFunction;" ∈ lw_tbl := List.mem_of_getElem? (i := 573) (by decide +kernel)
theorem zt_is : Cond.initialized "java/lang/String" ∈ lw_tbl := List.mem_of_getElem? (i := 153) (by decide +kernel)
theorem zt_ip : Cond.initialized "jdk/internal/util/Preconditions" ∈ lw_tbl := List.mem_of_getElem? (i := 155) (by decide +kernel)
theorem zt_n0 : Cond.methodLinkNest "HatNet" 9 yX2_init "HatNet" ∈ lw_tbl := List.mem_of_getElem? (i := 170) (by decide +kernel)
theorem zt_n1 : Cond.methodLinkNest "HatNet$History" 24 yX2_init "HatNet" ∈ lw_tbl := List.mem_of_getElem? (i := 333) (by decide +kernel)
theorem zt_n2 : Cond.methodLinkNest "HatNet$Reader" 11 yX2_init "HatNet" ∈ lw_tbl := List.mem_of_getElem? (i := 352) (by decide +kernel)
theorem zt_n3 : Cond.methodLinkNest "HatNet" 77 yX5_init "HatNet" ∈ lw_tbl := List.mem_of_getElem? (i := 412) (by decide +kernel)
theorem zt_l0 : Cond.methodLinkNest "HatNet$Colourings" 52 yX10_lengthen "HatNet" ∈ lw_tbl := List.mem_of_getElem? (i := 708) (by decide +kernel)
theorem zt_l1 : Cond.methodLinkNest "HatNet$Reader" 123 yX10_lengthen "HatNet" ∈ lw_tbl := List.mem_of_getElem? (i := 682) (by decide +kernel)
theorem zt_l2 : Cond.methodLinkNest "HatNet$Renumbering" 64 yX10_lengthen "HatNet" ∈ lw_tbl := List.mem_of_getElem? (i := 1196) (by decide +kernel)
section START
variable {args : Array Value} {s : State}
theorem wsL_hts (hts : ∀ w ∈ lw_tbl, w.before args s = true) : ∀ w ∈ wsL_law, w.before args s = true := fun w h => hts w (wsL_law_in w h)
theorem st_cls (hts : ∀ w ∈ lw_tbl, w.before args s = true) (ci : Nat) : ∃ d : ClassId × (Nat → Nat), ∀ q, vwCl[ci]? = some q → u_Kn s q.1 q.2.1 q.2.2 d.1 d.2 := by
  have h := wsL_hts hts
  have g : ∀ {C : String} {T : u_T} {N : Nat} {ty : Nat → FieldType} {fs : List Value}, kwC ci C T N ty fs → ∃ d : ClassId × (Nat → Nat), ∀ q, vwCl[ci]? = some q → u_Kn s q.1 q.2.1 q.2.2 d.1 d.2 := fun k => by
    obtain ⟨k1, k2, k3, k4, k5, k6⟩ := k
    obtain ⟨cC, iS, hK⟩ := u_known h k2 (h _ k4)
    refine ⟨(cC, iS), fun q hq => ?_⟩
    obtain rfl := Option.some.inj (k1.symm.trans hq)
    exact hK
  rcases Nat.lt_or_ge ci 12 with hc | hc
  · have h12 : ci = 0 ∨ ci = 1 ∨ ci = 2 ∨ ci = 3 ∨ ci = 4 ∨ ci = 5 ∨ ci = 6 ∨ ci = 7 ∨ ci = 8 ∨ ci = 9 ∨ ci = 10 ∨ ci = 11 := by omega
    rcases h12 with rfl | rfl | rfl | rfl | rfl | rfl | rfl | rfl | rfl | rfl | rfl | rfl
    · exact g zc_X0
    · exact g zc_X1
    · exact g zc_X2
    · exact g zc_X3
    · exact g zc_X4
    · exact g zc_X5
    · exact g zc_X6
    · exact g zc_X7
    · exact g zc_X8
    · exact g zc_X9
    · exact g zc_X10
    · exact g zc_X11
  · refine ⟨(0, fun _ => 0), fun q hq => ?_⟩
    have := (List.getElem?_eq_some_iff.mp hq).1
    have h12 : vwCl.length = 12 := rfl
    omega
theorem st_arr {ty : FieldType} (h : (Cond.arrayClass ty).before args s = true) : ∃ cA, ArrOfT s cA ty ∧ s.vm.findClass ("[" ++ ty.toString) = some cA := by
  obtain ⟨c, k, comp, h1, h2, h3⟩ := Cond.arrayClass_spec h
  exact ⟨c, fun n z => ⟨fun q hq => (by cases hq), k, h2, comp, h3⟩, h1⟩
theorem st_arA {ty : FieldType} (h : (Cond.arrayOver (.array ty)).before args s = true) : ∃ cA, ArrOfT s cA (.array ty) ∧ s.vm.findClass ("[" ++ (FieldType.array ty).toString) = some cA := by
  obtain ⟨comp, c, k, h1, h2, h3, h4, h5⟩ := arrayOverA_spec h
  exact ⟨c, fun n z => ⟨fun q hq => (by cases hq), k, h3, comp, h4⟩, h5⟩
theorem st_arO {C : String} (h : (Cond.arrayOver (.object C)).before args s = true) : ∃ cA, ArrOfT s cA (.object C) ∧ va_RA s cA (.object C) := by
  obtain ⟨comp, c, k, h1, h2, h3, h4, h5⟩ := Cond.arrayOver_spec h
  exact ⟨c, fun n z => ⟨fun q hq => (by cases hq), k, h3, comp, h4⟩, k, comp, h3, h4, h1, h5⟩
theorem st_K (hts : ∀ w ∈ lw_tbl, w.before args s = true) : ∃ (D : va_G) (cA : Nat → ClassId), va_K D vwCl (tysL cA) s := by
  have h := wsL_hts hts
  obtain ⟨c0, a0, b0⟩ := st_arr (h _ zy_int)
  obtain ⟨c1, a1, b1⟩ := st_arr (h _ zy_byte)
  obtain ⟨c2, a2, b2⟩ := st_arr (h _ zy_long)
  obtain ⟨c3, a3, b3⟩ := st_arA (hts _ zt_ai)
  obtain ⟨c4, a4, b4⟩ := st_arA (hts _ zt_al)
  obtain ⟨c5, a5, b5⟩ := st_arO (hts _ zt_ao)
  refine ⟨(fun c => (Classical.choose (st_cls hts c)).1, fun c => (Classical.choose (st_cls hts c)).2), fun k => [c0, c1, c2, c3, c4, c5].getD k 0, fun c q hq => Classical.choose_spec (st_cls hts c) q hq, fun k q hk => ?_⟩
  have hk6 := (List.getElem?_eq_some_iff.mp hk).1
  have hk6 : k < 6 := hk6
  have h6 : k = 0 ∨ k = 1 ∨ k = 2 ∨ k = 3 ∨ k = 4 ∨ k = 5 := by omega
  rcases h6 with rfl | rfl | rfl | rfl | rfl | rfl <;> cases hk
  · exact ⟨a0, b0⟩
  · exact ⟨a1, b1⟩
  · exact ⟨a2, b2⟩
  · exact ⟨a3, b3⟩
  · exact ⟨a4, b4⟩
  · exact ⟨a5, b5⟩
theorem st_AO (hts : ∀ w ∈ lw_tbl, w.before args s = true) : zAO s := by
  refine ⟨⟨hts _ zt_ao, hts _ zt_ai, hts _ zt_al⟩, fun q hq => ?_⟩
  unfold nestI at hq
  simp only [List.mem_cons, List.not_mem_nil, or_false] at hq
  rcases hq with rfl | rfl | rfl | rfl
  · exact va_tabs rfl rfl (hts _ zt_n0)
  · exact va_tabs rfl rfl (hts _ zt_n1)
  · exact va_tabs rfl rfl (hts _ zt_n2)
  · exact va_tabs rfl rfl (hts _ zt_n3)
/-- what the given part says of the string constant i -/
def stT (i : Nat) : Term := Term.string (tmJS.getD i ("", 0, "")).1 (tmJS.getD i ("", 0, "")).2.1
def stV (i : Nat) : Term := .field (stT i) "java/lang/String" "value" "[B"
def stF (i : Nat) : List Cond := [Cond.exactly (stT i) "java/lang/String", Cond.eq (.field (stT i) "java/lang/String" "coder" "B") (.int 0), Cond.arrayOf (stV i) .byte, Cond.eq (.length (stV i)) (.int (Int32.ofNat (lenJS.getD i 0)))] ++ (List.range (lenJS.getD i 0)).map (fun j => Cond.eq (.elem (stV i) (.int (Int32.ofNat j))) (.int ((bytJS.getD i []).getD j 0)))
def stR (i : Nat) : Cond := Cond.stringRef (tmJS.getD i ("", 0, "")).1 (tmJS.getD i ("", 0, "")).2.1 (tmJS.getD i ("", 0, "")).2.2
theorem stF_in : (List.range 20).all (fun i => (stF i).all (fun w => decide (w ∈ flatC (Jvm.Cond.and given_1 narrow_1)))) = true := by decide +kernel
theorem stR_in : (List.range 20).all (fun i => decide (stR i ∈ lw_tbl)) = true := by decide +kernel
theorem lenJS_lt : ∀ i, i < 20 → lenJS.getD i 0 < 2 ^ 31 := by decide +kernel
theorem st_str (hts : ∀ w ∈ lw_tbl, w.before args s = true) (hg : (Jvm.Cond.and given_1 narrow_1).before args s = true) (i : Nat) (hi : i < 20) : ∃ a v : Nat, (va_O "java/lang/String" a (fun q => s.heap.size ≤ q) s s.heap ∧ va_OF "java/lang/String" "coder" "B" (.int 0) a (fun q => s.heap.size ≤ q) s s.heap ∧ va_OF "java/lang/String" "value" "[B" (.ref v) a (fun q => s.heap.size ≤ q) s s.heap ∧ va_T .byte v (lenJS.getD i 0) (fun j => .int ((bytJS.getD i []).getD j 0)) (fun q => s.heap.size ≤ q) s s.heap) ∧ (stT i).eval args s none [] s = some (.ref a) := by
  have hs := flat_of_before _ hg
  have h1 := List.all_eq_true.mp stF_in i (List.mem_range.mpr hi)
  have hf : ∀ w ∈ stF i, w.before args s = true := fun w hw => hs w (of_decide_eq_true (List.all_eq_true.mp h1 w hw))
  obtain ⟨adK, adV, hS, hev⟩ := vk_Sof (args := args) (s := s) (N := 1) (tm := fun _ => stT i) (len := [lenJS.getD i 0]) (byt := [bytJS.getD i []]) (A := fun q => s.heap.size ≤ q)
    (fun k hk => by obtain rfl : k = 0 := by omega
                    exact lenJS_lt i hi)
    (fun k hk => hf _ (by unfold stF; simp))
    (fun k hk => hf _ (by unfold stF; simp))
    (fun k hk => hf _ (by unfold stF stV; simp))
    (fun k hk => by obtain rfl : k = 0 := by omega
                    exact hf _ (by unfold stF stV; simp))
    (fun k hk j hj => by
      obtain rfl : k = 0 := by omega
      have hj : j < lenJS.getD i 0 := hj
      refine hf _ ?_
      unfold stF
      exact List.mem_append_right _ (List.mem_map.mpr ⟨j, List.mem_range.mpr hj, rfl⟩))
    (fun k k' hk hk' hne => absurd (by omega) hne) (fun a ha h => absurd h (Nat.not_le.mpr ha))
  exact ⟨adK 0, adV 0, hS.1 0 (by omega), hev 0 (by omega)⟩
theorem st_E (hts : ∀ w ∈ lw_tbl, w.before args s = true) (hg : (Jvm.Cond.and given_1 narrow_1).before args s = true) : ∃ adK adV : Nat → Nat, eX adK adV s.heap.size s := by
  have h0 : ∀ i : Nat, ∃ q : Nat × Nat, i < 20 → (va_O "java/lang/String" q.1 (fun q => s.heap.size ≤ q) s s.heap ∧ va_OF "java/lang/String" "coder" "B" (.int 0) q.1 (fun q => s.heap.size ≤ q) s s.heap ∧ va_OF "java/lang/String" "value" "[B" (.ref q.2) q.1 (fun q => s.heap.size ≤ q) s s.heap ∧ va_T .byte q.2 (lenJS.getD i 0) (fun j => .int ((bytJS.getD i []).getD j 0)) (fun q => s.heap.size ≤ q) s s.heap) ∧ (stT i).eval args s none [] s = some (.ref q.1) := fun i => by
    by_cases hi : i < 20
    · obtain ⟨a, v, h⟩ := st_str hts hg i hi
      exact ⟨(a, v), fun _ => h⟩
    · exact ⟨(0, 0), fun h => absurd h hi⟩
  obtain ⟨ad, had⟩ := Classical.axiomOfChoice h0
  have hs := flat_of_before _ hg
  have hA : ∀ a : Nat, a < s.heap.size → ¬ (s.heap.size ≤ a) := fun a ha h => absurd h (Nat.not_le.mpr ha)
  refine ⟨fun i => (ad i).1, fun i => (ad i).2, ⟨fun i hi => (had i hi).1, va_Zof (hts _ zt_cs) (hts _ zt_is) (va_eqt (hs _ (by decide +kernel))) hA, va_Zqof (hts _ zt_sf) (hts _ zt_ip) (hs _ (by decide +kernel)) hA⟩, fun i q hq => ?_, fun q hq => ?_⟩
  · have hi : i < 20 := (List.getElem?_eq_some_iff.mp hq).1
    have e : tmJS.getD i ("", 0, "") = q := by rw [List.getD_eq_getElem?_getD, hq]; rfl
    have h1 := of_decide_eq_true (List.all_eq_true.mp stR_in i (List.mem_range.mpr hi))
    have h2 := hts _ h1
    have h3 := (had i hi).2
    unfold stR at h2
    unfold stT at h3
    rw [e] at h2 h3
    exact vk_R.of h2 h3
  · unfold nestL at hq
    simp only [List.mem_cons, List.not_mem_nil, or_false] at hq
    rcases hq with rfl | rfl | rfl
    · exact va_tabs rfl rfl (hts _ zt_l0)
    · exact va_tabs rfl rfl (hts _ zt_l1)
    · exact va_tabs rfl rfl (hts _ zt_l2)
end START
