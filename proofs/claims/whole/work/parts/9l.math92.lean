/-! THE LAW'S WALK: calls, the script's numbers -/
section LROWS2
variable {Γ : LCtx} {κ ρ κ1 ρ1 : Mem} {pc i : Nat} {loc : List (Nat × Value)} {st rest : List Value}
theorem l_rm (hC : lC Γ) {hc n' : Nat} (hh : hc ≤ 1000) (hn : n' ≤ 40) : (rmH hc).frames + 1 ≤ (gR Γ.1).frames ∧ 8 + (n' + 11) + (rmH hc).locals ≤ (gR Γ.1).locals := by
  rw [hC.R]
  constructor
  · show hc + 1 ≤ 2048
    omega
  · show 8 + (n' + 11) + 64 * hc ≤ 84000
    omega
theorem l_fit (hC : lC Γ) : gcells Γ.1 + 0 ≤ (gR Γ.1).cells ∧ gslots Γ.1 + 0 ≤ (gR Γ.1).slots := by
  rw [hC.R]
  exact hC.cs
/-- a call of either side, told by what it says of both worlds -/
theorem l_call (hC : lC Γ) {Δ : DCtx} {hc n' nA idx ci : Nat} {a : Nat} {y : MethodName} {C : String} {T : u_T} {N : Nat} {fs : List Value} {c' : ByteArray} {rt : Option FieldType} {As : List Value} {κ0 κ2 : Mem} {r : Int32}
    (hΔ : Δ.1 = (gΔ Γ.1).1 ∧ Δ.2.2 = (gΔ Γ.1).2.2) (hD : ∀ κ, va_D (dA (gΔ Γ.1)) (dW Δ κ)) (hM : CT Δ (gl Γ.1) y c' n' rt (rmH hc) (.ref a :: As) κ0 (some (.int r)) κ2) (hw : kwV RL idx C y c' n' rt nA) (hh : hc ≤ 1000) (hn : n' ≤ 40)
    (hin : ∀ H, va_P (dD (gΔ Γ.1)) vwCl (dW (lX Γ ρ) κ) H → va_P (dD (gΔ Γ.1)) vwCl (dW Δ κ0) H ∧ va_at (dD (gΔ Γ.1)) vwCl (a, .inr (ci, fs)) H) (hout : ∀ H, va_P (dD (gΔ Γ.1)) vwCl (dW Δ κ2) H → va_P (dD (gΔ Γ.1)) vwCl (dW (lX Γ ρ1) κ1) H) (hci : vwCl[ci]? = some (C, T, N)) (hst : st = As.reverse ++ .ref a :: rest) (hlen : As.length = nA) (hcat : (rest.map fun v => v.category).sum ≤ 8)
    (d : decode cL_law pc = .ok (.invokevirtual idx, 3)) (kk : LQ Γ κ1 ρ1 (pc + 3) loc (.int r :: rest)) : LQ Γ κ ρ pc loc st := by
  intro ls hl H locs hj
  obtain ⟨⟨D', cA', B'⟩, ⟨lay', N', ad', rs'⟩, aK, aV⟩ := Δ
  obtain ⟨h1, h2⟩ := hΔ
  dsimp only at h1 h2
  obtain ⟨⟨w1, w2, w3, w4, w5⟩, w6⟩ := hw
  have hG : GoodIn wsL_law (wsV RL idx C y (.code y c' n' rt :: wsL_law)) := goodL (fun w hq => by
    unfold wsV at hq
    simp only [List.mem_append, List.mem_cons, List.not_mem_nil, or_false] at hq
    rcases hq with (h | h | h | h) | h | h <;> first | exact h | (rw [h]; assumption))
  obtain ⟨hP0, hat⟩ := hin H hj.1
  have hS := hj.2
  have hdK : aK = dadK (gΔ Γ.1) := congrArg Prod.fst h2
  have hdV : aV = dadV (gΔ Γ.1) := congrArg Prod.snd h2
  have hdA : cA' = dcA (gΔ Γ.1) := congrArg (fun x => x.2.1) h1
  have hdD : D' = dD (gΔ Γ.1) := congrArg (fun x => x.1) h1
  have hdB : B' = dB (gΔ Γ.1) := congrArg (fun x => x.2.2) h1
  subst hdK hdV hdA hdD hdB
  have hrec := va_recv (H := H) (ws := [(a, .inr (ci, fs))]) (a := a) (fs := fs) (q0 := 0) hC.k (fun k q hq => by
    have h0 : k < 1 := (List.getElem?_eq_some_iff.mp hq).1
    obtain rfl : k = 0 := by omega
    cases hq
    exact hat) hci rfl
  have hrun := va_runV (R := gR Γ.1) (meth := gmeth Γ.1) (below := gbelow Γ.1) (e := ge Γ.1) (l := gl Γ.1) (As := As) (rest := rest) (g := F0 (gm Γ.1) pc ls st) (cells := gcells Γ.1) (slots := gslots Γ.1) (locs := locs) (H := H) (b := a) (index := idx) ⟨hC.x, hC.b, rfl, hC.o, hC.ts⟩ hM (cwV nA hC.ts hG rfl rfl rfl w6 (l_rm hC hh hn)) ⟨ctW_blind, hrec, fun U hU hW => by
    refine ⟨rfl, ?_, va_K.moved hW.alike hC.k, hD, ?_, ?_, strR.warm hW hC.sr⟩
    · rw [hU]; exact hP0
    · show dB (gΔ Γ.1) ≤ _
      rw [hU, hC.sz]; exact hS.1
    · rw [hU]; exact (hC.sf.moved hW.alike).kept hS.2.1⟩ rfl hlen hl.1 hst (lv_room hcat) d (l_fit hC)
  intro T0 hT X
  obtain ⟨v, st₀, t, T', L, h0, X', hL, e1, e2, ⟨⟨hv, hw'⟩, hz, hk⟩, stp⟩ := hrun T0 hT X
  cases hv
  rw [h0] at hz hk
  have hw1 := hw'.1
  rw [← e1] at hw1
  obtain ⟨t2, a1, b1⟩ := kk ls hl T'.heap (locs ++ L) ⟨hout _ hw1, Nat.le_trans hS.1 (by rw [e1]; exact hz), fun q g1 g2 => by rw [e1, hk q (Nat.lt_of_lt_of_le g1 hS.1) g2]; exact hS.2.1 q g1 g2, fun q hq => by
      rcases List.mem_append.mp hq with h | h
      · exact hS.2.2 q h
      · exact hL q h⟩ T' rfl X'
  exact ⟨t2, stp t2 a1, b1⟩
theorem l_callX (hC : lC Γ) {hc n' nA idx : Nat} {y : MethodName} {c' : ByteArray} {rt : Option FieldType} {r : Int32} (As : List Value) (rest : List Value)
    (hM : CT (lX Γ ρ) (gl Γ.1) y c' n' rt (rmH hc) (.ref (gad Γ.1 0) :: As) κ (some (.int r)) κ1) (hw : kwV RL idx RX10 y c' n' rt nA) (hh : hc ≤ 1000) (hn : n' ≤ 40) (hst : st = As.reverse ++ .ref (gad Γ.1 0) :: rest) (hlen : As.length = nA) (hcat : (rest.map fun v => v.category).sum ≤ 8)
    (d : decode cL_law pc = .ok (.invokevirtual idx, 3)) (kk : LQ Γ κ1 ρ (pc + 3) loc (.int r :: rest)) : LQ Γ κ ρ pc loc st :=
  l_call hC (Δ := lX Γ ρ) (ci := 10) ⟨rfl, rfl⟩ (fun κ => hC.d κ ρ) hM hw hh hn (fun H hP => ⟨hP, hP 0 _ rfl⟩) (fun _ h => h) rfl hst hlen hcat d kk
theorem l_callM (hC : lC Γ) {hc n' nA idx : Nat} {y : MethodName} {c' : ByteArray} {rt : Option FieldType} {r : Int32} (As : List Value) (rest : List Value)
    (hM : CT (lM Γ κ) (gl Γ.1) y c' n' rt (rmH hc) (.ref (qm Γ 0) :: As) ρ (some (.int r)) ρ1) (hw : kwV RL idx RX11 y c' n' rt nA) (hh : hc ≤ 1000) (hn : n' ≤ 40) (hst : st = As.reverse ++ .ref (qm Γ 0) :: rest) (hlen : As.length = nA) (hcat : (rest.map fun v => v.category).sum ≤ 8)
    (d : decode cL_law pc = .ok (.invokevirtual idx, 3)) (kk : LQ Γ κ ρ1 (pc + 3) loc (.int r :: rest)) : LQ Γ κ ρ pc loc st :=
  l_call hC (Δ := lM Γ κ) (ci := 11) ⟨rfl, rfl⟩ (fun ρ => va_D_c (hC.d κ ρ)) hM hw hh hn (fun H hP => ⟨va_P_c hP, (va_P_c (b := cwd layM 15 (dcA (gΔ Γ.1)) (qm Γ) ρ) hP) 0 _ rfl⟩) (fun _ h => va_P_c h) rfl hst hlen hcat d kk
theorem l_arg (hC : lC Γ) {j : Int} {jn : Nat} (hi : i + 6 ≤ qL Γ) (d1 : decode cL_law pc = .ok (.aload_n 0, 1)) (d2 : decode cL_law (pc + 1) = .ok (.iload_n 3, 1)) (d3 : decode cL_law (pc + 1 + 1) = .ok (.iconst j, 1)) (d4 : decode cL_law (pc + 1 + 1 + 1) = .ok (.iadd, 1)) (d5 : decode cL_law (pc + 1 + 1 + 1 + 1) = .ok (.iaload, 1)) (hj : Int32.ofInt j = nI jn) (hjn : jn < 6)
    (kk : LQ Γ κ ρ (pc + 5) (lo Γ i) (.int (qx Γ (i + jn)) :: st)) : LQ Γ κ ρ pc (lo Γ i) st := by
  refine l_aload hC d1 3 rfl rfl ?_
  refine l_iload hC d2 0 rfl rfl ?_
  refine l_iconst hC d3 hj ?_
  refine l_iadd hC d4 ?_
  rw [n_add]
  exact l_sld hC (by omega) d5 kk
theorem and63 (x : Int32) : ∃ k, k < 64 ∧ x &&& 63 = nI k := by
  refine ⟨(x &&& 63).toBitVec.toNat, ?_, (nI_self _).symm⟩
  rw [Int32.toBitVec_and, BitVec.toNat_and]
  exact Nat.lt_of_le_of_lt Nat.and_le_right (by decide)
end LROWS2
