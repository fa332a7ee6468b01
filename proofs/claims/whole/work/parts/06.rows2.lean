section JROWS2
variable {Γ : JCtx} {cc : ByteArray} {nL : Nat} {own : String} {ret : Option FieldType} {lay : Nat → Kd} {N : Nat} {ρ : Type} {Qf : ρ → State → Prop} {κ : Mem} {pc : Nat} {loc loc' : List (Nat × Value)} {st rest : List Value} {P P1 P2 : Option ρ}
def oI (κ : Mem) (r : Int32) : Option Value × Mem := (some (.int r), κ)
def oE (r : Int32 × Mem) : Option Value × Mem := (some (.int r.1), r.2)
def oV (r : Mem) : Option Value × Mem := (none, r)
def oU (κ : Mem) (_ : Unit) : Option Value × Mem := (none, κ)
def oS (Δ : DCtx) (κ : Mem) (r : Nat) : Option Value × Mem := (some (.ref (dadK Δ r)), κ)
theorem j_none : JP Γ Qf none κ pc loc st := fun _ h => nomatch h
theorem j_ckP {c : Bool} (k : c = true → JP Γ Qf P κ pc loc st) : JP Γ Qf (ckP c P) κ pc loc st := fun r hp => k (ckP_some hp).1 r (ckP_some hp).2
def isB (x : Int32) : Bool := decide (x = 0 ∨ x = 1)
theorem isB_n {x : Int32} (h : isB x = true) : narrow .boolean (.int x) = .int x := by
  rcases of_decide_eq_true h with rfl | rfl <;> rfl
theorem kRt_3 (cA : Nat → ClassId) : ∃ t, (tysL cA)[3]? = some (cA 3, t) ∧ t.isReference = true := ⟨_, rfl, rfl⟩
theorem kRt_4 (cA : Nat → ClassId) : ∃ t, (tysL cA)[4]? = some (cA 4, t) ∧ t.isReference = true := ⟨_, rfl, rfl⟩
theorem kRt_5 (cA : Nat → ClassId) : ∃ t, (tysL cA)[5]? = some (cA 5, t) ∧ t.isReference = true := ⟨_, rfl, rfl⟩
-- the four kinds of answers
theorem j_callT (hC : jC Γ cc nL own ret lay N) {h hc : Nat} (hR : gR Γ = rmH h) {ρ' : Type} {f : Option ρ'} {p : ρ' → Option ρ} {out : ρ' → Option Value × Mem} {y : MethodName} {c' : ByteArray} {n' nA idx i : Nat} {rt : Option FieldType} {As : List Value}
    (hM : ∀ r, f = some r → CT (gΔ Γ) (gl Γ) y c' n' rt (rmH hc) (.ref (dadK (gΔ Γ) i) :: As) κ (out r).1 (out r).2)
    (hw : kwV own idx "java/lang/String" y c' n' rt nA) (hh : hc < h) (hn : n' ≤ 40) (hi : i < nJS) (hst : st = As.reverse ++ .ref (dadK (gΔ Γ) i) :: rest) (hlen : As.length = nA) (hcat : (rest.map fun v => v.category).sum ≤ 8) (hmc : (gcells Γ) ≤ (gR Γ).cells ∧ (gslots Γ) ≤ (gR Γ).slots)
    (d : decode cc pc = .ok (.invokevirtual idx, 3)) (kk : ∀ r, JP Γ Qf (p r) (out r).2 (pc + 3) loc ((out r).1.toList ++ rest)) : JP Γ Qf (f.bind p) κ pc loc st := by
  refine j_run hC (out := out) (As := .ref (dadK (gΔ Γ) i) :: As) rfl (fun r h1 ls hl H locs hj => ?_) kk
  obtain ⟨⟨w1, w2, w3, w4, w5⟩, w6⟩ := hw
  have hG : GoodIn wsL_law (wsV own idx "java/lang/String" y (.code y c' n' rt :: wsL_law)) := goodL (fun w hq => by
    unfold wsV at hq
    simp only [List.mem_append, List.mem_cons, List.not_mem_nil, or_false] at hq
    rcases hq with (h | h | h | h) | h | h <;> first | exact h | (rw [h]; assumption))
  obtain ⟨cell, c1, c2, c3, -⟩ := (hC.sf.1 i hi).1.kept hj.2.2.1
  exact va_runV (As := As) (rest := rest) ⟨hC.x, hC.b, rfl, hC.o, hC.ts⟩ (hM r h1) (cwV nA hC.ts hG rfl rfl rfl w6 (by rw [hR]; exact rm_le hh hn)) ⟨ctW_blind, ⟨cell, c1, c2, c3⟩, fun U hU hW => ctW_start hC hj U hU hW⟩ rfl hlen hl.1 hst (lv_room hcat) d hmc
theorem j_callV_I (hC : jC Γ cc nL own ret lay N) {h hc : Nat} (hR : gR Γ = rmH h) {f : Option Int32} {p : Int32 → Option ρ} {y : MethodName} {C : String} {c' : ByteArray} {n' nA idx ci k : Nat} {rt : Option FieldType} {fs : List (Nat × Nat)} {T : u_T} {M : Nat} {As : List Value}
    (hM : ∀ r, f = some r → CT (gΔ Γ) (gl Γ) y c' n' rt (rmH hc) (.ref (gad Γ k) :: As) κ (some (.int r)) κ) (hw : kwV own idx C y c' n' rt nA) (hh : hc < h) (hn : n' ≤ 40) (hk : lay k = kOB ci fs) (hkN : k < N) (hci : vwCl[ci]? = some (C, T, M)) (hst : st = As.reverse ++ .ref (gad Γ k) :: rest) (hlen : As.length = nA) (hcat : (rest.map fun v => v.category).sum ≤ 8) (hmc : (gcells Γ) ≤ (gR Γ).cells ∧ (gslots Γ) ≤ (gR Γ).slots)
    (d : decode cc pc = .ok (.invokevirtual idx, 3)) (kk : ∀ r : Int32, JP Γ Qf (p r) κ (pc + 3) loc (.int r :: rest)) : JP Γ Qf (f.bind p) κ pc loc st := j_callV hC hR (out := oI κ) hM hw hh hn hk hkN hci hst hlen hcat hmc d kk
theorem j_callS_I (hC : jC Γ cc nL own ret lay N) {h hc : Nat} (hR : gR Γ = rmH h) {f : Option Int32} {p : Int32 → Option ρ} {y : MethodName} {c' : ByteArray} {n' nA idx : Nat} {rt : Option FieldType} {As : List Value}
    (hM : ∀ r, f = some r → CT (gΔ Γ) (gl Γ) y c' n' rt (rmH hc) As κ (some (.int r)) κ) (hw : kwS own idx y c' n' rt nA) (hh : hc < h) (hn : n' ≤ 40) (hst : st = As.reverse ++ rest) (hlen : As.length = nA) (hcat : (rest.map fun v => v.category).sum ≤ 8) (hmc : (gcells Γ) ≤ (gR Γ).cells ∧ (gslots Γ) ≤ (gR Γ).slots)
    (d : decode cc pc = .ok (.invokestatic idx, 3)) (kk : ∀ r : Int32, JP Γ Qf (p r) κ (pc + 3) loc (.int r :: rest)) : JP Γ Qf (f.bind p) κ pc loc st := j_callS hC hR (out := oI κ) hM hw hh hn hst hlen hcat hmc d kk
theorem j_callT_I (hC : jC Γ cc nL own ret lay N) {h hc : Nat} (hR : gR Γ = rmH h) {f : Option Int32} {p : Int32 → Option ρ} {y : MethodName} {c' : ByteArray} {n' nA idx i : Nat} {rt : Option FieldType} {As : List Value}
    (hM : ∀ r, f = some r → CT (gΔ Γ) (gl Γ) y c' n' rt (rmH hc) (.ref (dadK (gΔ Γ) i) :: As) κ (some (.int r)) κ) (hw : kwV own idx "java/lang/String" y c' n' rt nA) (hh : hc < h) (hn : n' ≤ 40) (hi : i < nJS) (hst : st = As.reverse ++ .ref (dadK (gΔ Γ) i) :: rest) (hlen : As.length = nA) (hcat : (rest.map fun v => v.category).sum ≤ 8) (hmc : (gcells Γ) ≤ (gR Γ).cells ∧ (gslots Γ) ≤ (gR Γ).slots)
    (d : decode cc pc = .ok (.invokevirtual idx, 3)) (kk : ∀ r : Int32, JP Γ Qf (p r) κ (pc + 3) loc (.int r :: rest)) : JP Γ Qf (f.bind p) κ pc loc st := j_callT hC hR (out := oI κ) hM hw hh hn hi hst hlen hcat hmc d kk
theorem j_callN_I (hC : jC Γ cc nL own ret lay N) {h hc : Nat} (hR : gR Γ = rmH h) {f : Option Int32} {p : Int32 → Option ρ} {y : MethodName} {host : String} {c' : ByteArray} {n' nA idx : Nat} {rt : Option FieldType} {As : List Value}
    (hM : ∀ r, f = some r → CT (gΔ Γ) (gl Γ) y c' n' rt (rmH hc) As κ (some (.int r)) κ) (hw : kwN own idx y host c' n' rt nA) (hh : hc < h) (hn : n' ≤ 40) (hst : st = As.reverse ++ rest) (hlen : As.length = nA) (hcat : (rest.map fun v => v.category).sum ≤ 8) (hmc : (gcells Γ) ≤ (gR Γ).cells ∧ (gslots Γ) ≤ (gR Γ).slots)
    (d : decode cc pc = .ok (.invokestatic idx, 3)) (kk : ∀ r : Int32, JP Γ Qf (p r) κ (pc + 3) loc (.int r :: rest)) : JP Γ Qf (f.bind p) κ pc loc st := j_callN hC hR (out := oI κ) hM hw hh hn hst hlen hcat hmc d kk
theorem j_callV_E (hC : jC Γ cc nL own ret lay N) {h hc : Nat} (hR : gR Γ = rmH h) {f : Option (Int32 × Mem)} {p : (Int32 × Mem) → Option ρ} {y : MethodName} {C : String} {c' : ByteArray} {n' nA idx ci k : Nat} {rt : Option FieldType} {fs : List (Nat × Nat)} {T : u_T} {M : Nat} {As : List Value}
    (hM : ∀ r, f = some r → CT (gΔ Γ) (gl Γ) y c' n' rt (rmH hc) (.ref (gad Γ k) :: As) κ (some (.int r.1)) r.2) (hw : kwV own idx C y c' n' rt nA) (hh : hc < h) (hn : n' ≤ 40) (hk : lay k = kOB ci fs) (hkN : k < N) (hci : vwCl[ci]? = some (C, T, M)) (hst : st = As.reverse ++ .ref (gad Γ k) :: rest) (hlen : As.length = nA) (hcat : (rest.map fun v => v.category).sum ≤ 8) (hmc : (gcells Γ) ≤ (gR Γ).cells ∧ (gslots Γ) ≤ (gR Γ).slots)
    (d : decode cc pc = .ok (.invokevirtual idx, 3)) (kk : ∀ r : Int32 × Mem, JP Γ Qf (p r) r.2 (pc + 3) loc (.int r.1 :: rest)) : JP Γ Qf (f.bind p) κ pc loc st := j_callV hC hR (out := oE) hM hw hh hn hk hkN hci hst hlen hcat hmc d kk
theorem j_callS_E (hC : jC Γ cc nL own ret lay N) {h hc : Nat} (hR : gR Γ = rmH h) {f : Option (Int32 × Mem)} {p : (Int32 × Mem) → Option ρ} {y : MethodName} {c' : ByteArray} {n' nA idx : Nat} {rt : Option FieldType} {As : List Value}
    (hM : ∀ r, f = some r → CT (gΔ Γ) (gl Γ) y c' n' rt (rmH hc) As κ (some (.int r.1)) r.2) (hw : kwS own idx y c' n' rt nA) (hh : hc < h) (hn : n' ≤ 40) (hst : st = As.reverse ++ rest) (hlen : As.length = nA) (hcat : (rest.map fun v => v.category).sum ≤ 8) (hmc : (gcells Γ) ≤ (gR Γ).cells ∧ (gslots Γ) ≤ (gR Γ).slots)
    (d : decode cc pc = .ok (.invokestatic idx, 3)) (kk : ∀ r : Int32 × Mem, JP Γ Qf (p r) r.2 (pc + 3) loc (.int r.1 :: rest)) : JP Γ Qf (f.bind p) κ pc loc st := j_callS hC hR (out := oE) hM hw hh hn hst hlen hcat hmc d kk
theorem j_callT_E (hC : jC Γ cc nL own ret lay N) {h hc : Nat} (hR : gR Γ = rmH h) {f : Option (Int32 × Mem)} {p : (Int32 × Mem) → Option ρ} {y : MethodName} {c' : ByteArray} {n' nA idx i : Nat} {rt : Option FieldType} {As : List Value}
    (hM : ∀ r, f = some r → CT (gΔ Γ) (gl Γ) y c' n' rt (rmH hc) (.ref (dadK (gΔ Γ) i) :: As) κ (some (.int r.1)) r.2) (hw : kwV own idx "java/lang/String" y c' n' rt nA) (hh : hc < h) (hn : n' ≤ 40) (hi : i < nJS) (hst : st = As.reverse ++ .ref (dadK (gΔ Γ) i) :: rest) (hlen : As.length = nA) (hcat : (rest.map fun v => v.category).sum ≤ 8) (hmc : (gcells Γ) ≤ (gR Γ).cells ∧ (gslots Γ) ≤ (gR Γ).slots)
    (d : decode cc pc = .ok (.invokevirtual idx, 3)) (kk : ∀ r : Int32 × Mem, JP Γ Qf (p r) r.2 (pc + 3) loc (.int r.1 :: rest)) : JP Γ Qf (f.bind p) κ pc loc st := j_callT hC hR (out := oE) hM hw hh hn hi hst hlen hcat hmc d kk
theorem j_callN_E (hC : jC Γ cc nL own ret lay N) {h hc : Nat} (hR : gR Γ = rmH h) {f : Option (Int32 × Mem)} {p : (Int32 × Mem) → Option ρ} {y : MethodName} {host : String} {c' : ByteArray} {n' nA idx : Nat} {rt : Option FieldType} {As : List Value}
    (hM : ∀ r, f = some r → CT (gΔ Γ) (gl Γ) y c' n' rt (rmH hc) As κ (some (.int r.1)) r.2) (hw : kwN own idx y host c' n' rt nA) (hh : hc < h) (hn : n' ≤ 40) (hst : st = As.reverse ++ rest) (hlen : As.length = nA) (hcat : (rest.map fun v => v.category).sum ≤ 8) (hmc : (gcells Γ) ≤ (gR Γ).cells ∧ (gslots Γ) ≤ (gR Γ).slots)
    (d : decode cc pc = .ok (.invokestatic idx, 3)) (kk : ∀ r : Int32 × Mem, JP Γ Qf (p r) r.2 (pc + 3) loc (.int r.1 :: rest)) : JP Γ Qf (f.bind p) κ pc loc st := j_callN hC hR (out := oE) hM hw hh hn hst hlen hcat hmc d kk
theorem j_callV_V (hC : jC Γ cc nL own ret lay N) {h hc : Nat} (hR : gR Γ = rmH h) {f : Option Mem} {p : Mem → Option ρ} {y : MethodName} {C : String} {c' : ByteArray} {n' nA idx ci k : Nat} {rt : Option FieldType} {fs : List (Nat × Nat)} {T : u_T} {M : Nat} {As : List Value}
    (hM : ∀ r, f = some r → CT (gΔ Γ) (gl Γ) y c' n' rt (rmH hc) (.ref (gad Γ k) :: As) κ none r) (hw : kwV own idx C y c' n' rt nA) (hh : hc < h) (hn : n' ≤ 40) (hk : lay k = kOB ci fs) (hkN : k < N) (hci : vwCl[ci]? = some (C, T, M)) (hst : st = As.reverse ++ .ref (gad Γ k) :: rest) (hlen : As.length = nA) (hcat : (rest.map fun v => v.category).sum ≤ 8) (hmc : (gcells Γ) ≤ (gR Γ).cells ∧ (gslots Γ) ≤ (gR Γ).slots)
    (d : decode cc pc = .ok (.invokevirtual idx, 3)) (kk : ∀ r : Mem, JP Γ Qf (p r) r (pc + 3) loc rest) : JP Γ Qf (f.bind p) κ pc loc st := j_callV hC hR (out := oV) hM hw hh hn hk hkN hci hst hlen hcat hmc d kk
theorem j_callS_V (hC : jC Γ cc nL own ret lay N) {h hc : Nat} (hR : gR Γ = rmH h) {f : Option Mem} {p : Mem → Option ρ} {y : MethodName} {c' : ByteArray} {n' nA idx : Nat} {rt : Option FieldType} {As : List Value}
    (hM : ∀ r, f = some r → CT (gΔ Γ) (gl Γ) y c' n' rt (rmH hc) As κ none r) (hw : kwS own idx y c' n' rt nA) (hh : hc < h) (hn : n' ≤ 40) (hst : st = As.reverse ++ rest) (hlen : As.length = nA) (hcat : (rest.map fun v => v.category).sum ≤ 8) (hmc : (gcells Γ) ≤ (gR Γ).cells ∧ (gslots Γ) ≤ (gR Γ).slots)
    (d : decode cc pc = .ok (.invokestatic idx, 3)) (kk : ∀ r : Mem, JP Γ Qf (p r) r (pc + 3) loc rest) : JP Γ Qf (f.bind p) κ pc loc st := j_callS hC hR (out := oV) hM hw hh hn hst hlen hcat hmc d kk
theorem j_callT_V (hC : jC Γ cc nL own ret lay N) {h hc : Nat} (hR : gR Γ = rmH h) {f : Option Mem} {p : Mem → Option ρ} {y : MethodName} {c' : ByteArray} {n' nA idx i : Nat} {rt : Option FieldType} {As : List Value}
    (hM : ∀ r, f = some r → CT (gΔ Γ) (gl Γ) y c' n' rt (rmH hc) (.ref (dadK (gΔ Γ) i) :: As) κ none r) (hw : kwV own idx "java/lang/String" y c' n' rt nA) (hh : hc < h) (hn : n' ≤ 40) (hi : i < nJS) (hst : st = As.reverse ++ .ref (dadK (gΔ Γ) i) :: rest) (hlen : As.length = nA) (hcat : (rest.map fun v => v.category).sum ≤ 8) (hmc : (gcells Γ) ≤ (gR Γ).cells ∧ (gslots Γ) ≤ (gR Γ).slots)
    (d : decode cc pc = .ok (.invokevirtual idx, 3)) (kk : ∀ r : Mem, JP Γ Qf (p r) r (pc + 3) loc rest) : JP Γ Qf (f.bind p) κ pc loc st := j_callT hC hR (out := oV) hM hw hh hn hi hst hlen hcat hmc d kk
theorem j_callN_V (hC : jC Γ cc nL own ret lay N) {h hc : Nat} (hR : gR Γ = rmH h) {f : Option Mem} {p : Mem → Option ρ} {y : MethodName} {host : String} {c' : ByteArray} {n' nA idx : Nat} {rt : Option FieldType} {As : List Value}
    (hM : ∀ r, f = some r → CT (gΔ Γ) (gl Γ) y c' n' rt (rmH hc) As κ none r) (hw : kwN own idx y host c' n' rt nA) (hh : hc < h) (hn : n' ≤ 40) (hst : st = As.reverse ++ rest) (hlen : As.length = nA) (hcat : (rest.map fun v => v.category).sum ≤ 8) (hmc : (gcells Γ) ≤ (gR Γ).cells ∧ (gslots Γ) ≤ (gR Γ).slots)
    (d : decode cc pc = .ok (.invokestatic idx, 3)) (kk : ∀ r : Mem, JP Γ Qf (p r) r (pc + 3) loc rest) : JP Γ Qf (f.bind p) κ pc loc st := j_callN hC hR (out := oV) hM hw hh hn hst hlen hcat hmc d kk
theorem j_callV_U (hC : jC Γ cc nL own ret lay N) {h hc : Nat} (hR : gR Γ = rmH h) {f : Option Unit} {p : Unit → Option ρ} {y : MethodName} {C : String} {c' : ByteArray} {n' nA idx ci k : Nat} {rt : Option FieldType} {fs : List (Nat × Nat)} {T : u_T} {M : Nat} {As : List Value}
    (hM : ∀ r, f = some r → CT (gΔ Γ) (gl Γ) y c' n' rt (rmH hc) (.ref (gad Γ k) :: As) κ none κ) (hw : kwV own idx C y c' n' rt nA) (hh : hc < h) (hn : n' ≤ 40) (hk : lay k = kOB ci fs) (hkN : k < N) (hci : vwCl[ci]? = some (C, T, M)) (hst : st = As.reverse ++ .ref (gad Γ k) :: rest) (hlen : As.length = nA) (hcat : (rest.map fun v => v.category).sum ≤ 8) (hmc : (gcells Γ) ≤ (gR Γ).cells ∧ (gslots Γ) ≤ (gR Γ).slots)
    (d : decode cc pc = .ok (.invokevirtual idx, 3)) (kk : JP Γ Qf (p ()) κ (pc + 3) loc rest) : JP Γ Qf (f.bind p) κ pc loc st := j_callV hC hR (out := oU κ) hM hw hh hn hk hkN hci hst hlen hcat hmc d (fun _ => kk)
theorem j_callS_U (hC : jC Γ cc nL own ret lay N) {h hc : Nat} (hR : gR Γ = rmH h) {f : Option Unit} {p : Unit → Option ρ} {y : MethodName} {c' : ByteArray} {n' nA idx : Nat} {rt : Option FieldType} {As : List Value}
    (hM : ∀ r, f = some r → CT (gΔ Γ) (gl Γ) y c' n' rt (rmH hc) As κ none κ) (hw : kwS own idx y c' n' rt nA) (hh : hc < h) (hn : n' ≤ 40) (hst : st = As.reverse ++ rest) (hlen : As.length = nA) (hcat : (rest.map fun v => v.category).sum ≤ 8) (hmc : (gcells Γ) ≤ (gR Γ).cells ∧ (gslots Γ) ≤ (gR Γ).slots)
    (d : decode cc pc = .ok (.invokestatic idx, 3)) (kk : JP Γ Qf (p ()) κ (pc + 3) loc rest) : JP Γ Qf (f.bind p) κ pc loc st := j_callS hC hR (out := oU κ) hM hw hh hn hst hlen hcat hmc d (fun _ => kk)
theorem j_callT_U (hC : jC Γ cc nL own ret lay N) {h hc : Nat} (hR : gR Γ = rmH h) {f : Option Unit} {p : Unit → Option ρ} {y : MethodName} {c' : ByteArray} {n' nA idx i : Nat} {rt : Option FieldType} {As : List Value}
    (hM : ∀ r, f = some r → CT (gΔ Γ) (gl Γ) y c' n' rt (rmH hc) (.ref (dadK (gΔ Γ) i) :: As) κ none κ) (hw : kwV own idx "java/lang/String" y c' n' rt nA) (hh : hc < h) (hn : n' ≤ 40) (hi : i < nJS) (hst : st = As.reverse ++ .ref (dadK (gΔ Γ) i) :: rest) (hlen : As.length = nA) (hcat : (rest.map fun v => v.category).sum ≤ 8) (hmc : (gcells Γ) ≤ (gR Γ).cells ∧ (gslots Γ) ≤ (gR Γ).slots)
    (d : decode cc pc = .ok (.invokevirtual idx, 3)) (kk : JP Γ Qf (p ()) κ (pc + 3) loc rest) : JP Γ Qf (f.bind p) κ pc loc st := j_callT hC hR (out := oU κ) hM hw hh hn hi hst hlen hcat hmc d (fun _ => kk)
theorem j_callN_U (hC : jC Γ cc nL own ret lay N) {h hc : Nat} (hR : gR Γ = rmH h) {f : Option Unit} {p : Unit → Option ρ} {y : MethodName} {host : String} {c' : ByteArray} {n' nA idx : Nat} {rt : Option FieldType} {As : List Value}
    (hM : ∀ r, f = some r → CT (gΔ Γ) (gl Γ) y c' n' rt (rmH hc) As κ none κ) (hw : kwN own idx y host c' n' rt nA) (hh : hc < h) (hn : n' ≤ 40) (hst : st = As.reverse ++ rest) (hlen : As.length = nA) (hcat : (rest.map fun v => v.category).sum ≤ 8) (hmc : (gcells Γ) ≤ (gR Γ).cells ∧ (gslots Γ) ≤ (gR Γ).slots)
    (d : decode cc pc = .ok (.invokestatic idx, 3)) (kk : JP Γ Qf (p ()) κ (pc + 3) loc rest) : JP Γ Qf (f.bind p) κ pc loc st := j_callN hC hR (out := oU κ) hM hw hh hn hst hlen hcat hmc d (fun _ => kk)
theorem j_callV_S (hC : jC Γ cc nL own ret lay N) {h hc : Nat} (hR : gR Γ = rmH h) {f : Option Nat} {p : Nat → Option ρ} {y : MethodName} {C : String} {c' : ByteArray} {n' nA idx ci k : Nat} {rt : Option FieldType} {fs : List (Nat × Nat)} {T : u_T} {M : Nat} {As : List Value}
    (hM : ∀ r, f = some r → CT (gΔ Γ) (gl Γ) y c' n' rt (rmH hc) (.ref (gad Γ k) :: As) κ (some (.ref (dadK (gΔ Γ) r))) κ) (hw : kwV own idx C y c' n' rt nA) (hh : hc < h) (hn : n' ≤ 40) (hk : lay k = kOB ci fs) (hkN : k < N) (hci : vwCl[ci]? = some (C, T, M)) (hst : st = As.reverse ++ .ref (gad Γ k) :: rest) (hlen : As.length = nA) (hcat : (rest.map fun v => v.category).sum ≤ 8) (hmc : (gcells Γ) ≤ (gR Γ).cells ∧ (gslots Γ) ≤ (gR Γ).slots)
    (d : decode cc pc = .ok (.invokevirtual idx, 3)) (kk : ∀ r : Nat, JP Γ Qf (p r) κ (pc + 3) loc (.ref (dadK (gΔ Γ) r) :: rest)) : JP Γ Qf (f.bind p) κ pc loc st := j_callV hC hR (out := oS (gΔ Γ) κ) hM hw hh hn hk hkN hci hst hlen hcat hmc d kk
theorem j_callS_S (hC : jC Γ cc nL own ret lay N) {h hc : Nat} (hR : gR Γ = rmH h) {f : Option Nat} {p : Nat → Option ρ} {y : MethodName} {c' : ByteArray} {n' nA idx : Nat} {rt : Option FieldType} {As : List Value}
    (hM : ∀ r, f = some r → CT (gΔ Γ) (gl Γ) y c' n' rt (rmH hc) As κ (some (.ref (dadK (gΔ Γ) r))) κ) (hw : kwS own idx y c' n' rt nA) (hh : hc < h) (hn : n' ≤ 40) (hst : st = As.reverse ++ rest) (hlen : As.length = nA) (hcat : (rest.map fun v => v.category).sum ≤ 8) (hmc : (gcells Γ) ≤ (gR Γ).cells ∧ (gslots Γ) ≤ (gR Γ).slots)
    (d : decode cc pc = .ok (.invokestatic idx, 3)) (kk : ∀ r : Nat, JP Γ Qf (p r) κ (pc + 3) loc (.ref (dadK (gΔ Γ) r) :: rest)) : JP Γ Qf (f.bind p) κ pc loc st := j_callS hC hR (out := oS (gΔ Γ) κ) hM hw hh hn hst hlen hcat hmc d kk
theorem j_callT_S (hC : jC Γ cc nL own ret lay N) {h hc : Nat} (hR : gR Γ = rmH h) {f : Option Nat} {p : Nat → Option ρ} {y : MethodName} {c' : ByteArray} {n' nA idx i : Nat} {rt : Option FieldType} {As : List Value}
    (hM : ∀ r, f = some r → CT (gΔ Γ) (gl Γ) y c' n' rt (rmH hc) (.ref (dadK (gΔ Γ) i) :: As) κ (some (.ref (dadK (gΔ Γ) r))) κ) (hw : kwV own idx "java/lang/String" y c' n' rt nA) (hh : hc < h) (hn : n' ≤ 40) (hi : i < nJS) (hst : st = As.reverse ++ .ref (dadK (gΔ Γ) i) :: rest) (hlen : As.length = nA) (hcat : (rest.map fun v => v.category).sum ≤ 8) (hmc : (gcells Γ) ≤ (gR Γ).cells ∧ (gslots Γ) ≤ (gR Γ).slots)
    (d : decode cc pc = .ok (.invokevirtual idx, 3)) (kk : ∀ r : Nat, JP Γ Qf (p r) κ (pc + 3) loc (.ref (dadK (gΔ Γ) r) :: rest)) : JP Γ Qf (f.bind p) κ pc loc st := j_callT hC hR (out := oS (gΔ Γ) κ) hM hw hh hn hi hst hlen hcat hmc d kk
theorem j_callN_S (hC : jC Γ cc nL own ret lay N) {h hc : Nat} (hR : gR Γ = rmH h) {f : Option Nat} {p : Nat → Option ρ} {y : MethodName} {host : String} {c' : ByteArray} {n' nA idx : Nat} {rt : Option FieldType} {As : List Value}
    (hM : ∀ r, f = some r → CT (gΔ Γ) (gl Γ) y c' n' rt (rmH hc) As κ (some (.ref (dadK (gΔ Γ) r))) κ) (hw : kwN own idx y host c' n' rt nA) (hh : hc < h) (hn : n' ≤ 40) (hst : st = As.reverse ++ rest) (hlen : As.length = nA) (hcat : (rest.map fun v => v.category).sum ≤ 8) (hmc : (gcells Γ) ≤ (gR Γ).cells ∧ (gslots Γ) ≤ (gR Γ).slots)
    (d : decode cc pc = .ok (.invokestatic idx, 3)) (kk : ∀ r : Nat, JP Γ Qf (p r) κ (pc + 3) loc (.ref (dadK (gΔ Γ) r) :: rest)) : JP Γ Qf (f.bind p) κ pc loc st := j_callN hC hR (out := oS (gΔ Γ) κ) hM hw hh hn hst hlen hcat hmc d kk
theorem j_ldcSW (hC : jC Γ cc nL own ret lay N) {i x : Nat} {tx : String} (d : decode cc pc = .ok (.ldc_w i, 3)) (hq : tmJS[x]? = some (own, i, tx)) (k : JP Γ Qf P κ (pc + 3) loc (.ref (dadK (gΔ Γ) x) :: st)) : JP Γ Qf P κ pc loc st := by
  intro r hp ls hl H locs hj T hT X
  obtain ⟨t, a1, b1⟩ := k r hp ls hl H locs hj T hT X
  refine ⟨t, ?_, b1⟩
  have hz := hC.sr.1 x _ hq
  obtain ⟨kk, cf, j, a', hk, hcf, hcp, -, hr, hev'⟩ := Cond.stringRef_spec hC.o hz.1
  cases hz.2.symm.trans hev'
  obtain ⟨k', hk', he⟩ := X.warmed.alike.2.2 _ _ hk
  have hr' : k'.resolved[i]? = some (some (.string (dadK (gΔ Γ) x))) := by
    rcases X.warmed.entry hk hk' i with h | ⟨h, -⟩
    · rw [h]; exact hr
    · rw [hr] at h; cases h
  have hdg : decode (gc Γ).code (F0 (gm Γ) pc ls st).pc = .ok (.ldc_w i, 3) := by rw [hC.b]; exact d
  jvm_step X.here [hC.x, hdg, ldc_w.wp_string (e := ge Γ) (s := T) (f := F0 (gm Γ) pc ls st) X.here.top hk' (by rw [he]; exact hcf) hcp hr']
  exact a1
def kwM (own : String) (idx : Nat) (y : MethodName) (c : ByteArray) : Prop := Cond.methodLink own idx y ∈ wsL_law ∧ Cond.static y ∈ wsL_law ∧ Cond.initialized "java/lang/Math" ∈ wsL_law ∧ Cond.code y c 2 (some .int) ∈ wsL_law
theorem cat_le {x y : Int32} {rest : List Value} (h : (rest.map fun v => v.category).sum ≤ 8) : (rest.map fun v => v.category).sum + 13 ≤ (rmH 1).locals := by
  unfold rmH
  show _ ≤ 64 * 1
  omega
theorem rm_loc {h k : Nat} (hh : 0 < h) (hk : k ≤ 64) : 1 ≤ (rmH h).frames ∧ k ≤ (rmH h).locals := by
  unfold rmH
  constructor
  · exact hh
  · show k ≤ 64 * h
    omega
theorem j_mmax (hC : jC Γ cc nL own ret lay N) {h : Nat} (hR : gR Γ = rmH h) {idx : Nat} {x y : Int32} (hw : kwM own idx Lib.Math.max.name Lib.Math.max.code) (hh : 0 < h) (hcat : (rest.map fun v => v.category).sum ≤ 8) (hmc : (gcells Γ) ≤ (gR Γ).cells ∧ (gslots Γ) ≤ (gR Γ).slots) (d : decode cc pc = .ok (.invokestatic idx, 3)) (kk : JP Γ Qf P κ (pc + 3) loc (.int (if x < y then y else x) :: rest)) : JP Γ Qf P κ pc loc (.int y :: .int x :: rest) := by
  intro r hp ls hl H locs hj
  obtain ⟨w1, w2, w3, w4⟩ := hw
  exact va_mmax hC.x hC.b hl.1.symm hC.o (hC.ts _ w1) (hC.ts _ w2) (hC.ts _ w3) (hC.ts _ w4) (by rw [hR]; exact (rm_loc hh (Nat.le_refl _)).1) (by rw [hR]; exact (rm_loc (k := (rest.map fun v => v.category).sum + 13) hh (by omega)).2) hmc.1 hmc.2 d (kk r hp ls hl H locs hj)
theorem j_mmin (hC : jC Γ cc nL own ret lay N) {h : Nat} (hR : gR Γ = rmH h) {idx : Nat} {x y : Int32} (hw : kwM own idx Lib.Math.min.name Lib.Math.min.code) (hh : 0 < h) (hcat : (rest.map fun v => v.category).sum ≤ 8) (hmc : (gcells Γ) ≤ (gR Γ).cells ∧ (gslots Γ) ≤ (gR Γ).slots) (d : decode cc pc = .ok (.invokestatic idx, 3)) (kk : JP Γ Qf P κ (pc + 3) loc (.int (if y < x then y else x) :: rest)) : JP Γ Qf P κ pc loc (.int y :: .int x :: rest) := by
  intro r hp ls hl H locs hj
  obtain ⟨w1, w2, w3, w4⟩ := hw
  exact va_mmin hC.x hC.b hl.1.symm hC.o (hC.ts _ w1) (hC.ts _ w2) (hC.ts _ w3) (hC.ts _ w4) (by rw [hR]; exact (rm_loc hh (Nat.le_refl _)).1) (by rw [hR]; exact (rm_loc (k := (rest.map fun v => v.category).sum + 13) hh (by omega)).2) hmc.1 hmc.2 d (kk r hp ls hl H locs hj)
def kwA (own : String) (idx : Nat) : Prop := Cond.methodLink own idx arraycopyName ∈ wsL_law ∧ Cond.native arraycopyName ∈ wsL_law ∧ Cond.static arraycopyName ∈ wsL_law ∧ Cond.initialized "java/lang/System" ∈ wsL_law
def ckC (sp dp n : Int32) (n0 n1 : Nat) (x : Option ρ) : Option ρ := if sp < 0 ∨ dp < 0 ∨ n < 0 ∨ n0 < sp.toNatClampNeg + n.toNatClampNeg ∨ n1 < dp.toNatClampNeg + n.toNatClampNeg then none else x
theorem ckC_some {sp dp n : Int32} {n0 n1 : Nat} {x : Option ρ} {r : ρ} (h : ckC sp dp n n0 n1 x = some r) : ((¬ sp < 0) ∧ (¬ dp < 0) ∧ (¬ n < 0) ∧ sp.toNatClampNeg + n.toNatClampNeg ≤ n0 ∧ dp.toNatClampNeg + n.toNatClampNeg ≤ n1) ∧ x = some r := by
  unfold ckC at h
  split at h
  · cases h
  · rename_i q
    refine ⟨⟨fun z => q (Or.inl z), fun z => q (Or.inr (Or.inl z)), fun z => q (Or.inr (Or.inr (Or.inl z))), ?_, ?_⟩, h⟩
    · exact Nat.not_lt.mp fun z => q (Or.inr (Or.inr (Or.inr (Or.inl z))))
    · exact Nat.not_lt.mp fun z => q (Or.inr (Or.inr (Or.inr (Or.inr z))))
def cpI (κ : Mem) (a b sp dp n : Nat) : Mem := setIA κ b (va_cpy (κ.1 a) (κ.1 b) sp dp n)
def cpL (κ : Mem) (a b sp dp n : Nat) : Mem := setLA κ b (va_cpy (κ.2.1 a) (κ.2.1 b) sp dp n)
theorem j_copyI (hC : jC Γ cc nL own ret lay N) {h : Nat} (hR : gR Γ = rmH h) {idx a b n0 n1 : Nat} {sp dp n : Int32} {p : Mem → Option ρ} (hw : kwA own idx) (hh : 0 < h) (ha : lay a = kIA n0) (haN : a < N) (hb : lay b = kIA n1) (hbN : b < N) (hmc : (gcells Γ) ≤ (gR Γ).cells ∧ (gslots Γ) ≤ (gR Γ).slots) (d : decode cc pc = .ok (.invokestatic idx, 3)) (kk : ∀ κ1 : Mem, JP Γ Qf (p κ1) κ1 (pc + 3) loc []) : JP Γ Qf (ckC sp dp n n0 n1 (nm (cpI κ a b sp.toNatClampNeg dp.toNatClampNeg n.toNatClampNeg) p)) κ pc loc [.int n, .int dp, .ref (gad Γ b), .int sp, .ref (gad Γ a)] := by
  intro r hp ls hl H locs hj
  obtain ⟨w1, w2, w3, w4⟩ := hw
  obtain ⟨⟨g1, g2, g3, g4, g5⟩, hq⟩ := ckC_some hp
  refine va_copyi (D := dD (gΔ Γ)) hC.x hC.b hl.1.symm hC.o (hC.ts _ w1) (hC.ts _ w2) (hC.ts _ w3) (hC.ts _ w4) hC.k hj.1 (hC.d κ) hj.2 a b 0 0 (jH.cell hC ha haN) (jH.cell hC hb hbN) rfl rfl rfl g1 g2 g3 g4 g5 (fun _ _ => rfl) (by rw [hR]; exact (rm_loc hh (Nat.le_refl _)).1) (by rw [hR]; exact (rm_loc hh (Nat.le_of_ble_eq_true rfl)).2) d (fun H1 locs1 hP _ hS => ?_)
  refine kk _ r hq ls hl H1 locs1 ⟨?_, hS⟩
  rw [dW_set hC (κ := κ) (κ1 := cpI κ a b sp.toNatClampNeg dp.toNatClampNeg n.toNatClampNeg) hbN (by rw [hb]; simp [cel, cpI, setIA]) (fun j hj => ⟨by simp [cpI, setIA, hj], rfl, rfl⟩)] at hP
  exact hP
theorem j_copyL (hC : jC Γ cc nL own ret lay N) {h : Nat} (hR : gR Γ = rmH h) {idx a b n0 n1 : Nat} {sp dp n : Int32} {p : Mem → Option ρ} (hw : kwA own idx) (hh : 0 < h) (ha : lay a = kLA n0) (haN : a < N) (hb : lay b = kLA n1) (hbN : b < N) (hmc : (gcells Γ) ≤ (gR Γ).cells ∧ (gslots Γ) ≤ (gR Γ).slots) (d : decode cc pc = .ok (.invokestatic idx, 3)) (kk : ∀ κ1 : Mem, JP Γ Qf (p κ1) κ1 (pc + 3) loc []) : JP Γ Qf (ckC sp dp n n0 n1 (nm (cpL κ a b sp.toNatClampNeg dp.toNatClampNeg n.toNatClampNeg) p)) κ pc loc [.int n, .int dp, .ref (gad Γ b), .int sp, .ref (gad Γ a)] := by
  intro r hp ls hl H locs hj
  obtain ⟨w1, w2, w3, w4⟩ := hw
  obtain ⟨⟨g1, g2, g3, g4, g5⟩, hq⟩ := ckC_some hp
  refine va_copyl (D := dD (gΔ Γ)) hC.x hC.b hl.1.symm hC.o (hC.ts _ w1) (hC.ts _ w2) (hC.ts _ w3) (hC.ts _ w4) hC.k hj.1 (hC.d κ) hj.2 a b 2 2 (jH.cell hC ha haN) (jH.cell hC hb hbN) rfl rfl rfl g1 g2 g3 g4 g5 (fun _ _ => rfl) (by rw [hR]; exact (rm_loc hh (Nat.le_refl _)).1) (by rw [hR]; exact (rm_loc hh (Nat.le_of_ble_eq_true rfl)).2) d (fun H1 locs1 hP _ hS => ?_)
  refine kk _ r hq ls hl H1 locs1 ⟨?_, hS⟩
  rw [dW_set hC (κ := κ) (κ1 := cpL κ a b sp.toNatClampNeg dp.toNatClampNeg n.toNatClampNeg) hbN (by rw [hb]; simp [cel, cpL, setLA]) (fun j hj => ⟨rfl, by simp [cpL, setLA, hj], rfl⟩)] at hP
  exact hP
end JROWS2
