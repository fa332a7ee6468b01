section STRM
variable {Γ : JCtx} {cc : ByteArray} {nL : Nat} {own : String} {ret : Option FieldType} {lay : Nat → Kd} {N : Nat} {ρ : Type} {Qf : ρ → State → Prop} {κ : Mem} {pc : Nat} {loc loc' : List (Nat × Value)} {st rest : List Value} {P P1 P2 : Option ρ}
theorem j_gets (hC : jC Γ cc nL own ret lay N) {idx : Nat} {C n dsc : String} {v : Value} (hZ : va_Z C n dsc v (dA (gΔ Γ)) (gs Γ) (gs Γ).heap) (hw : Cond.fieldLink own idx C n dsc ∈ wsL_law) (d : decode cc pc = .ok (.getstatic idx, 3)) (kk : JP Γ Qf P κ (pc + 3) loc (v :: st)) : JP Γ Qf P κ pc loc st :=
  fun r hp ls hl H locs hj => va_gets hC.x hC.b hZ hj.2 hC.o (hC.ts _ hw) (fun _ h => h) d (kk r hp ls hl H locs hj)
theorem j_scoder (hC : jC Γ cc nL own ret lay N) {idx i : Nat} (hi : i < nJS) (hw : Cond.fieldLink own idx "java/lang/String" "coder" "B" ∈ wsL_law) (d : decode cc pc = .ok (.getfield idx, 3)) (kk : JP Γ Qf P κ (pc + 3) loc (.int 0 :: st)) : JP Γ Qf P κ pc loc (.ref (dadK (gΔ Γ) i) :: st) :=
  fun r hp ls hl H locs hj => va_getX (N := nJS) (v := fun _ => .int 0) hC.x hC.b (fun j hj2 => (hC.sf.1 j hj2).2.1) hi hj.2 hC.o (hC.ts _ hw) (fun _ h => h) d (kk r hp ls hl H locs hj)
theorem j_svalue (hC : jC Γ cc nL own ret lay N) {idx i : Nat} (hi : i < nJS) (hw : Cond.fieldLink own idx "java/lang/String" "value" "[B" ∈ wsL_law) (d : decode cc pc = .ok (.getfield idx, 3)) (kk : JP Γ Qf P κ (pc + 3) loc (.ref (dadV (gΔ Γ) i) :: st)) : JP Γ Qf P κ pc loc (.ref (dadK (gΔ Γ) i) :: st) :=
  fun r hp ls hl H locs hj => va_getX (N := nJS) (v := fun j => .ref (dadV (gΔ Γ) j)) hC.x hC.b (fun j hj2 => (hC.sf.1 j hj2).2.2.1) hi hj.2 hC.o (hC.ts _ hw) (fun _ h => h) d (kk r hp ls hl H locs hj)
theorem j_slen (hC : jC Γ cc nL own ret lay N) {i : Nat} (hi : i < nJS) (d : decode cc pc = .ok (.arraylength, 1)) (kk : JP Γ Qf P κ (pc + 1) loc (.int (Int32.ofNat (lenJS.getD i 0)) :: st)) : JP Γ Qf P κ pc loc (.ref (dadV (gΔ Γ) i) :: st) :=
  fun r hp ls hl H locs hj => va_tlen hC.x hC.b (hC.sf.1 i hi).2.2.2 hj.2 rfl d (kk r hp ls hl H locs hj)
theorem j_sbald (hC : jC Γ cc nL own ret lay N) {i : Nat} {j : Int32} (hi : i < nJS) (d : decode cc pc = .ok (.baload, 1)) (kk : JP Γ Qf P κ (pc + 1) loc (.int ((bytJS.getD i []).getD j.toNatClampNeg 0) :: st)) : JP Γ Qf (ckI j (lenJS.getD i 0) P) κ pc loc (.int j :: .ref (dadV (gΔ Γ) i) :: st) :=
  fun r hp ls hl H locs hj => va_tb hC.x hC.b (hC.sf.1 i hi).2.2.2 hj.2 (ckI_some hp).1 rfl d (kk r (ckI_some hp).2 ls hl H locs hj)
-- the methods
theorem ctJ0_coder_7d493 {Δ : DCtx} {l : Launch} {lay : Nat → Kd} {N : Nat} (hl : dlay Δ = lay) (hN : dN Δ = N) (i : Nat) (hi : i < nJS) (κ : Mem) : ∀ r, some (0 : Int32) = some r → CT Δ l yJ0_coder_7d493 cJ0_coder_7d493 1 (some .byte) (rmH 0) [.ref (dadK Δ i)] κ (some (.int r)) κ :=
  ct_of (nL := 1) (ret := some .byte) (lay := lay) (N := N) (by decide +kernel) (fun Δ => [.ref (dadK Δ i)]) (fun _ => oI κ) (fun _ => (Nat.le_of_ble_eq_true rfl)) (fun Γ hR hm hC => by
    show JP Γ (qf Γ (oI κ)) (some (0 : Int32)) κ 0 [(0, .ref (dadK (gΔ Γ) i))] []
    refine j_gets hC (pc := 0) hC.sf.2.1 w_1136 dJ0_coder_7d493_0 ?_
    rw [show (some (0 : Int32)) = (if (1 : Int32) = 0 then none else some 0) from rfl]
    refine j_if_eq hC (pc := 3) dJ0_coder_7d493_3 (tgt := 13) rfl j_none ?_
    refine j_aload_n hC (pc := 6) dJ0_coder_7d493_6 0 rfl rfl ?_
    refine j_scoder hC (pc := 7) hi w_1137 dJ0_coder_7d493_7 ?_
    refine j_goto hC (pc := 10) dJ0_coder_7d493_10 (tgt := 14) rfl ?_
    exact j_iret hC (pc := 14) dJ0_coder_7d493_14 rfl rfl rfl) Δ l hl hN
theorem ctJ0_isLatin1_aae02 {Δ : DCtx} {l : Launch} {lay : Nat → Kd} {N : Nat} (hl : dlay Δ = lay) (hN : dN Δ = N) (i : Nat) (hi : i < nJS) (κ : Mem) : ∀ r, some (1 : Int32) = some r → CT Δ l yJ0_isLatin1_aae02 cJ0_isLatin1_aae02 1 (some .boolean) (rmH 0) [.ref (dadK Δ i)] κ (some (.int r)) κ :=
  ct_of (nL := 1) (ret := some .boolean) (lay := lay) (N := N) (by decide +kernel) (fun Δ => [.ref (dadK Δ i)]) (fun _ => oI κ) (fun _ => (Nat.le_of_ble_eq_true rfl)) (fun Γ hR hm hC => by
    show JP Γ (qf Γ (oI κ)) (some (1 : Int32)) κ 0 [(0, .ref (dadK (gΔ Γ) i))] []
    refine j_gets hC (pc := 0) hC.sf.2.1 w_1136 dJ0_isLatin1_aae02_0 ?_
    rw [show (some (1 : Int32)) = (if (1 : Int32) = 0 then none else (if (0 : Int32) = 0 then some 1 else none)) from rfl]
    refine j_if_eq hC (pc := 3) dJ0_isLatin1_aae02_3 (tgt := 17) rfl j_none ?_
    refine j_aload_n hC (pc := 6) dJ0_isLatin1_aae02_6 0 rfl rfl ?_
    refine j_scoder hC (pc := 7) hi w_1137 dJ0_isLatin1_aae02_7 ?_
    refine j_if_ne hC (pc := 10) dJ0_isLatin1_aae02_10 (tgt := 17) rfl ?_ j_none
    refine j_iconst hC (pc := 13) dJ0_isLatin1_aae02_13 ki_1 ?_
    refine j_goto hC (pc := 14) dJ0_isLatin1_aae02_14 (tgt := 18) rfl ?_
    exact j_iret hC (pc := 18) dJ0_isLatin1_aae02_18 rfl rfl rfl) Δ l hl hN
theorem ctJ0_length_8abf5 {Δ : DCtx} {l : Launch} {lay : Nat → Kd} {N : Nat} (hl : dlay Δ = lay) (hN : dN Δ = N) (i : Nat) (hi : i < nJS) (κ : Mem) : ∀ r, pJ0_length_8abf5 i κ = some r → CT Δ l yJ0_length_8abf5 cJ0_length_8abf5 1 (some .int) (rmH 1) [.ref (dadK Δ i)] κ (some (.int r)) κ :=
  ct_of (nL := 1) (ret := some .int) (lay := lay) (N := N) (by decide +kernel) (fun Δ => [.ref (dadK Δ i)]) (fun _ => oI κ) (fun _ => (Nat.le_of_ble_eq_true rfl)) (fun Γ hR hm hC => by
    show JP Γ (qf Γ (oI κ)) (pJ0_length_8abf5 i κ) κ 0 [(0, .ref (dadK (gΔ Γ) i))] []
    have e : pJ0_length_8abf5 i κ = (some (0 : Int32)).bind (fun t => some (Int32.ofNat (lenJS.getD i 0) >>> (t &&& 31))) := by
      unfold pJ0_length_8abf5
      have h : ∀ x : Int32, x = x >>> ((0 : Int32) &&& 31) := fun x => (sb_shr0 x).symm
      show some _ = some _
      rw [← h]
    rw [e]
    refine j_aload_n hC (pc := 0) dJ0_length_8abf5_0 0 rfl rfl ?_
    refine j_svalue hC (pc := 1) hi w_1138 dJ0_length_8abf5_1 ?_
    refine j_slen hC (pc := 4) hi dJ0_length_8abf5_4 ?_
    refine j_aload_n hC (pc := 5) dJ0_length_8abf5_5 0 rfl rfl ?_
    refine j_callT_I hC hR (ctJ0_coder_7d493 hC.l hC.cn i hi κ) kc_RJ0_335 (Nat.le_of_ble_eq_true rfl) (Nat.le_of_ble_eq_true rfl) (i := i) hi (As := []) (rest := [.int (Int32.ofNat (lenJS.getD i 0))]) rfl rfl (Nat.le_of_ble_eq_true rfl) hm (pc := 6) dJ0_length_8abf5_6 (fun t => ?_)
    refine j_ishr hC (pc := 9) dJ0_length_8abf5_9 ?_
    exact j_iret hC (pc := 10) dJ0_length_8abf5_10 rfl rfl rfl) Δ l hl hN
def pJ3_checkIndex (a b : Int32) : Option Int32 := if a < 0 then none else if a < b then some a else none
theorem ctJ3_checkIndex_8e157 {Δ : DCtx} {l : Launch} {lay : Nat → Kd} {N : Nat} (hl : dlay Δ = lay) (hN : dN Δ = N) (κ : Mem) (a b : Int32) (q : Option Nat) : ∀ r, pJ3_checkIndex a b = some r → CT Δ l yJ3_checkIndex_8e157 cJ3_checkIndex_8e157 3 (some .int) (rmH 0) [.int a, .int b, va_rf q] κ (some (.int r)) κ :=
  ct_of (nL := 3) (ret := some .int) (lay := lay) (N := N) (by decide +kernel) (fun Δ => [.int a, .int b, va_rf q]) (fun _ => oI κ) (fun _ => by cases q <;> exact (Nat.le_of_ble_eq_true rfl)) (fun Γ hR hm hC => by
    show JP Γ (qf Γ (oI κ)) (pJ3_checkIndex a b) κ 0 [(0, .int a), (1, .int b), (2, va_rf q)] []
    unfold pJ3_checkIndex
    refine j_iload_n hC (pc := 0) dJ3_checkIndex_8e157_0 0 rfl rfl ?_
    refine j_if_lt hC (pc := 1) dJ3_checkIndex_8e157_1 (tgt := 9) rfl j_none ?_
    refine j_iload_n hC (pc := 4) dJ3_checkIndex_8e157_4 0 rfl rfl ?_
    refine j_iload_n hC (pc := 5) dJ3_checkIndex_8e157_5 1 rfl rfl ?_
    refine j_icmp_lt hC (pc := 6) dJ3_checkIndex_8e157_6 (tgt := 16) rfl ?_ j_none
    refine j_iload_n hC (pc := 16) dJ3_checkIndex_8e157_16 0 rfl rfl ?_
    exact j_iret hC (pc := 17) dJ3_checkIndex_8e157_17 rfl rfl rfl) Δ l hl hN
theorem ctJ0_checkIndex_df160 {Δ : DCtx} {l : Launch} {lay : Nat → Kd} {N : Nat} (hl : dlay Δ = lay) (hN : dN Δ = N) (κ : Mem) (a b : Int32) : ∀ r, (pJ3_checkIndex a b).bind (fun _ => some ()) = some r → CT Δ l yJ0_checkIndex_df160 cJ0_checkIndex_df160 2 none (rmH 1) [.int a, .int b] κ none κ :=
  ct_of (nL := 2) (ret := none) (lay := lay) (N := N) (by decide +kernel) (fun Δ => [.int a, .int b]) (fun _ => oU κ) (fun _ => (Nat.le_of_ble_eq_true rfl)) (fun Γ hR hm hC => by
    show JP Γ (qf Γ (oU κ)) ((pJ3_checkIndex a b).bind (fun _ => some ())) κ 0 [(0, .int a), (1, .int b)] []
    refine j_iload_n hC (pc := 0) dJ0_checkIndex_df160_0 0 rfl rfl ?_
    refine j_iload_n hC (pc := 1) dJ0_checkIndex_df160_1 1 rfl rfl ?_
    have go : ∀ q : Option Nat, JP Γ (qf Γ (oU κ)) ((pJ3_checkIndex a b).bind (fun _ => some ())) κ 5 [(0, .int a), (1, .int b)] [va_rf q, .int b, .int a] := by
      intro q
      refine j_callS_I hC hR (ctJ3_checkIndex_8e157 hC.l hC.cn κ a b q) kc_RJ0_1059 (Nat.le_of_ble_eq_true rfl) (Nat.le_of_ble_eq_true rfl) (As := [.int a, .int b, va_rf q]) (rest := []) rfl rfl (Nat.le_of_ble_eq_true rfl) hm (pc := 5) dJ0_checkIndex_df160_5 (fun t => ?_)
      refine j_pop hC (pc := 8) dJ0_checkIndex_df160_8 rfl ?_
      exact j_vret hC (pc := 9) dJ0_checkIndex_df160_9 rfl rfl
    rcases hC.sf.2.2 with hz | ⟨t, hz⟩
    · exact j_gets hC (pc := 2) hz w_1139 dJ0_checkIndex_df160_2 (go none)
    · exact j_gets hC (pc := 2) hz w_1139 dJ0_checkIndex_df160_2 (go (some t))) Δ l hl hN
theorem ctJ1_charAt_3b067 {Δ : DCtx} {l : Launch} {lay : Nat → Kd} {N : Nat} (hl : dlay Δ = lay) (hN : dN Δ = N) (i : Nat) (hi : i < nJS) (κ : Mem) (j : Int32) : ∀ r, pJ0_charAt_5068e i κ j = some r → CT Δ l yJ1_charAt_3b067 cJ1_charAt_3b067 2 (some .char) (rmH 2) [.ref (dadV Δ i), .int j] κ (some (.int r)) κ :=
  ct_of (nL := 2) (ret := some .char) (lay := lay) (N := N) (by decide +kernel) (fun Δ => [.ref (dadV Δ i), .int j]) (fun _ => oI κ) (fun _ => (Nat.le_of_ble_eq_true rfl)) (fun Γ hR hm hC => by
    show JP Γ (qf Γ (oI κ)) (pJ0_charAt_5068e i κ j) κ 0 [(0, .ref (dadV (gΔ Γ) i)), (1, .int j)] []
    have hle : lenJS.getD i 0 < 100 := by
      have h : ∀ k, k < 20 → lenJS.getD k 0 < 100 := by decide +kernel
      exact h i hi
    have e : pJ0_charAt_5068e i κ j = ((pJ3_checkIndex j (Int32.ofNat (lenJS.getD i 0))).bind (fun _ => some ())).bind (fun _ => ckI j (lenJS.getD i 0) (some ((((bytJS.getD i []).getD j.toNatClampNeg 0) &&& 255).toUInt32 % 65536).toInt32)) := by
      unfold pJ0_charAt_5068e chJS
      rw [sc_c2]
      by_cases h : vp_in j (lenJS.getD i 0)
      · obtain ⟨n, hn, rfl⟩ := vp_in_of h (by omega)
        have h1 : ¬ nI n < 0 := nI_pos (by omega)
        have h2 : nI n < nI (lenJS.getD i 0) := nI_lt hn (by omega)
        have h3 : pJ3_checkIndex (nI n) (Int32.ofNat (lenJS.getD i 0)) = some (nI n) := by
          unfold pJ3_checkIndex
          rw [if_neg h1]
          exact if_pos h2
        rw [h3]
        rfl
      · unfold ckI
        rw [if_pos (Classical.not_not.mp h)]
        cases (pJ3_checkIndex j (Int32.ofNat (lenJS.getD i 0))) <;> rfl
    rw [e]
    refine j_iload_n hC (pc := 0) dJ1_charAt_3b067_0 1 rfl rfl ?_
    refine j_aload_n hC (pc := 1) dJ1_charAt_3b067_1 0 rfl rfl ?_
    refine j_slen hC (pc := 2) hi dJ1_charAt_3b067_2 ?_
    refine j_callS_U hC hR (ctJ0_checkIndex_df160 hC.l hC.cn κ j (Int32.ofNat (lenJS.getD i 0))) kc_RJ1_9 (Nat.le_of_ble_eq_true rfl) (Nat.le_of_ble_eq_true rfl) (As := [.int j, .int (Int32.ofNat (lenJS.getD i 0))]) (rest := []) rfl rfl (Nat.le_of_ble_eq_true rfl) hm (pc := 3) dJ1_charAt_3b067_3 ?_
    refine j_aload_n hC (pc := 6) dJ1_charAt_3b067_6 0 rfl rfl ?_
    refine j_iload_n hC (pc := 7) dJ1_charAt_3b067_7 1 rfl rfl ?_
    refine j_sbald hC (pc := 8) hi dJ1_charAt_3b067_8 ?_
    refine j_sipush hC (pc := 9) dJ1_charAt_3b067_9 ks_255 ?_
    refine j_iand hC (pc := 12) dJ1_charAt_3b067_12 ?_
    refine j_i2c hC (pc := 13) dJ1_charAt_3b067_13 ?_
    exact j_iret hC (pc := 14) dJ1_charAt_3b067_14 rfl (pk_nc _) rfl) Δ l hl hN
theorem ctJ0_charAt_5068e {Δ : DCtx} {l : Launch} {lay : Nat → Kd} {N : Nat} (hl : dlay Δ = lay) (hN : dN Δ = N) (i : Nat) (hi : i < nJS) (κ : Mem) (j : Int32) : ∀ r, pJ0_charAt_5068e i κ j = some r → CT Δ l yJ0_charAt_5068e cJ0_charAt_5068e 2 (some .char) (rmH 3) [.ref (dadK Δ i), .int j] κ (some (.int r)) κ :=
  ct_of (nL := 2) (ret := some .char) (lay := lay) (N := N) (by decide +kernel) (fun Δ => [.ref (dadK Δ i), .int j]) (fun _ => oI κ) (fun _ => (Nat.le_of_ble_eq_true rfl)) (fun Γ hR hm hC => by
    show JP Γ (qf Γ (oI κ)) (pJ0_charAt_5068e i κ j) κ 0 [(0, .ref (dadK (gΔ Γ) i)), (1, .int j)] []
    have e : pJ0_charAt_5068e i κ j = (some (1 : Int32)).bind (fun t => if t = 0 then none else (pJ0_charAt_5068e i κ j).bind (fun u => ckP (decide (narrow .char (.int u) = .int u)) (some u))) := by
      show _ = if (1 : Int32) = 0 then none else _
      rw [if_neg (by decide)]
      cases h : pJ0_charAt_5068e i κ j with
      | none => rfl
      | some u =>
        have hu : narrow .char (.int u) = .int u := by
          unfold pJ0_charAt_5068e at h
          obtain ⟨-, h2⟩ := ckI_some h
          rw [← Option.some.inj h2]
          exact sc_nar _
        show some u = if decide _ = true then _ else _
        rw [if_pos (decide_eq_true hu)]
    rw [e]
    refine j_aload_n hC (pc := 0) dJ0_charAt_5068e_0 0 rfl rfl ?_
    refine j_callT_I hC hR (ctJ0_isLatin1_aae02 hC.l hC.cn i hi κ) kc_RJ0_492 (Nat.le_of_ble_eq_true rfl) (Nat.le_of_ble_eq_true rfl) (i := i) hi (As := []) (rest := []) rfl rfl (Nat.le_of_ble_eq_true rfl) hm (pc := 1) dJ0_charAt_5068e_1 (fun t => ?_)
    refine j_if_eq hC (pc := 4) dJ0_charAt_5068e_4 (tgt := 16) rfl j_none ?_
    refine j_aload_n hC (pc := 7) dJ0_charAt_5068e_7 0 rfl rfl ?_
    refine j_svalue hC (pc := 8) hi w_1138 dJ0_charAt_5068e_8 ?_
    refine j_iload_n hC (pc := 11) dJ0_charAt_5068e_11 1 rfl rfl ?_
    refine j_callS_I hC hR (ctJ1_charAt_3b067 hC.l hC.cn i hi κ j) kc_RJ0_495 (Nat.le_of_ble_eq_true rfl) (Nat.le_of_ble_eq_true rfl) (As := [.ref (dadV (gΔ Γ) i), .int j]) (rest := []) rfl rfl (Nat.le_of_ble_eq_true rfl) hm (pc := 12) dJ0_charAt_5068e_12 (fun u => ?_)
    refine j_ckP (fun hu => ?_)
    exact j_iret hC (pc := 15) dJ0_charAt_5068e_15 rfl (of_decide_eq_true hu) rfl) Δ l hl hN
end STRM
