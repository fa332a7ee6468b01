set_option maxRecDepth 20000 in
theorem wX8_afterBlanks_32 {Γ : JCtx} (hC : jC Γ cX8_afterBlanks 3 RX8 (some .int) layX 147) (hR : gR Γ = rmH 0) (hm : gcells Γ ≤ (gR Γ).cells ∧ gslots Γ ≤ (gR Γ).slots) (F : Nat) (κ : Mem) (v2 : Int32) (k2 : Int32 → Option Int32) (hk2 : ∀ (v2 : Int32), JP Γ (qf Γ (oI κ)) (k2 v2) κ 2 [(0, .ref (gad Γ 140)), (2, .int v2)] []) : JP Γ (qf Γ (oI κ)) (pX8_afterBlanks_32 F κ k2 v2) κ 32 [(0, .ref (gad Γ 140)), (2, .int v2)] [] := by
  unfold pX8_afterBlanks_32
  refine j_iinc hC (pc := 32) dX8_afterBlanks_32 1 rfl ki_1 (Nat.le_of_ble_eq_true rfl) (loc' := [(2, .int (v2 + 1)), (0, .ref (gad Γ 140))]) rfl ?_
  refine j_goto hC (pc := 35) dX8_afterBlanks_35 (tgt := 2) rfl ?_
  refine j_sub [1, 0] (loc' := [(0, .ref (gad Γ 140)), (2, .int (v2 + 1))]) rfl ?_
  exact hk2 (v2 + 1)
set_option maxRecDepth 20000 in
theorem wX8_afterBlanks_38 {Γ : JCtx} (hC : jC Γ cX8_afterBlanks 3 RX8 (some .int) layX 147) (hR : gR Γ = rmH 0) (hm : gcells Γ ≤ (gR Γ).cells ∧ gslots Γ ≤ (gR Γ).slots) (F : Nat) (κ : Mem) (v2 : Int32) : JP Γ (qf Γ (oI κ)) (pX8_afterBlanks_38 F κ v2) κ 38 [(2, .int v2)] [] := by
  unfold pX8_afterBlanks_38
  refine j_iload_n hC (pc := 38) dX8_afterBlanks_38 0 rfl rfl ?_
  exact j_iret hC (pc := 39) dX8_afterBlanks_39 rfl rfl rfl
set_option maxRecDepth 20000 in
theorem wX8_afterBlanks_2 {Γ : JCtx} (hC : jC Γ cX8_afterBlanks 3 RX8 (some .int) layX 147) (hR : gR Γ = rmH 0) (hm : gcells Γ ≤ (gR Γ).cells ∧ gslots Γ ≤ (gR Γ).slots) (F : Nat) (κ : Mem) : ∀ (n : Nat) (v2 : Int32), JP Γ (qf Γ (oI κ)) (pX8_afterBlanks_2 F κ n v2) κ 2 [(0, .ref (gad Γ 140)), (2, .int v2)] [] := by
  intro n
  induction n with
  | zero =>
    intro v2
    rw [pX8_afterBlanks_2]
    exact j_none
  | succ fu ih =>
    intro v2
    rw [pX8_afterBlanks_2]
    refine j_iload_n hC (pc := 2) dX8_afterBlanks_2 1 rfl rfl ?_
    refine j_aload_n hC (pc := 3) dX8_afterBlanks_3 0 rfl rfl ?_
    refine j_getI hC (pc := 4) dX8_afterBlanks_4 kf_RX8_21 lX_140 (Nat.le_of_ble_eq_true rfl) rfl ?_
    refine j_icmp_ge hC (pc := 7) dX8_afterBlanks_7 (tgt := 38) rfl ?_ ?_
    · refine j_aload_n hC (pc := 10) dX8_afterBlanks_10 0 rfl rfl ?_
      refine j_getR hC (pc := 11) dX8_afterBlanks_11 kf_RX8_25 lX_140 (Nat.le_of_ble_eq_true rfl) rfl ?_
      refine j_iload_n hC (pc := 14) dX8_afterBlanks_14 1 rfl rfl ?_
      refine j_bald hC (pc := 15) dX8_afterBlanks_15 lX_137 (Nat.le_of_ble_eq_true rfl) ?_
      refine j_bipush hC (pc := 16) dX8_afterBlanks_16 kb_10 ?_
      refine j_icmp_eq hC (pc := 18) dX8_afterBlanks_18 (tgt := 32) rfl ?_ ?_
      · exact wX8_afterBlanks_32 hC hR hm F κ v2 (pX8_afterBlanks_2 F κ fu) ih
      · refine j_aload_n hC (pc := 21) dX8_afterBlanks_21 0 rfl rfl ?_
        refine j_getR hC (pc := 22) dX8_afterBlanks_22 kf_RX8_25 lX_140 (Nat.le_of_ble_eq_true rfl) rfl ?_
        refine j_iload_n hC (pc := 25) dX8_afterBlanks_25 1 rfl rfl ?_
        refine j_bald hC (pc := 26) dX8_afterBlanks_26 lX_137 (Nat.le_of_ble_eq_true rfl) ?_
        refine j_bipush hC (pc := 27) dX8_afterBlanks_27 kb_32 ?_
        refine j_icmp_ne hC (pc := 29) dX8_afterBlanks_29 (tgt := 38) rfl ?_ ?_
        · exact wX8_afterBlanks_32 hC hR hm F κ v2 (pX8_afterBlanks_2 F κ fu) ih
        · refine j_sub [1] (loc' := [(2, .int v2)]) rfl ?_
          exact wX8_afterBlanks_38 hC hR hm F κ v2
    · refine j_sub [1] (loc' := [(2, .int v2)]) rfl ?_
      exact wX8_afterBlanks_38 hC hR hm F κ v2
set_option maxRecDepth 20000 in
theorem wX8_afterBlanks {Γ : JCtx} (hC : jC Γ cX8_afterBlanks 3 RX8 (some .int) layX 147) (hR : gR Γ = rmH 0) (hm : gcells Γ ≤ (gR Γ).cells ∧ gslots Γ ≤ (gR Γ).slots) (F : Nat) (κ : Mem) (v1 : Int32) : JP Γ (qf Γ (oI κ)) (pX8_afterBlanks F κ v1) κ 0 [(0, .ref (gad Γ 140)), (1, .int v1)] [] := by
  unfold pX8_afterBlanks
  refine j_iload_n hC (pc := 0) dX8_afterBlanks_0 1 rfl rfl ?_
  refine j_istore_n hC (pc := 1) dX8_afterBlanks_1 rfl (Nat.le_of_ble_eq_true rfl) (loc' := [(2, .int v1), (0, .ref (gad Γ 140)), (1, .int v1)]) rfl ?_
  refine j_sub [1, 0] (loc' := [(0, .ref (gad Γ 140)), (2, .int v1)]) rfl ?_
  exact wX8_afterBlanks_2 hC hR hm F κ F v1
theorem ctX8_afterBlanks {Δ : DCtx} {l : Launch} (hl : dlay Δ = layX) (hN : dN Δ = 147) (F : Nat) (κ : Mem) (v1 : Int32) : ∀ r, pX8_afterBlanks F κ v1 = some r → CT Δ l yX8_afterBlanks cX8_afterBlanks 3 (some .int) (rmH 0) [.ref (dad Δ 140), .int v1] κ (some (.int r)) κ :=
  ct_of (nL := 3) (ret := (some .int)) (lay := layX) (N := 147) (by decide +kernel) (fun Δ => [.ref (dad Δ 140), .int v1]) (fun _ => oI κ) (fun _ => (Nat.le_of_ble_eq_true rfl)) (fun Γ hR hm hC => wX8_afterBlanks hC hR hm F κ v1) Δ l hl hN
set_option maxRecDepth 20000 in
theorem wX8_isLetter_17 {Γ : JCtx} (hC : jC Γ cX8_isLetter 1 RX8 (some .boolean) layX 147) (hR : gR Γ = rmH 0) (hm : gcells Γ ≤ (gR Γ).cells ∧ gslots Γ ≤ (gR Γ).slots) (κ : Mem) (y0 : Int32) : JP Γ (qf Γ (oI κ)) (pX8_isLetter_17 κ y0) κ 17 [] [.int y0] := by
  unfold pX8_isLetter_17
  refine j_ckP (fun hq1 => ?_)
  exact j_iret hC (pc := 17) dX8_isLetter_17 rfl (isB_n hq1) rfl
set_option maxRecDepth 20000 in
theorem wX8_isLetter_16 {Γ : JCtx} (hC : jC Γ cX8_isLetter 1 RX8 (some .boolean) layX 147) (hR : gR Γ = rmH 0) (hm : gcells Γ ≤ (gR Γ).cells ∧ gslots Γ ≤ (gR Γ).slots) (κ : Mem) : JP Γ (qf Γ (oI κ)) (pX8_isLetter_16 κ) κ 16 [] [] := by
  unfold pX8_isLetter_16
  refine j_iconst hC (pc := 16) dX8_isLetter_16 ki_0 ?_
  exact wX8_isLetter_17 hC hR hm κ 0
set_option maxRecDepth 20000 in
theorem wX8_isLetter {Γ : JCtx} (hC : jC Γ cX8_isLetter 1 RX8 (some .boolean) layX 147) (hR : gR Γ = rmH 0) (hm : gcells Γ ≤ (gR Γ).cells ∧ gslots Γ ≤ (gR Γ).slots) (κ : Mem) (v0 : Int32) : JP Γ (qf Γ (oI κ)) (pX8_isLetter κ v0) κ 0 [(0, .int v0)] [] := by
  unfold pX8_isLetter
  refine j_iload_n hC (pc := 0) dX8_isLetter_0 0 rfl rfl ?_
  refine j_bipush hC (pc := 1) dX8_isLetter_1 kb_97 ?_
  refine j_icmp_lt hC (pc := 3) dX8_isLetter_3 (tgt := 16) rfl ?_ ?_
  · refine j_sub [] (loc' := []) rfl ?_
    exact wX8_isLetter_16 hC hR hm κ
  · refine j_iload_n hC (pc := 6) dX8_isLetter_6 0 rfl rfl ?_
    refine j_bipush hC (pc := 7) dX8_isLetter_7 kb_122 ?_
    refine j_icmp_gt hC (pc := 9) dX8_isLetter_9 (tgt := 16) rfl ?_ ?_
    · refine j_iconst hC (pc := 12) dX8_isLetter_12 ki_1 ?_
      refine j_goto hC (pc := 13) dX8_isLetter_13 (tgt := 17) rfl ?_
      refine j_sub [] (loc' := []) rfl ?_
      exact wX8_isLetter_17 hC hR hm κ 1
    · refine j_sub [] (loc' := []) rfl ?_
      exact wX8_isLetter_16 hC hR hm κ
theorem ctX8_isLetter {Δ : DCtx} {l : Launch} (hl : dlay Δ = layX) (hN : dN Δ = 147) (κ : Mem) (v0 : Int32) : ∀ r, pX8_isLetter κ v0 = some r → CT Δ l yX8_isLetter cX8_isLetter 1 (some .boolean) (rmH 0) [.int v0] κ (some (.int r)) κ :=
  ct_of (nL := 1) (ret := (some .boolean)) (lay := layX) (N := 147) (by decide +kernel) (fun Δ => [.int v0]) (fun _ => oI κ) (fun _ => (Nat.le_of_ble_eq_true rfl)) (fun Γ hR hm hC => wX8_isLetter hC hR hm κ v0) Δ l hl hN
set_option maxRecDepth 20000 in
theorem wX8_spelling {Γ : JCtx} (hC : jC Γ cX8_spelling 1 RX8 (some (.object "java/lang/String")) layX 147) (hR : gR Γ = rmH 0) (hm : gcells Γ ≤ (gR Γ).cells ∧ gslots Γ ≤ (gR Γ).slots) (κ : Mem) (v0 : Int32) : JP Γ (qf Γ (oS (gΔ Γ) κ)) (pX8_spelling κ v0) κ 0 [(0, .int v0)] [] := by
  unfold pX8_spelling
  refine j_iload_n hC (pc := 0) dX8_spelling_0 0 rfl rfl ?_
  refine j_ite (fun hs1 => ?_) (fun hs1 => ?_)
  · refine j_tin hC (pc := 1) dX8_spelling_1 1 (by rw [hs1]; rfl) (by decide) (by decide) (off := 51) (tgt := 52) rfl rfl ?_
    refine j_ldcS hC (pc := 52) dX8_spelling_52 (x := 0) (tx := "players") rfl ?_
    exact j_aret hC (pc := 54) dX8_spelling_54 rfl rfl
  refine j_ite (fun hs2 => ?_) (fun hs2 => ?_)
  · refine j_tin hC (pc := 1) dX8_spelling_1 2 (by rw [hs2]; rfl) (by decide) (by decide) (off := 54) (tgt := 55) rfl rfl ?_
    refine j_ldcS hC (pc := 55) dX8_spelling_55 (x := 1) (tx := "hats") rfl ?_
    exact j_aret hC (pc := 57) dX8_spelling_57 rfl rfl
  refine j_ite (fun hs3 => ?_) (fun hs3 => ?_)
  · refine j_tin hC (pc := 1) dX8_spelling_1 3 (by rw [hs3]; rfl) (by decide) (by decide) (off := 57) (tgt := 58) rfl rfl ?_
    refine j_ldcS hC (pc := 58) dX8_spelling_58 (x := 2) (tx := "link") rfl ?_
    exact j_aret hC (pc := 60) dX8_spelling_60 rfl rfl
  refine j_ite (fun hs4 => ?_) (fun hs4 => ?_)
  · refine j_tin hC (pc := 1) dX8_spelling_1 4 (by rw [hs4]; rfl) (by decide) (by decide) (off := 60) (tgt := 61) rfl rfl ?_
    refine j_ldcS hC (pc := 61) dX8_spelling_61 (x := 3) (tx := "sees") rfl ?_
    exact j_aret hC (pc := 63) dX8_spelling_63 rfl rfl
  refine j_ite (fun hs5 => ?_) (fun hs5 => ?_)
  · refine j_tin hC (pc := 1) dX8_spelling_1 5 (by rw [hs5]; rfl) (by decide) (by decide) (off := 63) (tgt := 64) rfl rfl ?_
    refine j_ldcS hC (pc := 64) dX8_spelling_64 (x := 4) (tx := "guess") rfl ?_
    exact j_aret hC (pc := 66) dX8_spelling_66 rfl rfl
  refine j_ite (fun hs6 => ?_) (fun hs6 => ?_)
  · refine j_tin hC (pc := 1) dX8_spelling_1 6 (by rw [hs6]; rfl) (by decide) (by decide) (off := 66) (tgt := 67) rfl rfl ?_
    refine j_ldcS hC (pc := 67) dX8_spelling_67 (x := 5) (tx := "sum") rfl ?_
    exact j_aret hC (pc := 69) dX8_spelling_69 rfl rfl
  refine j_ite (fun hs7 => ?_) (fun hs7 => ?_)
  · refine j_tin hC (pc := 1) dX8_spelling_1 7 (by rw [hs7]; rfl) (by decide) (by decide) (off := 69) (tgt := 70) rfl rfl ?_
    refine j_ldcS hC (pc := 70) dX8_spelling_70 (x := 6) (tx := "same") rfl ?_
    exact j_aret hC (pc := 72) dX8_spelling_72 rfl rfl
  refine j_ite (fun hs8 => ?_) (fun hs8 => ?_)
  · refine j_tin hC (pc := 1) dX8_spelling_1 8 (by rw [hs8]; rfl) (by decide) (by decide) (off := 72) (tgt := 73) rfl rfl ?_
    refine j_ldcS hC (pc := 73) dX8_spelling_73 (x := 7) (tx := "next") rfl ?_
    exact j_aret hC (pc := 75) dX8_spelling_75 rfl rfl
  refine j_ite (fun hs9 => ?_) (fun hs9 => ?_)
  · refine j_tin hC (pc := 1) dX8_spelling_1 9 (by rw [hs9]; rfl) (by decide) (by decide) (off := 75) (tgt := 76) rfl rfl ?_
    refine j_ldcS hC (pc := 76) dX8_spelling_76 (x := 8) (tx := "fixed") rfl ?_
    exact j_aret hC (pc := 78) dX8_spelling_78 rfl rfl
  refine j_tout hC (pc := 1) dX8_spelling_1 ?_ (tgt := 79) rfl ?_
  · have e1 : ¬ Int32.toInt v0 = 1 := fun z => hs1 (Int32.toInt_inj.mp (z.trans ti_1.symm))
    have e2 : ¬ Int32.toInt v0 = 2 := fun z => hs2 (Int32.toInt_inj.mp (z.trans ti_2.symm))
    have e3 : ¬ Int32.toInt v0 = 3 := fun z => hs3 (Int32.toInt_inj.mp (z.trans ti_3.symm))
    have e4 : ¬ Int32.toInt v0 = 4 := fun z => hs4 (Int32.toInt_inj.mp (z.trans ti_4.symm))
    have e5 : ¬ Int32.toInt v0 = 5 := fun z => hs5 (Int32.toInt_inj.mp (z.trans ti_5.symm))
    have e6 : ¬ Int32.toInt v0 = 6 := fun z => hs6 (Int32.toInt_inj.mp (z.trans ti_6.symm))
    have e7 : ¬ Int32.toInt v0 = 7 := fun z => hs7 (Int32.toInt_inj.mp (z.trans ti_7.symm))
    have e8 : ¬ Int32.toInt v0 = 8 := fun z => hs8 (Int32.toInt_inj.mp (z.trans ti_8.symm))
    have e9 : ¬ Int32.toInt v0 = 9 := fun z => hs9 (Int32.toInt_inj.mp (z.trans ti_9.symm))
    omega
  · refine j_ldcS hC (pc := 79) dX8_spelling_79 (x := 9) (tx := "table") rfl ?_
    exact j_aret hC (pc := 81) dX8_spelling_81 rfl rfl
theorem ctX8_spelling {Δ : DCtx} {l : Launch} (hl : dlay Δ = layX) (hN : dN Δ = 147) (κ : Mem) (v0 : Int32) : ∀ r, pX8_spelling κ v0 = some r → CT Δ l yX8_spelling cX8_spelling 1 (some (.object "java/lang/String")) (rmH 0) [.int v0] κ (some (.ref (dadK Δ r))) κ :=
  ct_of (nL := 1) (ret := (some (.object "java/lang/String"))) (lay := layX) (N := 147) (by decide +kernel) (fun Δ => [.int v0]) (fun Δ => oS Δ κ) (fun _ => (Nat.le_of_ble_eq_true rfl)) (fun Γ hR hm hC => wX8_spelling hC hR hm κ v0) Δ l hl hN
set_option maxRecDepth 20000 in
theorem wX8_isWord_15 {Γ : JCtx} (hC : jC Γ cX8_isWord 5 RX8 (some .boolean) layX 147) (hR : gR Γ = rmH 4) (hm : gcells Γ ≤ (gR Γ).cells ∧ gslots Γ ≤ (gR Γ).slots) (z3 : Nat) (hz3 : z3 < nJS) (F : Nat) (κ : Mem) (v1 : Int32) : ∀ (n : Nat) (v4 : Int32), JP Γ (qf Γ (oI κ)) (pX8_isWord_15 F z3 κ v1 n v4) κ 15 [(0, .ref (gad Γ 140)), (1, .int v1), (3, .ref (dadK (gΔ Γ) z3)), (4, .int v4)] [] := by
  intro n
  induction n with
  | zero =>
    intro v4
    rw [pX8_isWord_15]
    exact j_none
  | succ fu ih =>
    intro v4
    rw [pX8_isWord_15]
    refine j_iload hC (pc := 15) dX8_isWord_15 3 rfl ?_
    refine j_aload_n hC (pc := 17) dX8_isWord_17 2 rfl rfl ?_
    refine j_callT_I hC hR (ctJ0_length_8abf5 hC.l hC.cn z3 hz3 κ) kc_RX8_86 (Nat.le_of_ble_eq_true rfl) (Nat.le_of_ble_eq_true rfl) (i := z3) hz3 (As := []) (rest := [.int v4]) rfl rfl (Nat.le_of_ble_eq_true rfl) hm (pc := 18) dX8_isWord_18 (fun t2 => ?_)
    refine j_icmp_ge hC (pc := 21) dX8_isWord_21 (tgt := 50) rfl ?_ ?_
    · refine j_aload_n hC (pc := 24) dX8_isWord_24 0 rfl rfl ?_
      refine j_getR hC (pc := 25) dX8_isWord_25 kf_RX8_25 lX_140 (Nat.le_of_ble_eq_true rfl) rfl ?_
      refine j_iload_n hC (pc := 28) dX8_isWord_28 1 rfl rfl ?_
      refine j_iload hC (pc := 29) dX8_isWord_29 3 rfl ?_
      refine j_iadd hC (pc := 31) dX8_isWord_31 ?_
      refine j_bald hC (pc := 32) dX8_isWord_32 lX_137 (Nat.le_of_ble_eq_true rfl) ?_
      refine j_aload_n hC (pc := 33) dX8_isWord_33 2 rfl rfl ?_
      refine j_iload hC (pc := 34) dX8_isWord_34 3 rfl ?_
      refine j_callT_I hC hR (ctJ0_charAt_5068e hC.l hC.cn z3 hz3 κ v4) kc_RX8_91 (Nat.le_of_ble_eq_true rfl) (Nat.le_of_ble_eq_true rfl) (i := z3) hz3 (As := [.int v4]) (rest := [.int (mi κ 137 (v1 + v4).toNatClampNeg)]) rfl rfl (Nat.le_of_ble_eq_true rfl) hm (pc := 36) dX8_isWord_36 (fun t3 => ?_)
      refine j_icmp_eq hC (pc := 39) dX8_isWord_39 (tgt := 44) rfl ?_ ?_
      · refine j_iinc hC (pc := 44) dX8_isWord_44 3 rfl ki_1 (Nat.le_of_ble_eq_true rfl) (loc' := [(4, .int (v4 + 1)), (0, .ref (gad Γ 140)), (1, .int v1), (3, .ref (dadK (gΔ Γ) z3))]) rfl ?_
        refine j_goto hC (pc := 47) dX8_isWord_47 (tgt := 15) rfl ?_
        refine j_sub [1, 2, 3, 0] (loc' := [(0, .ref (gad Γ 140)), (1, .int v1), (3, .ref (dadK (gΔ Γ) z3)), (4, .int (v4 + 1))]) rfl ?_
        exact ih (v4 + 1)
      · refine j_iconst hC (pc := 42) dX8_isWord_42 ki_0 ?_
        exact j_iret hC (pc := 43) dX8_isWord_43 rfl rfl rfl
    · refine j_iconst hC (pc := 50) dX8_isWord_50 ki_1 ?_
      exact j_iret hC (pc := 51) dX8_isWord_51 rfl rfl rfl
set_option maxRecDepth 20000 in
theorem wX8_isWord {Γ : JCtx} (hC : jC Γ cX8_isWord 5 RX8 (some .boolean) layX 147) (hR : gR Γ = rmH 4) (hm : gcells Γ ≤ (gR Γ).cells ∧ gslots Γ ≤ (gR Γ).slots) (z3 : Nat) (hz3 : z3 < nJS) (F : Nat) (κ : Mem) (v1 : Int32) (v2 : Int32) : JP Γ (qf Γ (oI κ)) (pX8_isWord F z3 κ v1 v2) κ 0 [(0, .ref (gad Γ 140)), (1, .int v1), (2, .int v2), (3, .ref (dadK (gΔ Γ) z3))] [] := by
  unfold pX8_isWord
  refine j_iload_n hC (pc := 0) dX8_isWord_0 2 rfl rfl ?_
  refine j_iload_n hC (pc := 1) dX8_isWord_1 1 rfl rfl ?_
  refine j_isub hC (pc := 2) dX8_isWord_2 ?_
  refine j_aload_n hC (pc := 3) dX8_isWord_3 3 rfl rfl ?_
  refine j_callT_I hC hR (ctJ0_length_8abf5 hC.l hC.cn z3 hz3 κ) kc_RX8_86 (Nat.le_of_ble_eq_true rfl) (Nat.le_of_ble_eq_true rfl) (i := z3) hz3 (As := []) (rest := [.int (v2 - v1)]) rfl rfl (Nat.le_of_ble_eq_true rfl) hm (pc := 4) dX8_isWord_4 (fun t1 => ?_)
  refine j_icmp_eq hC (pc := 7) dX8_isWord_7 (tgt := 12) rfl ?_ ?_
  · refine j_iconst hC (pc := 12) dX8_isWord_12 ki_0 ?_
    refine j_istore hC (pc := 13) dX8_isWord_13 (Nat.le_of_ble_eq_true rfl) (loc' := [(4, .int 0), (0, .ref (gad Γ 140)), (1, .int v1), (2, .int v2), (3, .ref (dadK (gΔ Γ) z3))]) rfl ?_
    refine j_sub [1, 2, 4, 0] (loc' := [(0, .ref (gad Γ 140)), (1, .int v1), (3, .ref (dadK (gΔ Γ) z3)), (4, .int 0)]) rfl ?_
    exact wX8_isWord_15 hC hR hm z3 hz3 F κ v1 F 0
  · refine j_iconst hC (pc := 10) dX8_isWord_10 ki_0 ?_
    exact j_iret hC (pc := 11) dX8_isWord_11 rfl rfl rfl
theorem ctX8_isWord {Δ : DCtx} {l : Launch} (hl : dlay Δ = layX) (hN : dN Δ = 147) (z3 : Nat) (hz3 : z3 < nJS) (F : Nat) (κ : Mem) (v1 : Int32) (v2 : Int32) : ∀ r, pX8_isWord F z3 κ v1 v2 = some r → CT Δ l yX8_isWord cX8_isWord 5 (some .boolean) (rmH 4) [.ref (dad Δ 140), .int v1, .int v2, .ref (dadK (Δ) z3)] κ (some (.int r)) κ :=
  ct_of (nL := 5) (ret := (some .boolean)) (lay := layX) (N := 147) (by decide +kernel) (fun Δ => [.ref (dad Δ 140), .int v1, .int v2, .ref (dadK (Δ) z3)]) (fun _ => oI κ) (fun _ => (Nat.le_of_ble_eq_true rfl)) (fun Γ hR hm hC => wX8_isWord hC hR hm z3 hz3 F κ v1 v2) Δ l hl hN
set_option maxRecDepth 20000 in
theorem wX8_meaning_2 {Γ : JCtx} (hC : jC Γ cX8_meaning 4 RX8 (some .int) layX 147) (hR : gR Γ = rmH 5) (hm : gcells Γ ≤ (gR Γ).cells ∧ gslots Γ ≤ (gR Γ).slots) (F : Nat) (κ : Mem) (v1 : Int32) (v2 : Int32) : ∀ (n : Nat) (v3 : Int32), JP Γ (qf Γ (oI κ)) (pX8_meaning_2 F κ v1 v2 n v3) κ 2 [(0, .ref (gad Γ 140)), (1, .int v1), (2, .int v2), (3, .int v3)] [] := by
  intro n
  induction n with
  | zero =>
    intro v3
    rw [pX8_meaning_2]
    exact j_none
  | succ fu ih =>
    intro v3
    rw [pX8_meaning_2]
    refine j_iload_n hC (pc := 2) dX8_meaning_2 3 rfl rfl ?_
    refine j_bipush hC (pc := 3) dX8_meaning_3 kb_10 ?_
    refine j_icmp_gt hC (pc := 5) dX8_meaning_5 (tgt := 29) rfl ?_ ?_
    · refine j_aload_n hC (pc := 8) dX8_meaning_8 0 rfl rfl ?_
      refine j_iload_n hC (pc := 9) dX8_meaning_9 1 rfl rfl ?_
      refine j_iload_n hC (pc := 10) dX8_meaning_10 2 rfl rfl ?_
      refine j_iload_n hC (pc := 11) dX8_meaning_11 3 rfl rfl ?_
      refine j_callS_S hC hR (ctX8_spelling hC.l hC.cn κ v3) kc_RX8_58 (Nat.le_of_ble_eq_true rfl) (Nat.le_of_ble_eq_true rfl) (As := [.int v3]) (rest := [.int v2, .int v1, .ref (gad Γ 140)]) rfl rfl (Nat.le_of_ble_eq_true rfl) hm (pc := 12) dX8_meaning_12 (fun t1 => ?_)
      refine j_ckP (fun hq2 => ?_)
      refine j_callV_I hC hR (ctX8_isWord hC.l hC.cn t1 (of_decide_eq_true hq2) F κ v1 v2) kc_RX8_62 (Nat.le_of_ble_eq_true rfl) (Nat.le_of_ble_eq_true rfl) lX_140 (Nat.le_of_ble_eq_true rfl) rfl (As := [.int v1, .int v2, .ref (dadK (gΔ Γ) t1)]) (rest := []) rfl rfl (Nat.le_of_ble_eq_true rfl) hm (pc := 15) dX8_meaning_15 (fun t3 => ?_)
      refine j_if_eq hC (pc := 18) dX8_meaning_18 (tgt := 23) rfl ?_ ?_
      · refine j_iinc hC (pc := 23) dX8_meaning_23 3 rfl ki_1 (Nat.le_of_ble_eq_true rfl) (loc' := [(3, .int (v3 + 1)), (0, .ref (gad Γ 140)), (1, .int v1), (2, .int v2)]) rfl ?_
        refine j_goto hC (pc := 26) dX8_meaning_26 (tgt := 2) rfl ?_
        refine j_sub [1, 2, 3, 0] (loc' := [(0, .ref (gad Γ 140)), (1, .int v1), (2, .int v2), (3, .int (v3 + 1))]) rfl ?_
        exact ih (v3 + 1)
      · refine j_iload_n hC (pc := 21) dX8_meaning_21 3 rfl rfl ?_
        exact j_iret hC (pc := 22) dX8_meaning_22 rfl rfl rfl
    · refine j_iconst hC (pc := 29) dX8_meaning_29 ki_0 ?_
      exact j_iret hC (pc := 30) dX8_meaning_30 rfl rfl rfl
set_option maxRecDepth 20000 in
theorem wX8_meaning {Γ : JCtx} (hC : jC Γ cX8_meaning 4 RX8 (some .int) layX 147) (hR : gR Γ = rmH 5) (hm : gcells Γ ≤ (gR Γ).cells ∧ gslots Γ ≤ (gR Γ).slots) (F : Nat) (κ : Mem) (v1 : Int32) (v2 : Int32) : JP Γ (qf Γ (oI κ)) (pX8_meaning F κ v1 v2) κ 0 [(0, .ref (gad Γ 140)), (1, .int v1), (2, .int v2)] [] := by
  unfold pX8_meaning
  refine j_iconst hC (pc := 0) dX8_meaning_0 ki_1 ?_
  refine j_istore_n hC (pc := 1) dX8_meaning_1 rfl (Nat.le_of_ble_eq_true rfl) (loc' := [(3, .int 1), (0, .ref (gad Γ 140)), (1, .int v1), (2, .int v2)]) rfl ?_
  refine j_sub [1, 2, 3, 0] (loc' := [(0, .ref (gad Γ 140)), (1, .int v1), (2, .int v2), (3, .int 1)]) rfl ?_
  exact wX8_meaning_2 hC hR hm F κ v1 v2 F 1
theorem ctX8_meaning {Δ : DCtx} {l : Launch} (hl : dlay Δ = layX) (hN : dN Δ = 147) (F : Nat) (κ : Mem) (v1 : Int32) (v2 : Int32) : ∀ r, pX8_meaning F κ v1 v2 = some r → CT Δ l yX8_meaning cX8_meaning 4 (some .int) (rmH 5) [.ref (dad Δ 140), .int v1, .int v2] κ (some (.int r)) κ :=
  ct_of (nL := 4) (ret := (some .int)) (lay := layX) (N := 147) (by decide +kernel) (fun Δ => [.ref (dad Δ 140), .int v1, .int v2]) (fun _ => oI κ) (fun _ => (Nat.le_of_ble_eq_true rfl)) (fun Γ hR hm hC => wX8_meaning hC hR hm F κ v1 v2) Δ l hl hN
set_option maxRecDepth 20000 in
theorem wX8_takeWord_46 {Γ : JCtx} (hC : jC Γ cX8_takeWord 4 RX8 (some .int) layX 147) (hR : gR Γ = rmH 6) (hm : gcells Γ ≤ (gR Γ).cells ∧ gslots Γ ≤ (gR Γ).slots) (F : Nat) (κ : Mem) (v1 : Int32) (v2 : Int32) (v3 : Int32) (y0 : Int32) (y1 : Int32) : JP Γ (qf Γ oE) (pX8_takeWord_46 F κ v1 v2 v3 y0 y1) κ 46 [(0, .ref (gad Γ 140)), (1, .int v1), (2, .int v2), (3, .int v3)] [.int y0, .int y1, .ref (gad Γ 141)] := by
  unfold pX8_takeWord_46
  refine j_iast hC (pc := 46) dX8_takeWord_46 lX_141 (Nat.le_of_ble_eq_true rfl) (fun κ2 => ?_)
  refine j_aload_n hC (pc := 47) dX8_takeWord_47 0 rfl rfl ?_
  refine j_getR hC (pc := 48) dX8_takeWord_48 kf_RX8_18 lX_140 (Nat.le_of_ble_eq_true rfl) rfl ?_
  refine j_iload_n hC (pc := 51) dX8_takeWord_51 1 rfl rfl ?_
  refine j_aload_n hC (pc := 52) dX8_takeWord_52 0 rfl rfl ?_
  refine j_iload_n hC (pc := 53) dX8_takeWord_53 2 rfl rfl ?_
  refine j_iload_n hC (pc := 54) dX8_takeWord_54 3 rfl rfl ?_
  refine j_callV_I hC hR (ctX8_meaning hC.l hC.cn F κ2 v2 v3) kc_RX8_55 (Nat.le_of_ble_eq_true rfl) (Nat.le_of_ble_eq_true rfl) lX_140 (Nat.le_of_ble_eq_true rfl) rfl (As := [.int v2, .int v3]) (rest := [.int v1, .ref (gad Γ 143)]) rfl rfl (Nat.le_of_ble_eq_true rfl) hm (pc := 55) dX8_takeWord_55 (fun t3 => ?_)
  refine j_iast hC (pc := 58) dX8_takeWord_58 lX_143 (Nat.le_of_ble_eq_true rfl) (fun κ4 => ?_)
  refine j_iload_n hC (pc := 59) dX8_takeWord_59 3 rfl rfl ?_
  exact j_iret hC (pc := 60) dX8_takeWord_60 rfl rfl rfl
set_option maxRecDepth 20000 in
theorem wX8_takeWord_28 {Γ : JCtx} (hC : jC Γ cX8_takeWord 4 RX8 (some .int) layX 147) (hR : gR Γ = rmH 6) (hm : gcells Γ ≤ (gR Γ).cells ∧ gslots Γ ≤ (gR Γ).slots) (F : Nat) (κ : Mem) (v1 : Int32) (v2 : Int32) (v3 : Int32) : JP Γ (qf Γ oE) (pX8_takeWord_28 F κ v1 v2 v3) κ 28 [(0, .ref (gad Γ 140)), (1, .int v1), (2, .int v2), (3, .int v3)] [] := by
  unfold pX8_takeWord_28
  refine j_aload_n hC (pc := 28) dX8_takeWord_28 0 rfl rfl ?_
  refine j_getR hC (pc := 29) dX8_takeWord_29 kf_RX8_9 lX_140 (Nat.le_of_ble_eq_true rfl) rfl ?_
  refine j_iload_n hC (pc := 32) dX8_takeWord_32 1 rfl rfl ?_
  refine j_iload_n hC (pc := 33) dX8_takeWord_33 3 rfl rfl ?_
  refine j_iload_n hC (pc := 34) dX8_takeWord_34 2 rfl rfl ?_
  refine j_isub hC (pc := 35) dX8_takeWord_35 ?_
  refine j_bipush hC (pc := 36) dX8_takeWord_36 kb_8 ?_
  refine j_icmp_gt hC (pc := 38) dX8_takeWord_38 (tgt := 45) rfl ?_ ?_
  · refine j_iconst hC (pc := 41) dX8_takeWord_41 ki_1 ?_
    refine j_goto hC (pc := 42) dX8_takeWord_42 (tgt := 46) rfl ?_
    exact wX8_takeWord_46 hC hR hm F κ v1 v2 v3 1 v1
  · refine j_iconst hC (pc := 45) dX8_takeWord_45 ki_4 ?_
    exact wX8_takeWord_46 hC hR hm F κ v1 v2 v3 4 v1
set_option maxRecDepth 20000 in
theorem wX8_takeWord_2 {Γ : JCtx} (hC : jC Γ cX8_takeWord 4 RX8 (some .int) layX 147) (hR : gR Γ = rmH 6) (hm : gcells Γ ≤ (gR Γ).cells ∧ gslots Γ ≤ (gR Γ).slots) (F : Nat) (κ : Mem) (v1 : Int32) (v2 : Int32) : ∀ (n : Nat) (v3 : Int32), JP Γ (qf Γ oE) (pX8_takeWord_2 F κ v1 v2 n v3) κ 2 [(0, .ref (gad Γ 140)), (1, .int v1), (2, .int v2), (3, .int v3)] [] := by
  intro n
  induction n with
  | zero =>
    intro v3
    rw [pX8_takeWord_2]
    exact j_none
  | succ fu ih =>
    intro v3
    rw [pX8_takeWord_2]
    refine j_iload_n hC (pc := 2) dX8_takeWord_2 3 rfl rfl ?_
    refine j_aload_n hC (pc := 3) dX8_takeWord_3 0 rfl rfl ?_
    refine j_getI hC (pc := 4) dX8_takeWord_4 kf_RX8_21 lX_140 (Nat.le_of_ble_eq_true rfl) rfl ?_
    refine j_icmp_ge hC (pc := 7) dX8_takeWord_7 (tgt := 28) rfl ?_ ?_
    · refine j_aload_n hC (pc := 10) dX8_takeWord_10 0 rfl rfl ?_
      refine j_getR hC (pc := 11) dX8_takeWord_11 kf_RX8_25 lX_140 (Nat.le_of_ble_eq_true rfl) rfl ?_
      refine j_iload_n hC (pc := 14) dX8_takeWord_14 3 rfl rfl ?_
      refine j_bald hC (pc := 15) dX8_takeWord_15 lX_137 (Nat.le_of_ble_eq_true rfl) ?_
      refine j_callS_I hC hR (ctX8_isLetter hC.l hC.cn κ (mi κ 137 v3.toNatClampNeg)) kc_RX8_42 (Nat.le_of_ble_eq_true rfl) (Nat.le_of_ble_eq_true rfl) (As := [.int (mi κ 137 v3.toNatClampNeg)]) (rest := []) rfl rfl (Nat.le_of_ble_eq_true rfl) hm (pc := 16) dX8_takeWord_16 (fun t1 => ?_)
      refine j_if_eq hC (pc := 19) dX8_takeWord_19 (tgt := 28) rfl ?_ ?_
      · exact wX8_takeWord_28 hC hR hm F κ v1 v2 v3
      · refine j_iinc hC (pc := 22) dX8_takeWord_22 3 rfl ki_1 (Nat.le_of_ble_eq_true rfl) (loc' := [(3, .int (v3 + 1)), (0, .ref (gad Γ 140)), (1, .int v1), (2, .int v2)]) rfl ?_
        refine j_goto hC (pc := 25) dX8_takeWord_25 (tgt := 2) rfl ?_
        refine j_sub [1, 2, 3, 0] (loc' := [(0, .ref (gad Γ 140)), (1, .int v1), (2, .int v2), (3, .int (v3 + 1))]) rfl ?_
        exact ih (v3 + 1)
    · exact wX8_takeWord_28 hC hR hm F κ v1 v2 v3
set_option maxRecDepth 20000 in
theorem wX8_takeWord {Γ : JCtx} (hC : jC Γ cX8_takeWord 4 RX8 (some .int) layX 147) (hR : gR Γ = rmH 6) (hm : gcells Γ ≤ (gR Γ).cells ∧ gslots Γ ≤ (gR Γ).slots) (F : Nat) (κ : Mem) (v1 : Int32) (v2 : Int32) : JP Γ (qf Γ oE) (pX8_takeWord F κ v1 v2) κ 0 [(0, .ref (gad Γ 140)), (1, .int v1), (2, .int v2)] [] := by
  unfold pX8_takeWord
  refine j_iload_n hC (pc := 0) dX8_takeWord_0 2 rfl rfl ?_
  refine j_istore_n hC (pc := 1) dX8_takeWord_1 rfl (Nat.le_of_ble_eq_true rfl) (loc' := [(3, .int v2), (0, .ref (gad Γ 140)), (1, .int v1), (2, .int v2)]) rfl ?_
  refine j_sub [1, 2, 3, 0] (loc' := [(0, .ref (gad Γ 140)), (1, .int v1), (2, .int v2), (3, .int v2)]) rfl ?_
  exact wX8_takeWord_2 hC hR hm F κ v1 v2 F v2
theorem ctX8_takeWord {Δ : DCtx} {l : Launch} (hl : dlay Δ = layX) (hN : dN Δ = 147) (F : Nat) (κ : Mem) (v1 : Int32) (v2 : Int32) : ∀ r, pX8_takeWord F κ v1 v2 = some r → CT Δ l yX8_takeWord cX8_takeWord 4 (some .int) (rmH 6) [.ref (dad Δ 140), .int v1, .int v2] κ (some (.int r.1)) r.2 :=
  ct_of (nL := 4) (ret := (some .int)) (lay := layX) (N := 147) (by decide +kernel) (fun Δ => [.ref (dad Δ 140), .int v1, .int v2]) (fun _ => oE) (fun _ => (Nat.le_of_ble_eq_true rfl)) (fun Γ hR hm hC => wX8_takeWord hC hR hm F κ v1 v2) Δ l hl hN
set_option maxRecDepth 20000 in
theorem wX8_isDigit_17 {Γ : JCtx} (hC : jC Γ cX8_isDigit 1 RX8 (some .boolean) layX 147) (hR : gR Γ = rmH 0) (hm : gcells Γ ≤ (gR Γ).cells ∧ gslots Γ ≤ (gR Γ).slots) (κ : Mem) (y0 : Int32) : JP Γ (qf Γ (oI κ)) (pX8_isDigit_17 κ y0) κ 17 [] [.int y0] := by
  unfold pX8_isDigit_17
  refine j_ckP (fun hq1 => ?_)
  exact j_iret hC (pc := 17) dX8_isDigit_17 rfl (isB_n hq1) rfl
set_option maxRecDepth 20000 in
theorem wX8_isDigit_16 {Γ : JCtx} (hC : jC Γ cX8_isDigit 1 RX8 (some .boolean) layX 147) (hR : gR Γ = rmH 0) (hm : gcells Γ ≤ (gR Γ).cells ∧ gslots Γ ≤ (gR Γ).slots) (κ : Mem) : JP Γ (qf Γ (oI κ)) (pX8_isDigit_16 κ) κ 16 [] [] := by
  unfold pX8_isDigit_16
  refine j_iconst hC (pc := 16) dX8_isDigit_16 ki_0 ?_
  exact wX8_isDigit_17 hC hR hm κ 0
set_option maxRecDepth 20000 in
theorem wX8_isDigit {Γ : JCtx} (hC : jC Γ cX8_isDigit 1 RX8 (some .boolean) layX 147) (hR : gR Γ = rmH 0) (hm : gcells Γ ≤ (gR Γ).cells ∧ gslots Γ ≤ (gR Γ).slots) (κ : Mem) (v0 : Int32) : JP Γ (qf Γ (oI κ)) (pX8_isDigit κ v0) κ 0 [(0, .int v0)] [] := by
  unfold pX8_isDigit
  refine j_iload_n hC (pc := 0) dX8_isDigit_0 0 rfl rfl ?_
  refine j_bipush hC (pc := 1) dX8_isDigit_1 kb_48 ?_
  refine j_icmp_lt hC (pc := 3) dX8_isDigit_3 (tgt := 16) rfl ?_ ?_
  · refine j_sub [] (loc' := []) rfl ?_
    exact wX8_isDigit_16 hC hR hm κ
  · refine j_iload_n hC (pc := 6) dX8_isDigit_6 0 rfl rfl ?_
    refine j_bipush hC (pc := 7) dX8_isDigit_7 kb_57 ?_
    refine j_icmp_gt hC (pc := 9) dX8_isDigit_9 (tgt := 16) rfl ?_ ?_
    · refine j_iconst hC (pc := 12) dX8_isDigit_12 ki_1 ?_
      refine j_goto hC (pc := 13) dX8_isDigit_13 (tgt := 17) rfl ?_
      refine j_sub [] (loc' := []) rfl ?_
      exact wX8_isDigit_17 hC hR hm κ 1
    · refine j_sub [] (loc' := []) rfl ?_
      exact wX8_isDigit_16 hC hR hm κ
theorem ctX8_isDigit {Δ : DCtx} {l : Launch} (hl : dlay Δ = layX) (hN : dN Δ = 147) (κ : Mem) (v0 : Int32) : ∀ r, pX8_isDigit κ v0 = some r → CT Δ l yX8_isDigit cX8_isDigit 1 (some .boolean) (rmH 0) [.int v0] κ (some (.int r)) κ :=
  ct_of (nL := 1) (ret := (some .boolean)) (lay := layX) (N := 147) (by decide +kernel) (fun Δ => [.int v0]) (fun _ => oI κ) (fun _ => (Nat.le_of_ble_eq_true rfl)) (fun Γ hR hm hC => wX8_isDigit hC hR hm κ v0) Δ l hl hN
set_option maxRecDepth 20000 in
theorem wX8_takeNumber_68 {Γ : JCtx} (hC : jC Γ cX8_takeNumber 5 RX8 (some .int) layX 147) (hR : gR Γ = rmH 1) (hm : gcells Γ ≤ (gR Γ).cells ∧ gslots Γ ≤ (gR Γ).slots) (F : Nat) (κ : Mem) (v1 : Int32) (v3 : Int32) (v4 : Int32) (y0 : Int32) (y1 : Int32) : JP Γ (qf Γ oE) (pX8_takeNumber_68 F κ v1 v3 v4 y0 y1) κ 68 [(0, .ref (gad Γ 140)), (1, .int v1), (3, .int v3), (4, .int v4)] [.int y0, .int y1, .ref (gad Γ 141)] := by
  unfold pX8_takeNumber_68
  refine j_iast hC (pc := 68) dX8_takeNumber_68 lX_141 (Nat.le_of_ble_eq_true rfl) (fun κ2 => ?_)
  refine j_aload_n hC (pc := 69) dX8_takeNumber_69 0 rfl rfl ?_
  refine j_getR hC (pc := 70) dX8_takeNumber_70 kf_RX8_18 lX_140 (Nat.le_of_ble_eq_true rfl) rfl ?_
  refine j_iload_n hC (pc := 73) dX8_takeNumber_73 1 rfl rfl ?_
  refine j_iload hC (pc := 74) dX8_takeNumber_74 3 rfl ?_
  refine j_iast hC (pc := 76) dX8_takeNumber_76 lX_143 (Nat.le_of_ble_eq_true rfl) (fun κ3 => ?_)
  refine j_iload_n hC (pc := 77) dX8_takeNumber_77 2 rfl rfl ?_
  exact j_iret hC (pc := 78) dX8_takeNumber_78 rfl rfl rfl
set_option maxRecDepth 20000 in
theorem wX8_takeNumber_51 {Γ : JCtx} (hC : jC Γ cX8_takeNumber 5 RX8 (some .int) layX 147) (hR : gR Γ = rmH 1) (hm : gcells Γ ≤ (gR Γ).cells ∧ gslots Γ ≤ (gR Γ).slots) (F : Nat) (κ : Mem) (v1 : Int32) (v2 : Int32) (v3 : Int32) (v4 : Int32) : JP Γ (qf Γ oE) (pX8_takeNumber_51 F κ v1 v2 v3 v4) κ 51 [(0, .ref (gad Γ 140)), (1, .int v1), (2, .int v2), (3, .int v3), (4, .int v4)] [] := by
  unfold pX8_takeNumber_51
  refine j_aload_n hC (pc := 51) dX8_takeNumber_51 0 rfl rfl ?_
  refine j_getR hC (pc := 52) dX8_takeNumber_52 kf_RX8_9 lX_140 (Nat.le_of_ble_eq_true rfl) rfl ?_
  refine j_iload_n hC (pc := 55) dX8_takeNumber_55 1 rfl rfl ?_
  refine j_iload_n hC (pc := 56) dX8_takeNumber_56 3 rfl rfl ?_
  refine j_iload_n hC (pc := 57) dX8_takeNumber_57 2 rfl rfl ?_
  refine j_isub hC (pc := 58) dX8_takeNumber_58 ?_
  refine j_iconst hC (pc := 59) dX8_takeNumber_59 ki_2 ?_
  refine j_icmp_gt hC (pc := 60) dX8_takeNumber_60 (tgt := 67) rfl ?_ ?_
  · refine j_iconst hC (pc := 63) dX8_takeNumber_63 ki_2 ?_
    refine j_goto hC (pc := 64) dX8_takeNumber_64 (tgt := 68) rfl ?_
    refine j_sub [0, 1, 3, 4] (loc' := [(0, .ref (gad Γ 140)), (1, .int v1), (3, .int v3), (4, .int v4)]) rfl ?_
    exact wX8_takeNumber_68 hC hR hm F κ v1 v3 v4 2 v1
  · refine j_iconst hC (pc := 67) dX8_takeNumber_67 ki_4 ?_
    refine j_sub [0, 1, 3, 4] (loc' := [(0, .ref (gad Γ 140)), (1, .int v1), (3, .int v3), (4, .int v4)]) rfl ?_
    exact wX8_takeNumber_68 hC hR hm F κ v1 v3 v4 4 v1
set_option maxRecDepth 20000 in
theorem wX8_takeNumber_5 {Γ : JCtx} (hC : jC Γ cX8_takeNumber 5 RX8 (some .int) layX 147) (hR : gR Γ = rmH 1) (hm : gcells Γ ≤ (gR Γ).cells ∧ gslots Γ ≤ (gR Γ).slots) (F : Nat) (κ : Mem) (v1 : Int32) (v2 : Int32) : ∀ (n : Nat) (v3 : Int32) (v4 : Int32), JP Γ (qf Γ oE) (pX8_takeNumber_5 F κ v1 v2 n v3 v4) κ 5 [(0, .ref (gad Γ 140)), (1, .int v1), (2, .int v2), (3, .int v3), (4, .int v4)] [] := by
  intro n
  induction n with
  | zero =>
    intro v3 v4
    rw [pX8_takeNumber_5]
    exact j_none
  | succ fu ih =>
    intro v3 v4
    rw [pX8_takeNumber_5]
    refine j_iload_n hC (pc := 5) dX8_takeNumber_5 3 rfl rfl ?_
    refine j_aload_n hC (pc := 6) dX8_takeNumber_6 0 rfl rfl ?_
    refine j_getI hC (pc := 7) dX8_takeNumber_7 kf_RX8_21 lX_140 (Nat.le_of_ble_eq_true rfl) rfl ?_
    refine j_icmp_ge hC (pc := 10) dX8_takeNumber_10 (tgt := 51) rfl ?_ ?_
    · refine j_aload_n hC (pc := 13) dX8_takeNumber_13 0 rfl rfl ?_
      refine j_getR hC (pc := 14) dX8_takeNumber_14 kf_RX8_25 lX_140 (Nat.le_of_ble_eq_true rfl) rfl ?_
      refine j_iload_n hC (pc := 17) dX8_takeNumber_17 3 rfl rfl ?_
      refine j_bald hC (pc := 18) dX8_takeNumber_18 lX_137 (Nat.le_of_ble_eq_true rfl) ?_
      refine j_callS_I hC hR (ctX8_isDigit hC.l hC.cn κ (mi κ 137 v3.toNatClampNeg)) kc_RX8_49 (Nat.le_of_ble_eq_true rfl) (Nat.le_of_ble_eq_true rfl) (As := [.int (mi κ 137 v3.toNatClampNeg)]) (rest := []) rfl rfl (Nat.le_of_ble_eq_true rfl) hm (pc := 19) dX8_takeNumber_19 (fun t1 => ?_)
      refine j_if_eq hC (pc := 22) dX8_takeNumber_22 (tgt := 51) rfl ?_ ?_
      · exact wX8_takeNumber_51 hC hR hm F κ v1 v2 v3 v4
      · refine j_iload hC (pc := 25) dX8_takeNumber_25 4 rfl ?_
        refine j_bipush hC (pc := 27) dX8_takeNumber_27 kb_10 ?_
        refine j_imul hC (pc := 29) dX8_takeNumber_29 ?_
        refine j_aload_n hC (pc := 30) dX8_takeNumber_30 0 rfl rfl ?_
        refine j_getR hC (pc := 31) dX8_takeNumber_31 kf_RX8_25 lX_140 (Nat.le_of_ble_eq_true rfl) rfl ?_
        refine j_iload_n hC (pc := 34) dX8_takeNumber_34 3 rfl rfl ?_
        refine j_bald hC (pc := 35) dX8_takeNumber_35 lX_137 (Nat.le_of_ble_eq_true rfl) ?_
        refine j_iadd hC (pc := 36) dX8_takeNumber_36 ?_
        refine j_bipush hC (pc := 37) dX8_takeNumber_37 kb_48 ?_
        refine j_isub hC (pc := 39) dX8_takeNumber_39 ?_
        refine j_bipush hC (pc := 40) dX8_takeNumber_40 kb_100 ?_
        refine j_irem hC (pc := 42) dX8_takeNumber_42 ?_
        refine j_nmi (fun x4 => ?_)
        refine j_istore hC (pc := 43) dX8_takeNumber_43 (Nat.le_of_ble_eq_true rfl) (loc' := [(4, .int x4), (0, .ref (gad Γ 140)), (1, .int v1), (2, .int v2), (3, .int v3)]) rfl ?_
        refine j_iinc hC (pc := 45) dX8_takeNumber_45 4 rfl ki_1 (Nat.le_of_ble_eq_true rfl) (loc' := [(3, .int (v3 + 1)), (4, .int x4), (0, .ref (gad Γ 140)), (1, .int v1), (2, .int v2)]) rfl ?_
        refine j_goto hC (pc := 48) dX8_takeNumber_48 (tgt := 5) rfl ?_
        refine j_sub [2, 3, 4, 0, 1] (loc' := [(0, .ref (gad Γ 140)), (1, .int v1), (2, .int v2), (3, .int (v3 + 1)), (4, .int x4)]) rfl ?_
        exact ih (v3 + 1) x4
    · exact wX8_takeNumber_51 hC hR hm F κ v1 v2 v3 v4
set_option maxRecDepth 20000 in
theorem wX8_takeNumber {Γ : JCtx} (hC : jC Γ cX8_takeNumber 5 RX8 (some .int) layX 147) (hR : gR Γ = rmH 1) (hm : gcells Γ ≤ (gR Γ).cells ∧ gslots Γ ≤ (gR Γ).slots) (F : Nat) (κ : Mem) (v1 : Int32) (v2 : Int32) : JP Γ (qf Γ oE) (pX8_takeNumber F κ v1 v2) κ 0 [(0, .ref (gad Γ 140)), (1, .int v1), (2, .int v2)] [] := by
  unfold pX8_takeNumber
  refine j_iload_n hC (pc := 0) dX8_takeNumber_0 2 rfl rfl ?_
  refine j_istore_n hC (pc := 1) dX8_takeNumber_1 rfl (Nat.le_of_ble_eq_true rfl) (loc' := [(3, .int v2), (0, .ref (gad Γ 140)), (1, .int v1), (2, .int v2)]) rfl ?_
  refine j_iconst hC (pc := 2) dX8_takeNumber_2 ki_0 ?_
  refine j_istore hC (pc := 3) dX8_takeNumber_3 (Nat.le_of_ble_eq_true rfl) (loc' := [(4, .int 0), (3, .int v2), (0, .ref (gad Γ 140)), (1, .int v1), (2, .int v2)]) rfl ?_
  refine j_sub [2, 3, 4, 1, 0] (loc' := [(0, .ref (gad Γ 140)), (1, .int v1), (2, .int v2), (3, .int v2), (4, .int 0)]) rfl ?_
  exact wX8_takeNumber_5 hC hR hm F κ v1 v2 F v2 0
theorem ctX8_takeNumber {Δ : DCtx} {l : Launch} (hl : dlay Δ = layX) (hN : dN Δ = 147) (F : Nat) (κ : Mem) (v1 : Int32) (v2 : Int32) : ∀ r, pX8_takeNumber F κ v1 v2 = some r → CT Δ l yX8_takeNumber cX8_takeNumber 5 (some .int) (rmH 1) [.ref (dad Δ 140), .int v1, .int v2] κ (some (.int r.1)) r.2 :=
  ct_of (nL := 5) (ret := (some .int)) (lay := layX) (N := 147) (by decide +kernel) (fun Δ => [.ref (dad Δ 140), .int v1, .int v2]) (fun _ => oE) (fun _ => (Nat.le_of_ble_eq_true rfl)) (fun Γ hR hm hC => wX8_takeNumber hC hR hm F κ v1 v2) Δ l hl hN
set_option maxRecDepth 20000 in
theorem wX8_takeToken_59 {Γ : JCtx} (hC : jC Γ cX8_takeToken 3 RX8 (some .int) layX 147) (hR : gR Γ = rmH 7) (hm : gcells Γ ≤ (gR Γ).cells ∧ gslots Γ ≤ (gR Γ).slots) (F : Nat) (κ : Mem) (v2 : Int32) (y0 : Int32) (y1 : Int32) : JP Γ (qf Γ oE) (pX8_takeToken_59 F κ v2 y0 y1) κ 59 [(2, .int v2)] [.int y0, .int y1, .ref (gad Γ 141)] := by
  unfold pX8_takeToken_59
  refine j_iast hC (pc := 59) dX8_takeToken_59 lX_141 (Nat.le_of_ble_eq_true rfl) (fun κ3 => ?_)
  refine j_iload_n hC (pc := 60) dX8_takeToken_60 0 rfl rfl ?_
  refine j_iconst hC (pc := 61) dX8_takeToken_61 ki_1 ?_
  refine j_iadd hC (pc := 62) dX8_takeToken_62 ?_
  exact j_iret hC (pc := 63) dX8_takeToken_63 rfl rfl rfl
set_option maxRecDepth 20000 in
theorem wX8_takeToken {Γ : JCtx} (hC : jC Γ cX8_takeToken 3 RX8 (some .int) layX 147) (hR : gR Γ = rmH 7) (hm : gcells Γ ≤ (gR Γ).cells ∧ gslots Γ ≤ (gR Γ).slots) (F : Nat) (κ : Mem) (v1 : Int32) (v2 : Int32) : JP Γ (qf Γ oE) (pX8_takeToken F κ v1 v2) κ 0 [(0, .ref (gad Γ 140)), (1, .int v1), (2, .int v2)] [] := by
  unfold pX8_takeToken
  refine j_aload_n hC (pc := 0) dX8_takeToken_0 0 rfl rfl ?_
  refine j_getR hC (pc := 1) dX8_takeToken_1 kf_RX8_25 lX_140 (Nat.le_of_ble_eq_true rfl) rfl ?_
  refine j_iload_n hC (pc := 4) dX8_takeToken_4 2 rfl rfl ?_
  refine j_bald hC (pc := 5) dX8_takeToken_5 lX_137 (Nat.le_of_ble_eq_true rfl) ?_
  refine j_callS_I hC hR (ctX8_isLetter hC.l hC.cn κ (mi κ 137 v2.toNatClampNeg)) kc_RX8_42 (Nat.le_of_ble_eq_true rfl) (Nat.le_of_ble_eq_true rfl) (As := [.int (mi κ 137 v2.toNatClampNeg)]) (rest := []) rfl rfl (Nat.le_of_ble_eq_true rfl) hm (pc := 6) dX8_takeToken_6 (fun t1 => ?_)
  refine j_if_eq hC (pc := 9) dX8_takeToken_9 (tgt := 19) rfl ?_ ?_
  · refine j_aload_n hC (pc := 19) dX8_takeToken_19 0 rfl rfl ?_
    refine j_getR hC (pc := 20) dX8_takeToken_20 kf_RX8_25 lX_140 (Nat.le_of_ble_eq_true rfl) rfl ?_
    refine j_iload_n hC (pc := 23) dX8_takeToken_23 2 rfl rfl ?_
    refine j_bald hC (pc := 24) dX8_takeToken_24 lX_137 (Nat.le_of_ble_eq_true rfl) ?_
    refine j_callS_I hC hR (ctX8_isDigit hC.l hC.cn κ (mi κ 137 v2.toNatClampNeg)) kc_RX8_49 (Nat.le_of_ble_eq_true rfl) (Nat.le_of_ble_eq_true rfl) (As := [.int (mi κ 137 v2.toNatClampNeg)]) (rest := []) rfl rfl (Nat.le_of_ble_eq_true rfl) hm (pc := 25) dX8_takeToken_25 (fun t2 => ?_)
    refine j_if_eq hC (pc := 28) dX8_takeToken_28 (tgt := 38) rfl ?_ ?_
    · refine j_aload_n hC (pc := 38) dX8_takeToken_38 0 rfl rfl ?_
      refine j_getR hC (pc := 39) dX8_takeToken_39 kf_RX8_9 lX_140 (Nat.le_of_ble_eq_true rfl) rfl ?_
      refine j_iload_n hC (pc := 42) dX8_takeToken_42 1 rfl rfl ?_
      refine j_aload_n hC (pc := 43) dX8_takeToken_43 0 rfl rfl ?_
      refine j_getR hC (pc := 44) dX8_takeToken_44 kf_RX8_25 lX_140 (Nat.le_of_ble_eq_true rfl) rfl ?_
      refine j_iload_n hC (pc := 47) dX8_takeToken_47 2 rfl rfl ?_
      refine j_bald hC (pc := 48) dX8_takeToken_48 lX_137 (Nat.le_of_ble_eq_true rfl) ?_
      refine j_bipush hC (pc := 49) dX8_takeToken_49 kb_59 ?_
      refine j_icmp_ne hC (pc := 51) dX8_takeToken_51 (tgt := 58) rfl ?_ ?_
      · refine j_iconst hC (pc := 54) dX8_takeToken_54 ki_3 ?_
        refine j_goto hC (pc := 55) dX8_takeToken_55 (tgt := 59) rfl ?_
        refine j_sub [2] (loc' := [(2, .int v2)]) rfl ?_
        exact wX8_takeToken_59 hC hR hm F κ v2 3 v1
      · refine j_iconst hC (pc := 58) dX8_takeToken_58 ki_4 ?_
        refine j_sub [2] (loc' := [(2, .int v2)]) rfl ?_
        exact wX8_takeToken_59 hC hR hm F κ v2 4 v1
    · refine j_aload_n hC (pc := 31) dX8_takeToken_31 0 rfl rfl ?_
      refine j_iload_n hC (pc := 32) dX8_takeToken_32 1 rfl rfl ?_
      refine j_iload_n hC (pc := 33) dX8_takeToken_33 2 rfl rfl ?_
      refine j_callV_E hC hR (ctX8_takeNumber hC.l hC.cn F κ v1 v2) kc_RX8_52 (Nat.le_of_ble_eq_true rfl) (Nat.le_of_ble_eq_true rfl) lX_140 (Nat.le_of_ble_eq_true rfl) rfl (As := [.int v1, .int v2]) (rest := []) rfl rfl (Nat.le_of_ble_eq_true rfl) hm (pc := 34) dX8_takeToken_34 (fun t4 => ?_)
      exact j_iret hC (pc := 37) dX8_takeToken_37 rfl rfl rfl
  · refine j_aload_n hC (pc := 12) dX8_takeToken_12 0 rfl rfl ?_
    refine j_iload_n hC (pc := 13) dX8_takeToken_13 1 rfl rfl ?_
    refine j_iload_n hC (pc := 14) dX8_takeToken_14 2 rfl rfl ?_
    refine j_callV_E hC hR (ctX8_takeWord hC.l hC.cn F κ v1 v2) kc_RX8_46 (Nat.le_of_ble_eq_true rfl) (Nat.le_of_ble_eq_true rfl) lX_140 (Nat.le_of_ble_eq_true rfl) rfl (As := [.int v1, .int v2]) (rest := []) rfl rfl (Nat.le_of_ble_eq_true rfl) hm (pc := 15) dX8_takeToken_15 (fun t5 => ?_)
    exact j_iret hC (pc := 18) dX8_takeToken_18 rfl rfl rfl
theorem ctX8_takeToken {Δ : DCtx} {l : Launch} (hl : dlay Δ = layX) (hN : dN Δ = 147) (F : Nat) (κ : Mem) (v1 : Int32) (v2 : Int32) : ∀ r, pX8_takeToken F κ v1 v2 = some r → CT Δ l yX8_takeToken cX8_takeToken 3 (some .int) (rmH 7) [.ref (dad Δ 140), .int v1, .int v2] κ (some (.int r.1)) r.2 :=
  ct_of (nL := 3) (ret := (some .int)) (lay := layX) (N := 147) (by decide +kernel) (fun Δ => [.ref (dad Δ 140), .int v1, .int v2]) (fun _ => oE) (fun _ => (Nat.le_of_ble_eq_true rfl)) (fun Γ hR hm hC => wX8_takeToken hC hR hm F κ v1 v2) Δ l hl hN
set_option maxRecDepth 20000 in
theorem wX8_split_60 {Γ : JCtx} (hC : jC Γ cX8_split 4 RX8 none layX 147) (hR : gR Γ = rmH 8) (hm : gcells Γ ≤ (gR Γ).cells ∧ gslots Γ ≤ (gR Γ).slots) (F : Nat) (κ : Mem) (v2 : Int32) : JP Γ (qf Γ oV) (pX8_split_60 F κ v2) κ 60 [(0, .ref (gad Γ 140)), (2, .int v2)] [] := by
  unfold pX8_split_60
  refine j_aload_n hC (pc := 60) dX8_split_60 0 rfl rfl ?_
  refine j_getR hC (pc := 61) dX8_split_61 kf_RX8_9 lX_140 (Nat.le_of_ble_eq_true rfl) rfl ?_
  refine j_iload_n hC (pc := 64) dX8_split_64 1 rfl rfl ?_
  refine j_iconst hC (pc := 65) dX8_split_65 ki_0 ?_
  refine j_iast hC (pc := 66) dX8_split_66 lX_141 (Nat.le_of_ble_eq_true rfl) (fun κ6 => ?_)
  refine j_aload_n hC (pc := 67) dX8_split_67 0 rfl rfl ?_
  refine j_getR hC (pc := 68) dX8_split_68 kf_RX8_15 lX_140 (Nat.le_of_ble_eq_true rfl) rfl ?_
  refine j_iload_n hC (pc := 71) dX8_split_71 1 rfl rfl ?_
  refine j_aload_n hC (pc := 72) dX8_split_72 0 rfl rfl ?_
  refine j_getI hC (pc := 73) dX8_split_73 kf_RX8_21 lX_140 (Nat.le_of_ble_eq_true rfl) rfl ?_
  refine j_iast hC (pc := 76) dX8_split_76 lX_142 (Nat.le_of_ble_eq_true rfl) (fun κ7 => ?_)
  exact j_vret hC (pc := 77) dX8_split_77 rfl rfl
set_option maxRecDepth 20000 in
theorem wX8_split_21 {Γ : JCtx} (hC : jC Γ cX8_split 4 RX8 none layX 147) (hR : gR Γ = rmH 8) (hm : gcells Γ ≤ (gR Γ).cells ∧ gslots Γ ≤ (gR Γ).slots) (F : Nat) : ∀ (n : Nat) (κ : Mem) (v2 : Int32) (v3 : Int32), JP Γ (qf Γ oV) (pX8_split_21 F n κ v2 v3) κ 21 [(0, .ref (gad Γ 140)), (2, .int v2), (3, .int v3)] [] := by
  intro n
  induction n with
  | zero =>
    intro κ v2 v3
    rw [pX8_split_21]
    exact j_none
  | succ fu ih =>
    intro κ v2 v3
    rw [pX8_split_21]
    refine j_iload_n hC (pc := 21) dX8_split_21 2 rfl rfl ?_
    refine j_aload_n hC (pc := 22) dX8_split_22 0 rfl rfl ?_
    refine j_getI hC (pc := 23) dX8_split_23 kf_RX8_21 lX_140 (Nat.le_of_ble_eq_true rfl) rfl ?_
    refine j_icmp_ge hC (pc := 26) dX8_split_26 (tgt := 60) rfl ?_ ?_
    · refine j_iload_n hC (pc := 29) dX8_split_29 1 rfl rfl ?_
      refine j_sipush hC (pc := 30) dX8_split_30 ks_600 ?_
      refine j_icmp_ge hC (pc := 33) dX8_split_33 (tgt := 60) rfl ?_ ?_
      · refine j_aload_n hC (pc := 36) dX8_split_36 0 rfl rfl ?_
        refine j_getR hC (pc := 37) dX8_split_37 kf_RX8_15 lX_140 (Nat.le_of_ble_eq_true rfl) rfl ?_
        refine j_iload_n hC (pc := 40) dX8_split_40 1 rfl rfl ?_
        refine j_iload_n hC (pc := 41) dX8_split_41 2 rfl rfl ?_
        refine j_iast hC (pc := 42) dX8_split_42 lX_142 (Nat.le_of_ble_eq_true rfl) (fun κ3 => ?_)
        refine j_aload_n hC (pc := 43) dX8_split_43 0 rfl rfl ?_
        refine j_aload_n hC (pc := 44) dX8_split_44 0 rfl rfl ?_
        refine j_iload_n hC (pc := 45) dX8_split_45 1 rfl rfl ?_
        refine j_iload_n hC (pc := 46) dX8_split_46 2 rfl rfl ?_
        refine j_callV_E hC hR (ctX8_takeToken hC.l hC.cn F κ3 v2 v3) kc_RX8_39 (Nat.le_of_ble_eq_true rfl) (Nat.le_of_ble_eq_true rfl) lX_140 (Nat.le_of_ble_eq_true rfl) rfl (As := [.int v2, .int v3]) (rest := [.ref (gad Γ 140)]) rfl rfl (Nat.le_of_ble_eq_true rfl) hm (pc := 47) dX8_split_47 (fun t4 => ?_)
        refine j_callV_I hC hR (ctX8_afterBlanks hC.l hC.cn F t4.2 t4.1) kc_RX8_35 (Nat.le_of_ble_eq_true rfl) (Nat.le_of_ble_eq_true rfl) lX_140 (Nat.le_of_ble_eq_true rfl) rfl (As := [.int (t4.1)]) (rest := []) rfl rfl (Nat.le_of_ble_eq_true rfl) hm (pc := 50) dX8_split_50 (fun t5 => ?_)
        refine j_istore_n hC (pc := 53) dX8_split_53 rfl (Nat.le_of_ble_eq_true rfl) (loc' := [(3, .int t5), (0, .ref (gad Γ 140)), (2, .int v2)]) rfl ?_
        refine j_iinc hC (pc := 54) dX8_split_54 2 rfl ki_1 (Nat.le_of_ble_eq_true rfl) (loc' := [(2, .int (v2 + 1)), (3, .int t5), (0, .ref (gad Γ 140))]) rfl ?_
        refine j_goto hC (pc := 57) dX8_split_57 (tgt := 21) rfl ?_
        refine j_sub [2, 0, 1] (loc' := [(0, .ref (gad Γ 140)), (2, .int (v2 + 1)), (3, .int t5)]) rfl ?_
        exact ih t4.2 (v2 + 1) t5
      · refine j_sub [0, 1] (loc' := [(0, .ref (gad Γ 140)), (2, .int v2)]) rfl ?_
        exact wX8_split_60 hC hR hm F κ v2
    · refine j_sub [0, 1] (loc' := [(0, .ref (gad Γ 140)), (2, .int v2)]) rfl ?_
      exact wX8_split_60 hC hR hm F κ v2
set_option maxRecDepth 20000 in
theorem wX8_split {Γ : JCtx} (hC : jC Γ cX8_split 4 RX8 none layX 147) (hR : gR Γ = rmH 8) (hm : gcells Γ ≤ (gR Γ).cells ∧ gslots Γ ≤ (gR Γ).slots) (F : Nat) (κ : Mem) (v1 : Int32) : JP Γ (qf Γ oV) (pX8_split F κ v1) κ 0 [(0, .ref (gad Γ 140)), (1, .int v1)] [] := by
  unfold pX8_split
  refine j_aload_n hC (pc := 0) dX8_split_0 0 rfl rfl ?_
  refine j_iload_n hC (pc := 1) dX8_split_1 1 rfl rfl ?_
  refine j_aload_n hC (pc := 2) dX8_split_2 0 rfl rfl ?_
  refine j_getR hC (pc := 3) dX8_split_3 kf_RX8_25 lX_140 (Nat.le_of_ble_eq_true rfl) rfl ?_
  refine j_alenB hC (pc := 6) dX8_split_6 lX_137 (Nat.le_of_ble_eq_true rfl) rfl ?_
  refine j_mmin hC hR kc_RX8_29 (Nat.le_of_ble_eq_true rfl) (rest := [.ref (gad Γ 140)]) (Nat.le_of_ble_eq_true rfl) hm (pc := 7) dX8_split_7 ?_
  refine j_putI hC (pc := 10) dX8_split_10 kp_RX8_21 lX_140 (Nat.le_of_ble_eq_true rfl) rfl rfl rfl (fun κ1 => ?_)
  refine j_iconst hC (pc := 13) dX8_split_13 ki_0 ?_
  refine j_istore_n hC (pc := 14) dX8_split_14 rfl (Nat.le_of_ble_eq_true rfl) (loc' := [(2, .int 0), (0, .ref (gad Γ 140)), (1, .int v1)]) rfl ?_
  refine j_aload_n hC (pc := 15) dX8_split_15 1 rfl rfl ?_
  refine j_iconst hC (pc := 16) dX8_split_16 ki_0 ?_
  refine j_callV_I hC hR (ctX8_afterBlanks hC.l hC.cn F κ1 0) kc_RX8_35 (Nat.le_of_ble_eq_true rfl) (Nat.le_of_ble_eq_true rfl) lX_140 (Nat.le_of_ble_eq_true rfl) rfl (As := [.int 0]) (rest := []) rfl rfl (Nat.le_of_ble_eq_true rfl) hm (pc := 17) dX8_split_17 (fun t2 => ?_)
  refine j_istore_n hC (pc := 20) dX8_split_20 rfl (Nat.le_of_ble_eq_true rfl) (loc' := [(3, .int t2), (2, .int 0), (0, .ref (gad Γ 140)), (1, .int v1)]) rfl ?_
  refine j_sub [2, 1, 0] (loc' := [(0, .ref (gad Γ 140)), (2, .int 0), (3, .int t2)]) rfl ?_
  exact wX8_split_21 hC hR hm F F κ1 0 t2
theorem ctX8_split {Δ : DCtx} {l : Launch} (hl : dlay Δ = layX) (hN : dN Δ = 147) (F : Nat) (κ : Mem) (v1 : Int32) : ∀ r, pX8_split F κ v1 = some r → CT Δ l yX8_split cX8_split 4 none (rmH 8) [.ref (dad Δ 140), .int v1] κ none r :=
  ct_of (nL := 4) (ret := none) (lay := layX) (N := 147) (by decide +kernel) (fun Δ => [.ref (dad Δ 140), .int v1]) (fun _ => oV) (fun _ => (Nat.le_of_ble_eq_true rfl)) (fun Γ hR hm hC => wX8_split hC hR hm F κ v1) Δ l hl hN
set_option maxRecDepth 20000 in
theorem wX6_wordHere_32 {Γ : JCtx} (hC : jC Γ cX6_wordHere 1 RX6 (some .int) layX 147) (hR : gR Γ = rmH 0) (hm : gcells Γ ≤ (gR Γ).cells ∧ gslots Γ ≤ (gR Γ).slots) (κ : Mem) (y0 : Int32) : JP Γ (qf Γ (oI κ)) (pX6_wordHere_32 κ y0) κ 32 [] [.int y0] := by
  unfold pX6_wordHere_32
  exact j_iret hC (pc := 32) dX6_wordHere_32 rfl rfl rfl
set_option maxRecDepth 20000 in
theorem wX6_wordHere {Γ : JCtx} (hC : jC Γ cX6_wordHere 1 RX6 (some .int) layX 147) (hR : gR Γ = rmH 0) (hm : gcells Γ ≤ (gR Γ).cells ∧ gslots Γ ≤ (gR Γ).slots) (κ : Mem) : JP Γ (qf Γ (oI κ)) (pX6_wordHere κ) κ 0 [(0, .ref (gad Γ 138))] [] := by
  unfold pX6_wordHere
  refine j_aload_n hC (pc := 0) dX6_wordHere_0 0 rfl rfl ?_
  refine j_getR hC (pc := 1) dX6_wordHere_1 kf_RX6_46 lX_138 (Nat.le_of_ble_eq_true rfl) rfl ?_
  refine j_getR hC (pc := 4) dX6_wordHere_4 kf_RX6_57 lX_140 (Nat.le_of_ble_eq_true rfl) rfl ?_
  refine j_aload_n hC (pc := 7) dX6_wordHere_7 0 rfl rfl ?_
  refine j_getI hC (pc := 8) dX6_wordHere_8 kf_RX6_25 lX_138 (Nat.le_of_ble_eq_true rfl) rfl ?_
  refine j_iald hC (pc := 11) dX6_wordHere_11 lX_141 (Nat.le_of_ble_eq_true rfl) ?_
  refine j_iconst hC (pc := 12) dX6_wordHere_12 ki_1 ?_
  refine j_icmp_ne hC (pc := 13) dX6_wordHere_13 (tgt := 31) rfl ?_ ?_
  · refine j_aload_n hC (pc := 16) dX6_wordHere_16 0 rfl rfl ?_
    refine j_getR hC (pc := 17) dX6_wordHere_17 kf_RX6_46 lX_138 (Nat.le_of_ble_eq_true rfl) rfl ?_
    refine j_getR hC (pc := 20) dX6_wordHere_20 kf_RX6_141 lX_140 (Nat.le_of_ble_eq_true rfl) rfl ?_
    refine j_aload_n hC (pc := 23) dX6_wordHere_23 0 rfl rfl ?_
    refine j_getI hC (pc := 24) dX6_wordHere_24 kf_RX6_25 lX_138 (Nat.le_of_ble_eq_true rfl) rfl ?_
    refine j_iald hC (pc := 27) dX6_wordHere_27 lX_143 (Nat.le_of_ble_eq_true rfl) ?_
    refine j_goto hC (pc := 28) dX6_wordHere_28 (tgt := 32) rfl ?_
    refine j_sub [] (loc' := []) rfl ?_
    exact wX6_wordHere_32 hC hR hm κ (mi κ 143 (mi κ 138 4).toNatClampNeg)
  · refine j_iconst hC (pc := 31) dX6_wordHere_31 ki_0 ?_
    refine j_sub [] (loc' := []) rfl ?_
    exact wX6_wordHere_32 hC hR hm κ 0
theorem ctX6_wordHere {Δ : DCtx} {l : Launch} (hl : dlay Δ = layX) (hN : dN Δ = 147) (κ : Mem) : ∀ r, pX6_wordHere κ = some r → CT Δ l yX6_wordHere cX6_wordHere 1 (some .int) (rmH 0) [.ref (dad Δ 138)] κ (some (.int r)) κ :=
  ct_of (nL := 1) (ret := (some .int)) (lay := layX) (N := 147) (by decide +kernel) (fun Δ => [.ref (dad Δ 138)]) (fun _ => oI κ) (fun _ => (Nat.le_of_ble_eq_true rfl)) (fun Γ hR hm hC => wX6_wordHere hC hR hm κ) Δ l hl hN
set_option maxRecDepth 20000 in
theorem wX6_mayBegin_20 {Γ : JCtx} (hC : jC Γ cX6_mayBegin 3 RX6 (some .boolean) layX 147) (hR : gR Γ = rmH 0) (hm : gcells Γ ≤ (gR Γ).cells ∧ gslots Γ ≤ (gR Γ).slots) (κ : Mem) (y0 : Int32) : JP Γ (qf Γ (oI κ)) (pX6_mayBegin_20 κ y0) κ 20 [] [.int y0] := by
  unfold pX6_mayBegin_20
  refine j_ckP (fun hq1 => ?_)
  exact j_iret hC (pc := 20) dX6_mayBegin_20 rfl (isB_n hq1) rfl
set_option maxRecDepth 20000 in
theorem wX6_mayBegin_41 {Γ : JCtx} (hC : jC Γ cX6_mayBegin 3 RX6 (some .boolean) layX 147) (hR : gR Γ = rmH 0) (hm : gcells Γ ≤ (gR Γ).cells ∧ gslots Γ ≤ (gR Γ).slots) (κ : Mem) (y0 : Int32) : JP Γ (qf Γ (oI κ)) (pX6_mayBegin_41 κ y0) κ 41 [] [.int y0] := by
  unfold pX6_mayBegin_41
  refine j_ckP (fun hq2 => ?_)
  exact j_iret hC (pc := 41) dX6_mayBegin_41 rfl (isB_n hq2) rfl
set_option maxRecDepth 20000 in
theorem wX6_mayBegin_89 {Γ : JCtx} (hC : jC Γ cX6_mayBegin 3 RX6 (some .boolean) layX 147) (hR : gR Γ = rmH 0) (hm : gcells Γ ≤ (gR Γ).cells ∧ gslots Γ ≤ (gR Γ).slots) (κ : Mem) (y0 : Int32) : JP Γ (qf Γ (oI κ)) (pX6_mayBegin_89 κ y0) κ 89 [] [.int y0] := by
  unfold pX6_mayBegin_89
  refine j_ckP (fun hq3 => ?_)
  exact j_iret hC (pc := 89) dX6_mayBegin_89 rfl (isB_n hq3) rfl
set_option maxRecDepth 20000 in
theorem wX6_mayBegin_88 {Γ : JCtx} (hC : jC Γ cX6_mayBegin 3 RX6 (some .boolean) layX 147) (hR : gR Γ = rmH 0) (hm : gcells Γ ≤ (gR Γ).cells ∧ gslots Γ ≤ (gR Γ).slots) (κ : Mem) : JP Γ (qf Γ (oI κ)) (pX6_mayBegin_88 κ) κ 88 [] [] := by
  unfold pX6_mayBegin_88
  refine j_iconst hC (pc := 88) dX6_mayBegin_88 ki_0 ?_
  exact wX6_mayBegin_89 hC hR hm κ 0
set_option maxRecDepth 20000 in
theorem wX6_mayBegin_62 {Γ : JCtx} (hC : jC Γ cX6_mayBegin 3 RX6 (some .boolean) layX 147) (hR : gR Γ = rmH 0) (hm : gcells Γ ≤ (gR Γ).cells ∧ gslots Γ ≤ (gR Γ).slots) (κ : Mem) (y0 : Int32) : JP Γ (qf Γ (oI κ)) (pX6_mayBegin_62 κ y0) κ 62 [(0, .ref (gad Γ 138))] [.int y0] := by
  unfold pX6_mayBegin_62
  refine j_istore_n hC (pc := 62) dX6_mayBegin_62 rfl (Nat.le_of_ble_eq_true rfl) (loc' := [(2, .int y0), (0, .ref (gad Γ 138))]) rfl ?_
  refine j_iload_n hC (pc := 63) dX6_mayBegin_63 0 rfl rfl ?_
  refine j_if_eq hC (pc := 64) dX6_mayBegin_64 (tgt := 88) rfl ?_ ?_
  · refine j_sub [] (loc' := []) rfl ?_
    exact wX6_mayBegin_88 hC hR hm κ
  · refine j_aload_n hC (pc := 67) dX6_mayBegin_67 1 rfl rfl ?_
    refine j_getR hC (pc := 68) dX6_mayBegin_68 kf_RX6_12 lX_138 (Nat.le_of_ble_eq_true rfl) rfl ?_
    refine j_getI hC (pc := 71) dX6_mayBegin_71 kf_RX6_91 lX_9 (Nat.le_of_ble_eq_true rfl) rfl ?_
    refine j_if_le hC (pc := 74) dX6_mayBegin_74 (tgt := 88) rfl ?_ ?_
    · refine j_sub [] (loc' := []) rfl ?_
      exact wX6_mayBegin_88 hC hR hm κ
    · refine j_aload_n hC (pc := 77) dX6_mayBegin_77 1 rfl rfl ?_
      refine j_getI hC (pc := 78) dX6_mayBegin_78 kf_RX6_38 lX_138 (Nat.le_of_ble_eq_true rfl) rfl ?_
      refine j_if_ne hC (pc := 81) dX6_mayBegin_81 (tgt := 88) rfl ?_ ?_
      · refine j_iconst hC (pc := 84) dX6_mayBegin_84 ki_1 ?_
        refine j_goto hC (pc := 85) dX6_mayBegin_85 (tgt := 89) rfl ?_
        refine j_sub [] (loc' := []) rfl ?_
        exact wX6_mayBegin_89 hC hR hm κ 1
      · refine j_sub [] (loc' := []) rfl ?_
        exact wX6_mayBegin_88 hC hR hm κ
set_option maxRecDepth 20000 in
theorem wX6_mayBegin_57 {Γ : JCtx} (hC : jC Γ cX6_mayBegin 3 RX6 (some .boolean) layX 147) (hR : gR Γ = rmH 0) (hm : gcells Γ ≤ (gR Γ).cells ∧ gslots Γ ≤ (gR Γ).slots) (κ : Mem) : JP Γ (qf Γ (oI κ)) (pX6_mayBegin_57 κ) κ 57 [(0, .ref (gad Γ 138))] [] := by
  unfold pX6_mayBegin_57
  refine j_iconst hC (pc := 57) dX6_mayBegin_57 ki_1 ?_
  refine j_goto hC (pc := 58) dX6_mayBegin_58 (tgt := 62) rfl ?_
  exact wX6_mayBegin_62 hC hR hm κ 1
set_option maxRecDepth 20000 in
theorem wX6_mayBegin {Γ : JCtx} (hC : jC Γ cX6_mayBegin 3 RX6 (some .boolean) layX 147) (hR : gR Γ = rmH 0) (hm : gcells Γ ≤ (gR Γ).cells ∧ gslots Γ ≤ (gR Γ).slots) (κ : Mem) (v1 : Int32) : JP Γ (qf Γ (oI κ)) (pX6_mayBegin κ v1) κ 0 [(0, .ref (gad Γ 138)), (1, .int v1)] [] := by
  unfold pX6_mayBegin
  refine j_iload_n hC (pc := 0) dX6_mayBegin_0 1 rfl rfl ?_
  refine j_iconst hC (pc := 1) dX6_mayBegin_1 ki_1 ?_
  refine j_icmp_ne hC (pc := 2) dX6_mayBegin_2 (tgt := 21) rfl ?_ ?_
  · refine j_aload_n hC (pc := 5) dX6_mayBegin_5 0 rfl rfl ?_
    refine j_getR hC (pc := 6) dX6_mayBegin_6 kf_RX6_12 lX_138 (Nat.le_of_ble_eq_true rfl) rfl ?_
    refine j_getI hC (pc := 9) dX6_mayBegin_9 kf_RX6_91 lX_9 (Nat.le_of_ble_eq_true rfl) rfl ?_
    refine j_if_ne hC (pc := 12) dX6_mayBegin_12 (tgt := 19) rfl ?_ ?_
    · refine j_iconst hC (pc := 15) dX6_mayBegin_15 ki_1 ?_
      refine j_goto hC (pc := 16) dX6_mayBegin_16 (tgt := 20) rfl ?_
      refine j_sub [] (loc' := []) rfl ?_
      exact wX6_mayBegin_20 hC hR hm κ 1
    · refine j_iconst hC (pc := 19) dX6_mayBegin_19 ki_0 ?_
      refine j_sub [] (loc' := []) rfl ?_
      exact wX6_mayBegin_20 hC hR hm κ 0
  · refine j_iload_n hC (pc := 21) dX6_mayBegin_21 1 rfl rfl ?_
    refine j_iconst hC (pc := 22) dX6_mayBegin_22 ki_5 ?_
    refine j_icmp_ne hC (pc := 23) dX6_mayBegin_23 (tgt := 42) rfl ?_ ?_
    · refine j_aload_n hC (pc := 26) dX6_mayBegin_26 0 rfl rfl ?_
      refine j_getR hC (pc := 27) dX6_mayBegin_27 kf_RX6_12 lX_138 (Nat.le_of_ble_eq_true rfl) rfl ?_
      refine j_getI hC (pc := 30) dX6_mayBegin_30 kf_RX6_91 lX_9 (Nat.le_of_ble_eq_true rfl) rfl ?_
      refine j_if_le hC (pc := 33) dX6_mayBegin_33 (tgt := 40) rfl ?_ ?_
      · refine j_iconst hC (pc := 40) dX6_mayBegin_40 ki_0 ?_
        refine j_sub [] (loc' := []) rfl ?_
        exact wX6_mayBegin_41 hC hR hm κ 0
      · refine j_iconst hC (pc := 36) dX6_mayBegin_36 ki_1 ?_
        refine j_goto hC (pc := 37) dX6_mayBegin_37 (tgt := 41) rfl ?_
        refine j_sub [] (loc' := []) rfl ?_
        exact wX6_mayBegin_41 hC hR hm κ 1
    · refine j_iload_n hC (pc := 42) dX6_mayBegin_42 1 rfl rfl ?_
      refine j_iconst hC (pc := 43) dX6_mayBegin_43 ki_2 ?_
      refine j_icmp_eq hC (pc := 44) dX6_mayBegin_44 (tgt := 57) rfl ?_ ?_
      · refine j_sub [0] (loc' := [(0, .ref (gad Γ 138))]) rfl ?_
        exact wX6_mayBegin_57 hC hR hm κ
      · refine j_iload_n hC (pc := 47) dX6_mayBegin_47 1 rfl rfl ?_
        refine j_iconst hC (pc := 48) dX6_mayBegin_48 ki_3 ?_
        refine j_icmp_eq hC (pc := 49) dX6_mayBegin_49 (tgt := 57) rfl ?_ ?_
        · refine j_sub [0] (loc' := [(0, .ref (gad Γ 138))]) rfl ?_
          exact wX6_mayBegin_57 hC hR hm κ
        · refine j_iload_n hC (pc := 52) dX6_mayBegin_52 1 rfl rfl ?_
          refine j_iconst hC (pc := 53) dX6_mayBegin_53 ki_4 ?_
          refine j_icmp_ne hC (pc := 54) dX6_mayBegin_54 (tgt := 61) rfl ?_ ?_
          · refine j_sub [0] (loc' := [(0, .ref (gad Γ 138))]) rfl ?_
            exact wX6_mayBegin_57 hC hR hm κ
          · refine j_iconst hC (pc := 61) dX6_mayBegin_61 ki_0 ?_
            refine j_sub [0] (loc' := [(0, .ref (gad Γ 138))]) rfl ?_
            exact wX6_mayBegin_62 hC hR hm κ 0
theorem ctX6_mayBegin {Δ : DCtx} {l : Launch} (hl : dlay Δ = layX) (hN : dN Δ = 147) (κ : Mem) (v1 : Int32) : ∀ r, pX6_mayBegin κ v1 = some r → CT Δ l yX6_mayBegin cX6_mayBegin 3 (some .boolean) (rmH 0) [.ref (dad Δ 138), .int v1] κ (some (.int r)) κ :=
  ct_of (nL := 3) (ret := (some .boolean)) (lay := layX) (N := 147) (by decide +kernel) (fun Δ => [.ref (dad Δ 138), .int v1]) (fun _ => oI κ) (fun _ => (Nat.le_of_ble_eq_true rfl)) (fun Γ hR hm hC => wX6_mayBegin hC hR hm κ v1) Δ l hl hN
set_option maxRecDepth 20000 in
theorem wX6_misplaced_22 {Γ : JCtx} (hC : jC Γ cX6_misplaced 1 RX6 (some .boolean) layX 147) (hR : gR Γ = rmH 0) (hm : gcells Γ ≤ (gR Γ).cells ∧ gslots Γ ≤ (gR Γ).slots) (κ : Mem) (y0 : Int32) : JP Γ (qf Γ oE) (pX6_misplaced_22 κ y0) κ 22 [(0, .ref (gad Γ 138))] [.int y0, .ref (gad Γ 138)] := by
  unfold pX6_misplaced_22
  refine j_putI hC (pc := 22) dX6_misplaced_22 kp_RX6_18 lX_138 (Nat.le_of_ble_eq_true rfl) rfl rfl rfl (fun κ1 => ?_)
  refine j_aload_n hC (pc := 25) dX6_misplaced_25 0 rfl rfl ?_
  refine j_aload_n hC (pc := 26) dX6_misplaced_26 0 rfl rfl ?_
  refine j_getR hC (pc := 27) dX6_misplaced_27 kf_RX6_46 lX_138 (Nat.le_of_ble_eq_true rfl) rfl ?_
  refine j_getR hC (pc := 30) dX6_misplaced_30 kf_RX6_144 lX_140 (Nat.le_of_ble_eq_true rfl) rfl ?_
  refine j_aload_n hC (pc := 33) dX6_misplaced_33 0 rfl rfl ?_
  refine j_getI hC (pc := 34) dX6_misplaced_34 kf_RX6_25 lX_138 (Nat.le_of_ble_eq_true rfl) rfl ?_
  refine j_iald hC (pc := 37) dX6_misplaced_37 lX_142 (Nat.le_of_ble_eq_true rfl) ?_
  refine j_putI hC (pc := 38) dX6_misplaced_38 kp_RX6_22 lX_138 (Nat.le_of_ble_eq_true rfl) rfl rfl rfl (fun κ2 => ?_)
  refine j_iconst hC (pc := 41) dX6_misplaced_41 ki_0 ?_
  exact j_iret hC (pc := 42) dX6_misplaced_42 rfl rfl rfl
set_option maxRecDepth 20000 in
theorem wX6_misplaced {Γ : JCtx} (hC : jC Γ cX6_misplaced 1 RX6 (some .boolean) layX 147) (hR : gR Γ = rmH 0) (hm : gcells Γ ≤ (gR Γ).cells ∧ gslots Γ ≤ (gR Γ).slots) (κ : Mem) : JP Γ (qf Γ oE) (pX6_misplaced κ) κ 0 [(0, .ref (gad Γ 138))] [] := by
  unfold pX6_misplaced
  refine j_aload_n hC (pc := 0) dX6_misplaced_0 0 rfl rfl ?_
  refine j_aload_n hC (pc := 1) dX6_misplaced_1 0 rfl rfl ?_
  refine j_getR hC (pc := 2) dX6_misplaced_2 kf_RX6_46 lX_138 (Nat.le_of_ble_eq_true rfl) rfl ?_
  refine j_getR hC (pc := 5) dX6_misplaced_5 kf_RX6_57 lX_140 (Nat.le_of_ble_eq_true rfl) rfl ?_
  refine j_aload_n hC (pc := 8) dX6_misplaced_8 0 rfl rfl ?_
  refine j_getI hC (pc := 9) dX6_misplaced_9 kf_RX6_25 lX_138 (Nat.le_of_ble_eq_true rfl) rfl ?_
  refine j_iald hC (pc := 12) dX6_misplaced_12 lX_141 (Nat.le_of_ble_eq_true rfl) ?_
  refine j_iconst hC (pc := 13) dX6_misplaced_13 ki_4 ?_
  refine j_icmp_ne hC (pc := 14) dX6_misplaced_14 (tgt := 21) rfl ?_ ?_
  · refine j_iconst hC (pc := 17) dX6_misplaced_17 ki_1 ?_
    refine j_goto hC (pc := 18) dX6_misplaced_18 (tgt := 22) rfl ?_
    exact wX6_misplaced_22 hC hR hm κ 1
  · refine j_iconst hC (pc := 21) dX6_misplaced_21 ki_2 ?_
    exact wX6_misplaced_22 hC hR hm κ 2
theorem ctX6_misplaced {Δ : DCtx} {l : Launch} (hl : dlay Δ = layX) (hN : dN Δ = 147) (κ : Mem) : ∀ r, pX6_misplaced κ = some r → CT Δ l yX6_misplaced cX6_misplaced 1 (some .boolean) (rmH 0) [.ref (dad Δ 138)] κ (some (.int r.1)) r.2 :=
  ct_of (nL := 1) (ret := (some .boolean)) (lay := layX) (N := 147) (by decide +kernel) (fun Δ => [.ref (dad Δ 138)]) (fun _ => oE) (fun _ => (Nat.le_of_ble_eq_true rfl)) (fun Γ hR hm hC => wX6_misplaced hC hR hm κ) Δ l hl hN
set_option maxRecDepth 20000 in
theorem wX6_fail {Γ : JCtx} (hC : jC Γ cX6_fail 3 RX6 (some .boolean) layX 147) (hR : gR Γ = rmH 0) (hm : gcells Γ ≤ (gR Γ).cells ∧ gslots Γ ≤ (gR Γ).slots) (κ : Mem) (v1 : Int32) (v2 : Int32) : JP Γ (qf Γ oE) (pX6_fail κ v1 v2) κ 0 [(0, .ref (gad Γ 138)), (1, .int v1), (2, .int v2)] [] := by
  unfold pX6_fail
  refine j_aload_n hC (pc := 0) dX6_fail_0 0 rfl rfl ?_
  refine j_iload_n hC (pc := 1) dX6_fail_1 1 rfl rfl ?_
  refine j_putI hC (pc := 2) dX6_fail_2 kp_RX6_18 lX_138 (Nat.le_of_ble_eq_true rfl) rfl rfl rfl (fun κ1 => ?_)
  refine j_aload_n hC (pc := 5) dX6_fail_5 0 rfl rfl ?_
  refine j_aload_n hC (pc := 6) dX6_fail_6 0 rfl rfl ?_
  refine j_getR hC (pc := 7) dX6_fail_7 kf_RX6_46 lX_138 (Nat.le_of_ble_eq_true rfl) rfl ?_
  refine j_getR hC (pc := 10) dX6_fail_10 kf_RX6_144 lX_140 (Nat.le_of_ble_eq_true rfl) rfl ?_
  refine j_iload_n hC (pc := 13) dX6_fail_13 2 rfl rfl ?_
  refine j_iald hC (pc := 14) dX6_fail_14 lX_142 (Nat.le_of_ble_eq_true rfl) ?_
  refine j_putI hC (pc := 15) dX6_fail_15 kp_RX6_22 lX_138 (Nat.le_of_ble_eq_true rfl) rfl rfl rfl (fun κ2 => ?_)
  refine j_iconst hC (pc := 18) dX6_fail_18 ki_0 ?_
  exact j_iret hC (pc := 19) dX6_fail_19 rfl rfl rfl
theorem ctX6_fail {Δ : DCtx} {l : Launch} (hl : dlay Δ = layX) (hN : dN Δ = 147) (κ : Mem) (v1 : Int32) (v2 : Int32) : ∀ r, pX6_fail κ v1 v2 = some r → CT Δ l yX6_fail cX6_fail 3 (some .boolean) (rmH 0) [.ref (dad Δ 138), .int v1, .int v2] κ (some (.int r.1)) r.2 :=
  ct_of (nL := 3) (ret := (some .boolean)) (lay := layX) (N := 147) (by decide +kernel) (fun Δ => [.ref (dad Δ 138), .int v1, .int v2]) (fun _ => oE) (fun _ => (Nat.le_of_ble_eq_true rfl)) (fun Γ hR hm hC => wX6_fail hC hR hm κ v1 v2) Δ l hl hN
set_option maxRecDepth 20000 in
theorem wX6_readNumber_53 {Γ : JCtx} (hC : jC Γ cX6_readNumber 3 RX6 (some .boolean) layX 147) (hR : gR Γ = rmH 1) (hm : gcells Γ ≤ (gR Γ).cells ∧ gslots Γ ≤ (gR Γ).slots) (κ : Mem) : JP Γ (qf Γ oE) (pX6_readNumber_53 κ) κ 53 [(0, .ref (gad Γ 138))] [] := by
  unfold pX6_readNumber_53
  refine j_aload_n hC (pc := 53) dX6_readNumber_53 0 rfl rfl ?_
  refine j_iconst hC (pc := 54) dX6_readNumber_54 ki_3 ?_
  refine j_aload_n hC (pc := 55) dX6_readNumber_55 0 rfl rfl ?_
  refine j_getI hC (pc := 56) dX6_readNumber_56 kf_RX6_25 lX_138 (Nat.le_of_ble_eq_true rfl) rfl ?_
  refine j_callV_E hC hR (ctX6_fail hC.l hC.cn κ 3 (mi κ 138 4)) kc_RX6_101 (Nat.le_of_ble_eq_true rfl) (Nat.le_of_ble_eq_true rfl) lX_138 (Nat.le_of_ble_eq_true rfl) rfl (As := [.int 3, .int (mi κ 138 4)]) (rest := []) rfl rfl (Nat.le_of_ble_eq_true rfl) hm (pc := 59) dX6_readNumber_59 (fun t2 => ?_)
  refine j_ckP (fun hq3 => ?_)
  exact j_iret hC (pc := 62) dX6_readNumber_62 rfl (isB_n hq3) rfl
set_option maxRecDepth 20000 in
theorem wX6_readNumber {Γ : JCtx} (hC : jC Γ cX6_readNumber 3 RX6 (some .boolean) layX 147) (hR : gR Γ = rmH 1) (hm : gcells Γ ≤ (gR Γ).cells ∧ gslots Γ ≤ (gR Γ).slots) (κ : Mem) (v1 : Int32) (v2 : Int32) : JP Γ (qf Γ oE) (pX6_readNumber κ v1 v2) κ 0 [(0, .ref (gad Γ 138)), (1, .int v1), (2, .int v2)] [] := by
  unfold pX6_readNumber
  refine j_aload_n hC (pc := 0) dX6_readNumber_0 0 rfl rfl ?_
  refine j_getR hC (pc := 1) dX6_readNumber_1 kf_RX6_46 lX_138 (Nat.le_of_ble_eq_true rfl) rfl ?_
  refine j_getR hC (pc := 4) dX6_readNumber_4 kf_RX6_57 lX_140 (Nat.le_of_ble_eq_true rfl) rfl ?_
  refine j_aload_n hC (pc := 7) dX6_readNumber_7 0 rfl rfl ?_
  refine j_getI hC (pc := 8) dX6_readNumber_8 kf_RX6_25 lX_138 (Nat.le_of_ble_eq_true rfl) rfl ?_
  refine j_iald hC (pc := 11) dX6_readNumber_11 lX_141 (Nat.le_of_ble_eq_true rfl) ?_
  refine j_iconst hC (pc := 12) dX6_readNumber_12 ki_2 ?_
  refine j_icmp_eq hC (pc := 13) dX6_readNumber_13 (tgt := 21) rfl ?_ ?_
  · refine j_aload_n hC (pc := 21) dX6_readNumber_21 0 rfl rfl ?_
    refine j_aload_n hC (pc := 22) dX6_readNumber_22 0 rfl rfl ?_
    refine j_getR hC (pc := 23) dX6_readNumber_23 kf_RX6_46 lX_138 (Nat.le_of_ble_eq_true rfl) rfl ?_
    refine j_getR hC (pc := 26) dX6_readNumber_26 kf_RX6_141 lX_140 (Nat.le_of_ble_eq_true rfl) rfl ?_
    refine j_aload_n hC (pc := 29) dX6_readNumber_29 0 rfl rfl ?_
    refine j_getI hC (pc := 30) dX6_readNumber_30 kf_RX6_25 lX_138 (Nat.le_of_ble_eq_true rfl) rfl ?_
    refine j_iald hC (pc := 33) dX6_readNumber_33 lX_143 (Nat.le_of_ble_eq_true rfl) ?_
    refine j_putI hC (pc := 34) dX6_readNumber_34 kp_RX6_28 lX_138 (Nat.le_of_ble_eq_true rfl) rfl rfl rfl (fun κ1 => ?_)
    refine j_aload_n hC (pc := 37) dX6_readNumber_37 0 rfl rfl ?_
    refine j_getI hC (pc := 38) dX6_readNumber_38 kf_RX6_28 lX_138 (Nat.le_of_ble_eq_true rfl) rfl ?_
    refine j_iload_n hC (pc := 41) dX6_readNumber_41 1 rfl rfl ?_
    refine j_icmp_lt hC (pc := 42) dX6_readNumber_42 (tgt := 53) rfl ?_ ?_
    · refine j_sub [0] (loc' := [(0, .ref (gad Γ 138))]) rfl ?_
      exact wX6_readNumber_53 hC hR hm κ1
    · refine j_aload_n hC (pc := 45) dX6_readNumber_45 0 rfl rfl ?_
      refine j_getI hC (pc := 46) dX6_readNumber_46 kf_RX6_28 lX_138 (Nat.le_of_ble_eq_true rfl) rfl ?_
      refine j_iload_n hC (pc := 49) dX6_readNumber_49 2 rfl rfl ?_
      refine j_icmp_le hC (pc := 50) dX6_readNumber_50 (tgt := 63) rfl ?_ ?_
      · refine j_aload_n hC (pc := 63) dX6_readNumber_63 0 rfl rfl ?_
        refine j_dup hC (pc := 64) dX6_readNumber_64 rfl ?_
        refine j_getI hC (pc := 65) dX6_readNumber_65 kf_RX6_25 lX_138 (Nat.le_of_ble_eq_true rfl) rfl ?_
        refine j_iconst hC (pc := 68) dX6_readNumber_68 ki_1 ?_
        refine j_iadd hC (pc := 69) dX6_readNumber_69 ?_
        refine j_putI hC (pc := 70) dX6_readNumber_70 kp_RX6_25 lX_138 (Nat.le_of_ble_eq_true rfl) rfl rfl rfl (fun κ4 => ?_)
        refine j_iconst hC (pc := 73) dX6_readNumber_73 ki_1 ?_
        exact j_iret hC (pc := 74) dX6_readNumber_74 rfl rfl rfl
      · refine j_sub [0] (loc' := [(0, .ref (gad Γ 138))]) rfl ?_
        exact wX6_readNumber_53 hC hR hm κ1
  · refine j_aload_n hC (pc := 16) dX6_readNumber_16 0 rfl rfl ?_
    refine j_callV_E hC hR (ctX6_misplaced hC.l hC.cn κ) kc_RX6_72 (Nat.le_of_ble_eq_true rfl) (Nat.le_of_ble_eq_true rfl) lX_138 (Nat.le_of_ble_eq_true rfl) rfl (As := []) (rest := []) rfl rfl (Nat.le_of_ble_eq_true rfl) hm (pc := 17) dX6_readNumber_17 (fun t5 => ?_)
    refine j_ckP (fun hq6 => ?_)
    exact j_iret hC (pc := 20) dX6_readNumber_20 rfl (isB_n hq6) rfl
theorem ctX6_readNumber {Δ : DCtx} {l : Launch} (hl : dlay Δ = layX) (hN : dN Δ = 147) (κ : Mem) (v1 : Int32) (v2 : Int32) : ∀ r, pX6_readNumber κ v1 v2 = some r → CT Δ l yX6_readNumber cX6_readNumber 3 (some .boolean) (rmH 1) [.ref (dad Δ 138), .int v1, .int v2] κ (some (.int r.1)) r.2 :=
  ct_of (nL := 3) (ret := (some .boolean)) (lay := layX) (N := 147) (by decide +kernel) (fun Δ => [.ref (dad Δ 138), .int v1, .int v2]) (fun _ => oE) (fun _ => (Nat.le_of_ble_eq_true rfl)) (fun Γ hR hm hC => wX6_readNumber hC hR hm κ v1 v2) Δ l hl hN
set_option maxRecDepth 20000 in
theorem wX6_readPlayers {Γ : JCtx} (hC : jC Γ cX6_readPlayers 1 RX6 (some .boolean) layX 147) (hR : gR Γ = rmH 2) (hm : gcells Γ ≤ (gR Γ).cells ∧ gslots Γ ≤ (gR Γ).slots) (κ : Mem) : JP Γ (qf Γ oE) (pX6_readPlayers κ) κ 0 [(0, .ref (gad Γ 138))] [] := by
  unfold pX6_readPlayers
  refine j_aload_n hC (pc := 0) dX6_readPlayers_0 0 rfl rfl ?_
  refine j_iconst hC (pc := 1) dX6_readPlayers_1 ki_1 ?_
  refine j_bipush hC (pc := 2) dX6_readPlayers_2 kb_6 ?_
  refine j_callV_E hC hR (ctX6_readNumber hC.l hC.cn κ 1 6) kc_RX6_94 (Nat.le_of_ble_eq_true rfl) (Nat.le_of_ble_eq_true rfl) lX_138 (Nat.le_of_ble_eq_true rfl) rfl (As := [.int 1, .int 6]) (rest := []) rfl rfl (Nat.le_of_ble_eq_true rfl) hm (pc := 4) dX6_readPlayers_4 (fun t1 => ?_)
  refine j_if_ne hC (pc := 7) dX6_readPlayers_7 (tgt := 12) rfl ?_ ?_
  · refine j_iconst hC (pc := 10) dX6_readPlayers_10 ki_0 ?_
    exact j_iret hC (pc := 11) dX6_readPlayers_11 rfl rfl rfl
  · refine j_aload_n hC (pc := 12) dX6_readPlayers_12 0 rfl rfl ?_
    refine j_getR hC (pc := 13) dX6_readPlayers_13 kf_RX6_12 lX_138 (Nat.le_of_ble_eq_true rfl) rfl ?_
    refine j_aload_n hC (pc := 16) dX6_readPlayers_16 0 rfl rfl ?_
    refine j_getI hC (pc := 17) dX6_readPlayers_17 kf_RX6_28 lX_138 (Nat.le_of_ble_eq_true rfl) rfl ?_
    refine j_putI hC (pc := 20) dX6_readPlayers_20 kp_RX6_91 lX_9 (Nat.le_of_ble_eq_true rfl) rfl rfl rfl (fun κ2 => ?_)
    refine j_iconst hC (pc := 23) dX6_readPlayers_23 ki_1 ?_
    exact j_iret hC (pc := 24) dX6_readPlayers_24 rfl rfl rfl
theorem ctX6_readPlayers {Δ : DCtx} {l : Launch} (hl : dlay Δ = layX) (hN : dN Δ = 147) (κ : Mem) : ∀ r, pX6_readPlayers κ = some r → CT Δ l yX6_readPlayers cX6_readPlayers 1 (some .boolean) (rmH 2) [.ref (dad Δ 138)] κ (some (.int r.1)) r.2 :=
  ct_of (nL := 1) (ret := (some .boolean)) (lay := layX) (N := 147) (by decide +kernel) (fun Δ => [.ref (dad Δ 138)]) (fun _ => oE) (fun _ => (Nat.le_of_ble_eq_true rfl)) (fun Γ hR hm hC => wX6_readPlayers hC hR hm κ) Δ l hl hN
set_option maxRecDepth 20000 in
theorem wX6_readSign {Γ : JCtx} (hC : jC Γ cX6_readSign 1 RX6 (some .boolean) layX 147) (hR : gR Γ = rmH 1) (hm : gcells Γ ≤ (gR Γ).cells ∧ gslots Γ ≤ (gR Γ).slots) (κ : Mem) : JP Γ (qf Γ oE) (pX6_readSign κ) κ 0 [(0, .ref (gad Γ 138))] [] := by
  unfold pX6_readSign
  refine j_aload_n hC (pc := 0) dX6_readSign_0 0 rfl rfl ?_
  refine j_getR hC (pc := 1) dX6_readSign_1 kf_RX6_46 lX_138 (Nat.le_of_ble_eq_true rfl) rfl ?_
  refine j_getR hC (pc := 4) dX6_readSign_4 kf_RX6_57 lX_140 (Nat.le_of_ble_eq_true rfl) rfl ?_
  refine j_aload_n hC (pc := 7) dX6_readSign_7 0 rfl rfl ?_
  refine j_getI hC (pc := 8) dX6_readSign_8 kf_RX6_25 lX_138 (Nat.le_of_ble_eq_true rfl) rfl ?_
  refine j_iald hC (pc := 11) dX6_readSign_11 lX_141 (Nat.le_of_ble_eq_true rfl) ?_
  refine j_iconst hC (pc := 12) dX6_readSign_12 ki_3 ?_
  refine j_icmp_eq hC (pc := 13) dX6_readSign_13 (tgt := 21) rfl ?_ ?_
  · refine j_aload_n hC (pc := 21) dX6_readSign_21 0 rfl rfl ?_
    refine j_dup hC (pc := 22) dX6_readSign_22 rfl ?_
    refine j_getI hC (pc := 23) dX6_readSign_23 kf_RX6_25 lX_138 (Nat.le_of_ble_eq_true rfl) rfl ?_
    refine j_iconst hC (pc := 26) dX6_readSign_26 ki_1 ?_
    refine j_iadd hC (pc := 27) dX6_readSign_27 ?_
    refine j_putI hC (pc := 28) dX6_readSign_28 kp_RX6_25 lX_138 (Nat.le_of_ble_eq_true rfl) rfl rfl rfl (fun κ1 => ?_)
    refine j_iconst hC (pc := 31) dX6_readSign_31 ki_1 ?_
    exact j_iret hC (pc := 32) dX6_readSign_32 rfl rfl rfl
  · refine j_aload_n hC (pc := 16) dX6_readSign_16 0 rfl rfl ?_
    refine j_callV_E hC hR (ctX6_misplaced hC.l hC.cn κ) kc_RX6_72 (Nat.le_of_ble_eq_true rfl) (Nat.le_of_ble_eq_true rfl) lX_138 (Nat.le_of_ble_eq_true rfl) rfl (As := []) (rest := []) rfl rfl (Nat.le_of_ble_eq_true rfl) hm (pc := 17) dX6_readSign_17 (fun t2 => ?_)
    refine j_ckP (fun hq3 => ?_)
    exact j_iret hC (pc := 20) dX6_readSign_20 rfl (isB_n hq3) rfl
theorem ctX6_readSign {Δ : DCtx} {l : Launch} (hl : dlay Δ = layX) (hN : dN Δ = 147) (κ : Mem) : ∀ r, pX6_readSign κ = some r → CT Δ l yX6_readSign cX6_readSign 1 (some .boolean) (rmH 1) [.ref (dad Δ 138)] κ (some (.int r.1)) r.2 :=
  ct_of (nL := 1) (ret := (some .boolean)) (lay := layX) (N := 147) (by decide +kernel) (fun Δ => [.ref (dad Δ 138)]) (fun _ => oE) (fun _ => (Nat.le_of_ble_eq_true rfl)) (fun Γ hR hm hC => wX6_readSign hC hR hm κ) Δ l hl hN
set_option maxRecDepth 20000 in
theorem wX6_readPlayer {Γ : JCtx} (hC : jC Γ cX6_readPlayer 1 RX6 (some .boolean) layX 147) (hR : gR Γ = rmH 2) (hm : gcells Γ ≤ (gR Γ).cells ∧ gslots Γ ≤ (gR Γ).slots) (κ : Mem) : JP Γ (qf Γ oE) (pX6_readPlayer κ) κ 0 [(0, .ref (gad Γ 138))] [] := by
  unfold pX6_readPlayer
  refine j_aload_n hC (pc := 0) dX6_readPlayer_0 0 rfl rfl ?_
  refine j_iconst hC (pc := 1) dX6_readPlayer_1 ki_0 ?_
  refine j_aload_n hC (pc := 2) dX6_readPlayer_2 0 rfl rfl ?_
  refine j_getR hC (pc := 3) dX6_readPlayer_3 kf_RX6_12 lX_138 (Nat.le_of_ble_eq_true rfl) rfl ?_
  refine j_getI hC (pc := 6) dX6_readPlayer_6 kf_RX6_91 lX_9 (Nat.le_of_ble_eq_true rfl) rfl ?_
  refine j_iconst hC (pc := 9) dX6_readPlayer_9 ki_1 ?_
  refine j_isub hC (pc := 10) dX6_readPlayer_10 ?_
  refine j_callV_E hC hR (ctX6_readNumber hC.l hC.cn κ 0 ((mi κ 9 0) - 1)) kc_RX6_94 (Nat.le_of_ble_eq_true rfl) (Nat.le_of_ble_eq_true rfl) lX_138 (Nat.le_of_ble_eq_true rfl) rfl (As := [.int 0, .int ((mi κ 9 0) - 1)]) (rest := []) rfl rfl (Nat.le_of_ble_eq_true rfl) hm (pc := 11) dX6_readPlayer_11 (fun t1 => ?_)
  refine j_ckP (fun hq2 => ?_)
  exact j_iret hC (pc := 14) dX6_readPlayer_14 rfl (isB_n hq2) rfl
theorem ctX6_readPlayer {Δ : DCtx} {l : Launch} (hl : dlay Δ = layX) (hN : dN Δ = 147) (κ : Mem) : ∀ r, pX6_readPlayer κ = some r → CT Δ l yX6_readPlayer cX6_readPlayer 1 (some .boolean) (rmH 2) [.ref (dad Δ 138)] κ (some (.int r.1)) r.2 :=
  ct_of (nL := 1) (ret := (some .boolean)) (lay := layX) (N := 147) (by decide +kernel) (fun Δ => [.ref (dad Δ 138)]) (fun _ => oE) (fun _ => (Nat.le_of_ble_eq_true rfl)) (fun Γ hR hm hC => wX6_readPlayer hC hR hm κ) Δ l hl hN
set_option maxRecDepth 20000 in
theorem wX6_readHats {Γ : JCtx} (hC : jC Γ cX6_readHats 2 RX6 (some .boolean) layX 147) (hR : gR Γ = rmH 3) (hm : gcells Γ ≤ (gR Γ).cells ∧ gslots Γ ≤ (gR Γ).slots) (κ : Mem) : JP Γ (qf Γ oE) (pX6_readHats κ) κ 0 [(0, .ref (gad Γ 138))] [] := by
  unfold pX6_readHats
  refine j_aload_n hC (pc := 0) dX6_readHats_0 0 rfl rfl ?_
  refine j_callV_E hC hR (ctX6_readPlayer hC.l hC.cn κ) kc_RX6_98 (Nat.le_of_ble_eq_true rfl) (Nat.le_of_ble_eq_true rfl) lX_138 (Nat.le_of_ble_eq_true rfl) rfl (As := []) (rest := []) rfl rfl (Nat.le_of_ble_eq_true rfl) hm (pc := 1) dX6_readHats_1 (fun t1 => ?_)
  refine j_if_ne hC (pc := 4) dX6_readHats_4 (tgt := 9) rfl ?_ ?_
  · refine j_iconst hC (pc := 7) dX6_readHats_7 ki_0 ?_
    exact j_iret hC (pc := 8) dX6_readHats_8 rfl rfl rfl
  · refine j_aload_n hC (pc := 9) dX6_readHats_9 0 rfl rfl ?_
    refine j_getI hC (pc := 10) dX6_readHats_10 kf_RX6_28 lX_138 (Nat.le_of_ble_eq_true rfl) rfl ?_
    refine j_nmi (fun x2 => ?_)
    refine j_istore_n hC (pc := 13) dX6_readHats_13 rfl (Nat.le_of_ble_eq_true rfl) (loc' := [(1, .int x2), (0, .ref (gad Γ 138))]) rfl ?_
    refine j_aload_n hC (pc := 14) dX6_readHats_14 1 rfl rfl ?_
    refine j_getI hC (pc := 15) dX6_readHats_15 kf_RX6_35 lX_138 (Nat.le_of_ble_eq_true rfl) rfl ?_
    refine j_iload_n hC (pc := 18) dX6_readHats_18 0 rfl rfl ?_
    refine j_ishr hC (pc := 19) dX6_readHats_19 ?_
    refine j_iconst hC (pc := 20) dX6_readHats_20 ki_1 ?_
    refine j_iand hC (pc := 21) dX6_readHats_21 ?_
    refine j_iconst hC (pc := 22) dX6_readHats_22 ki_1 ?_
    refine j_icmp_ne hC (pc := 23) dX6_readHats_23 (tgt := 38) rfl ?_ ?_
    · refine j_aload_n hC (pc := 26) dX6_readHats_26 1 rfl rfl ?_
      refine j_iconst hC (pc := 27) dX6_readHats_27 ki_4 ?_
      refine j_aload_n hC (pc := 28) dX6_readHats_28 1 rfl rfl ?_
      refine j_getI hC (pc := 29) dX6_readHats_29 kf_RX6_25 lX_138 (Nat.le_of_ble_eq_true rfl) rfl ?_
      refine j_iconst hC (pc := 32) dX6_readHats_32 ki_1 ?_
      refine j_isub hC (pc := 33) dX6_readHats_33 ?_
      refine j_callV_E hC hR (ctX6_fail hC.l hC.cn t1.2 4 ((mi t1.2 138 4) - 1)) kc_RX6_101 (Nat.le_of_ble_eq_true rfl) (Nat.le_of_ble_eq_true rfl) lX_138 (Nat.le_of_ble_eq_true rfl) rfl (As := [.int 4, .int ((mi t1.2 138 4) - 1)]) (rest := []) rfl rfl (Nat.le_of_ble_eq_true rfl) hm (pc := 34) dX6_readHats_34 (fun t3 => ?_)
      refine j_ckP (fun hq4 => ?_)
      exact j_iret hC (pc := 37) dX6_readHats_37 rfl (isB_n hq4) rfl
    · refine j_aload_n hC (pc := 38) dX6_readHats_38 1 rfl rfl ?_
      refine j_dup hC (pc := 39) dX6_readHats_39 rfl ?_
      refine j_getI hC (pc := 40) dX6_readHats_40 kf_RX6_35 lX_138 (Nat.le_of_ble_eq_true rfl) rfl ?_
      refine j_iconst hC (pc := 43) dX6_readHats_43 ki_1 ?_
      refine j_iload_n hC (pc := 44) dX6_readHats_44 0 rfl rfl ?_
      refine j_ishl hC (pc := 45) dX6_readHats_45 ?_
      refine j_ior hC (pc := 46) dX6_readHats_46 ?_
      refine j_putI hC (pc := 47) dX6_readHats_47 kp_RX6_35 lX_138 (Nat.le_of_ble_eq_true rfl) rfl rfl rfl (fun κ5 => ?_)
      refine j_aload_n hC (pc := 50) dX6_readHats_50 1 rfl rfl ?_
      refine j_iconst hC (pc := 51) dX6_readHats_51 ki_1 ?_
      refine j_iconst hC (pc := 52) dX6_readHats_52 ki_4 ?_
      refine j_callV_E hC hR (ctX6_readNumber hC.l hC.cn κ5 1 4) kc_RX6_94 (Nat.le_of_ble_eq_true rfl) (Nat.le_of_ble_eq_true rfl) lX_138 (Nat.le_of_ble_eq_true rfl) rfl (As := [.int 1, .int 4]) (rest := []) rfl rfl (Nat.le_of_ble_eq_true rfl) hm (pc := 53) dX6_readHats_53 (fun t6 => ?_)
      refine j_if_ne hC (pc := 56) dX6_readHats_56 (tgt := 61) rfl ?_ ?_
      · refine j_iconst hC (pc := 59) dX6_readHats_59 ki_0 ?_
        exact j_iret hC (pc := 60) dX6_readHats_60 rfl rfl rfl
      · refine j_aload_n hC (pc := 61) dX6_readHats_61 1 rfl rfl ?_
        refine j_getR hC (pc := 62) dX6_readHats_62 kf_RX6_12 lX_138 (Nat.le_of_ble_eq_true rfl) rfl ?_
        refine j_getR hC (pc := 65) dX6_readHats_65 kf_RX6_104 lX_9 (Nat.le_of_ble_eq_true rfl) rfl ?_
        refine j_iload_n hC (pc := 68) dX6_readHats_68 0 rfl rfl ?_
        refine j_aload_n hC (pc := 69) dX6_readHats_69 1 rfl rfl ?_
        refine j_getI hC (pc := 70) dX6_readHats_70 kf_RX6_28 lX_138 (Nat.le_of_ble_eq_true rfl) rfl ?_
        refine j_iast hC (pc := 73) dX6_readHats_73 lX_10 (Nat.le_of_ble_eq_true rfl) (fun κ7 => ?_)
        refine j_iconst hC (pc := 74) dX6_readHats_74 ki_1 ?_
        exact j_iret hC (pc := 75) dX6_readHats_75 rfl rfl rfl
theorem ctX6_readHats {Δ : DCtx} {l : Launch} (hl : dlay Δ = layX) (hN : dN Δ = 147) (κ : Mem) : ∀ r, pX6_readHats κ = some r → CT Δ l yX6_readHats cX6_readHats 2 (some .boolean) (rmH 3) [.ref (dad Δ 138)] κ (some (.int r.1)) r.2 :=
  ct_of (nL := 2) (ret := (some .boolean)) (lay := layX) (N := 147) (by decide +kernel) (fun Δ => [.ref (dad Δ 138)]) (fun _ => oE) (fun _ => (Nat.le_of_ble_eq_true rfl)) (fun Γ hR hm hC => wX6_readHats hC hR hm κ) Δ l hl hN
set_option maxRecDepth 20000 in
theorem wX6_readSight_119 {Γ : JCtx} (hC : jC Γ cX6_readSight 4 RX6 (some .boolean) layX 147) (hR : gR Γ = rmH 3) (hm : gcells Γ ≤ (gR Γ).cells ∧ gslots Γ ≤ (gR Γ).slots) (κ : Mem) : JP Γ (qf Γ oE) (pX6_readSight_119 κ) κ 119 [] [] := by
  unfold pX6_readSight_119
  refine j_iconst hC (pc := 119) dX6_readSight_119 ki_1 ?_
  exact j_iret hC (pc := 120) dX6_readSight_120 rfl rfl rfl
set_option maxRecDepth 20000 in
theorem wX6_readSight_85 {Γ : JCtx} (hC : jC Γ cX6_readSight 4 RX6 (some .boolean) layX 147) (hR : gR Γ = rmH 3) (hm : gcells Γ ≤ (gR Γ).cells ∧ gslots Γ ≤ (gR Γ).slots) (κ : Mem) (v1 : Int32) (v2 : Int32) (v3 : Int32) : JP Γ (qf Γ oE) (pX6_readSight_85 κ v1 v2 v3) κ 85 [(0, .ref (gad Γ 138)), (1, .int v1), (2, .int v2), (3, .int v3)] [] := by
  unfold pX6_readSight_85
  refine j_aload_n hC (pc := 85) dX6_readSight_85 0 rfl rfl ?_
  refine j_getR hC (pc := 86) dX6_readSight_86 kf_RX6_12 lX_138 (Nat.le_of_ble_eq_true rfl) rfl ?_
  refine j_getR hC (pc := 89) dX6_readSight_89 kf_RX6_110 lX_9 (Nat.le_of_ble_eq_true rfl) rfl ?_
  refine j_iload_n hC (pc := 92) dX6_readSight_92 2 rfl rfl ?_
  refine j_dup2 hC (pc := 93) dX6_readSight_93 rfl rfl ?_
  refine j_iald hC (pc := 94) dX6_readSight_94 lX_11 (Nat.le_of_ble_eq_true rfl) ?_
  refine j_iconst hC (pc := 95) dX6_readSight_95 ki_1 ?_
  refine j_iload_n hC (pc := 96) dX6_readSight_96 3 rfl rfl ?_
  refine j_ishl hC (pc := 97) dX6_readSight_97 ?_
  refine j_ior hC (pc := 98) dX6_readSight_98 ?_
  refine j_iast hC (pc := 99) dX6_readSight_99 lX_11 (Nat.le_of_ble_eq_true rfl) (fun κ8 => ?_)
  refine j_iload_n hC (pc := 100) dX6_readSight_100 1 rfl rfl ?_
  refine j_if_eq hC (pc := 101) dX6_readSight_101 (tgt := 119) rfl ?_ ?_
  · refine j_sub [] (loc' := []) rfl ?_
    exact wX6_readSight_119 hC hR hm κ8
  · refine j_aload_n hC (pc := 104) dX6_readSight_104 0 rfl rfl ?_
    refine j_getR hC (pc := 105) dX6_readSight_105 kf_RX6_12 lX_138 (Nat.le_of_ble_eq_true rfl) rfl ?_
    refine j_getR hC (pc := 108) dX6_readSight_108 kf_RX6_110 lX_9 (Nat.le_of_ble_eq_true rfl) rfl ?_
    refine j_iload_n hC (pc := 111) dX6_readSight_111 3 rfl rfl ?_
    refine j_dup2 hC (pc := 112) dX6_readSight_112 rfl rfl ?_
    refine j_iald hC (pc := 113) dX6_readSight_113 lX_11 (Nat.le_of_ble_eq_true rfl) ?_
    refine j_iconst hC (pc := 114) dX6_readSight_114 ki_1 ?_
    refine j_iload_n hC (pc := 115) dX6_readSight_115 2 rfl rfl ?_
    refine j_ishl hC (pc := 116) dX6_readSight_116 ?_
    refine j_ior hC (pc := 117) dX6_readSight_117 ?_
    refine j_iast hC (pc := 118) dX6_readSight_118 lX_11 (Nat.le_of_ble_eq_true rfl) (fun κ9 => ?_)
    refine j_sub [] (loc' := []) rfl ?_
    exact wX6_readSight_119 hC hR hm κ9
set_option maxRecDepth 20000 in
theorem wX6_readSight_73 {Γ : JCtx} (hC : jC Γ cX6_readSight 4 RX6 (some .boolean) layX 147) (hR : gR Γ = rmH 3) (hm : gcells Γ ≤ (gR Γ).cells ∧ gslots Γ ≤ (gR Γ).slots) (κ : Mem) : JP Γ (qf Γ oE) (pX6_readSight_73 κ) κ 73 [(0, .ref (gad Γ 138))] [] := by
  unfold pX6_readSight_73
  refine j_aload_n hC (pc := 73) dX6_readSight_73 0 rfl rfl ?_
  refine j_iconst hC (pc := 74) dX6_readSight_74 ki_4 ?_
  refine j_aload_n hC (pc := 75) dX6_readSight_75 0 rfl rfl ?_
  refine j_getI hC (pc := 76) dX6_readSight_76 kf_RX6_25 lX_138 (Nat.le_of_ble_eq_true rfl) rfl ?_
  refine j_iconst hC (pc := 79) dX6_readSight_79 ki_1 ?_
  refine j_isub hC (pc := 80) dX6_readSight_80 ?_
  refine j_callV_E hC hR (ctX6_fail hC.l hC.cn κ 4 ((mi κ 138 4) - 1)) kc_RX6_101 (Nat.le_of_ble_eq_true rfl) (Nat.le_of_ble_eq_true rfl) lX_138 (Nat.le_of_ble_eq_true rfl) rfl (As := [.int 4, .int ((mi κ 138 4) - 1)]) (rest := []) rfl rfl (Nat.le_of_ble_eq_true rfl) hm (pc := 81) dX6_readSight_81 (fun t11 => ?_)
  refine j_ckP (fun hq12 => ?_)
  exact j_iret hC (pc := 84) dX6_readSight_84 rfl (isB_n hq12) rfl
set_option maxRecDepth 20000 in
theorem wX6_readSight {Γ : JCtx} (hC : jC Γ cX6_readSight 4 RX6 (some .boolean) layX 147) (hR : gR Γ = rmH 3) (hm : gcells Γ ≤ (gR Γ).cells ∧ gslots Γ ≤ (gR Γ).slots) (κ : Mem) (v1 : Int32) : JP Γ (qf Γ oE) (pX6_readSight κ v1) κ 0 [(0, .ref (gad Γ 138)), (1, .int v1)] [] := by
  unfold pX6_readSight
  refine j_aload_n hC (pc := 0) dX6_readSight_0 0 rfl rfl ?_
  refine j_callV_E hC hR (ctX6_readPlayer hC.l hC.cn κ) kc_RX6_98 (Nat.le_of_ble_eq_true rfl) (Nat.le_of_ble_eq_true rfl) lX_138 (Nat.le_of_ble_eq_true rfl) rfl (As := []) (rest := []) rfl rfl (Nat.le_of_ble_eq_true rfl) hm (pc := 1) dX6_readSight_1 (fun t1 => ?_)
  refine j_if_ne hC (pc := 4) dX6_readSight_4 (tgt := 9) rfl ?_ ?_
  · refine j_iconst hC (pc := 7) dX6_readSight_7 ki_0 ?_
    exact j_iret hC (pc := 8) dX6_readSight_8 rfl rfl rfl
  · refine j_aload_n hC (pc := 9) dX6_readSight_9 0 rfl rfl ?_
    refine j_getI hC (pc := 10) dX6_readSight_10 kf_RX6_28 lX_138 (Nat.le_of_ble_eq_true rfl) rfl ?_
    refine j_nmi (fun x2 => ?_)
    refine j_istore_n hC (pc := 13) dX6_readSight_13 rfl (Nat.le_of_ble_eq_true rfl) (loc' := [(2, .int x2), (0, .ref (gad Γ 138)), (1, .int v1)]) rfl ?_
    refine j_aload_n hC (pc := 14) dX6_readSight_14 1 rfl rfl ?_
    refine j_callV_E hC hR (ctX6_readPlayer hC.l hC.cn t1.2) kc_RX6_98 (Nat.le_of_ble_eq_true rfl) (Nat.le_of_ble_eq_true rfl) lX_138 (Nat.le_of_ble_eq_true rfl) rfl (As := []) (rest := []) rfl rfl (Nat.le_of_ble_eq_true rfl) hm (pc := 15) dX6_readSight_15 (fun t3 => ?_)
    refine j_if_ne hC (pc := 18) dX6_readSight_18 (tgt := 23) rfl ?_ ?_
    · refine j_iconst hC (pc := 21) dX6_readSight_21 ki_0 ?_
      exact j_iret hC (pc := 22) dX6_readSight_22 rfl rfl rfl
    · refine j_aload_n hC (pc := 23) dX6_readSight_23 1 rfl rfl ?_
      refine j_getI hC (pc := 24) dX6_readSight_24 kf_RX6_28 lX_138 (Nat.le_of_ble_eq_true rfl) rfl ?_
      refine j_nmi (fun x4 => ?_)
      refine j_istore_n hC (pc := 27) dX6_readSight_27 rfl (Nat.le_of_ble_eq_true rfl) (loc' := [(3, .int x4), (2, .int x2), (0, .ref (gad Γ 138)), (1, .int v1)]) rfl ?_
      refine j_iload_n hC (pc := 28) dX6_readSight_28 0 rfl rfl ?_
      refine j_iload_n hC (pc := 29) dX6_readSight_29 1 rfl rfl ?_
      refine j_icmp_ne hC (pc := 30) dX6_readSight_30 (tgt := 45) rfl ?_ ?_
      · refine j_aload_n hC (pc := 33) dX6_readSight_33 2 rfl rfl ?_
        refine j_iconst hC (pc := 34) dX6_readSight_34 ki_3 ?_
        refine j_aload_n hC (pc := 35) dX6_readSight_35 2 rfl rfl ?_
        refine j_getI hC (pc := 36) dX6_readSight_36 kf_RX6_25 lX_138 (Nat.le_of_ble_eq_true rfl) rfl ?_
        refine j_iconst hC (pc := 39) dX6_readSight_39 ki_1 ?_
        refine j_isub hC (pc := 40) dX6_readSight_40 ?_
        refine j_callV_E hC hR (ctX6_fail hC.l hC.cn t3.2 3 ((mi t3.2 138 4) - 1)) kc_RX6_101 (Nat.le_of_ble_eq_true rfl) (Nat.le_of_ble_eq_true rfl) lX_138 (Nat.le_of_ble_eq_true rfl) rfl (As := [.int 3, .int ((mi t3.2 138 4) - 1)]) (rest := []) rfl rfl (Nat.le_of_ble_eq_true rfl) hm (pc := 41) dX6_readSight_41 (fun t5 => ?_)
        refine j_ckP (fun hq6 => ?_)
        exact j_iret hC (pc := 44) dX6_readSight_44 rfl (isB_n hq6) rfl
      · refine j_aload_n hC (pc := 45) dX6_readSight_45 2 rfl rfl ?_
        refine j_getR hC (pc := 46) dX6_readSight_46 kf_RX6_12 lX_138 (Nat.le_of_ble_eq_true rfl) rfl ?_
        refine j_iload_n hC (pc := 49) dX6_readSight_49 1 rfl rfl ?_
        refine j_iload_n hC (pc := 50) dX6_readSight_50 0 rfl rfl ?_
        refine j_callV_I hC hR (ctX2_watches hC.l hC.cn 9 isG_9 t3.2 x2 x4) kc_RX6_107 (Nat.le_of_ble_eq_true rfl) (Nat.le_of_ble_eq_true rfl) lX_9 (Nat.le_of_ble_eq_true rfl) rfl (As := [.int x2, .int x4]) (rest := []) rfl rfl (Nat.le_of_ble_eq_true rfl) hm (pc := 51) dX6_readSight_51 (fun t7 => ?_)
        refine j_if_ne hC (pc := 54) dX6_readSight_54 (tgt := 73) rfl ?_ ?_
        · refine j_iload_n hC (pc := 57) dX6_readSight_57 3 rfl rfl ?_
          refine j_if_eq hC (pc := 58) dX6_readSight_58 (tgt := 85) rfl ?_ ?_
          · refine j_sub [2, 3, 1, 0] (loc' := [(0, .ref (gad Γ 138)), (1, .int v1), (2, .int x2), (3, .int x4)]) rfl ?_
            exact wX6_readSight_85 hC hR hm t3.2 v1 x2 x4
          · refine j_aload_n hC (pc := 61) dX6_readSight_61 2 rfl rfl ?_
            refine j_getR hC (pc := 62) dX6_readSight_62 kf_RX6_12 lX_138 (Nat.le_of_ble_eq_true rfl) rfl ?_
            refine j_iload_n hC (pc := 65) dX6_readSight_65 0 rfl rfl ?_
            refine j_iload_n hC (pc := 66) dX6_readSight_66 1 rfl rfl ?_
            refine j_callV_I hC hR (ctX2_watches hC.l hC.cn 9 isG_9 t3.2 x4 x2) kc_RX6_107 (Nat.le_of_ble_eq_true rfl) (Nat.le_of_ble_eq_true rfl) lX_9 (Nat.le_of_ble_eq_true rfl) rfl (As := [.int x4, .int x2]) (rest := []) rfl rfl (Nat.le_of_ble_eq_true rfl) hm (pc := 67) dX6_readSight_67 (fun t10 => ?_)
            refine j_if_eq hC (pc := 70) dX6_readSight_70 (tgt := 85) rfl ?_ ?_
            · refine j_sub [2, 3, 1, 0] (loc' := [(0, .ref (gad Γ 138)), (1, .int v1), (2, .int x2), (3, .int x4)]) rfl ?_
              exact wX6_readSight_85 hC hR hm t3.2 v1 x2 x4
            · refine j_sub [2] (loc' := [(0, .ref (gad Γ 138))]) rfl ?_
              exact wX6_readSight_73 hC hR hm t3.2
        · refine j_sub [2] (loc' := [(0, .ref (gad Γ 138))]) rfl ?_
          exact wX6_readSight_73 hC hR hm t3.2
theorem ctX6_readSight {Δ : DCtx} {l : Launch} (hl : dlay Δ = layX) (hN : dN Δ = 147) (κ : Mem) (v1 : Int32) : ∀ r, pX6_readSight κ v1 = some r → CT Δ l yX6_readSight cX6_readSight 4 (some .boolean) (rmH 3) [.ref (dad Δ 138), .int v1] κ (some (.int r.1)) r.2 :=
  ct_of (nL := 4) (ret := (some .boolean)) (lay := layX) (N := 147) (by decide +kernel) (fun Δ => [.ref (dad Δ 138), .int v1]) (fun _ => oE) (fun _ => (Nat.le_of_ble_eq_true rfl)) (fun Γ hR hm hC => wX6_readSight hC hR hm κ v1) Δ l hl hN
set_option maxRecDepth 20000 in
theorem wX6_readTable_11 {Γ : JCtx} (hC : jC Γ cX6_readTable 4 RX6 (some .boolean) layX 147) (hR : gR Γ = rmH 2) (hm : gcells Γ ≤ (gR Γ).cells ∧ gslots Γ ≤ (gR Γ).slots) (F : Nat) (v1 : Int32) (v2 : Int32) : ∀ (n : Nat) (κ : Mem) (v3 : Int32), JP Γ (qf Γ oE) (pX6_readTable_11 F v1 v2 n κ v3) κ 11 [(0, .ref (gad Γ 138)), (1, .int v1), (2, .int v2), (3, .int v3)] [] := by
  intro n
  induction n with
  | zero =>
    intro κ v3
    rw [pX6_readTable_11]
    exact j_none
  | succ fu ih =>
    intro κ v3
    rw [pX6_readTable_11]
    refine j_iload_n hC (pc := 11) dX6_readTable_11 3 rfl rfl ?_
    refine j_iload_n hC (pc := 12) dX6_readTable_12 2 rfl rfl ?_
    refine j_icmp_ge hC (pc := 13) dX6_readTable_13 (tgt := 56) rfl ?_ ?_
    · refine j_aload_n hC (pc := 16) dX6_readTable_16 0 rfl rfl ?_
      refine j_iconst hC (pc := 17) dX6_readTable_17 ki_0 ?_
      refine j_aload_n hC (pc := 18) dX6_readTable_18 0 rfl rfl ?_
      refine j_getR hC (pc := 19) dX6_readTable_19 kf_RX6_12 lX_138 (Nat.le_of_ble_eq_true rfl) rfl ?_
      refine j_getR hC (pc := 22) dX6_readTable_22 kf_RX6_104 lX_9 (Nat.le_of_ble_eq_true rfl) rfl ?_
      refine j_iload_n hC (pc := 25) dX6_readTable_25 1 rfl rfl ?_
      refine j_iald hC (pc := 26) dX6_readTable_26 lX_10 (Nat.le_of_ble_eq_true rfl) ?_
      refine j_iconst hC (pc := 27) dX6_readTable_27 ki_1 ?_
      refine j_isub hC (pc := 28) dX6_readTable_28 ?_
      refine j_callV_E hC hR (ctX6_readNumber hC.l hC.cn κ 0 ((mi κ 10 v1.toNatClampNeg) - 1)) kc_RX6_94 (Nat.le_of_ble_eq_true rfl) (Nat.le_of_ble_eq_true rfl) lX_138 (Nat.le_of_ble_eq_true rfl) rfl (As := [.int 0, .int ((mi κ 10 v1.toNatClampNeg) - 1)]) (rest := []) rfl rfl (Nat.le_of_ble_eq_true rfl) hm (pc := 29) dX6_readTable_29 (fun t2 => ?_)
      refine j_if_ne hC (pc := 32) dX6_readTable_32 (tgt := 37) rfl ?_ ?_
      · refine j_iconst hC (pc := 35) dX6_readTable_35 ki_0 ?_
        exact j_iret hC (pc := 36) dX6_readTable_36 rfl rfl rfl
      · refine j_aload_n hC (pc := 37) dX6_readTable_37 0 rfl rfl ?_
        refine j_getR hC (pc := 38) dX6_readTable_38 kf_RX6_12 lX_138 (Nat.le_of_ble_eq_true rfl) rfl ?_
        refine j_iload_n hC (pc := 41) dX6_readTable_41 1 rfl rfl ?_
        refine j_iload_n hC (pc := 42) dX6_readTable_42 3 rfl rfl ?_
        refine j_aload_n hC (pc := 43) dX6_readTable_43 0 rfl rfl ?_
        refine j_getI hC (pc := 44) dX6_readTable_44 kf_RX6_28 lX_138 (Nat.le_of_ble_eq_true rfl) rfl ?_
        refine j_callV_V hC hR (ctX2_tell hC.l hC.cn 9 isG_9 t2.2 v1 v3 (mi t2.2 138 5)) kc_RX6_133 (Nat.le_of_ble_eq_true rfl) (Nat.le_of_ble_eq_true rfl) lX_9 (Nat.le_of_ble_eq_true rfl) rfl (As := [.int v1, .int v3, .int (mi t2.2 138 5)]) (rest := []) rfl rfl (Nat.le_of_ble_eq_true rfl) hm (pc := 47) dX6_readTable_47 (fun t3 => ?_)
        refine j_iinc hC (pc := 50) dX6_readTable_50 3 rfl ki_1 (Nat.le_of_ble_eq_true rfl) (loc' := [(3, .int (v3 + 1)), (0, .ref (gad Γ 138)), (1, .int v1), (2, .int v2)]) rfl ?_
        refine j_goto hC (pc := 53) dX6_readTable_53 (tgt := 11) rfl ?_
        refine j_sub [1, 2, 3, 0] (loc' := [(0, .ref (gad Γ 138)), (1, .int v1), (2, .int v2), (3, .int (v3 + 1))]) rfl ?_
        exact ih t3 (v3 + 1)
    · refine j_iconst hC (pc := 56) dX6_readTable_56 ki_1 ?_
      exact j_iret hC (pc := 57) dX6_readTable_57 rfl rfl rfl
set_option maxRecDepth 20000 in
theorem wX6_readTable {Γ : JCtx} (hC : jC Γ cX6_readTable 4 RX6 (some .boolean) layX 147) (hR : gR Γ = rmH 2) (hm : gcells Γ ≤ (gR Γ).cells ∧ gslots Γ ≤ (gR Γ).slots) (F : Nat) (κ : Mem) (v1 : Int32) : JP Γ (qf Γ oE) (pX6_readTable F κ v1) κ 0 [(0, .ref (gad Γ 138)), (1, .int v1)] [] := by
  unfold pX6_readTable
  refine j_aload_n hC (pc := 0) dX6_readTable_0 0 rfl rfl ?_
  refine j_getR hC (pc := 1) dX6_readTable_1 kf_RX6_12 lX_138 (Nat.le_of_ble_eq_true rfl) rfl ?_
  refine j_iload_n hC (pc := 4) dX6_readTable_4 1 rfl rfl ?_
  refine j_callV_I hC hR (ctX2_situations hC.l hC.cn 9 isG_9 F κ v1) kc_RX6_137 (Nat.le_of_ble_eq_true rfl) (Nat.le_of_ble_eq_true rfl) lX_9 (Nat.le_of_ble_eq_true rfl) rfl (As := [.int v1]) (rest := []) rfl rfl (Nat.le_of_ble_eq_true rfl) hm (pc := 5) dX6_readTable_5 (fun t1 => ?_)
  refine j_istore_n hC (pc := 8) dX6_readTable_8 rfl (Nat.le_of_ble_eq_true rfl) (loc' := [(2, .int t1), (0, .ref (gad Γ 138)), (1, .int v1)]) rfl ?_
  refine j_iconst hC (pc := 9) dX6_readTable_9 ki_0 ?_
  refine j_istore_n hC (pc := 10) dX6_readTable_10 rfl (Nat.le_of_ble_eq_true rfl) (loc' := [(3, .int 0), (2, .int t1), (0, .ref (gad Γ 138)), (1, .int v1)]) rfl ?_
  refine j_sub [2, 3, 1, 0] (loc' := [(0, .ref (gad Γ 138)), (1, .int v1), (2, .int t1), (3, .int 0)]) rfl ?_
  exact wX6_readTable_11 hC hR hm F v1 t1 F κ 0
theorem ctX6_readTable {Δ : DCtx} {l : Launch} (hl : dlay Δ = layX) (hN : dN Δ = 147) (F : Nat) (κ : Mem) (v1 : Int32) : ∀ r, pX6_readTable F κ v1 = some r → CT Δ l yX6_readTable cX6_readTable 4 (some .boolean) (rmH 2) [.ref (dad Δ 138), .int v1] κ (some (.int r.1)) r.2 :=
  ct_of (nL := 4) (ret := (some .boolean)) (lay := layX) (N := 147) (by decide +kernel) (fun Δ => [.ref (dad Δ 138), .int v1]) (fun _ => oE) (fun _ => (Nat.le_of_ble_eq_true rfl)) (fun Γ hR hm hC => wX6_readTable hC hR hm F κ v1) Δ l hl hN
set_option maxRecDepth 20000 in
theorem wX6_readOfRule_90 {Γ : JCtx} (hC : jC Γ cX6_readOfRule 3 RX6 (some .boolean) layX 147) (hR : gR Γ = rmH 2) (hm : gcells Γ ≤ (gR Γ).cells ∧ gslots Γ ≤ (gR Γ).slots) (κ : Mem) (y0 : Int32) : JP Γ (qf Γ oE) (pX6_readOfRule_90 κ y0) κ 90 [] [.int y0] := by
  unfold pX6_readOfRule_90
  refine j_ckP (fun hq8 => ?_)
  exact j_iret hC (pc := 90) dX6_readOfRule_90 rfl (isB_n hq8) rfl
set_option maxRecDepth 20000 in
theorem wX6_readOfRule_85 {Γ : JCtx} (hC : jC Γ cX6_readOfRule 3 RX6 (some .boolean) layX 147) (hR : gR Γ = rmH 2) (hm : gcells Γ ≤ (gR Γ).cells ∧ gslots Γ ≤ (gR Γ).slots) (κ : Mem) : JP Γ (qf Γ oE) (pX6_readOfRule_85 κ) κ 85 [] [] := by
  unfold pX6_readOfRule_85
  refine j_iconst hC (pc := 85) dX6_readOfRule_85 ki_1 ?_
  refine j_goto hC (pc := 86) dX6_readOfRule_86 (tgt := 90) rfl ?_
  exact wX6_readOfRule_90 hC hR hm κ 1
set_option maxRecDepth 20000 in
theorem wX6_readOfRule {Γ : JCtx} (hC : jC Γ cX6_readOfRule 3 RX6 (some .boolean) layX 147) (hR : gR Γ = rmH 2) (hm : gcells Γ ≤ (gR Γ).cells ∧ gslots Γ ≤ (gR Γ).slots) (κ : Mem) (v1 : Int32) (v2 : Int32) : JP Γ (qf Γ oE) (pX6_readOfRule κ v1 v2) κ 0 [(0, .ref (gad Γ 138)), (1, .int v1), (2, .int v2)] [] := by
  unfold pX6_readOfRule
  refine j_iload_n hC (pc := 0) dX6_readOfRule_0 2 rfl rfl ?_
  refine j_bipush hC (pc := 1) dX6_readOfRule_1 kb_6 ?_
  refine j_icmp_ne hC (pc := 3) dX6_readOfRule_3 (tgt := 14) rfl ?_ ?_
  · refine j_aload_n hC (pc := 6) dX6_readOfRule_6 0 rfl rfl ?_
    refine j_iconst hC (pc := 7) dX6_readOfRule_7 ki_0 ?_
    refine j_bipush hC (pc := 8) dX6_readOfRule_8 kb_99 ?_
    refine j_callV_E hC hR (ctX6_readNumber hC.l hC.cn κ 0 99) kc_RX6_94 (Nat.le_of_ble_eq_true rfl) (Nat.le_of_ble_eq_true rfl) lX_138 (Nat.le_of_ble_eq_true rfl) rfl (As := [.int 0, .int 99]) (rest := []) rfl rfl (Nat.le_of_ble_eq_true rfl) hm (pc := 10) dX6_readOfRule_10 (fun t1 => ?_)
    refine j_ckP (fun hq2 => ?_)
    exact j_iret hC (pc := 13) dX6_readOfRule_13 rfl (isB_n hq2) rfl
  · refine j_iload_n hC (pc := 14) dX6_readOfRule_14 2 rfl rfl ?_
    refine j_bipush hC (pc := 15) dX6_readOfRule_15 kb_9 ?_
    refine j_icmp_ne hC (pc := 17) dX6_readOfRule_17 (tgt := 37) rfl ?_ ?_
    · refine j_aload_n hC (pc := 20) dX6_readOfRule_20 0 rfl rfl ?_
      refine j_iconst hC (pc := 21) dX6_readOfRule_21 ki_0 ?_
      refine j_aload_n hC (pc := 22) dX6_readOfRule_22 0 rfl rfl ?_
      refine j_getR hC (pc := 23) dX6_readOfRule_23 kf_RX6_12 lX_138 (Nat.le_of_ble_eq_true rfl) rfl ?_
      refine j_getR hC (pc := 26) dX6_readOfRule_26 kf_RX6_104 lX_9 (Nat.le_of_ble_eq_true rfl) rfl ?_
      refine j_iload_n hC (pc := 29) dX6_readOfRule_29 1 rfl rfl ?_
      refine j_iald hC (pc := 30) dX6_readOfRule_30 lX_10 (Nat.le_of_ble_eq_true rfl) ?_
      refine j_iconst hC (pc := 31) dX6_readOfRule_31 ki_1 ?_
      refine j_isub hC (pc := 32) dX6_readOfRule_32 ?_
      refine j_callV_E hC hR (ctX6_readNumber hC.l hC.cn κ 0 ((mi κ 10 v1.toNatClampNeg) - 1)) kc_RX6_94 (Nat.le_of_ble_eq_true rfl) (Nat.le_of_ble_eq_true rfl) lX_138 (Nat.le_of_ble_eq_true rfl) rfl (As := [.int 0, .int ((mi κ 10 v1.toNatClampNeg) - 1)]) (rest := []) rfl rfl (Nat.le_of_ble_eq_true rfl) hm (pc := 33) dX6_readOfRule_33 (fun t3 => ?_)
      refine j_ckP (fun hq4 => ?_)
      exact j_iret hC (pc := 36) dX6_readOfRule_36 rfl (isB_n hq4) rfl
    · refine j_aload_n hC (pc := 37) dX6_readOfRule_37 0 rfl rfl ?_
      refine j_iconst hC (pc := 38) dX6_readOfRule_38 ki_0 ?_
      refine j_aload_n hC (pc := 39) dX6_readOfRule_39 0 rfl rfl ?_
      refine j_getR hC (pc := 40) dX6_readOfRule_40 kf_RX6_12 lX_138 (Nat.le_of_ble_eq_true rfl) rfl ?_
      refine j_getI hC (pc := 43) dX6_readOfRule_43 kf_RX6_91 lX_9 (Nat.le_of_ble_eq_true rfl) rfl ?_
      refine j_iconst hC (pc := 46) dX6_readOfRule_46 ki_1 ?_
      refine j_isub hC (pc := 47) dX6_readOfRule_47 ?_
      refine j_callV_E hC hR (ctX6_readNumber hC.l hC.cn κ 0 ((mi κ 9 0) - 1)) kc_RX6_94 (Nat.le_of_ble_eq_true rfl) (Nat.le_of_ble_eq_true rfl) lX_138 (Nat.le_of_ble_eq_true rfl) rfl (As := [.int 0, .int ((mi κ 9 0) - 1)]) (rest := []) rfl rfl (Nat.le_of_ble_eq_true rfl) hm (pc := 48) dX6_readOfRule_48 (fun t5 => ?_)
      refine j_if_ne hC (pc := 51) dX6_readOfRule_51 (tgt := 56) rfl ?_ ?_
      · refine j_iconst hC (pc := 54) dX6_readOfRule_54 ki_0 ?_
        exact j_iret hC (pc := 55) dX6_readOfRule_55 rfl rfl rfl
      · refine j_aload_n hC (pc := 56) dX6_readOfRule_56 0 rfl rfl ?_
        refine j_getR hC (pc := 57) dX6_readOfRule_57 kf_RX6_12 lX_138 (Nat.le_of_ble_eq_true rfl) rfl ?_
        refine j_iload_n hC (pc := 60) dX6_readOfRule_60 1 rfl rfl ?_
        refine j_aload_n hC (pc := 61) dX6_readOfRule_61 0 rfl rfl ?_
        refine j_getI hC (pc := 62) dX6_readOfRule_62 kf_RX6_28 lX_138 (Nat.le_of_ble_eq_true rfl) rfl ?_
        refine j_callV_I hC hR (ctX2_watches hC.l hC.cn 9 isG_9 t5.2 v1 (mi t5.2 138 5)) kc_RX6_107 (Nat.le_of_ble_eq_true rfl) (Nat.le_of_ble_eq_true rfl) lX_9 (Nat.le_of_ble_eq_true rfl) rfl (As := [.int v1, .int (mi t5.2 138 5)]) (rest := []) rfl rfl (Nat.le_of_ble_eq_true rfl) hm (pc := 65) dX6_readOfRule_65 (fun t6 => ?_)
        refine j_if_ne hC (pc := 68) dX6_readOfRule_68 (tgt := 85) rfl ?_ ?_
        · refine j_aload_n hC (pc := 71) dX6_readOfRule_71 0 rfl rfl ?_
          refine j_iconst hC (pc := 72) dX6_readOfRule_72 ki_3 ?_
          refine j_aload_n hC (pc := 73) dX6_readOfRule_73 0 rfl rfl ?_
          refine j_getI hC (pc := 74) dX6_readOfRule_74 kf_RX6_25 lX_138 (Nat.le_of_ble_eq_true rfl) rfl ?_
          refine j_iconst hC (pc := 77) dX6_readOfRule_77 ki_1 ?_
          refine j_isub hC (pc := 78) dX6_readOfRule_78 ?_
          refine j_callV_E hC hR (ctX6_fail hC.l hC.cn t5.2 3 ((mi t5.2 138 4) - 1)) kc_RX6_101 (Nat.le_of_ble_eq_true rfl) (Nat.le_of_ble_eq_true rfl) lX_138 (Nat.le_of_ble_eq_true rfl) rfl (As := [.int 3, .int ((mi t5.2 138 4) - 1)]) (rest := []) rfl rfl (Nat.le_of_ble_eq_true rfl) hm (pc := 79) dX6_readOfRule_79 (fun t7 => ?_)
          refine j_if_eq hC (pc := 82) dX6_readOfRule_82 (tgt := 89) rfl ?_ ?_
          · refine j_iconst hC (pc := 89) dX6_readOfRule_89 ki_0 ?_
            refine j_sub [] (loc' := []) rfl ?_
            exact wX6_readOfRule_90 hC hR hm t7.2 0
          · refine j_sub [] (loc' := []) rfl ?_
            exact wX6_readOfRule_85 hC hR hm t7.2
        · refine j_sub [] (loc' := []) rfl ?_
          exact wX6_readOfRule_85 hC hR hm t5.2
theorem ctX6_readOfRule {Δ : DCtx} {l : Launch} (hl : dlay Δ = layX) (hN : dN Δ = 147) (κ : Mem) (v1 : Int32) (v2 : Int32) : ∀ r, pX6_readOfRule κ v1 v2 = some r → CT Δ l yX6_readOfRule cX6_readOfRule 3 (some .boolean) (rmH 2) [.ref (dad Δ 138), .int v1, .int v2] κ (some (.int r.1)) r.2 :=
  ct_of (nL := 3) (ret := (some .boolean)) (lay := layX) (N := 147) (by decide +kernel) (fun Δ => [.ref (dad Δ 138), .int v1, .int v2]) (fun _ => oE) (fun _ => (Nat.le_of_ble_eq_true rfl)) (fun Γ hR hm hC => wX6_readOfRule hC hR hm κ v1 v2) Δ l hl hN
set_option maxRecDepth 20000 in
theorem wX6_tellByRule_134 {Γ : JCtx} (hC : jC Γ cX6_tellByRule 8 RX6 none layX 147) (hR : gR Γ = rmH 1) (hm : gcells Γ ≤ (gR Γ).cells ∧ gslots Γ ≤ (gR Γ).slots) (F : Nat) (κ : Mem) (v1 : Int32) (v2 : Int32) (v3 : Int32) (v5 : Int32) (v6 : Int32) (k56 : Mem → Int32 → Int32 → Option Mem) (hk56 : ∀ (κ : Mem) (v5 : Int32) (v6 : Int32), JP Γ (qf Γ oV) (k56 κ v5 v6) κ 56 [(0, .ref (gad Γ 138)), (1, .int v1), (2, .int v2), (3, .int v3), (5, .int v5), (6, .int v6)] []) : JP Γ (qf Γ oV) (pX6_tellByRule_134 F k56 κ v1 v2 v3 v5 v6) κ 134 [(0, .ref (gad Γ 138)), (1, .int v1), (2, .int v2), (3, .int v3), (5, .int v5), (6, .int v6)] [] := by
  unfold pX6_tellByRule_134
  refine j_iinc hC (pc := 134) dX6_tellByRule_134 5 rfl ki_1 (Nat.le_of_ble_eq_true rfl) (loc' := [(6, .int (v6 + 1)), (0, .ref (gad Γ 138)), (1, .int v1), (2, .int v2), (3, .int v3), (5, .int v5)]) rfl ?_
  refine j_goto hC (pc := 137) dX6_tellByRule_137 (tgt := 56) rfl ?_
  refine j_sub [1, 2, 3, 4, 5, 0] (loc' := [(0, .ref (gad Γ 138)), (1, .int v1), (2, .int v2), (3, .int v3), (5, .int v5), (6, .int (v6 + 1))]) rfl ?_
  exact hk56 κ v5 (v6 + 1)
set_option maxRecDepth 20000 in
theorem wX6_tellByRule_129 {Γ : JCtx} (hC : jC Γ cX6_tellByRule 8 RX6 none layX 147) (hR : gR Γ = rmH 1) (hm : gcells Γ ≤ (gR Γ).cells ∧ gslots Γ ≤ (gR Γ).slots) (F : Nat) (κ : Mem) (v1 : Int32) (v2 : Int32) (v3 : Int32) (v6 : Int32) (y0 : Int32) (y1 : Int32) (y2 : Int32) (k56 : Mem → Int32 → Int32 → Option Mem) (hk56 : ∀ (κ : Mem) (v5 : Int32) (v6 : Int32), JP Γ (qf Γ oV) (k56 κ v5 v6) κ 56 [(0, .ref (gad Γ 138)), (1, .int v1), (2, .int v2), (3, .int v3), (5, .int v5), (6, .int v6)] []) : JP Γ (qf Γ oV) (pX6_tellByRule_129 F k56 κ v1 v2 v3 v6 y0 y1 y2) κ 129 [(0, .ref (gad Γ 138)), (1, .int v1), (2, .int v2), (3, .int v3), (6, .int v6)] [.int y0, .int y1, .int y2, .ref (gad Γ 139)] := by
  unfold pX6_tellByRule_129
  refine j_callN_E hC hR (ctX10_lengthen hC.l hC.cn 139 (lenX_ok lX_139) (Nat.le_of_ble_eq_true rfl) F κ y2 y1 y0) kc_RX6_123 (Nat.le_of_ble_eq_true rfl) (Nat.le_of_ble_eq_true rfl) (As := [.ref (gad Γ 139), .int y2, .int y1, .int y0]) (rest := []) rfl rfl (Nat.le_of_ble_eq_true rfl) hm (pc := 129) dX6_tellByRule_129 (fun t3 => ?_)
  refine j_istore hC (pc := 132) dX6_tellByRule_132 (Nat.le_of_ble_eq_true rfl) (loc' := [(5, .int (t3.1)), (0, .ref (gad Γ 138)), (1, .int v1), (2, .int v2), (3, .int v3), (6, .int v6)]) rfl ?_
  refine j_sub [1, 2, 3, 4, 0, 5] (loc' := [(0, .ref (gad Γ 138)), (1, .int v1), (2, .int v2), (3, .int v3), (5, .int (t3.1)), (6, .int v6)]) rfl ?_
  exact wX6_tellByRule_134 hC hR hm F t3.2 v1 v2 v3 t3.1 v6 k56 hk56
set_option maxRecDepth 20000 in
theorem wX6_tellByRule_99 {Γ : JCtx} (hC : jC Γ cX6_tellByRule 8 RX6 none layX 147) (hR : gR Γ = rmH 1) (hm : gcells Γ ≤ (gR Γ).cells ∧ gslots Γ ≤ (gR Γ).slots) (F : Nat) (κ : Mem) (v1 : Int32) (v2 : Int32) (v3 : Int32) (v5 : Int32) (v6 : Int32) (y0 : Int32) (k56 : Mem → Int32 → Int32 → Option Mem) (hk56 : ∀ (κ : Mem) (v5 : Int32) (v6 : Int32), JP Γ (qf Γ oV) (k56 κ v5 v6) κ 56 [(0, .ref (gad Γ 138)), (1, .int v1), (2, .int v2), (3, .int v3), (5, .int v5), (6, .int v6)] []) : JP Γ (qf Γ oV) (pX6_tellByRule_99 F k56 κ v1 v2 v3 v5 v6 y0) κ 99 [(0, .ref (gad Γ 138)), (1, .int v1), (2, .int v2), (3, .int v3), (5, .int v5), (6, .int v6)] [.int y0] := by
  unfold pX6_tellByRule_99
  refine j_istore hC (pc := 99) dX6_tellByRule_99 (Nat.le_of_ble_eq_true rfl) (loc' := [(7, .int y0), (0, .ref (gad Γ 138)), (1, .int v1), (2, .int v2), (3, .int v3), (5, .int v5), (6, .int v6)]) rfl ?_
  refine j_aload_n hC (pc := 101) dX6_tellByRule_101 1 rfl rfl ?_
  refine j_getR hC (pc := 102) dX6_tellByRule_102 kf_RX6_31 lX_138 (Nat.le_of_ble_eq_true rfl) rfl ?_
  refine j_iload hC (pc := 105) dX6_tellByRule_105 5 rfl ?_
  refine j_aload_n hC (pc := 107) dX6_tellByRule_107 1 rfl rfl ?_
  refine j_getR hC (pc := 108) dX6_tellByRule_108 kf_RX6_12 lX_138 (Nat.le_of_ble_eq_true rfl) rfl ?_
  refine j_getR hC (pc := 111) dX6_tellByRule_111 kf_RX6_104 lX_9 (Nat.le_of_ble_eq_true rfl) rfl ?_
  refine j_iload hC (pc := 114) dX6_tellByRule_114 6 rfl ?_
  refine j_iald hC (pc := 116) dX6_tellByRule_116 lX_10 (Nat.le_of_ble_eq_true rfl) ?_
  refine j_iload_n hC (pc := 117) dX6_tellByRule_117 3 rfl rfl ?_
  refine j_bipush hC (pc := 118) dX6_tellByRule_118 kb_6 ?_
  refine j_icmp_ne hC (pc := 120) dX6_tellByRule_120 (tgt := 127) rfl ?_ ?_
  · refine j_iconst hC (pc := 123) dX6_tellByRule_123 ki_m1 ?_
    refine j_goto hC (pc := 124) dX6_tellByRule_124 (tgt := 129) rfl ?_
    refine j_sub [1, 2, 3, 4, 6] (loc' := [(0, .ref (gad Γ 138)), (1, .int v1), (2, .int v2), (3, .int v3), (6, .int v6)]) rfl ?_
    exact wX6_tellByRule_129 hC hR hm F κ v1 v2 v3 v6 (-1) (mi κ 10 v6.toNatClampNeg) v5 k56 hk56
  · refine j_iload hC (pc := 127) dX6_tellByRule_127 0 rfl ?_
    refine j_sub [1, 2, 3, 4, 6] (loc' := [(0, .ref (gad Γ 138)), (1, .int v1), (2, .int v2), (3, .int v3), (6, .int v6)]) rfl ?_
    exact wX6_tellByRule_129 hC hR hm F κ v1 v2 v3 v6 y0 (mi κ 10 v6.toNatClampNeg) v5 k56 hk56
set_option maxRecDepth 20000 in
theorem wX6_tellByRule_98 {Γ : JCtx} (hC : jC Γ cX6_tellByRule 8 RX6 none layX 147) (hR : gR Γ = rmH 1) (hm : gcells Γ ≤ (gR Γ).cells ∧ gslots Γ ≤ (gR Γ).slots) (F : Nat) (κ : Mem) (v1 : Int32) (v2 : Int32) (v3 : Int32) (v5 : Int32) (v6 : Int32) (k56 : Mem → Int32 → Int32 → Option Mem) (hk56 : ∀ (κ : Mem) (v5 : Int32) (v6 : Int32), JP Γ (qf Γ oV) (k56 κ v5 v6) κ 56 [(0, .ref (gad Γ 138)), (1, .int v1), (2, .int v2), (3, .int v3), (5, .int v5), (6, .int v6)] []) : JP Γ (qf Γ oV) (pX6_tellByRule_98 F k56 κ v1 v2 v3 v5 v6) κ 98 [(0, .ref (gad Γ 138)), (1, .int v1), (2, .int v2), (3, .int v3), (5, .int v5), (6, .int v6)] [] := by
  unfold pX6_tellByRule_98
  refine j_iconst hC (pc := 98) dX6_tellByRule_98 ki_0 ?_
  exact wX6_tellByRule_99 hC hR hm F κ v1 v2 v3 v5 v6 0 k56 hk56
set_option maxRecDepth 20000 in
theorem wX6_tellByRule_143 {Γ : JCtx} (hC : jC Γ cX6_tellByRule 8 RX6 none layX 147) (hR : gR Γ = rmH 1) (hm : gcells Γ ≤ (gR Γ).cells ∧ gslots Γ ≤ (gR Γ).slots) (F : Nat) (v1 : Int32) (v5 : Int32) : ∀ (n : Nat) (κ : Mem) (v6 : Int32), JP Γ (qf Γ oV) (pX6_tellByRule_143 F v1 v5 n κ v6) κ 143 [(0, .ref (gad Γ 138)), (1, .int v1), (5, .int v5), (6, .int v6)] [] := by
  intro n
  induction n with
  | zero =>
    intro κ v6
    rw [pX6_tellByRule_143]
    exact j_none
  | succ fu ih =>
    intro κ v6
    rw [pX6_tellByRule_143]
    refine j_iload hC (pc := 143) dX6_tellByRule_143 3 rfl ?_
    refine j_iload hC (pc := 145) dX6_tellByRule_145 2 rfl ?_
    refine j_icmp_ge hC (pc := 147) dX6_tellByRule_147 (tgt := 185) rfl ?_ ?_
    · refine j_aload_n hC (pc := 150) dX6_tellByRule_150 0 rfl rfl ?_
      refine j_getR hC (pc := 151) dX6_tellByRule_151 kf_RX6_12 lX_138 (Nat.le_of_ble_eq_true rfl) rfl ?_
      refine j_iload_n hC (pc := 154) dX6_tellByRule_154 1 rfl rfl ?_
      refine j_iload hC (pc := 155) dX6_tellByRule_155 3 rfl ?_
      refine j_aload_n hC (pc := 157) dX6_tellByRule_157 0 rfl rfl ?_
      refine j_getR hC (pc := 158) dX6_tellByRule_158 kf_RX6_31 lX_138 (Nat.le_of_ble_eq_true rfl) rfl ?_
      refine j_iload hC (pc := 161) dX6_tellByRule_161 3 rfl ?_
      refine j_iald hC (pc := 163) dX6_tellByRule_163 lX_139 (Nat.le_of_ble_eq_true rfl) ?_
      refine j_aload_n hC (pc := 164) dX6_tellByRule_164 0 rfl rfl ?_
      refine j_getR hC (pc := 165) dX6_tellByRule_165 kf_RX6_12 lX_138 (Nat.le_of_ble_eq_true rfl) rfl ?_
      refine j_getR hC (pc := 168) dX6_tellByRule_168 kf_RX6_104 lX_9 (Nat.le_of_ble_eq_true rfl) rfl ?_
      refine j_iload_n hC (pc := 171) dX6_tellByRule_171 1 rfl rfl ?_
      refine j_iald hC (pc := 172) dX6_tellByRule_172 lX_10 (Nat.le_of_ble_eq_true rfl) ?_
      refine j_callS_I hC hR (ctJ9_floorMod_7cf53 hC.l hC.cn κ (mi κ 139 v6.toNatClampNeg) (mi κ 10 v1.toNatClampNeg)) kc_RX6_127 (Nat.le_of_ble_eq_true rfl) (Nat.le_of_ble_eq_true rfl) (As := [.int (mi κ 139 v6.toNatClampNeg), .int (mi κ 10 v1.toNatClampNeg)]) (rest := [.int v6, .int v1, .ref (gad Γ 9)]) rfl rfl (Nat.le_of_ble_eq_true rfl) hm (pc := 173) dX6_tellByRule_173 (fun t4 => ?_)
      refine j_callV_V hC hR (ctX2_tell hC.l hC.cn 9 isG_9 κ v1 v6 t4) kc_RX6_133 (Nat.le_of_ble_eq_true rfl) (Nat.le_of_ble_eq_true rfl) lX_9 (Nat.le_of_ble_eq_true rfl) rfl (As := [.int v1, .int v6, .int t4]) (rest := []) rfl rfl (Nat.le_of_ble_eq_true rfl) hm (pc := 176) dX6_tellByRule_176 (fun t5 => ?_)
      refine j_iinc hC (pc := 179) dX6_tellByRule_179 3 rfl ki_1 (Nat.le_of_ble_eq_true rfl) (loc' := [(6, .int (v6 + 1)), (0, .ref (gad Γ 138)), (1, .int v1), (5, .int v5)]) rfl ?_
      refine j_goto hC (pc := 182) dX6_tellByRule_182 (tgt := 143) rfl ?_
      refine j_sub [1, 2, 3, 0] (loc' := [(0, .ref (gad Γ 138)), (1, .int v1), (5, .int v5), (6, .int (v6 + 1))]) rfl ?_
      exact ih t5 (v6 + 1)
    · exact j_vret hC (pc := 185) dX6_tellByRule_185 rfl rfl
set_option maxRecDepth 20000 in
theorem wX6_tellByRule_56 {Γ : JCtx} (hC : jC Γ cX6_tellByRule 8 RX6 none layX 147) (hR : gR Γ = rmH 1) (hm : gcells Γ ≤ (gR Γ).cells ∧ gslots Γ ≤ (gR Γ).slots) (F : Nat) (v1 : Int32) (v2 : Int32) (v3 : Int32) : ∀ (n : Nat) (κ : Mem) (v5 : Int32) (v6 : Int32), JP Γ (qf Γ oV) (pX6_tellByRule_56 F v1 v2 v3 n κ v5 v6) κ 56 [(0, .ref (gad Γ 138)), (1, .int v1), (2, .int v2), (3, .int v3), (5, .int v5), (6, .int v6)] [] := by
  intro n
  induction n with
  | zero =>
    intro κ v5 v6
    rw [pX6_tellByRule_56]
    exact j_none
  | succ fu ih =>
    intro κ v5 v6
    rw [pX6_tellByRule_56]
    refine j_iload hC (pc := 56) dX6_tellByRule_56 5 rfl ?_
    refine j_aload_n hC (pc := 58) dX6_tellByRule_58 0 rfl rfl ?_
    refine j_getR hC (pc := 59) dX6_tellByRule_59 kf_RX6_12 lX_138 (Nat.le_of_ble_eq_true rfl) rfl ?_
    refine j_getI hC (pc := 62) dX6_tellByRule_62 kf_RX6_91 lX_9 (Nat.le_of_ble_eq_true rfl) rfl ?_
    refine j_icmp_ge hC (pc := 65) dX6_tellByRule_65 (tgt := 140) rfl ?_ ?_
    · refine j_aload_n hC (pc := 68) dX6_tellByRule_68 0 rfl rfl ?_
      refine j_getR hC (pc := 69) dX6_tellByRule_69 kf_RX6_12 lX_138 (Nat.le_of_ble_eq_true rfl) rfl ?_
      refine j_iload_n hC (pc := 72) dX6_tellByRule_72 1 rfl rfl ?_
      refine j_iload hC (pc := 73) dX6_tellByRule_73 5 rfl ?_
      refine j_callV_I hC hR (ctX2_watches hC.l hC.cn 9 isG_9 κ v1 v6) kc_RX6_107 (Nat.le_of_ble_eq_true rfl) (Nat.le_of_ble_eq_true rfl) lX_9 (Nat.le_of_ble_eq_true rfl) rfl (As := [.int v1, .int v6]) (rest := []) rfl rfl (Nat.le_of_ble_eq_true rfl) hm (pc := 75) dX6_tellByRule_75 (fun t2 => ?_)
      refine j_if_eq hC (pc := 78) dX6_tellByRule_78 (tgt := 134) rfl ?_ ?_
      · exact wX6_tellByRule_134 hC hR hm F κ v1 v2 v3 v5 v6 (pX6_tellByRule_56 F v1 v2 v3 fu) ih
      · refine j_iload_n hC (pc := 81) dX6_tellByRule_81 3 rfl rfl ?_
        refine j_if_eq hC (pc := 82) dX6_tellByRule_82 (tgt := 98) rfl ?_ ?_
        · exact wX6_tellByRule_98 hC hR hm F κ v1 v2 v3 v5 v6 (pX6_tellByRule_56 F v1 v2 v3 fu) ih
        · refine j_iload hC (pc := 85) dX6_tellByRule_85 5 rfl ?_
          refine j_aload_n hC (pc := 87) dX6_tellByRule_87 0 rfl rfl ?_
          refine j_getI hC (pc := 88) dX6_tellByRule_88 kf_RX6_28 lX_138 (Nat.le_of_ble_eq_true rfl) rfl ?_
          refine j_icmp_ne hC (pc := 91) dX6_tellByRule_91 (tgt := 98) rfl ?_ ?_
          · refine j_iconst hC (pc := 94) dX6_tellByRule_94 ki_1 ?_
            refine j_goto hC (pc := 95) dX6_tellByRule_95 (tgt := 99) rfl ?_
            exact wX6_tellByRule_99 hC hR hm F κ v1 v2 v3 v5 v6 1 (pX6_tellByRule_56 F v1 v2 v3 fu) ih
          · exact wX6_tellByRule_98 hC hR hm F κ v1 v2 v3 v5 v6 (pX6_tellByRule_56 F v1 v2 v3 fu) ih
    · refine j_iconst hC (pc := 140) dX6_tellByRule_140 ki_0 ?_
      refine j_istore hC (pc := 141) dX6_tellByRule_141 (Nat.le_of_ble_eq_true rfl) (loc' := [(6, .int 0), (0, .ref (gad Γ 138)), (1, .int v1), (2, .int v2), (3, .int v3), (5, .int v5)]) rfl ?_
      refine j_sub [1, 2, 5, 0] (loc' := [(0, .ref (gad Γ 138)), (1, .int v1), (5, .int v5), (6, .int 0)]) rfl ?_
      exact wX6_tellByRule_143 hC hR hm F v1 v5 F κ 0
set_option maxRecDepth 20000 in
theorem wX6_tellByRule_52 {Γ : JCtx} (hC : jC Γ cX6_tellByRule 8 RX6 none layX 147) (hR : gR Γ = rmH 1) (hm : gcells Γ ≤ (gR Γ).cells ∧ gslots Γ ≤ (gR Γ).slots) (F : Nat) (κ : Mem) (v1 : Int32) (v2 : Int32) (v3 : Int32) (v5 : Int32) (y0 : Int32) (y1 : Int32) : JP Γ (qf Γ oV) (pX6_tellByRule_52 F κ v1 v2 v3 v5 y0 y1) κ 52 [(0, .ref (gad Γ 138)), (1, .int v1), (2, .int v2), (3, .int v3), (5, .int v5)] [.int y0, .int y1, .ref (gad Γ 139)] := by
  unfold pX6_tellByRule_52
  refine j_iast hC (pc := 52) dX6_tellByRule_52 lX_139 (Nat.le_of_ble_eq_true rfl) (fun κ1 => ?_)
  refine j_iconst hC (pc := 53) dX6_tellByRule_53 ki_0 ?_
  refine j_istore hC (pc := 54) dX6_tellByRule_54 (Nat.le_of_ble_eq_true rfl) (loc' := [(6, .int 0), (0, .ref (gad Γ 138)), (1, .int v1), (2, .int v2), (3, .int v3), (5, .int v5)]) rfl ?_
  refine j_sub [1, 2, 3, 4, 5, 0] (loc' := [(0, .ref (gad Γ 138)), (1, .int v1), (2, .int v2), (3, .int v3), (5, .int v5), (6, .int 0)]) rfl ?_
  exact wX6_tellByRule_56 hC hR hm F v1 v2 v3 F κ1 v5 0
set_option maxRecDepth 20000 in
theorem wX6_tellByRule_29 {Γ : JCtx} (hC : jC Γ cX6_tellByRule 8 RX6 none layX 147) (hR : gR Γ = rmH 1) (hm : gcells Γ ≤ (gR Γ).cells ∧ gslots Γ ≤ (gR Γ).slots) (F : Nat) (κ : Mem) (v1 : Int32) (v2 : Int32) (v3 : Int32) (y0 : Int32) : JP Γ (qf Γ oV) (pX6_tellByRule_29 F κ v1 v2 v3 y0) κ 29 [(0, .ref (gad Γ 138)), (1, .int v1), (2, .int v2), (3, .int v3)] [.int y0] := by
  unfold pX6_tellByRule_29
  refine j_istore hC (pc := 29) dX6_tellByRule_29 (Nat.le_of_ble_eq_true rfl) (loc' := [(4, .int y0), (0, .ref (gad Γ 138)), (1, .int v1), (2, .int v2), (3, .int v3)]) rfl ?_
  refine j_iconst hC (pc := 31) dX6_tellByRule_31 ki_1 ?_
  refine j_istore hC (pc := 32) dX6_tellByRule_32 (Nat.le_of_ble_eq_true rfl) (loc' := [(5, .int 1), (4, .int y0), (0, .ref (gad Γ 138)), (1, .int v1), (2, .int v2), (3, .int v3)]) rfl ?_
  refine j_aload_n hC (pc := 34) dX6_tellByRule_34 2 rfl rfl ?_
  refine j_getR hC (pc := 35) dX6_tellByRule_35 kf_RX6_31 lX_138 (Nat.le_of_ble_eq_true rfl) rfl ?_
  refine j_iconst hC (pc := 38) dX6_tellByRule_38 ki_0 ?_
  refine j_iload_n hC (pc := 39) dX6_tellByRule_39 5 rfl rfl ?_
  refine j_if_eq hC (pc := 40) dX6_tellByRule_40 (tgt := 48) rfl ?_ ?_
  · refine j_aload_n hC (pc := 48) dX6_tellByRule_48 2 rfl rfl ?_
    refine j_getI hC (pc := 49) dX6_tellByRule_49 kf_RX6_28 lX_138 (Nat.le_of_ble_eq_true rfl) rfl ?_
    refine j_sub [2, 3, 4, 5, 0] (loc' := [(0, .ref (gad Γ 138)), (1, .int v1), (2, .int v2), (3, .int v3), (5, .int 1)]) rfl ?_
    exact wX6_tellByRule_52 hC hR hm F κ v1 v2 v3 1 (mi κ 138 5) 0
  · refine j_iload hC (pc := 43) dX6_tellByRule_43 1 rfl ?_
    refine j_goto hC (pc := 45) dX6_tellByRule_45 (tgt := 52) rfl ?_
    refine j_sub [2, 3, 4, 5, 0] (loc' := [(0, .ref (gad Γ 138)), (1, .int v1), (2, .int v2), (3, .int v3), (5, .int 1)]) rfl ?_
    exact wX6_tellByRule_52 hC hR hm F κ v1 v2 v3 1 y0 0
set_option maxRecDepth 20000 in
theorem wX6_tellByRule_17 {Γ : JCtx} (hC : jC Γ cX6_tellByRule 8 RX6 none layX 147) (hR : gR Γ = rmH 1) (hm : gcells Γ ≤ (gR Γ).cells ∧ gslots Γ ≤ (gR Γ).slots) (F : Nat) (κ : Mem) (v1 : Int32) (v2 : Int32) (y0 : Int32) : JP Γ (qf Γ oV) (pX6_tellByRule_17 F κ v1 v2 y0) κ 17 [(0, .ref (gad Γ 138)), (1, .int v1), (2, .int v2)] [.int y0] := by
  unfold pX6_tellByRule_17
  refine j_istore_n hC (pc := 17) dX6_tellByRule_17 rfl (Nat.le_of_ble_eq_true rfl) (loc' := [(3, .int y0), (0, .ref (gad Γ 138)), (1, .int v1), (2, .int v2)]) rfl ?_
  refine j_iload_n hC (pc := 18) dX6_tellByRule_18 3 rfl rfl ?_
  refine j_bipush hC (pc := 19) dX6_tellByRule_19 kb_8 ?_
  refine j_icmp_ne hC (pc := 21) dX6_tellByRule_21 (tgt := 28) rfl ?_ ?_
  · refine j_iconst hC (pc := 24) dX6_tellByRule_24 ki_1 ?_
    refine j_goto hC (pc := 25) dX6_tellByRule_25 (tgt := 29) rfl ?_
    refine j_sub [1, 2, 3, 0] (loc' := [(0, .ref (gad Γ 138)), (1, .int v1), (2, .int v2), (3, .int y0)]) rfl ?_
    exact wX6_tellByRule_29 hC hR hm F κ v1 v2 y0 1
  · refine j_iconst hC (pc := 28) dX6_tellByRule_28 ki_0 ?_
    refine j_sub [1, 2, 3, 0] (loc' := [(0, .ref (gad Γ 138)), (1, .int v1), (2, .int v2), (3, .int y0)]) rfl ?_
    exact wX6_tellByRule_29 hC hR hm F κ v1 v2 y0 0
set_option maxRecDepth 20000 in
theorem wX6_tellByRule_12 {Γ : JCtx} (hC : jC Γ cX6_tellByRule 8 RX6 none layX 147) (hR : gR Γ = rmH 1) (hm : gcells Γ ≤ (gR Γ).cells ∧ gslots Γ ≤ (gR Γ).slots) (F : Nat) (κ : Mem) (v1 : Int32) (v2 : Int32) : JP Γ (qf Γ oV) (pX6_tellByRule_12 F κ v1 v2) κ 12 [(0, .ref (gad Γ 138)), (1, .int v1), (2, .int v2)] [] := by
  unfold pX6_tellByRule_12
  refine j_iconst hC (pc := 12) dX6_tellByRule_12 ki_1 ?_
  refine j_goto hC (pc := 13) dX6_tellByRule_13 (tgt := 17) rfl ?_
  exact wX6_tellByRule_17 hC hR hm F κ v1 v2 1
set_option maxRecDepth 20000 in
theorem wX6_tellByRule {Γ : JCtx} (hC : jC Γ cX6_tellByRule 8 RX6 none layX 147) (hR : gR Γ = rmH 1) (hm : gcells Γ ≤ (gR Γ).cells ∧ gslots Γ ≤ (gR Γ).slots) (F : Nat) (κ : Mem) (v1 : Int32) (v2 : Int32) : JP Γ (qf Γ oV) (pX6_tellByRule F κ v1 v2) κ 0 [(0, .ref (gad Γ 138)), (1, .int v1), (2, .int v2)] [] := by
  unfold pX6_tellByRule
  refine j_iload_n hC (pc := 0) dX6_tellByRule_0 2 rfl rfl ?_
  refine j_bipush hC (pc := 1) dX6_tellByRule_1 kb_7 ?_
  refine j_icmp_eq hC (pc := 3) dX6_tellByRule_3 (tgt := 12) rfl ?_ ?_
  · exact wX6_tellByRule_12 hC hR hm F κ v1 v2
  · refine j_iload_n hC (pc := 6) dX6_tellByRule_6 2 rfl rfl ?_
    refine j_bipush hC (pc := 7) dX6_tellByRule_7 kb_8 ?_
    refine j_icmp_ne hC (pc := 9) dX6_tellByRule_9 (tgt := 16) rfl ?_ ?_
    · exact wX6_tellByRule_12 hC hR hm F κ v1 v2
    · refine j_iconst hC (pc := 16) dX6_tellByRule_16 ki_0 ?_
      exact wX6_tellByRule_17 hC hR hm F κ v1 v2 0
theorem ctX6_tellByRule {Δ : DCtx} {l : Launch} (hl : dlay Δ = layX) (hN : dN Δ = 147) (F : Nat) (κ : Mem) (v1 : Int32) (v2 : Int32) : ∀ r, pX6_tellByRule F κ v1 v2 = some r → CT Δ l yX6_tellByRule cX6_tellByRule 8 none (rmH 1) [.ref (dad Δ 138), .int v1, .int v2] κ none r :=
  ct_of (nL := 8) (ret := none) (lay := layX) (N := 147) (by decide +kernel) (fun Δ => [.ref (dad Δ 138), .int v1, .int v2]) (fun _ => oV) (fun _ => (Nat.le_of_ble_eq_true rfl)) (fun Γ hR hm hC => wX6_tellByRule hC hR hm F κ v1 v2) Δ l hl hN
set_option maxRecDepth 20000 in
theorem wX6_readGuess {Γ : JCtx} (hC : jC Γ cX6_readGuess 3 RX6 (some .boolean) layX 147) (hR : gR Γ = rmH 3) (hm : gcells Γ ≤ (gR Γ).cells ∧ gslots Γ ≤ (gR Γ).slots) (F : Nat) (κ : Mem) : JP Γ (qf Γ oE) (pX6_readGuess F κ) κ 0 [(0, .ref (gad Γ 138))] [] := by
  unfold pX6_readGuess
  refine j_aload_n hC (pc := 0) dX6_readGuess_0 0 rfl rfl ?_
  refine j_callV_E hC hR (ctX6_readPlayer hC.l hC.cn κ) kc_RX6_98 (Nat.le_of_ble_eq_true rfl) (Nat.le_of_ble_eq_true rfl) lX_138 (Nat.le_of_ble_eq_true rfl) rfl (As := []) (rest := []) rfl rfl (Nat.le_of_ble_eq_true rfl) hm (pc := 1) dX6_readGuess_1 (fun t1 => ?_)
  refine j_if_ne hC (pc := 4) dX6_readGuess_4 (tgt := 9) rfl ?_ ?_
  · refine j_iconst hC (pc := 7) dX6_readGuess_7 ki_0 ?_
    exact j_iret hC (pc := 8) dX6_readGuess_8 rfl rfl rfl
  · refine j_aload_n hC (pc := 9) dX6_readGuess_9 0 rfl rfl ?_
    refine j_getI hC (pc := 10) dX6_readGuess_10 kf_RX6_28 lX_138 (Nat.le_of_ble_eq_true rfl) rfl ?_
    refine j_nmi (fun x2 => ?_)
    refine j_istore_n hC (pc := 13) dX6_readGuess_13 rfl (Nat.le_of_ble_eq_true rfl) (loc' := [(1, .int x2), (0, .ref (gad Γ 138))]) rfl ?_
    refine j_aload_n hC (pc := 14) dX6_readGuess_14 1 rfl rfl ?_
    refine j_getI hC (pc := 15) dX6_readGuess_15 kf_RX6_38 lX_138 (Nat.le_of_ble_eq_true rfl) rfl ?_
    refine j_iload_n hC (pc := 18) dX6_readGuess_18 0 rfl rfl ?_
    refine j_ishr hC (pc := 19) dX6_readGuess_19 ?_
    refine j_iconst hC (pc := 20) dX6_readGuess_20 ki_1 ?_
    refine j_iand hC (pc := 21) dX6_readGuess_21 ?_
    refine j_iconst hC (pc := 22) dX6_readGuess_22 ki_1 ?_
    refine j_icmp_ne hC (pc := 23) dX6_readGuess_23 (tgt := 38) rfl ?_ ?_
    · refine j_aload_n hC (pc := 26) dX6_readGuess_26 1 rfl rfl ?_
      refine j_iconst hC (pc := 27) dX6_readGuess_27 ki_4 ?_
      refine j_aload_n hC (pc := 28) dX6_readGuess_28 1 rfl rfl ?_
      refine j_getI hC (pc := 29) dX6_readGuess_29 kf_RX6_25 lX_138 (Nat.le_of_ble_eq_true rfl) rfl ?_
      refine j_iconst hC (pc := 32) dX6_readGuess_32 ki_1 ?_
      refine j_isub hC (pc := 33) dX6_readGuess_33 ?_
      refine j_callV_E hC hR (ctX6_fail hC.l hC.cn t1.2 4 ((mi t1.2 138 4) - 1)) kc_RX6_101 (Nat.le_of_ble_eq_true rfl) (Nat.le_of_ble_eq_true rfl) lX_138 (Nat.le_of_ble_eq_true rfl) rfl (As := [.int 4, .int ((mi t1.2 138 4) - 1)]) (rest := []) rfl rfl (Nat.le_of_ble_eq_true rfl) hm (pc := 34) dX6_readGuess_34 (fun t3 => ?_)
      refine j_ckP (fun hq4 => ?_)
      exact j_iret hC (pc := 37) dX6_readGuess_37 rfl (isB_n hq4) rfl
    · refine j_aload_n hC (pc := 38) dX6_readGuess_38 1 rfl rfl ?_
      refine j_dup hC (pc := 39) dX6_readGuess_39 rfl ?_
      refine j_getI hC (pc := 40) dX6_readGuess_40 kf_RX6_38 lX_138 (Nat.le_of_ble_eq_true rfl) rfl ?_
      refine j_iconst hC (pc := 43) dX6_readGuess_43 ki_1 ?_
      refine j_iload_n hC (pc := 44) dX6_readGuess_44 0 rfl rfl ?_
      refine j_ishl hC (pc := 45) dX6_readGuess_45 ?_
      refine j_ior hC (pc := 46) dX6_readGuess_46 ?_
      refine j_putI hC (pc := 47) dX6_readGuess_47 kp_RX6_38 lX_138 (Nat.le_of_ble_eq_true rfl) rfl rfl rfl (fun κ5 => ?_)
      refine j_aload_n hC (pc := 50) dX6_readGuess_50 1 rfl rfl ?_
      refine j_callV_I hC hR (ctX6_wordHere hC.l hC.cn κ5) kc_RX6_64 (Nat.le_of_ble_eq_true rfl) (Nat.le_of_ble_eq_true rfl) lX_138 (Nat.le_of_ble_eq_true rfl) rfl (As := []) (rest := []) rfl rfl (Nat.le_of_ble_eq_true rfl) hm (pc := 51) dX6_readGuess_51 (fun t6 => ?_)
      refine j_istore_n hC (pc := 54) dX6_readGuess_54 rfl (Nat.le_of_ble_eq_true rfl) (loc' := [(2, .int t6), (1, .int x2), (0, .ref (gad Γ 138))]) rfl ?_
      refine j_iload_n hC (pc := 55) dX6_readGuess_55 0 rfl rfl ?_
      refine j_bipush hC (pc := 56) dX6_readGuess_56 kb_6 ?_
      refine j_icmp_ge hC (pc := 58) dX6_readGuess_58 (tgt := 66) rfl ?_ ?_
      · refine j_aload_n hC (pc := 61) dX6_readGuess_61 2 rfl rfl ?_
        refine j_callV_E hC hR (ctX6_misplaced hC.l hC.cn κ5) kc_RX6_72 (Nat.le_of_ble_eq_true rfl) (Nat.le_of_ble_eq_true rfl) lX_138 (Nat.le_of_ble_eq_true rfl) rfl (As := []) (rest := []) rfl rfl (Nat.le_of_ble_eq_true rfl) hm (pc := 62) dX6_readGuess_62 (fun t7 => ?_)
        refine j_ckP (fun hq8 => ?_)
        exact j_iret hC (pc := 65) dX6_readGuess_65 rfl (isB_n hq8) rfl
      · refine j_aload_n hC (pc := 66) dX6_readGuess_66 2 rfl rfl ?_
        refine j_dup hC (pc := 67) dX6_readGuess_67 rfl ?_
        refine j_getI hC (pc := 68) dX6_readGuess_68 kf_RX6_25 lX_138 (Nat.le_of_ble_eq_true rfl) rfl ?_
        refine j_iconst hC (pc := 71) dX6_readGuess_71 ki_1 ?_
        refine j_iadd hC (pc := 72) dX6_readGuess_72 ?_
        refine j_putI hC (pc := 73) dX6_readGuess_73 kp_RX6_25 lX_138 (Nat.le_of_ble_eq_true rfl) rfl rfl rfl (fun κ9 => ?_)
        refine j_iload_n hC (pc := 76) dX6_readGuess_76 0 rfl rfl ?_
        refine j_bipush hC (pc := 77) dX6_readGuess_77 kb_10 ?_
        refine j_icmp_ne hC (pc := 79) dX6_readGuess_79 (tgt := 88) rfl ?_ ?_
        · refine j_aload_n hC (pc := 82) dX6_readGuess_82 2 rfl rfl ?_
          refine j_iload_n hC (pc := 83) dX6_readGuess_83 1 rfl rfl ?_
          refine j_callV_E hC hR (ctX6_readTable hC.l hC.cn F κ9 x2) kc_RX6_113 (Nat.le_of_ble_eq_true rfl) (Nat.le_of_ble_eq_true rfl) lX_138 (Nat.le_of_ble_eq_true rfl) rfl (As := [.int x2]) (rest := []) rfl rfl (Nat.le_of_ble_eq_true rfl) hm (pc := 84) dX6_readGuess_84 (fun t10 => ?_)
          refine j_ckP (fun hq11 => ?_)
          exact j_iret hC (pc := 87) dX6_readGuess_87 rfl (isB_n hq11) rfl
        · refine j_aload_n hC (pc := 88) dX6_readGuess_88 2 rfl rfl ?_
          refine j_iload_n hC (pc := 89) dX6_readGuess_89 1 rfl rfl ?_
          refine j_iload_n hC (pc := 90) dX6_readGuess_90 0 rfl rfl ?_
          refine j_callV_E hC hR (ctX6_readOfRule hC.l hC.cn κ9 x2 t6) kc_RX6_116 (Nat.le_of_ble_eq_true rfl) (Nat.le_of_ble_eq_true rfl) lX_138 (Nat.le_of_ble_eq_true rfl) rfl (As := [.int x2, .int t6]) (rest := []) rfl rfl (Nat.le_of_ble_eq_true rfl) hm (pc := 91) dX6_readGuess_91 (fun t12 => ?_)
          refine j_if_ne hC (pc := 94) dX6_readGuess_94 (tgt := 99) rfl ?_ ?_
          · refine j_iconst hC (pc := 97) dX6_readGuess_97 ki_0 ?_
            exact j_iret hC (pc := 98) dX6_readGuess_98 rfl rfl rfl
          · refine j_aload_n hC (pc := 99) dX6_readGuess_99 2 rfl rfl ?_
            refine j_iload_n hC (pc := 100) dX6_readGuess_100 1 rfl rfl ?_
            refine j_iload_n hC (pc := 101) dX6_readGuess_101 0 rfl rfl ?_
            refine j_callV_V hC hR (ctX6_tellByRule hC.l hC.cn F t12.2 x2 t6) kc_RX6_119 (Nat.le_of_ble_eq_true rfl) (Nat.le_of_ble_eq_true rfl) lX_138 (Nat.le_of_ble_eq_true rfl) rfl (As := [.int x2, .int t6]) (rest := []) rfl rfl (Nat.le_of_ble_eq_true rfl) hm (pc := 102) dX6_readGuess_102 (fun t13 => ?_)
            refine j_iconst hC (pc := 105) dX6_readGuess_105 ki_1 ?_
            exact j_iret hC (pc := 106) dX6_readGuess_106 rfl rfl rfl
theorem ctX6_readGuess {Δ : DCtx} {l : Launch} (hl : dlay Δ = layX) (hN : dN Δ = 147) (F : Nat) (κ : Mem) : ∀ r, pX6_readGuess F κ = some r → CT Δ l yX6_readGuess cX6_readGuess 3 (some .boolean) (rmH 3) [.ref (dad Δ 138)] κ (some (.int r.1)) r.2 :=
  ct_of (nL := 3) (ret := (some .boolean)) (lay := layX) (N := 147) (by decide +kernel) (fun Δ => [.ref (dad Δ 138)]) (fun _ => oE) (fun _ => (Nat.le_of_ble_eq_true rfl)) (fun Γ hR hm hC => wX6_readGuess hC hR hm F κ) Δ l hl hN
set_option maxRecDepth 20000 in
theorem wX6_readLine_79 {Γ : JCtx} (hC : jC Γ cX6_readLine 2 RX6 (some .boolean) layX 147) (hR : gR Γ = rmH 4) (hm : gcells Γ ≤ (gR Γ).cells ∧ gslots Γ ≤ (gR Γ).slots) (F : Nat) (κ : Mem) (y0 : Int32) : JP Γ (qf Γ oE) (pX6_readLine_79 F κ y0) κ 79 [] [.int y0] := by
  unfold pX6_readLine_79
  refine j_ckP (fun hq7 => ?_)
  exact j_iret hC (pc := 79) dX6_readLine_79 rfl (isB_n hq7) rfl
set_option maxRecDepth 20000 in
theorem wX6_readLine_78 {Γ : JCtx} (hC : jC Γ cX6_readLine 2 RX6 (some .boolean) layX 147) (hR : gR Γ = rmH 4) (hm : gcells Γ ≤ (gR Γ).cells ∧ gslots Γ ≤ (gR Γ).slots) (F : Nat) (κ : Mem) : JP Γ (qf Γ oE) (pX6_readLine_78 F κ) κ 78 [] [] := by
  unfold pX6_readLine_78
  refine j_iconst hC (pc := 78) dX6_readLine_78 ki_0 ?_
  exact wX6_readLine_79 hC hR hm F κ 0
set_option maxRecDepth 20000 in
theorem wX6_readLine_99 {Γ : JCtx} (hC : jC Γ cX6_readLine 2 RX6 (some .boolean) layX 147) (hR : gR Γ = rmH 4) (hm : gcells Γ ≤ (gR Γ).cells ∧ gslots Γ ≤ (gR Γ).slots) (F : Nat) (κ : Mem) (y0 : Int32) : JP Γ (qf Γ oE) (pX6_readLine_99 F κ y0) κ 99 [] [.int y0] := by
  unfold pX6_readLine_99
  refine j_ckP (fun hq10 => ?_)
  exact j_iret hC (pc := 99) dX6_readLine_99 rfl (isB_n hq10) rfl
set_option maxRecDepth 20000 in
theorem wX6_readLine_98 {Γ : JCtx} (hC : jC Γ cX6_readLine 2 RX6 (some .boolean) layX 147) (hR : gR Γ = rmH 4) (hm : gcells Γ ≤ (gR Γ).cells ∧ gslots Γ ≤ (gR Γ).slots) (F : Nat) (κ : Mem) : JP Γ (qf Γ oE) (pX6_readLine_98 F κ) κ 98 [] [] := by
  unfold pX6_readLine_98
  refine j_iconst hC (pc := 98) dX6_readLine_98 ki_0 ?_
  exact wX6_readLine_99 hC hR hm F κ 0
set_option maxRecDepth 20000 in
theorem wX6_readLine_120 {Γ : JCtx} (hC : jC Γ cX6_readLine 2 RX6 (some .boolean) layX 147) (hR : gR Γ = rmH 4) (hm : gcells Γ ≤ (gR Γ).cells ∧ gslots Γ ≤ (gR Γ).slots) (F : Nat) (κ : Mem) (y0 : Int32) : JP Γ (qf Γ oE) (pX6_readLine_120 F κ y0) κ 120 [] [.int y0] := by
  unfold pX6_readLine_120
  refine j_ckP (fun hq13 => ?_)
  exact j_iret hC (pc := 120) dX6_readLine_120 rfl (isB_n hq13) rfl
set_option maxRecDepth 20000 in
theorem wX6_readLine_119 {Γ : JCtx} (hC : jC Γ cX6_readLine 2 RX6 (some .boolean) layX 147) (hR : gR Γ = rmH 4) (hm : gcells Γ ≤ (gR Γ).cells ∧ gslots Γ ≤ (gR Γ).slots) (F : Nat) (κ : Mem) : JP Γ (qf Γ oE) (pX6_readLine_119 F κ) κ 119 [] [] := by
  unfold pX6_readLine_119
  refine j_iconst hC (pc := 119) dX6_readLine_119 ki_0 ?_
  exact wX6_readLine_120 hC hR hm F κ 0
set_option maxRecDepth 20000 in
theorem wX6_readLine_141 {Γ : JCtx} (hC : jC Γ cX6_readLine 2 RX6 (some .boolean) layX 147) (hR : gR Γ = rmH 4) (hm : gcells Γ ≤ (gR Γ).cells ∧ gslots Γ ≤ (gR Γ).slots) (F : Nat) (κ : Mem) (y0 : Int32) : JP Γ (qf Γ oE) (pX6_readLine_141 F κ y0) κ 141 [] [.int y0] := by
  unfold pX6_readLine_141
  refine j_ckP (fun hq16 => ?_)
  exact j_iret hC (pc := 141) dX6_readLine_141 rfl (isB_n hq16) rfl
set_option maxRecDepth 20000 in
theorem wX6_readLine_140 {Γ : JCtx} (hC : jC Γ cX6_readLine 2 RX6 (some .boolean) layX 147) (hR : gR Γ = rmH 4) (hm : gcells Γ ≤ (gR Γ).cells ∧ gslots Γ ≤ (gR Γ).slots) (F : Nat) (κ : Mem) : JP Γ (qf Γ oE) (pX6_readLine_140 F κ) κ 140 [] [] := by
  unfold pX6_readLine_140
  refine j_iconst hC (pc := 140) dX6_readLine_140 ki_0 ?_
  exact wX6_readLine_141 hC hR hm F κ 0
set_option maxRecDepth 20000 in
theorem wX6_readLine_161 {Γ : JCtx} (hC : jC Γ cX6_readLine 2 RX6 (some .boolean) layX 147) (hR : gR Γ = rmH 4) (hm : gcells Γ ≤ (gR Γ).cells ∧ gslots Γ ≤ (gR Γ).slots) (F : Nat) (κ : Mem) (y0 : Int32) : JP Γ (qf Γ oE) (pX6_readLine_161 F κ y0) κ 161 [] [.int y0] := by
  unfold pX6_readLine_161
  refine j_ckP (fun hq19 => ?_)
  exact j_iret hC (pc := 161) dX6_readLine_161 rfl (isB_n hq19) rfl
set_option maxRecDepth 20000 in
theorem wX6_readLine_160 {Γ : JCtx} (hC : jC Γ cX6_readLine 2 RX6 (some .boolean) layX 147) (hR : gR Γ = rmH 4) (hm : gcells Γ ≤ (gR Γ).cells ∧ gslots Γ ≤ (gR Γ).slots) (F : Nat) (κ : Mem) : JP Γ (qf Γ oE) (pX6_readLine_160 F κ) κ 160 [] [] := by
  unfold pX6_readLine_160
  refine j_iconst hC (pc := 160) dX6_readLine_160 ki_0 ?_
  exact wX6_readLine_161 hC hR hm F κ 0
set_option maxRecDepth 20000 in
theorem wX6_readLine {Γ : JCtx} (hC : jC Γ cX6_readLine 2 RX6 (some .boolean) layX 147) (hR : gR Γ = rmH 4) (hm : gcells Γ ≤ (gR Γ).cells ∧ gslots Γ ≤ (gR Γ).slots) (F : Nat) (κ : Mem) : JP Γ (qf Γ oE) (pX6_readLine F κ) κ 0 [(0, .ref (gad Γ 138))] [] := by
  unfold pX6_readLine
  refine j_aload_n hC (pc := 0) dX6_readLine_0 0 rfl rfl ?_
  refine j_callV_I hC hR (ctX6_wordHere hC.l hC.cn κ) kc_RX6_64 (Nat.le_of_ble_eq_true rfl) (Nat.le_of_ble_eq_true rfl) lX_138 (Nat.le_of_ble_eq_true rfl) rfl (As := []) (rest := []) rfl rfl (Nat.le_of_ble_eq_true rfl) hm (pc := 1) dX6_readLine_1 (fun t1 => ?_)
  refine j_istore_n hC (pc := 4) dX6_readLine_4 rfl (Nat.le_of_ble_eq_true rfl) (loc' := [(1, .int t1), (0, .ref (gad Γ 138))]) rfl ?_
  refine j_aload_n hC (pc := 5) dX6_readLine_5 1 rfl rfl ?_
  refine j_iload_n hC (pc := 6) dX6_readLine_6 0 rfl rfl ?_
  refine j_callV_I hC hR (ctX6_mayBegin hC.l hC.cn κ t1) kc_RX6_68 (Nat.le_of_ble_eq_true rfl) (Nat.le_of_ble_eq_true rfl) lX_138 (Nat.le_of_ble_eq_true rfl) rfl (As := [.int t1]) (rest := []) rfl rfl (Nat.le_of_ble_eq_true rfl) hm (pc := 7) dX6_readLine_7 (fun t2 => ?_)
  refine j_if_ne hC (pc := 10) dX6_readLine_10 (tgt := 18) rfl ?_ ?_
  · refine j_aload_n hC (pc := 13) dX6_readLine_13 1 rfl rfl ?_
    refine j_callV_E hC hR (ctX6_misplaced hC.l hC.cn κ) kc_RX6_72 (Nat.le_of_ble_eq_true rfl) (Nat.le_of_ble_eq_true rfl) lX_138 (Nat.le_of_ble_eq_true rfl) rfl (As := []) (rest := []) rfl rfl (Nat.le_of_ble_eq_true rfl) hm (pc := 14) dX6_readLine_14 (fun t3 => ?_)
    refine j_ckP (fun hq4 => ?_)
    exact j_iret hC (pc := 17) dX6_readLine_17 rfl (isB_n hq4) rfl
  · refine j_aload_n hC (pc := 18) dX6_readLine_18 1 rfl rfl ?_
    refine j_dup hC (pc := 19) dX6_readLine_19 rfl ?_
    refine j_getI hC (pc := 20) dX6_readLine_20 kf_RX6_25 lX_138 (Nat.le_of_ble_eq_true rfl) rfl ?_
    refine j_iconst hC (pc := 23) dX6_readLine_23 ki_1 ?_
    refine j_iadd hC (pc := 24) dX6_readLine_24 ?_
    refine j_putI hC (pc := 25) dX6_readLine_25 kp_RX6_25 lX_138 (Nat.le_of_ble_eq_true rfl) rfl rfl rfl (fun κ5 => ?_)
    refine j_iload_n hC (pc := 28) dX6_readLine_28 0 rfl rfl ?_
    refine j_ite (fun hs21 => ?_) (fun hs21 => ?_)
    · refine j_tin hC (pc := 29) dX6_readLine_29 1 (by rw [hs21]; rfl) (by decide) (by decide) (off := 31) (tgt := 60) rfl rfl ?_
      refine j_aload_n hC (pc := 60) dX6_readLine_60 1 rfl rfl ?_
      refine j_callV_E hC hR (ctX6_readPlayers hC.l hC.cn κ5) kc_RX6_75 (Nat.le_of_ble_eq_true rfl) (Nat.le_of_ble_eq_true rfl) lX_138 (Nat.le_of_ble_eq_true rfl) rfl (As := []) (rest := []) rfl rfl (Nat.le_of_ble_eq_true rfl) hm (pc := 61) dX6_readLine_61 (fun t6 => ?_)
      refine j_if_eq hC (pc := 64) dX6_readLine_64 (tgt := 78) rfl ?_ ?_
      · refine j_sub [] (loc' := []) rfl ?_
        exact wX6_readLine_78 hC hR hm F t6.2
      · refine j_aload_n hC (pc := 67) dX6_readLine_67 1 rfl rfl ?_
        refine j_callV_E hC hR (ctX6_readSign hC.l hC.cn t6.2) kc_RX6_78 (Nat.le_of_ble_eq_true rfl) (Nat.le_of_ble_eq_true rfl) lX_138 (Nat.le_of_ble_eq_true rfl) rfl (As := []) (rest := []) rfl rfl (Nat.le_of_ble_eq_true rfl) hm (pc := 68) dX6_readLine_68 (fun t8 => ?_)
        refine j_if_eq hC (pc := 71) dX6_readLine_71 (tgt := 78) rfl ?_ ?_
        · refine j_sub [] (loc' := []) rfl ?_
          exact wX6_readLine_78 hC hR hm F t8.2
        · refine j_iconst hC (pc := 74) dX6_readLine_74 ki_1 ?_
          refine j_goto hC (pc := 75) dX6_readLine_75 (tgt := 79) rfl ?_
          refine j_sub [] (loc' := []) rfl ?_
          exact wX6_readLine_79 hC hR hm F t8.2 1
    refine j_ite (fun hs22 => ?_) (fun hs22 => ?_)
    · refine j_tin hC (pc := 29) dX6_readLine_29 2 (by rw [hs22]; rfl) (by decide) (by decide) (off := 51) (tgt := 80) rfl rfl ?_
      refine j_aload_n hC (pc := 80) dX6_readLine_80 1 rfl rfl ?_
      refine j_callV_E hC hR (ctX6_readHats hC.l hC.cn κ5) kc_RX6_81 (Nat.le_of_ble_eq_true rfl) (Nat.le_of_ble_eq_true rfl) lX_138 (Nat.le_of_ble_eq_true rfl) rfl (As := []) (rest := []) rfl rfl (Nat.le_of_ble_eq_true rfl) hm (pc := 81) dX6_readLine_81 (fun t9 => ?_)
      refine j_if_eq hC (pc := 84) dX6_readLine_84 (tgt := 98) rfl ?_ ?_
      · refine j_sub [] (loc' := []) rfl ?_
        exact wX6_readLine_98 hC hR hm F t9.2
      · refine j_aload_n hC (pc := 87) dX6_readLine_87 1 rfl rfl ?_
        refine j_callV_E hC hR (ctX6_readSign hC.l hC.cn t9.2) kc_RX6_78 (Nat.le_of_ble_eq_true rfl) (Nat.le_of_ble_eq_true rfl) lX_138 (Nat.le_of_ble_eq_true rfl) rfl (As := []) (rest := []) rfl rfl (Nat.le_of_ble_eq_true rfl) hm (pc := 88) dX6_readLine_88 (fun t11 => ?_)
        refine j_if_eq hC (pc := 91) dX6_readLine_91 (tgt := 98) rfl ?_ ?_
        · refine j_sub [] (loc' := []) rfl ?_
          exact wX6_readLine_98 hC hR hm F t11.2
        · refine j_iconst hC (pc := 94) dX6_readLine_94 ki_1 ?_
          refine j_goto hC (pc := 95) dX6_readLine_95 (tgt := 99) rfl ?_
          refine j_sub [] (loc' := []) rfl ?_
          exact wX6_readLine_99 hC hR hm F t11.2 1
    refine j_ite (fun hs23 => ?_) (fun hs23 => ?_)
    · refine j_tin hC (pc := 29) dX6_readLine_29 3 (by rw [hs23]; rfl) (by decide) (by decide) (off := 71) (tgt := 100) rfl rfl ?_
      refine j_aload_n hC (pc := 100) dX6_readLine_100 1 rfl rfl ?_
      refine j_iconst hC (pc := 101) dX6_readLine_101 ki_1 ?_
      refine j_callV_E hC hR (ctX6_readSight hC.l hC.cn κ5 1) kc_RX6_84 (Nat.le_of_ble_eq_true rfl) (Nat.le_of_ble_eq_true rfl) lX_138 (Nat.le_of_ble_eq_true rfl) rfl (As := [.int 1]) (rest := []) rfl rfl (Nat.le_of_ble_eq_true rfl) hm (pc := 102) dX6_readLine_102 (fun t12 => ?_)
      refine j_if_eq hC (pc := 105) dX6_readLine_105 (tgt := 119) rfl ?_ ?_
      · refine j_sub [] (loc' := []) rfl ?_
        exact wX6_readLine_119 hC hR hm F t12.2
      · refine j_aload_n hC (pc := 108) dX6_readLine_108 1 rfl rfl ?_
        refine j_callV_E hC hR (ctX6_readSign hC.l hC.cn t12.2) kc_RX6_78 (Nat.le_of_ble_eq_true rfl) (Nat.le_of_ble_eq_true rfl) lX_138 (Nat.le_of_ble_eq_true rfl) rfl (As := []) (rest := []) rfl rfl (Nat.le_of_ble_eq_true rfl) hm (pc := 109) dX6_readLine_109 (fun t14 => ?_)
        refine j_if_eq hC (pc := 112) dX6_readLine_112 (tgt := 119) rfl ?_ ?_
        · refine j_sub [] (loc' := []) rfl ?_
          exact wX6_readLine_119 hC hR hm F t14.2
        · refine j_iconst hC (pc := 115) dX6_readLine_115 ki_1 ?_
          refine j_goto hC (pc := 116) dX6_readLine_116 (tgt := 120) rfl ?_
          refine j_sub [] (loc' := []) rfl ?_
          exact wX6_readLine_120 hC hR hm F t14.2 1
    refine j_ite (fun hs24 => ?_) (fun hs24 => ?_)
    · refine j_tin hC (pc := 29) dX6_readLine_29 4 (by rw [hs24]; rfl) (by decide) (by decide) (off := 92) (tgt := 121) rfl rfl ?_
      refine j_aload_n hC (pc := 121) dX6_readLine_121 1 rfl rfl ?_
      refine j_iconst hC (pc := 122) dX6_readLine_122 ki_0 ?_
      refine j_callV_E hC hR (ctX6_readSight hC.l hC.cn κ5 0) kc_RX6_84 (Nat.le_of_ble_eq_true rfl) (Nat.le_of_ble_eq_true rfl) lX_138 (Nat.le_of_ble_eq_true rfl) rfl (As := [.int 0]) (rest := []) rfl rfl (Nat.le_of_ble_eq_true rfl) hm (pc := 123) dX6_readLine_123 (fun t15 => ?_)
      refine j_if_eq hC (pc := 126) dX6_readLine_126 (tgt := 140) rfl ?_ ?_
      · refine j_sub [] (loc' := []) rfl ?_
        exact wX6_readLine_140 hC hR hm F t15.2
      · refine j_aload_n hC (pc := 129) dX6_readLine_129 1 rfl rfl ?_
        refine j_callV_E hC hR (ctX6_readSign hC.l hC.cn t15.2) kc_RX6_78 (Nat.le_of_ble_eq_true rfl) (Nat.le_of_ble_eq_true rfl) lX_138 (Nat.le_of_ble_eq_true rfl) rfl (As := []) (rest := []) rfl rfl (Nat.le_of_ble_eq_true rfl) hm (pc := 130) dX6_readLine_130 (fun t17 => ?_)
        refine j_if_eq hC (pc := 133) dX6_readLine_133 (tgt := 140) rfl ?_ ?_
        · refine j_sub [] (loc' := []) rfl ?_
          exact wX6_readLine_140 hC hR hm F t17.2
        · refine j_iconst hC (pc := 136) dX6_readLine_136 ki_1 ?_
          refine j_goto hC (pc := 137) dX6_readLine_137 (tgt := 141) rfl ?_
          refine j_sub [] (loc' := []) rfl ?_
          exact wX6_readLine_141 hC hR hm F t17.2 1
    refine j_tout hC (pc := 29) dX6_readLine_29 ?_ (tgt := 142) rfl ?_
    · have e1 : ¬ Int32.toInt t1 = 1 := fun z => hs21 (Int32.toInt_inj.mp (z.trans ti_1.symm))
      have e2 : ¬ Int32.toInt t1 = 2 := fun z => hs22 (Int32.toInt_inj.mp (z.trans ti_2.symm))
      have e3 : ¬ Int32.toInt t1 = 3 := fun z => hs23 (Int32.toInt_inj.mp (z.trans ti_3.symm))
      have e4 : ¬ Int32.toInt t1 = 4 := fun z => hs24 (Int32.toInt_inj.mp (z.trans ti_4.symm))
      omega
    · refine j_aload_n hC (pc := 142) dX6_readLine_142 1 rfl rfl ?_
      refine j_callV_E hC hR (ctX6_readGuess hC.l hC.cn F κ5) kc_RX6_88 (Nat.le_of_ble_eq_true rfl) (Nat.le_of_ble_eq_true rfl) lX_138 (Nat.le_of_ble_eq_true rfl) rfl (As := []) (rest := []) rfl rfl (Nat.le_of_ble_eq_true rfl) hm (pc := 143) dX6_readLine_143 (fun t18 => ?_)
      refine j_if_eq hC (pc := 146) dX6_readLine_146 (tgt := 160) rfl ?_ ?_
      · refine j_sub [] (loc' := []) rfl ?_
        exact wX6_readLine_160 hC hR hm F t18.2
      · refine j_aload_n hC (pc := 149) dX6_readLine_149 1 rfl rfl ?_
        refine j_callV_E hC hR (ctX6_readSign hC.l hC.cn t18.2) kc_RX6_78 (Nat.le_of_ble_eq_true rfl) (Nat.le_of_ble_eq_true rfl) lX_138 (Nat.le_of_ble_eq_true rfl) rfl (As := []) (rest := []) rfl rfl (Nat.le_of_ble_eq_true rfl) hm (pc := 150) dX6_readLine_150 (fun t20 => ?_)
        refine j_if_eq hC (pc := 153) dX6_readLine_153 (tgt := 160) rfl ?_ ?_
        · refine j_sub [] (loc' := []) rfl ?_
          exact wX6_readLine_160 hC hR hm F t20.2
        · refine j_iconst hC (pc := 156) dX6_readLine_156 ki_1 ?_
          refine j_goto hC (pc := 157) dX6_readLine_157 (tgt := 161) rfl ?_
          refine j_sub [] (loc' := []) rfl ?_
          exact wX6_readLine_161 hC hR hm F t20.2 1
theorem ctX6_readLine {Δ : DCtx} {l : Launch} (hl : dlay Δ = layX) (hN : dN Δ = 147) (F : Nat) (κ : Mem) : ∀ r, pX6_readLine F κ = some r → CT Δ l yX6_readLine cX6_readLine 2 (some .boolean) (rmH 4) [.ref (dad Δ 138)] κ (some (.int r.1)) r.2 :=
  ct_of (nL := 2) (ret := (some .boolean)) (lay := layX) (N := 147) (by decide +kernel) (fun Δ => [.ref (dad Δ 138)]) (fun _ => oE) (fun _ => (Nat.le_of_ble_eq_true rfl)) (fun Γ hR hm hC => wX6_readLine hC hR hm F κ) Δ l hl hN
set_option maxRecDepth 20000 in
theorem wX6_read_84 {Γ : JCtx} (hC : jC Γ cX6_read 4 RX6 (some .boolean) layX 147) (hR : gR Γ = rmH 9) (hm : gcells Γ ≤ (gR Γ).cells ∧ gslots Γ ≤ (gR Γ).slots) (F : Nat) (κ : Mem) : JP Γ (qf Γ oE) (pX6_read_84 F κ) κ 84 [] [] := by
  unfold pX6_read_84
  refine j_iconst hC (pc := 84) dX6_read_84 ki_0 ?_
  exact j_iret hC (pc := 85) dX6_read_85 rfl rfl rfl
set_option maxRecDepth 20000 in
theorem wX6_read_45 {Γ : JCtx} (hC : jC Γ cX6_read 4 RX6 (some .boolean) layX 147) (hR : gR Γ = rmH 9) (hm : gcells Γ ≤ (gR Γ).cells ∧ gslots Γ ≤ (gR Γ).slots) (F : Nat) : ∀ (n : Nat) (κ : Mem) (v2 : Int32) (v3 : Int32), JP Γ (qf Γ oE) (pX6_read_45 F n κ v2 v3) κ 45 [(0, .ref (gad Γ 138)), (2, .int v2), (3, .int v3)] [] := by
  intro n
  induction n with
  | zero =>
    intro κ v2 v3
    rw [pX6_read_45]
    exact j_none
  | succ fu ih =>
    intro κ v2 v3
    rw [pX6_read_45]
    refine j_iload_n hC (pc := 45) dX6_read_45 1 rfl rfl ?_
    refine j_if_eq hC (pc := 46) dX6_read_46 (tgt := 84) rfl ?_ ?_
    · refine j_sub [] (loc' := []) rfl ?_
      exact wX6_read_84 hC hR hm F κ
    · refine j_iload_n hC (pc := 49) dX6_read_49 2 rfl rfl ?_
      refine j_sipush hC (pc := 50) dX6_read_50 ks_600 ?_
      refine j_icmp_gt hC (pc := 53) dX6_read_53 (tgt := 84) rfl ?_ ?_
      · refine j_aload_n hC (pc := 56) dX6_read_56 0 rfl rfl ?_
        refine j_getR hC (pc := 57) dX6_read_57 kf_RX6_46 lX_138 (Nat.le_of_ble_eq_true rfl) rfl ?_
        refine j_getR hC (pc := 60) dX6_read_60 kf_RX6_57 lX_140 (Nat.le_of_ble_eq_true rfl) rfl ?_
        refine j_aload_n hC (pc := 63) dX6_read_63 0 rfl rfl ?_
        refine j_getI hC (pc := 64) dX6_read_64 kf_RX6_25 lX_138 (Nat.le_of_ble_eq_true rfl) rfl ?_
        refine j_iald hC (pc := 67) dX6_read_67 lX_141 (Nat.le_of_ble_eq_true rfl) ?_
        refine j_if_ne hC (pc := 68) dX6_read_68 (tgt := 73) rfl ?_ ?_
        · refine j_iconst hC (pc := 71) dX6_read_71 ki_1 ?_
          exact j_iret hC (pc := 72) dX6_read_72 rfl rfl rfl
        · refine j_aload_n hC (pc := 73) dX6_read_73 0 rfl rfl ?_
          refine j_callV_E hC hR (ctX6_readLine hC.l hC.cn F κ) kc_RX6_60 (Nat.le_of_ble_eq_true rfl) (Nat.le_of_ble_eq_true rfl) lX_138 (Nat.le_of_ble_eq_true rfl) rfl (As := []) (rest := []) rfl rfl (Nat.le_of_ble_eq_true rfl) hm (pc := 74) dX6_read_74 (fun t8 => ?_)
          refine j_istore_n hC (pc := 77) dX6_read_77 rfl (Nat.le_of_ble_eq_true rfl) (loc' := [(2, .int (t8.1)), (0, .ref (gad Γ 138)), (3, .int v3)]) rfl ?_
          refine j_iinc hC (pc := 78) dX6_read_78 2 rfl ki_1 (Nat.le_of_ble_eq_true rfl) (loc' := [(3, .int (v3 + 1)), (2, .int (t8.1)), (0, .ref (gad Γ 138))]) rfl ?_
          refine j_goto hC (pc := 81) dX6_read_81 (tgt := 45) rfl ?_
          refine j_sub [2, 1, 0] (loc' := [(0, .ref (gad Γ 138)), (2, .int (t8.1)), (3, .int (v3 + 1))]) rfl ?_
          exact ih t8.2 t8.1 (v3 + 1)
      · refine j_sub [] (loc' := []) rfl ?_
        exact wX6_read_84 hC hR hm F κ
set_option maxRecDepth 20000 in
theorem wX6_read {Γ : JCtx} (hC : jC Γ cX6_read 4 RX6 (some .boolean) layX 147) (hR : gR Γ = rmH 9) (hm : gcells Γ ≤ (gR Γ).cells ∧ gslots Γ ≤ (gR Γ).slots) (F : Nat) (κ : Mem) (v1 : Int32) : JP Γ (qf Γ oE) (pX6_read F κ v1) κ 0 [(0, .ref (gad Γ 138)), (1, .int v1)] [] := by
  unfold pX6_read
  refine j_aload_n hC (pc := 0) dX6_read_0 0 rfl rfl ?_
  refine j_getR hC (pc := 1) dX6_read_1 kf_RX6_46 lX_138 (Nat.le_of_ble_eq_true rfl) rfl ?_
  refine j_iload_n hC (pc := 4) dX6_read_4 1 rfl rfl ?_
  refine j_callV_V hC hR (ctX8_split hC.l hC.cn F κ v1) kc_RX6_50 (Nat.le_of_ble_eq_true rfl) (Nat.le_of_ble_eq_true rfl) lX_140 (Nat.le_of_ble_eq_true rfl) rfl (As := [.int v1]) (rest := []) rfl rfl (Nat.le_of_ble_eq_true rfl) hm (pc := 5) dX6_read_5 (fun t1 => ?_)
  refine j_aload_n hC (pc := 8) dX6_read_8 0 rfl rfl ?_
  refine j_getR hC (pc := 9) dX6_read_9 kf_RX6_12 lX_138 (Nat.le_of_ble_eq_true rfl) rfl ?_
  refine j_iconst hC (pc := 12) dX6_read_12 ki_0 ?_
  refine j_callV_V hC hR (ctX2_clear hC.l hC.cn 9 isG_9 F t1 0) kc_RX6_54 (Nat.le_of_ble_eq_true rfl) (Nat.le_of_ble_eq_true rfl) lX_9 (Nat.le_of_ble_eq_true rfl) rfl (As := [.int 0]) (rest := []) rfl rfl (Nat.le_of_ble_eq_true rfl) hm (pc := 13) dX6_read_13 (fun t2 => ?_)
  refine j_aload_n hC (pc := 16) dX6_read_16 0 rfl rfl ?_
  refine j_iconst hC (pc := 17) dX6_read_17 ki_0 ?_
  refine j_putI hC (pc := 18) dX6_read_18 kp_RX6_18 lX_138 (Nat.le_of_ble_eq_true rfl) rfl rfl rfl (fun κ3 => ?_)
  refine j_aload_n hC (pc := 21) dX6_read_21 0 rfl rfl ?_
  refine j_iconst hC (pc := 22) dX6_read_22 ki_m1 ?_
  refine j_putI hC (pc := 23) dX6_read_23 kp_RX6_22 lX_138 (Nat.le_of_ble_eq_true rfl) rfl rfl rfl (fun κ4 => ?_)
  refine j_aload_n hC (pc := 26) dX6_read_26 0 rfl rfl ?_
  refine j_iconst hC (pc := 27) dX6_read_27 ki_0 ?_
  refine j_putI hC (pc := 28) dX6_read_28 kp_RX6_25 lX_138 (Nat.le_of_ble_eq_true rfl) rfl rfl rfl (fun κ5 => ?_)
  refine j_aload_n hC (pc := 31) dX6_read_31 0 rfl rfl ?_
  refine j_iconst hC (pc := 32) dX6_read_32 ki_0 ?_
  refine j_putI hC (pc := 33) dX6_read_33 kp_RX6_35 lX_138 (Nat.le_of_ble_eq_true rfl) rfl rfl rfl (fun κ6 => ?_)
  refine j_aload_n hC (pc := 36) dX6_read_36 0 rfl rfl ?_
  refine j_iconst hC (pc := 37) dX6_read_37 ki_0 ?_
  refine j_putI hC (pc := 38) dX6_read_38 kp_RX6_38 lX_138 (Nat.le_of_ble_eq_true rfl) rfl rfl rfl (fun κ7 => ?_)
  refine j_iconst hC (pc := 41) dX6_read_41 ki_1 ?_
  refine j_istore_n hC (pc := 42) dX6_read_42 rfl (Nat.le_of_ble_eq_true rfl) (loc' := [(2, .int 1), (0, .ref (gad Γ 138)), (1, .int v1)]) rfl ?_
  refine j_iconst hC (pc := 43) dX6_read_43 ki_0 ?_
  refine j_istore_n hC (pc := 44) dX6_read_44 rfl (Nat.le_of_ble_eq_true rfl) (loc' := [(3, .int 0), (2, .int 1), (0, .ref (gad Γ 138)), (1, .int v1)]) rfl ?_
  refine j_sub [2, 1, 0] (loc' := [(0, .ref (gad Γ 138)), (2, .int 1), (3, .int 0)]) rfl ?_
  exact wX6_read_45 hC hR hm F F κ7 1 0
theorem ctX6_read {Δ : DCtx} {l : Launch} (hl : dlay Δ = layX) (hN : dN Δ = 147) (F : Nat) (κ : Mem) (v1 : Int32) : ∀ r, pX6_read F κ v1 = some r → CT Δ l yX6_read cX6_read 4 (some .boolean) (rmH 9) [.ref (dad Δ 138), .int v1] κ (some (.int r.1)) r.2 :=
  ct_of (nL := 4) (ret := (some .boolean)) (lay := layX) (N := 147) (by decide +kernel) (fun Δ => [.ref (dad Δ 138), .int v1]) (fun _ => oE) (fun _ => (Nat.le_of_ble_eq_true rfl)) (fun Γ hR hm hC => wX6_read hC hR hm F κ v1) Δ l hl hN
set_option maxRecDepth 20000 in
theorem wX5_addByte_21 {Γ : JCtx} (hC : jC Γ cX5_addByte 2 RX5 none layX 147) (hR : gR Γ = rmH 0) (hm : gcells Γ ≤ (gR Γ).cells ∧ gslots Γ ≤ (gR Γ).slots) (κ : Mem) : JP Γ (qf Γ oV) (pX5_addByte_21 κ) κ 21 [(0, .ref (gad Γ 144))] [] := by
  unfold pX5_addByte_21
  refine j_aload_n hC (pc := 21) dX5_addByte_21 0 rfl rfl ?_
  refine j_dup hC (pc := 22) dX5_addByte_22 rfl ?_
  refine j_getI hC (pc := 23) dX5_addByte_23 kf_RX5_22 lX_144 (Nat.le_of_ble_eq_true rfl) rfl ?_
  refine j_iconst hC (pc := 26) dX5_addByte_26 ki_1 ?_
  refine j_iadd hC (pc := 27) dX5_addByte_27 ?_
  refine j_putI hC (pc := 28) dX5_addByte_28 kp_RX5_22 lX_144 (Nat.le_of_ble_eq_true rfl) rfl rfl rfl (fun κ3 => ?_)
  exact j_vret hC (pc := 31) dX5_addByte_31 rfl rfl
set_option maxRecDepth 20000 in
theorem wX5_addByte {Γ : JCtx} (hC : jC Γ cX5_addByte 2 RX5 none layX 147) (hR : gR Γ = rmH 0) (hm : gcells Γ ≤ (gR Γ).cells ∧ gslots Γ ≤ (gR Γ).slots) (κ : Mem) (v1 : Int32) : JP Γ (qf Γ oV) (pX5_addByte κ v1) κ 0 [(0, .ref (gad Γ 144)), (1, .int v1)] [] := by
  unfold pX5_addByte
  refine j_aload_n hC (pc := 0) dX5_addByte_0 0 rfl rfl ?_
  refine j_getI hC (pc := 1) dX5_addByte_1 kf_RX5_22 lX_144 (Nat.le_of_ble_eq_true rfl) rfl ?_
  refine j_sipush hC (pc := 4) dX5_addByte_4 ks_600 ?_
  refine j_icmp_ge hC (pc := 7) dX5_addByte_7 (tgt := 21) rfl ?_ ?_
  · refine j_aload_n hC (pc := 10) dX5_addByte_10 0 rfl rfl ?_
    refine j_getD hC (pc := 11) dX5_addByte_11 kf_RX5_19 lX_144 (Nat.le_of_ble_eq_true rfl) rfl ?_
    refine j_ckP (fun hq1 => ?_)
    refine j_aload_n hC (pc := 14) dX5_addByte_14 0 rfl rfl ?_
    refine j_getI hC (pc := 15) dX5_addByte_15 kf_RX5_22 lX_144 (Nat.le_of_ble_eq_true rfl) rfl ?_
    refine j_iload_n hC (pc := 18) dX5_addByte_18 1 rfl rfl ?_
    refine j_i2b hC (pc := 19) dX5_addByte_19 ?_
    refine j_bast hC (pc := 20) dX5_addByte_20 (isPB_1 hq1) (isPB_2 hq1) (fun κ2 => ?_)
    refine j_sub [0] (loc' := [(0, .ref (gad Γ 144))]) rfl ?_
    exact wX5_addByte_21 hC hR hm κ2
  · refine j_sub [0] (loc' := [(0, .ref (gad Γ 144))]) rfl ?_
    exact wX5_addByte_21 hC hR hm κ
theorem ctX5_addByte {Δ : DCtx} {l : Launch} (hl : dlay Δ = layX) (hN : dN Δ = 147) (κ : Mem) (v1 : Int32) : ∀ r, pX5_addByte κ v1 = some r → CT Δ l yX5_addByte cX5_addByte 2 none (rmH 0) [.ref (dad Δ 144), .int v1] κ none r :=
  ct_of (nL := 2) (ret := none) (lay := layX) (N := 147) (by decide +kernel) (fun Δ => [.ref (dad Δ 144), .int v1]) (fun _ => oV) (fun _ => (Nat.le_of_ble_eq_true rfl)) (fun Γ hR hm hC => wX5_addByte hC hR hm κ v1) Δ l hl hN
set_option maxRecDepth 20000 in
theorem wX5_addWord_2 {Γ : JCtx} (hC : jC Γ cX5_addWord 3 RX5 none layX 147) (hR : gR Γ = rmH 4) (hm : gcells Γ ≤ (gR Γ).cells ∧ gslots Γ ≤ (gR Γ).slots) (z1 : Nat) (hz1 : z1 < nJS) (F : Nat) : ∀ (n : Nat) (κ : Mem) (v2 : Int32), JP Γ (qf Γ oV) (pX5_addWord_2 F z1 n κ v2) κ 2 [(0, .ref (gad Γ 144)), (1, .ref (dadK (gΔ Γ) z1)), (2, .int v2)] [] := by
  intro n
  induction n with
  | zero =>
    intro κ v2
    rw [pX5_addWord_2]
    exact j_none
  | succ fu ih =>
    intro κ v2
    rw [pX5_addWord_2]
    refine j_iload_n hC (pc := 2) dX5_addWord_2 2 rfl rfl ?_
    refine j_aload_n hC (pc := 3) dX5_addWord_3 1 rfl rfl ?_
    refine j_callT_I hC hR (ctJ0_length_8abf5 hC.l hC.cn z1 hz1 κ) kc_RX5_76 (Nat.le_of_ble_eq_true rfl) (Nat.le_of_ble_eq_true rfl) (i := z1) hz1 (As := []) (rest := [.int v2]) rfl rfl (Nat.le_of_ble_eq_true rfl) hm (pc := 4) dX5_addWord_4 (fun t1 => ?_)
    refine j_icmp_ge hC (pc := 7) dX5_addWord_7 (tgt := 25) rfl ?_ ?_
    · refine j_aload_n hC (pc := 10) dX5_addWord_10 0 rfl rfl ?_
      refine j_aload_n hC (pc := 11) dX5_addWord_11 1 rfl rfl ?_
      refine j_iload_n hC (pc := 12) dX5_addWord_12 2 rfl rfl ?_
      refine j_callT_I hC hR (ctJ0_charAt_5068e hC.l hC.cn z1 hz1 κ v2) kc_RX5_81 (Nat.le_of_ble_eq_true rfl) (Nat.le_of_ble_eq_true rfl) (i := z1) hz1 (As := [.int v2]) (rest := [.ref (gad Γ 144)]) rfl rfl (Nat.le_of_ble_eq_true rfl) hm (pc := 13) dX5_addWord_13 (fun t2 => ?_)
      refine j_callV_V hC hR (ctX5_addByte hC.l hC.cn κ t2) kc_RX5_39 (Nat.le_of_ble_eq_true rfl) (Nat.le_of_ble_eq_true rfl) lX_144 (Nat.le_of_ble_eq_true rfl) rfl (As := [.int t2]) (rest := []) rfl rfl (Nat.le_of_ble_eq_true rfl) hm (pc := 16) dX5_addWord_16 (fun t3 => ?_)
      refine j_iinc hC (pc := 19) dX5_addWord_19 2 rfl ki_1 (Nat.le_of_ble_eq_true rfl) (loc' := [(2, .int (v2 + 1)), (0, .ref (gad Γ 144)), (1, .ref (dadK (gΔ Γ) z1))]) rfl ?_
      refine j_goto hC (pc := 22) dX5_addWord_22 (tgt := 2) rfl ?_
      refine j_sub [1, 2, 0] (loc' := [(0, .ref (gad Γ 144)), (1, .ref (dadK (gΔ Γ) z1)), (2, .int (v2 + 1))]) rfl ?_
      exact ih t3 (v2 + 1)
    · exact j_vret hC (pc := 25) dX5_addWord_25 rfl rfl
set_option maxRecDepth 20000 in
theorem wX5_addWord {Γ : JCtx} (hC : jC Γ cX5_addWord 3 RX5 none layX 147) (hR : gR Γ = rmH 4) (hm : gcells Γ ≤ (gR Γ).cells ∧ gslots Γ ≤ (gR Γ).slots) (z1 : Nat) (hz1 : z1 < nJS) (F : Nat) (κ : Mem) : JP Γ (qf Γ oV) (pX5_addWord F z1 κ) κ 0 [(0, .ref (gad Γ 144)), (1, .ref (dadK (gΔ Γ) z1))] [] := by
  unfold pX5_addWord
  refine j_iconst hC (pc := 0) dX5_addWord_0 ki_0 ?_
  refine j_istore_n hC (pc := 1) dX5_addWord_1 rfl (Nat.le_of_ble_eq_true rfl) (loc' := [(2, .int 0), (0, .ref (gad Γ 144)), (1, .ref (dadK (gΔ Γ) z1))]) rfl ?_
  refine j_sub [1, 2, 0] (loc' := [(0, .ref (gad Γ 144)), (1, .ref (dadK (gΔ Γ) z1)), (2, .int 0)]) rfl ?_
  exact wX5_addWord_2 hC hR hm z1 hz1 F F κ 0
theorem ctX5_addWord {Δ : DCtx} {l : Launch} (hl : dlay Δ = layX) (hN : dN Δ = 147) (z1 : Nat) (hz1 : z1 < nJS) (F : Nat) (κ : Mem) : ∀ r, pX5_addWord F z1 κ = some r → CT Δ l yX5_addWord cX5_addWord 3 none (rmH 4) [.ref (dad Δ 144), .ref (dadK (Δ) z1)] κ none r :=
  ct_of (nL := 3) (ret := none) (lay := layX) (N := 147) (by decide +kernel) (fun Δ => [.ref (dad Δ 144), .ref (dadK (Δ) z1)]) (fun _ => oV) (fun _ => (Nat.le_of_ble_eq_true rfl)) (fun Γ hR hm hC => wX5_addWord hC hR hm z1 hz1 F κ) Δ l hl hN
set_option maxRecDepth 20000 in
theorem wX5_addNumber {Γ : JCtx} (hC : jC Γ cX5_addNumber 2 RX5 none layX 147) (hR : gR Γ = rmH 1) (hm : gcells Γ ≤ (gR Γ).cells ∧ gslots Γ ≤ (gR Γ).slots) (κ : Mem) (v1 : Int32) : JP Γ (qf Γ oV) (pX5_addNumber κ v1) κ 0 [(0, .ref (gad Γ 144)), (1, .int v1)] [] := by
  unfold pX5_addNumber
  refine j_aload_n hC (pc := 0) dX5_addNumber_0 0 rfl rfl ?_
  refine j_bipush hC (pc := 1) dX5_addNumber_1 kb_32 ?_
  refine j_callV_V hC hR (ctX5_addByte hC.l hC.cn κ 32) kc_RX5_39 (Nat.le_of_ble_eq_true rfl) (Nat.le_of_ble_eq_true rfl) lX_144 (Nat.le_of_ble_eq_true rfl) rfl (As := [.int 32]) (rest := []) rfl rfl (Nat.le_of_ble_eq_true rfl) hm (pc := 3) dX5_addNumber_3 (fun t1 => ?_)
  refine j_aload_n hC (pc := 6) dX5_addNumber_6 0 rfl rfl ?_
  refine j_bipush hC (pc := 7) dX5_addNumber_7 kb_48 ?_
  refine j_iload_n hC (pc := 9) dX5_addNumber_9 1 rfl rfl ?_
  refine j_iadd hC (pc := 10) dX5_addNumber_10 ?_
  refine j_i2c hC (pc := 11) dX5_addNumber_11 ?_
  refine j_callV_V hC hR (ctX5_addByte hC.l hC.cn t1 (((48 + v1).toUInt32 % 65536).toInt32)) kc_RX5_39 (Nat.le_of_ble_eq_true rfl) (Nat.le_of_ble_eq_true rfl) lX_144 (Nat.le_of_ble_eq_true rfl) rfl (As := [.int (((48 + v1).toUInt32 % 65536).toInt32)]) (rest := []) rfl rfl (Nat.le_of_ble_eq_true rfl) hm (pc := 12) dX5_addNumber_12 (fun t2 => ?_)
  exact j_vret hC (pc := 15) dX5_addNumber_15 rfl rfl
theorem ctX5_addNumber {Δ : DCtx} {l : Launch} (hl : dlay Δ = layX) (hN : dN Δ = 147) (κ : Mem) (v1 : Int32) : ∀ r, pX5_addNumber κ v1 = some r → CT Δ l yX5_addNumber cX5_addNumber 2 none (rmH 1) [.ref (dad Δ 144), .int v1] κ none r :=
  ct_of (nL := 2) (ret := none) (lay := layX) (N := 147) (by decide +kernel) (fun Δ => [.ref (dad Δ 144), .int v1]) (fun _ => oV) (fun _ => (Nat.le_of_ble_eq_true rfl)) (fun Γ hR hm hC => wX5_addNumber hC hR hm κ v1) Δ l hl hN
set_option maxRecDepth 20000 in
theorem wX5_addHats_2 {Γ : JCtx} (hC : jC Γ cX5_addHats 3 RX5 none layX 147) (hR : gR Γ = rmH 5) (hm : gcells Γ ≤ (gR Γ).cells ∧ gslots Γ ≤ (gR Γ).slots) (g1 : Nat) (hg1 : isG g1) (F : Nat) : ∀ (n : Nat) (κ : Mem) (v2 : Int32), JP Γ (qf Γ oV) (pX5_addHats_2 F g1 n κ v2) κ 2 [(0, .ref (gad Γ 144)), (1, .ref (gad Γ g1)), (2, .int v2)] [] := by
  intro n
  induction n with
  | zero =>
    intro κ v2
    rw [pX5_addHats_2]
    exact j_none
  | succ fu ih =>
    intro κ v2
    rw [pX5_addHats_2]
    refine j_iload_n hC (pc := 2) dX5_addHats_2 2 rfl rfl ?_
    refine j_aload_n hC (pc := 3) dX5_addHats_3 1 rfl rfl ?_
    refine j_getI hC (pc := 4) dX5_addHats_4 kf_RX5_25 (isG_o hg1) (isG_N hg1) rfl ?_
    refine j_icmp_ge hC (pc := 7) dX5_addHats_7 (tgt := 43) rfl ?_ ?_
    · refine j_aload_n hC (pc := 10) dX5_addHats_10 0 rfl rfl ?_
      refine j_ldcS hC (pc := 11) dX5_addHats_11 (x := 11) (tx := "hats") rfl ?_
      refine j_callV_V hC hR (ctX5_addWord hC.l hC.cn 11 (Nat.le_of_ble_eq_true rfl) F κ) kc_RX5_31 (Nat.le_of_ble_eq_true rfl) (Nat.le_of_ble_eq_true rfl) lX_144 (Nat.le_of_ble_eq_true rfl) rfl (As := [.ref (dadK (gΔ Γ) 11)]) (rest := []) rfl rfl (Nat.le_of_ble_eq_true rfl) hm (pc := 13) dX5_addHats_13 (fun t1 => ?_)
      refine j_aload_n hC (pc := 16) dX5_addHats_16 0 rfl rfl ?_
      refine j_iload_n hC (pc := 17) dX5_addHats_17 2 rfl rfl ?_
      refine j_callV_V hC hR (ctX5_addNumber hC.l hC.cn t1 v2) kc_RX5_35 (Nat.le_of_ble_eq_true rfl) (Nat.le_of_ble_eq_true rfl) lX_144 (Nat.le_of_ble_eq_true rfl) rfl (As := [.int v2]) (rest := []) rfl rfl (Nat.le_of_ble_eq_true rfl) hm (pc := 18) dX5_addHats_18 (fun t2 => ?_)
      refine j_aload_n hC (pc := 21) dX5_addHats_21 0 rfl rfl ?_
      refine j_aload_n hC (pc := 22) dX5_addHats_22 1 rfl rfl ?_
      refine j_getR hC (pc := 23) dX5_addHats_23 kf_RX5_55 (isG_o hg1) (isG_N hg1) rfl ?_
      refine j_iload_n hC (pc := 26) dX5_addHats_26 2 rfl rfl ?_
      refine j_iald hC (pc := 27) dX5_addHats_27 (isG_1' hg1) (isG_N1 hg1) ?_
      refine j_callV_V hC hR (ctX5_addNumber hC.l hC.cn t2 (mi t2 (g1 + 1) v2.toNatClampNeg)) kc_RX5_35 (Nat.le_of_ble_eq_true rfl) (Nat.le_of_ble_eq_true rfl) lX_144 (Nat.le_of_ble_eq_true rfl) rfl (As := [.int (mi t2 (g1 + 1) v2.toNatClampNeg)]) (rest := []) rfl rfl (Nat.le_of_ble_eq_true rfl) hm (pc := 28) dX5_addHats_28 (fun t3 => ?_)
      refine j_aload_n hC (pc := 31) dX5_addHats_31 0 rfl rfl ?_
      refine j_bipush hC (pc := 32) dX5_addHats_32 kb_59 ?_
      refine j_callV_V hC hR (ctX5_addByte hC.l hC.cn t3 59) kc_RX5_39 (Nat.le_of_ble_eq_true rfl) (Nat.le_of_ble_eq_true rfl) lX_144 (Nat.le_of_ble_eq_true rfl) rfl (As := [.int 59]) (rest := []) rfl rfl (Nat.le_of_ble_eq_true rfl) hm (pc := 34) dX5_addHats_34 (fun t4 => ?_)
      refine j_iinc hC (pc := 37) dX5_addHats_37 2 rfl ki_1 (Nat.le_of_ble_eq_true rfl) (loc' := [(2, .int (v2 + 1)), (0, .ref (gad Γ 144)), (1, .ref (gad Γ g1))]) rfl ?_
      refine j_goto hC (pc := 40) dX5_addHats_40 (tgt := 2) rfl ?_
      refine j_sub [1, 2, 0] (loc' := [(0, .ref (gad Γ 144)), (1, .ref (gad Γ g1)), (2, .int (v2 + 1))]) rfl ?_
      exact ih t4 (v2 + 1)
    · exact j_vret hC (pc := 43) dX5_addHats_43 rfl rfl
set_option maxRecDepth 20000 in
theorem wX5_addHats {Γ : JCtx} (hC : jC Γ cX5_addHats 3 RX5 none layX 147) (hR : gR Γ = rmH 5) (hm : gcells Γ ≤ (gR Γ).cells ∧ gslots Γ ≤ (gR Γ).slots) (g1 : Nat) (hg1 : isG g1) (F : Nat) (κ : Mem) : JP Γ (qf Γ oV) (pX5_addHats F g1 κ) κ 0 [(0, .ref (gad Γ 144)), (1, .ref (gad Γ g1))] [] := by
  unfold pX5_addHats
  refine j_iconst hC (pc := 0) dX5_addHats_0 ki_0 ?_
  refine j_istore_n hC (pc := 1) dX5_addHats_1 rfl (Nat.le_of_ble_eq_true rfl) (loc' := [(2, .int 0), (0, .ref (gad Γ 144)), (1, .ref (gad Γ g1))]) rfl ?_
  refine j_sub [1, 2, 0] (loc' := [(0, .ref (gad Γ 144)), (1, .ref (gad Γ g1)), (2, .int 0)]) rfl ?_
  exact wX5_addHats_2 hC hR hm g1 hg1 F F κ 0
theorem ctX5_addHats {Δ : DCtx} {l : Launch} (hl : dlay Δ = layX) (hN : dN Δ = 147) (g1 : Nat) (hg1 : isG g1) (F : Nat) (κ : Mem) : ∀ r, pX5_addHats F g1 κ = some r → CT Δ l yX5_addHats cX5_addHats 3 none (rmH 5) [.ref (dad Δ 144), .ref (dad Δ g1)] κ none r :=
  ct_of (nL := 3) (ret := none) (lay := layX) (N := 147) (by decide +kernel) (fun Δ => [.ref (dad Δ 144), .ref (dad Δ g1)]) (fun _ => oV) (fun _ => (Nat.le_of_ble_eq_true rfl)) (fun Γ hR hm hC => wX5_addHats hC hR hm g1 hg1 F κ) Δ l hl hN
set_option maxRecDepth 20000 in
theorem wX5_addSights_51 {Γ : JCtx} (hC : jC Γ cX5_addSights 4 RX5 none layX 147) (hR : gR Γ = rmH 5) (hm : gcells Γ ≤ (gR Γ).cells ∧ gslots Γ ≤ (gR Γ).slots) (g1 : Nat) (hg1 : isG g1) (F : Nat) (κ : Mem) (v2 : Int32) (v3 : Int32) (k12 : Mem → Int32 → Option Mem) (hk12 : ∀ (κ : Mem) (v3 : Int32), JP Γ (qf Γ oV) (k12 κ v3) κ 12 [(0, .ref (gad Γ 144)), (1, .ref (gad Γ g1)), (2, .int v2), (3, .int v3)] []) : JP Γ (qf Γ oV) (pX5_addSights_51 F g1 k12 κ v2 v3) κ 51 [(0, .ref (gad Γ 144)), (1, .ref (gad Γ g1)), (2, .int v2), (3, .int v3)] [] := by
  unfold pX5_addSights_51
  refine j_iinc hC (pc := 51) dX5_addSights_51 3 rfl ki_1 (Nat.le_of_ble_eq_true rfl) (loc' := [(3, .int (v3 + 1)), (0, .ref (gad Γ 144)), (1, .ref (gad Γ g1)), (2, .int v2)]) rfl ?_
  refine j_goto hC (pc := 54) dX5_addSights_54 (tgt := 12) rfl ?_
  refine j_sub [1, 2, 3, 0] (loc' := [(0, .ref (gad Γ 144)), (1, .ref (gad Γ g1)), (2, .int v2), (3, .int (v3 + 1))]) rfl ?_
  exact hk12 κ (v3 + 1)
set_option maxRecDepth 20000 in
theorem wX5_addSights_12 {Γ : JCtx} (hC : jC Γ cX5_addSights 4 RX5 none layX 147) (hR : gR Γ = rmH 5) (hm : gcells Γ ≤ (gR Γ).cells ∧ gslots Γ ≤ (gR Γ).slots) (g1 : Nat) (hg1 : isG g1) (F : Nat) (v2 : Int32) (k2 : Mem → Int32 → Option Mem) (hk2 : ∀ (κ : Mem) (v2 : Int32), JP Γ (qf Γ oV) (k2 κ v2) κ 2 [(0, .ref (gad Γ 144)), (1, .ref (gad Γ g1)), (2, .int v2)] []) : ∀ (n : Nat) (κ : Mem) (v3 : Int32), JP Γ (qf Γ oV) (pX5_addSights_12 F g1 k2 v2 n κ v3) κ 12 [(0, .ref (gad Γ 144)), (1, .ref (gad Γ g1)), (2, .int v2), (3, .int v3)] [] := by
  intro n
  induction n with
  | zero =>
    intro κ v3
    rw [pX5_addSights_12]
    exact j_none
  | succ fu ih =>
    intro κ v3
    rw [pX5_addSights_12]
    refine j_iload_n hC (pc := 12) dX5_addSights_12 3 rfl rfl ?_
    refine j_aload_n hC (pc := 13) dX5_addSights_13 1 rfl rfl ?_
    refine j_getI hC (pc := 14) dX5_addSights_14 kf_RX5_25 (isG_o hg1) (isG_N hg1) rfl ?_
    refine j_icmp_ge hC (pc := 17) dX5_addSights_17 (tgt := 57) rfl ?_ ?_
    · refine j_aload_n hC (pc := 20) dX5_addSights_20 1 rfl rfl ?_
      refine j_iload_n hC (pc := 21) dX5_addSights_21 2 rfl rfl ?_
      refine j_iload_n hC (pc := 22) dX5_addSights_22 3 rfl rfl ?_
      refine j_callV_I hC hR (ctX2_watches hC.l hC.cn g1 hg1 κ v2 v3) kc_RX5_58 (Nat.le_of_ble_eq_true rfl) (Nat.le_of_ble_eq_true rfl) (isG_o hg1) (isG_N hg1) rfl (As := [.int v2, .int v3]) (rest := []) rfl rfl (Nat.le_of_ble_eq_true rfl) hm (pc := 23) dX5_addSights_23 (fun t1 => ?_)
      refine j_if_eq hC (pc := 26) dX5_addSights_26 (tgt := 51) rfl ?_ ?_
      · exact wX5_addSights_51 hC hR hm g1 hg1 F κ v2 v3 (pX5_addSights_12 F g1 k2 v2 fu) ih
      · refine j_aload_n hC (pc := 29) dX5_addSights_29 0 rfl rfl ?_
        refine j_ldcS hC (pc := 30) dX5_addSights_30 (x := 12) (tx := "sees") rfl ?_
        refine j_callV_V hC hR (ctX5_addWord hC.l hC.cn 12 (Nat.le_of_ble_eq_true rfl) F κ) kc_RX5_31 (Nat.le_of_ble_eq_true rfl) (Nat.le_of_ble_eq_true rfl) lX_144 (Nat.le_of_ble_eq_true rfl) rfl (As := [.ref (dadK (gΔ Γ) 12)]) (rest := []) rfl rfl (Nat.le_of_ble_eq_true rfl) hm (pc := 32) dX5_addSights_32 (fun t2 => ?_)
        refine j_aload_n hC (pc := 35) dX5_addSights_35 0 rfl rfl ?_
        refine j_iload_n hC (pc := 36) dX5_addSights_36 2 rfl rfl ?_
        refine j_callV_V hC hR (ctX5_addNumber hC.l hC.cn t2 v2) kc_RX5_35 (Nat.le_of_ble_eq_true rfl) (Nat.le_of_ble_eq_true rfl) lX_144 (Nat.le_of_ble_eq_true rfl) rfl (As := [.int v2]) (rest := []) rfl rfl (Nat.le_of_ble_eq_true rfl) hm (pc := 37) dX5_addSights_37 (fun t3 => ?_)
        refine j_aload_n hC (pc := 40) dX5_addSights_40 0 rfl rfl ?_
        refine j_iload_n hC (pc := 41) dX5_addSights_41 3 rfl rfl ?_
        refine j_callV_V hC hR (ctX5_addNumber hC.l hC.cn t3 v3) kc_RX5_35 (Nat.le_of_ble_eq_true rfl) (Nat.le_of_ble_eq_true rfl) lX_144 (Nat.le_of_ble_eq_true rfl) rfl (As := [.int v3]) (rest := []) rfl rfl (Nat.le_of_ble_eq_true rfl) hm (pc := 42) dX5_addSights_42 (fun t4 => ?_)
        refine j_aload_n hC (pc := 45) dX5_addSights_45 0 rfl rfl ?_
        refine j_bipush hC (pc := 46) dX5_addSights_46 kb_59 ?_
        refine j_callV_V hC hR (ctX5_addByte hC.l hC.cn t4 59) kc_RX5_39 (Nat.le_of_ble_eq_true rfl) (Nat.le_of_ble_eq_true rfl) lX_144 (Nat.le_of_ble_eq_true rfl) rfl (As := [.int 59]) (rest := []) rfl rfl (Nat.le_of_ble_eq_true rfl) hm (pc := 48) dX5_addSights_48 (fun t5 => ?_)
        exact wX5_addSights_51 hC hR hm g1 hg1 F t5 v2 v3 (pX5_addSights_12 F g1 k2 v2 fu) ih
    · refine j_iinc hC (pc := 57) dX5_addSights_57 2 rfl ki_1 (Nat.le_of_ble_eq_true rfl) (loc' := [(2, .int (v2 + 1)), (0, .ref (gad Γ 144)), (1, .ref (gad Γ g1)), (3, .int v3)]) rfl ?_
      refine j_goto hC (pc := 60) dX5_addSights_60 (tgt := 2) rfl ?_
      refine j_sub [1, 2, 0] (loc' := [(0, .ref (gad Γ 144)), (1, .ref (gad Γ g1)), (2, .int (v2 + 1))]) rfl ?_
      exact hk2 κ (v2 + 1)
set_option maxRecDepth 20000 in
theorem wX5_addSights_2 {Γ : JCtx} (hC : jC Γ cX5_addSights 4 RX5 none layX 147) (hR : gR Γ = rmH 5) (hm : gcells Γ ≤ (gR Γ).cells ∧ gslots Γ ≤ (gR Γ).slots) (g1 : Nat) (hg1 : isG g1) (F : Nat) : ∀ (n : Nat) (κ : Mem) (v2 : Int32), JP Γ (qf Γ oV) (pX5_addSights_2 F g1 n κ v2) κ 2 [(0, .ref (gad Γ 144)), (1, .ref (gad Γ g1)), (2, .int v2)] [] := by
  intro n
  induction n with
  | zero =>
    intro κ v2
    rw [pX5_addSights_2]
    exact j_none
  | succ fu ih =>
    intro κ v2
    rw [pX5_addSights_2]
    refine j_iload_n hC (pc := 2) dX5_addSights_2 2 rfl rfl ?_
    refine j_aload_n hC (pc := 3) dX5_addSights_3 1 rfl rfl ?_
    refine j_getI hC (pc := 4) dX5_addSights_4 kf_RX5_25 (isG_o hg1) (isG_N hg1) rfl ?_
    refine j_icmp_ge hC (pc := 7) dX5_addSights_7 (tgt := 63) rfl ?_ ?_
    · refine j_iconst hC (pc := 10) dX5_addSights_10 ki_0 ?_
      refine j_istore_n hC (pc := 11) dX5_addSights_11 rfl (Nat.le_of_ble_eq_true rfl) (loc' := [(3, .int 0), (0, .ref (gad Γ 144)), (1, .ref (gad Γ g1)), (2, .int v2)]) rfl ?_
      refine j_sub [1, 2, 3, 0] (loc' := [(0, .ref (gad Γ 144)), (1, .ref (gad Γ g1)), (2, .int v2), (3, .int 0)]) rfl ?_
      exact wX5_addSights_12 hC hR hm g1 hg1 F v2 (pX5_addSights_2 F g1 fu) ih F κ 0
    · exact j_vret hC (pc := 63) dX5_addSights_63 rfl rfl
set_option maxRecDepth 20000 in
theorem wX5_addSights {Γ : JCtx} (hC : jC Γ cX5_addSights 4 RX5 none layX 147) (hR : gR Γ = rmH 5) (hm : gcells Γ ≤ (gR Γ).cells ∧ gslots Γ ≤ (gR Γ).slots) (g1 : Nat) (hg1 : isG g1) (F : Nat) (κ : Mem) : JP Γ (qf Γ oV) (pX5_addSights F g1 κ) κ 0 [(0, .ref (gad Γ 144)), (1, .ref (gad Γ g1))] [] := by
  unfold pX5_addSights
  refine j_iconst hC (pc := 0) dX5_addSights_0 ki_0 ?_
  refine j_istore_n hC (pc := 1) dX5_addSights_1 rfl (Nat.le_of_ble_eq_true rfl) (loc' := [(2, .int 0), (0, .ref (gad Γ 144)), (1, .ref (gad Γ g1))]) rfl ?_
  refine j_sub [1, 2, 0] (loc' := [(0, .ref (gad Γ 144)), (1, .ref (gad Γ g1)), (2, .int 0)]) rfl ?_
  exact wX5_addSights_2 hC hR hm g1 hg1 F F κ 0
theorem ctX5_addSights {Δ : DCtx} {l : Launch} (hl : dlay Δ = layX) (hN : dN Δ = 147) (g1 : Nat) (hg1 : isG g1) (F : Nat) (κ : Mem) : ∀ r, pX5_addSights F g1 κ = some r → CT Δ l yX5_addSights cX5_addSights 4 none (rmH 5) [.ref (dad Δ 144), .ref (dad Δ g1)] κ none r :=
  ct_of (nL := 4) (ret := none) (lay := layX) (N := 147) (by decide +kernel) (fun Δ => [.ref (dad Δ 144), .ref (dad Δ g1)]) (fun _ => oV) (fun _ => (Nat.le_of_ble_eq_true rfl)) (fun Γ hR hm hC => wX5_addSights hC hR hm g1 hg1 F κ) Δ l hl hN
set_option maxRecDepth 20000 in
theorem wX5_addTables_42 {Γ : JCtx} (hC : jC Γ cX5_addTables 5 RX5 none layX 147) (hR : gR Γ = rmH 5) (hm : gcells Γ ≤ (gR Γ).cells ∧ gslots Γ ≤ (gR Γ).slots) (g1 : Nat) (hg1 : isG g1) (F : Nat) (v2 : Int32) (v3 : Int32) (k2 : Mem → Int32 → Option Mem) (hk2 : ∀ (κ : Mem) (v2 : Int32), JP Γ (qf Γ oV) (k2 κ v2) κ 2 [(0, .ref (gad Γ 144)), (1, .ref (gad Γ g1)), (2, .int v2)] []) : ∀ (n : Nat) (κ : Mem) (v4 : Int32), JP Γ (qf Γ oV) (pX5_addTables_42 F g1 k2 v2 v3 n κ v4) κ 42 [(0, .ref (gad Γ 144)), (1, .ref (gad Γ g1)), (2, .int v2), (3, .int v3), (4, .int v4)] [] := by
  intro n
  induction n with
  | zero =>
    intro κ v4
    rw [pX5_addTables_42]
    exact j_none
  | succ fu ih =>
    intro κ v4
    rw [pX5_addTables_42]
    refine j_iload hC (pc := 42) dX5_addTables_42 4 rfl ?_
    refine j_iload_n hC (pc := 44) dX5_addTables_44 3 rfl rfl ?_
    refine j_icmp_ge hC (pc := 45) dX5_addTables_45 (tgt := 65) rfl ?_ ?_
    · refine j_aload_n hC (pc := 48) dX5_addTables_48 0 rfl rfl ?_
      refine j_aload_n hC (pc := 49) dX5_addTables_49 1 rfl rfl ?_
      refine j_iload_n hC (pc := 50) dX5_addTables_50 2 rfl rfl ?_
      refine j_iload hC (pc := 51) dX5_addTables_51 4 rfl ?_
      refine j_callV_I hC hR (ctX2_told hC.l hC.cn g1 hg1 κ v2 v4) kc_RX5_72 (Nat.le_of_ble_eq_true rfl) (Nat.le_of_ble_eq_true rfl) (isG_o hg1) (isG_N hg1) rfl (As := [.int v2, .int v4]) (rest := [.ref (gad Γ 144)]) rfl rfl (Nat.le_of_ble_eq_true rfl) hm (pc := 53) dX5_addTables_53 (fun t6 => ?_)
      refine j_callV_V hC hR (ctX5_addNumber hC.l hC.cn κ t6) kc_RX5_35 (Nat.le_of_ble_eq_true rfl) (Nat.le_of_ble_eq_true rfl) lX_144 (Nat.le_of_ble_eq_true rfl) rfl (As := [.int t6]) (rest := []) rfl rfl (Nat.le_of_ble_eq_true rfl) hm (pc := 56) dX5_addTables_56 (fun t7 => ?_)
      refine j_iinc hC (pc := 59) dX5_addTables_59 4 rfl ki_1 (Nat.le_of_ble_eq_true rfl) (loc' := [(4, .int (v4 + 1)), (0, .ref (gad Γ 144)), (1, .ref (gad Γ g1)), (2, .int v2), (3, .int v3)]) rfl ?_
      refine j_goto hC (pc := 62) dX5_addTables_62 (tgt := 42) rfl ?_
      refine j_sub [1, 2, 3, 4, 0] (loc' := [(0, .ref (gad Γ 144)), (1, .ref (gad Γ g1)), (2, .int v2), (3, .int v3), (4, .int (v4 + 1))]) rfl ?_
      exact ih t7 (v4 + 1)
    · refine j_aload_n hC (pc := 65) dX5_addTables_65 0 rfl rfl ?_
      refine j_bipush hC (pc := 66) dX5_addTables_66 kb_59 ?_
      refine j_callV_V hC hR (ctX5_addByte hC.l hC.cn κ 59) kc_RX5_39 (Nat.le_of_ble_eq_true rfl) (Nat.le_of_ble_eq_true rfl) lX_144 (Nat.le_of_ble_eq_true rfl) rfl (As := [.int 59]) (rest := []) rfl rfl (Nat.le_of_ble_eq_true rfl) hm (pc := 68) dX5_addTables_68 (fun t8 => ?_)
      refine j_iinc hC (pc := 71) dX5_addTables_71 2 rfl ki_1 (Nat.le_of_ble_eq_true rfl) (loc' := [(2, .int (v2 + 1)), (0, .ref (gad Γ 144)), (1, .ref (gad Γ g1)), (3, .int v3), (4, .int v4)]) rfl ?_
      refine j_goto hC (pc := 74) dX5_addTables_74 (tgt := 2) rfl ?_
      refine j_sub [1, 2, 0] (loc' := [(0, .ref (gad Γ 144)), (1, .ref (gad Γ g1)), (2, .int (v2 + 1))]) rfl ?_
      exact hk2 t8 (v2 + 1)
set_option maxRecDepth 20000 in
theorem wX5_addTables_2 {Γ : JCtx} (hC : jC Γ cX5_addTables 5 RX5 none layX 147) (hR : gR Γ = rmH 5) (hm : gcells Γ ≤ (gR Γ).cells ∧ gslots Γ ≤ (gR Γ).slots) (g1 : Nat) (hg1 : isG g1) (F : Nat) : ∀ (n : Nat) (κ : Mem) (v2 : Int32), JP Γ (qf Γ oV) (pX5_addTables_2 F g1 n κ v2) κ 2 [(0, .ref (gad Γ 144)), (1, .ref (gad Γ g1)), (2, .int v2)] [] := by
  intro n
  induction n with
  | zero =>
    intro κ v2
    rw [pX5_addTables_2]
    exact j_none
  | succ fu ih =>
    intro κ v2
    rw [pX5_addTables_2]
    refine j_iload_n hC (pc := 2) dX5_addTables_2 2 rfl rfl ?_
    refine j_aload_n hC (pc := 3) dX5_addTables_3 1 rfl rfl ?_
    refine j_getI hC (pc := 4) dX5_addTables_4 kf_RX5_25 (isG_o hg1) (isG_N hg1) rfl ?_
    refine j_icmp_ge hC (pc := 7) dX5_addTables_7 (tgt := 77) rfl ?_ ?_
    · refine j_aload_n hC (pc := 10) dX5_addTables_10 0 rfl rfl ?_
      refine j_ldcS hC (pc := 11) dX5_addTables_11 (x := 13) (tx := "guess") rfl ?_
      refine j_callV_V hC hR (ctX5_addWord hC.l hC.cn 13 (Nat.le_of_ble_eq_true rfl) F κ) kc_RX5_31 (Nat.le_of_ble_eq_true rfl) (Nat.le_of_ble_eq_true rfl) lX_144 (Nat.le_of_ble_eq_true rfl) rfl (As := [.ref (dadK (gΔ Γ) 13)]) (rest := []) rfl rfl (Nat.le_of_ble_eq_true rfl) hm (pc := 13) dX5_addTables_13 (fun t1 => ?_)
      refine j_aload_n hC (pc := 16) dX5_addTables_16 0 rfl rfl ?_
      refine j_iload_n hC (pc := 17) dX5_addTables_17 2 rfl rfl ?_
      refine j_callV_V hC hR (ctX5_addNumber hC.l hC.cn t1 v2) kc_RX5_35 (Nat.le_of_ble_eq_true rfl) (Nat.le_of_ble_eq_true rfl) lX_144 (Nat.le_of_ble_eq_true rfl) rfl (As := [.int v2]) (rest := []) rfl rfl (Nat.le_of_ble_eq_true rfl) hm (pc := 18) dX5_addTables_18 (fun t2 => ?_)
      refine j_aload_n hC (pc := 21) dX5_addTables_21 0 rfl rfl ?_
      refine j_bipush hC (pc := 22) dX5_addTables_22 kb_32 ?_
      refine j_callV_V hC hR (ctX5_addByte hC.l hC.cn t2 32) kc_RX5_39 (Nat.le_of_ble_eq_true rfl) (Nat.le_of_ble_eq_true rfl) lX_144 (Nat.le_of_ble_eq_true rfl) rfl (As := [.int 32]) (rest := []) rfl rfl (Nat.le_of_ble_eq_true rfl) hm (pc := 24) dX5_addTables_24 (fun t3 => ?_)
      refine j_aload_n hC (pc := 27) dX5_addTables_27 0 rfl rfl ?_
      refine j_ldcS hC (pc := 28) dX5_addTables_28 (x := 14) (tx := "table") rfl ?_
      refine j_callV_V hC hR (ctX5_addWord hC.l hC.cn 14 (Nat.le_of_ble_eq_true rfl) F t3) kc_RX5_31 (Nat.le_of_ble_eq_true rfl) (Nat.le_of_ble_eq_true rfl) lX_144 (Nat.le_of_ble_eq_true rfl) rfl (As := [.ref (dadK (gΔ Γ) 14)]) (rest := []) rfl rfl (Nat.le_of_ble_eq_true rfl) hm (pc := 30) dX5_addTables_30 (fun t4 => ?_)
      refine j_aload_n hC (pc := 33) dX5_addTables_33 1 rfl rfl ?_
      refine j_iload_n hC (pc := 34) dX5_addTables_34 2 rfl rfl ?_
      refine j_callV_I hC hR (ctX2_situations hC.l hC.cn g1 hg1 F t4 v2) kc_RX5_68 (Nat.le_of_ble_eq_true rfl) (Nat.le_of_ble_eq_true rfl) (isG_o hg1) (isG_N hg1) rfl (As := [.int v2]) (rest := []) rfl rfl (Nat.le_of_ble_eq_true rfl) hm (pc := 35) dX5_addTables_35 (fun t5 => ?_)
      refine j_istore_n hC (pc := 38) dX5_addTables_38 rfl (Nat.le_of_ble_eq_true rfl) (loc' := [(3, .int t5), (0, .ref (gad Γ 144)), (1, .ref (gad Γ g1)), (2, .int v2)]) rfl ?_
      refine j_iconst hC (pc := 39) dX5_addTables_39 ki_0 ?_
      refine j_istore hC (pc := 40) dX5_addTables_40 (Nat.le_of_ble_eq_true rfl) (loc' := [(4, .int 0), (3, .int t5), (0, .ref (gad Γ 144)), (1, .ref (gad Γ g1)), (2, .int v2)]) rfl ?_
      refine j_sub [2, 3, 4, 1, 0] (loc' := [(0, .ref (gad Γ 144)), (1, .ref (gad Γ g1)), (2, .int v2), (3, .int t5), (4, .int 0)]) rfl ?_
      exact wX5_addTables_42 hC hR hm g1 hg1 F v2 t5 (pX5_addTables_2 F g1 fu) ih F t4 0
    · exact j_vret hC (pc := 77) dX5_addTables_77 rfl rfl
set_option maxRecDepth 20000 in
theorem wX5_addTables {Γ : JCtx} (hC : jC Γ cX5_addTables 5 RX5 none layX 147) (hR : gR Γ = rmH 5) (hm : gcells Γ ≤ (gR Γ).cells ∧ gslots Γ ≤ (gR Γ).slots) (g1 : Nat) (hg1 : isG g1) (F : Nat) (κ : Mem) : JP Γ (qf Γ oV) (pX5_addTables F g1 κ) κ 0 [(0, .ref (gad Γ 144)), (1, .ref (gad Γ g1))] [] := by
  unfold pX5_addTables
  refine j_iconst hC (pc := 0) dX5_addTables_0 ki_0 ?_
  refine j_istore_n hC (pc := 1) dX5_addTables_1 rfl (Nat.le_of_ble_eq_true rfl) (loc' := [(2, .int 0), (0, .ref (gad Γ 144)), (1, .ref (gad Γ g1))]) rfl ?_
  refine j_sub [1, 2, 0] (loc' := [(0, .ref (gad Γ 144)), (1, .ref (gad Γ g1)), (2, .int 0)]) rfl ?_
  exact wX5_addTables_2 hC hR hm g1 hg1 F F κ 0
theorem ctX5_addTables {Δ : DCtx} {l : Launch} (hl : dlay Δ = layX) (hN : dN Δ = 147) (g1 : Nat) (hg1 : isG g1) (F : Nat) (κ : Mem) : ∀ r, pX5_addTables F g1 κ = some r → CT Δ l yX5_addTables cX5_addTables 5 none (rmH 5) [.ref (dad Δ 144), .ref (dad Δ g1)] κ none r :=
  ct_of (nL := 5) (ret := none) (lay := layX) (N := 147) (by decide +kernel) (fun Δ => [.ref (dad Δ 144), .ref (dad Δ g1)]) (fun _ => oV) (fun _ => (Nat.le_of_ble_eq_true rfl)) (fun Γ hR hm hC => wX5_addTables hC hR hm g1 hg1 F κ) Δ l hl hN
set_option maxRecDepth 20000 in
theorem wX5_write_32 {Γ : JCtx} (hC : jC Γ cX5_write 3 RX5 (some .boolean) layX 147) (hR : gR Γ = rmH 6) (hm : gcells Γ ≤ (gR Γ).cells ∧ gslots Γ ≤ (gR Γ).slots) (g1 : Nat) (hg1 : isG g1) (F : Nat) (κ : Mem) : JP Γ (qf Γ oE) (pX5_write_32 F g1 κ) κ 32 [(0, .ref (gad Γ 144)), (1, .ref (gad Γ g1))] [] := by
  unfold pX5_write_32
  refine j_aload_n hC (pc := 32) dX5_write_32 0 rfl rfl ?_
  refine j_aload_n hC (pc := 33) dX5_write_33 1 rfl rfl ?_
  refine j_callV_V hC hR (ctX5_addHats hC.l hC.cn g1 hg1 F κ) kc_RX5_43 (Nat.le_of_ble_eq_true rfl) (Nat.le_of_ble_eq_true rfl) lX_144 (Nat.le_of_ble_eq_true rfl) rfl (As := [.ref (gad Γ g1)]) (rest := []) rfl rfl (Nat.le_of_ble_eq_true rfl) hm (pc := 34) dX5_write_34 (fun t2 => ?_)
  refine j_aload_n hC (pc := 37) dX5_write_37 0 rfl rfl ?_
  refine j_aload_n hC (pc := 38) dX5_write_38 1 rfl rfl ?_
  refine j_callV_V hC hR (ctX5_addSights hC.l hC.cn g1 hg1 F t2) kc_RX5_47 (Nat.le_of_ble_eq_true rfl) (Nat.le_of_ble_eq_true rfl) lX_144 (Nat.le_of_ble_eq_true rfl) rfl (As := [.ref (gad Γ g1)]) (rest := []) rfl rfl (Nat.le_of_ble_eq_true rfl) hm (pc := 39) dX5_write_39 (fun t3 => ?_)
  refine j_aload_n hC (pc := 42) dX5_write_42 0 rfl rfl ?_
  refine j_aload_n hC (pc := 43) dX5_write_43 1 rfl rfl ?_
  refine j_callV_V hC hR (ctX5_addTables hC.l hC.cn g1 hg1 F t3) kc_RX5_50 (Nat.le_of_ble_eq_true rfl) (Nat.le_of_ble_eq_true rfl) lX_144 (Nat.le_of_ble_eq_true rfl) rfl (As := [.ref (gad Γ g1)]) (rest := []) rfl rfl (Nat.le_of_ble_eq_true rfl) hm (pc := 44) dX5_write_44 (fun t4 => ?_)
  refine j_aload_n hC (pc := 47) dX5_write_47 0 rfl rfl ?_
  refine j_getI hC (pc := 48) dX5_write_48 kf_RX5_22 lX_144 (Nat.le_of_ble_eq_true rfl) rfl ?_
  refine j_sipush hC (pc := 51) dX5_write_51 ks_600 ?_
  refine j_icmp_le hC (pc := 54) dX5_write_54 (tgt := 59) rfl ?_ ?_
  · refine j_aload_n hC (pc := 59) dX5_write_59 0 rfl rfl ?_
    refine j_getD hC (pc := 60) dX5_write_60 kf_RX5_9 lX_144 (Nat.le_of_ble_eq_true rfl) rfl ?_
    refine j_ckP (fun hq5 => ?_)
    refine j_astore_n hC (pc := 63) dX5_write_63 rfl (Nat.le_of_ble_eq_true rfl) (loc' := [(2, .ref (gad Γ (mr t4 144 0))), (0, .ref (gad Γ 144)), (1, .ref (gad Γ g1))]) rfl ?_
    refine j_aload_n hC (pc := 64) dX5_write_64 1 rfl rfl ?_
    refine j_aload_n hC (pc := 65) dX5_write_65 1 rfl rfl ?_
    refine j_getD hC (pc := 66) dX5_write_66 kf_RX5_19 lX_144 (Nat.le_of_ble_eq_true rfl) rfl ?_
    refine j_ckP (fun hq6 => ?_)
    refine j_putD hC (pc := 69) dX5_write_69 kp_RX5_9 lX_144 (Nat.le_of_ble_eq_true rfl) rfl rfl rfl (fun κ7 => ?_)
    refine j_aload_n hC (pc := 72) dX5_write_72 1 rfl rfl ?_
    refine j_aload_n hC (pc := 73) dX5_write_73 0 rfl rfl ?_
    refine j_putD hC (pc := 74) dX5_write_74 kp_RX5_19 lX_144 (Nat.le_of_ble_eq_true rfl) rfl rfl rfl (fun κ8 => ?_)
    refine j_aload_n hC (pc := 77) dX5_write_77 1 rfl rfl ?_
    refine j_aload_n hC (pc := 78) dX5_write_78 1 rfl rfl ?_
    refine j_getI hC (pc := 79) dX5_write_79 kf_RX5_22 lX_144 (Nat.le_of_ble_eq_true rfl) rfl ?_
    refine j_putI hC (pc := 82) dX5_write_82 kp_RX5_15 lX_144 (Nat.le_of_ble_eq_true rfl) rfl rfl rfl (fun κ9 => ?_)
    refine j_iconst hC (pc := 85) dX5_write_85 ki_1 ?_
    exact j_iret hC (pc := 86) dX5_write_86 rfl rfl rfl
  · refine j_iconst hC (pc := 57) dX5_write_57 ki_0 ?_
    exact j_iret hC (pc := 58) dX5_write_58 rfl rfl rfl
set_option maxRecDepth 20000 in
theorem wX5_write {Γ : JCtx} (hC : jC Γ cX5_write 3 RX5 (some .boolean) layX 147) (hR : gR Γ = rmH 6) (hm : gcells Γ ≤ (gR Γ).cells ∧ gslots Γ ≤ (gR Γ).slots) (g1 : Nat) (hg1 : isG g1) (F : Nat) (κ : Mem) : JP Γ (qf Γ oE) (pX5_write F g1 κ) κ 0 [(0, .ref (gad Γ 144)), (1, .ref (gad Γ g1))] [] := by
  unfold pX5_write
  refine j_aload_n hC (pc := 0) dX5_write_0 0 rfl rfl ?_
  refine j_iconst hC (pc := 1) dX5_write_1 ki_0 ?_
  refine j_putI hC (pc := 2) dX5_write_2 kp_RX5_22 lX_144 (Nat.le_of_ble_eq_true rfl) rfl rfl rfl (fun κ1 => ?_)
  refine j_aload_n hC (pc := 5) dX5_write_5 1 rfl rfl ?_
  refine j_getI hC (pc := 6) dX5_write_6 kf_RX5_25 (isG_o hg1) (isG_N hg1) rfl ?_
  refine j_if_le hC (pc := 9) dX5_write_9 (tgt := 32) rfl ?_ ?_
  · exact wX5_write_32 hC hR hm g1 hg1 F κ1
  · refine j_aload_n hC (pc := 12) dX5_write_12 0 rfl rfl ?_
    refine j_ldcS hC (pc := 13) dX5_write_13 (x := 10) (tx := "players") rfl ?_
    refine j_callV_V hC hR (ctX5_addWord hC.l hC.cn 10 (Nat.le_of_ble_eq_true rfl) F κ1) kc_RX5_31 (Nat.le_of_ble_eq_true rfl) (Nat.le_of_ble_eq_true rfl) lX_144 (Nat.le_of_ble_eq_true rfl) rfl (As := [.ref (dadK (gΔ Γ) 10)]) (rest := []) rfl rfl (Nat.le_of_ble_eq_true rfl) hm (pc := 15) dX5_write_15 (fun t10 => ?_)
    refine j_aload_n hC (pc := 18) dX5_write_18 0 rfl rfl ?_
    refine j_aload_n hC (pc := 19) dX5_write_19 1 rfl rfl ?_
    refine j_getI hC (pc := 20) dX5_write_20 kf_RX5_25 (isG_o hg1) (isG_N hg1) rfl ?_
    refine j_callV_V hC hR (ctX5_addNumber hC.l hC.cn t10 (mi t10 g1 0)) kc_RX5_35 (Nat.le_of_ble_eq_true rfl) (Nat.le_of_ble_eq_true rfl) lX_144 (Nat.le_of_ble_eq_true rfl) rfl (As := [.int (mi t10 g1 0)]) (rest := []) rfl rfl (Nat.le_of_ble_eq_true rfl) hm (pc := 23) dX5_write_23 (fun t11 => ?_)
    refine j_aload_n hC (pc := 26) dX5_write_26 0 rfl rfl ?_
    refine j_bipush hC (pc := 27) dX5_write_27 kb_59 ?_
    refine j_callV_V hC hR (ctX5_addByte hC.l hC.cn t11 59) kc_RX5_39 (Nat.le_of_ble_eq_true rfl) (Nat.le_of_ble_eq_true rfl) lX_144 (Nat.le_of_ble_eq_true rfl) rfl (As := [.int 59]) (rest := []) rfl rfl (Nat.le_of_ble_eq_true rfl) hm (pc := 29) dX5_write_29 (fun t12 => ?_)
    exact wX5_write_32 hC hR hm g1 hg1 F t12
theorem ctX5_write {Δ : DCtx} {l : Launch} (hl : dlay Δ = layX) (hN : dN Δ = 147) (g1 : Nat) (hg1 : isG g1) (F : Nat) (κ : Mem) : ∀ r, pX5_write F g1 κ = some r → CT Δ l yX5_write cX5_write 3 (some .boolean) (rmH 6) [.ref (dad Δ 144), .ref (dad Δ g1)] κ (some (.int r.1)) r.2 :=
  ct_of (nL := 3) (ret := (some .boolean)) (lay := layX) (N := 147) (by decide +kernel) (fun Δ => [.ref (dad Δ 144), .ref (dad Δ g1)]) (fun _ => oE) (fun _ => (Nat.le_of_ble_eq_true rfl)) (fun Γ hR hm hC => wX5_write hC hR hm g1 hg1 F κ) Δ l hl hN
