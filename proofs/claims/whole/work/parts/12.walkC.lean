set_option maxRecDepth 20000 in
theorem wX3_forget {Γ : JCtx} (hC : jC Γ cX3_forget 1 RX3 none layX 147) (hR : gR Γ = rmH 0) (hm : gcells Γ ≤ (gR Γ).cells ∧ gslots Γ ≤ (gR Γ).slots) (κ : Mem) : JP Γ (qf Γ oV) (pX3_forget κ) κ 0 [(0, .ref (gad Γ 135))] [] := by
  unfold pX3_forget
  refine j_aload_n hC (pc := 0) dX3_forget_0 0 rfl rfl ?_
  refine j_iconst hC (pc := 1) dX3_forget_1 ki_0 ?_
  refine j_putI hC (pc := 2) dX3_forget_2 kp_RX3_21 lX_135 (Nat.le_of_ble_eq_true rfl) rfl rfl rfl (fun κ1 => ?_)
  exact j_vret hC (pc := 5) dX3_forget_5 rfl rfl
theorem ctX3_forget {Δ : DCtx} {l : Launch} (hl : dlay Δ = layX) (hN : dN Δ = 147) (κ : Mem) : ∀ r, pX3_forget κ = some r → CT Δ l yX3_forget cX3_forget 1 none (rmH 0) [.ref (dad Δ 135)] κ none r :=
  ct_of (nL := 1) (ret := none) (lay := layX) (N := 147) (by decide +kernel) (fun Δ => [.ref (dad Δ 135)]) (fun _ => oV) (fun _ => (Nat.le_of_ble_eq_true rfl)) (fun Γ hR hm hC => wX3_forget hC hR hm κ) Δ l hl hN
set_option maxRecDepth 20000 in
theorem wX1_colourOf {Γ : JCtx} (hC : jC Γ cX1_colourOf 3 RX1 (some .int) layX 147) (hR : gR Γ = rmH 0) (hm : gcells Γ ≤ (gR Γ).cells ∧ gslots Γ ≤ (gR Γ).slots) (κ : Mem) (v1 : Int32) (v2 : Int32) : JP Γ (qf Γ (oI κ)) (pX1_colourOf κ v1 v2) κ 0 [(0, .ref (gad Γ 41)), (1, .int v1), (2, .int v2)] [] := by
  unfold pX1_colourOf
  refine j_iload_n hC (pc := 0) dX1_colourOf_0 2 rfl rfl ?_
  refine j_aload_n hC (pc := 1) dX1_colourOf_1 0 rfl rfl ?_
  refine j_getR hC (pc := 2) dX1_colourOf_2 kf_RX1_15 lX_41 (Nat.le_of_ble_eq_true rfl) rfl ?_
  refine j_iload_n hC (pc := 5) dX1_colourOf_5 1 rfl rfl ?_
  refine j_iald hC (pc := 6) dX1_colourOf_6 lX_42 (Nat.le_of_ble_eq_true rfl) ?_
  refine j_idiv hC (pc := 7) dX1_colourOf_7 ?_
  refine j_aload_n hC (pc := 8) dX1_colourOf_8 0 rfl rfl ?_
  refine j_getR hC (pc := 9) dX1_colourOf_9 kf_RX1_36 lX_41 (Nat.le_of_ble_eq_true rfl) rfl ?_
  refine j_getR hC (pc := 12) dX1_colourOf_12 kf_RX1_45 lX_1 (Nat.le_of_ble_eq_true rfl) rfl ?_
  refine j_iload_n hC (pc := 15) dX1_colourOf_15 1 rfl rfl ?_
  refine j_iald hC (pc := 16) dX1_colourOf_16 lX_2 (Nat.le_of_ble_eq_true rfl) ?_
  refine j_irem hC (pc := 17) dX1_colourOf_17 ?_
  exact j_iret hC (pc := 18) dX1_colourOf_18 rfl rfl rfl
theorem ctX1_colourOf {Δ : DCtx} {l : Launch} (hl : dlay Δ = layX) (hN : dN Δ = 147) (κ : Mem) (v1 : Int32) (v2 : Int32) : ∀ r, pX1_colourOf κ v1 v2 = some r → CT Δ l yX1_colourOf cX1_colourOf 3 (some .int) (rmH 0) [.ref (dad Δ 41), .int v1, .int v2] κ (some (.int r)) κ :=
  ct_of (nL := 3) (ret := (some .int)) (lay := layX) (N := 147) (by decide +kernel) (fun Δ => [.ref (dad Δ 41), .int v1, .int v2]) (fun _ => oI κ) (fun _ => (Nat.le_of_ble_eq_true rfl)) (fun Γ hR hm hC => wX1_colourOf hC hR hm κ v1 v2) Δ l hl hN
set_option maxRecDepth 20000 in
theorem wX1_judge_86 {Γ : JCtx} (hC : jC Γ cX1_judge 6 RX1 none layX 147) (hR : gR Γ = rmH 1) (hm : gcells Γ ≤ (gR Γ).cells ∧ gslots Γ ≤ (gR Γ).slots) (F : Nat) (κ : Mem) (v1 : Int32) (v2 : Int32) (v3 : Nat) (h3 : layX v3 = kIA 4096) (n3 : v3 < 147) (v4 : Int32) (y0 : Int32) (y1 : Int32) (k14 : Mem → Int32 → Option Mem) (hk14 : ∀ (κ : Mem) (v4 : Int32), JP Γ (qf Γ oV) (k14 κ v4) κ 14 [(0, .ref (gad Γ 41)), (1, .int v1), (2, .int v2), (3, .ref (gad Γ v3)), (4, .int v4)] []) : JP Γ (qf Γ oV) (pX1_judge_86 F k14 κ v1 v2 v3 v4 y0 y1) κ 86 [(0, .ref (gad Γ 41)), (1, .int v1), (2, .int v2), (3, .ref (gad Γ v3)), (4, .int v4)] [.int y0, .int y1, .ref (gad Γ 50)] := by
  unfold pX1_judge_86
  refine j_iast hC (pc := 86) dX1_judge_86 lX_50 (Nat.le_of_ble_eq_true rfl) (fun κ5 => ?_)
  refine j_iinc hC (pc := 87) dX1_judge_87 4 rfl ki_1 (Nat.le_of_ble_eq_true rfl) (loc' := [(4, .int (v4 + 1)), (0, .ref (gad Γ 41)), (1, .int v1), (2, .int v2), (3, .ref (gad Γ v3))]) rfl ?_
  refine j_goto hC (pc := 90) dX1_judge_90 (tgt := 14) rfl ?_
  refine j_sub [1, 2, 3, 4, 0] (loc' := [(0, .ref (gad Γ 41)), (1, .int v1), (2, .int v2), (3, .ref (gad Γ v3)), (4, .int (v4 + 1))]) rfl ?_
  exact hk14 κ5 (v4 + 1)
set_option maxRecDepth 20000 in
theorem wX1_judge_50 {Γ : JCtx} (hC : jC Γ cX1_judge 6 RX1 none layX 147) (hR : gR Γ = rmH 1) (hm : gcells Γ ≤ (gR Γ).cells ∧ gslots Γ ≤ (gR Γ).slots) (F : Nat) (κ : Mem) (v1 : Int32) (v2 : Int32) (v3 : Nat) (h3 : layX v3 = kIA 4096) (n3 : v3 < 147) (v4 : Int32) (y0 : Int32) (k14 : Mem → Int32 → Option Mem) (hk14 : ∀ (κ : Mem) (v4 : Int32), JP Γ (qf Γ oV) (k14 κ v4) κ 14 [(0, .ref (gad Γ 41)), (1, .int v1), (2, .int v2), (3, .ref (gad Γ v3)), (4, .int v4)] []) : JP Γ (qf Γ oV) (pX1_judge_50 F k14 κ v1 v2 v3 v4 y0) κ 50 [(0, .ref (gad Γ 41)), (1, .int v1), (2, .int v2), (3, .ref (gad Γ v3)), (4, .int v4)] [.int y0] := by
  unfold pX1_judge_50
  refine j_istore hC (pc := 50) dX1_judge_50 (Nat.le_of_ble_eq_true rfl) (loc' := [(5, .int y0), (0, .ref (gad Γ 41)), (1, .int v1), (2, .int v2), (3, .ref (gad Γ v3)), (4, .int v4)]) rfl ?_
  refine j_aload_n hC (pc := 52) dX1_judge_52 1 rfl rfl ?_
  refine j_getR hC (pc := 53) dX1_judge_53 kf_RX1_24 lX_41 (Nat.le_of_ble_eq_true rfl) rfl ?_
  refine j_iload hC (pc := 56) dX1_judge_56 5 rfl ?_
  refine j_iload hC (pc := 58) dX1_judge_58 0 rfl ?_
  refine j_if_eq hC (pc := 60) dX1_judge_60 (tgt := 75) rfl ?_ ?_
  · refine j_aload_n hC (pc := 75) dX1_judge_75 1 rfl rfl ?_
    refine j_getR hC (pc := 76) dX1_judge_76 kf_RX1_24 lX_41 (Nat.le_of_ble_eq_true rfl) rfl ?_
    refine j_iload hC (pc := 79) dX1_judge_79 5 rfl ?_
    refine j_iald hC (pc := 81) dX1_judge_81 lX_50 (Nat.le_of_ble_eq_true rfl) ?_
    refine j_iload_n hC (pc := 82) dX1_judge_82 3 rfl rfl ?_
    refine j_iconst hC (pc := 83) dX1_judge_83 ki_m1 ?_
    refine j_ixor hC (pc := 84) dX1_judge_84 ?_
    refine j_iand hC (pc := 85) dX1_judge_85 ?_
    refine j_sub [1, 2, 3, 4, 5] (loc' := [(0, .ref (gad Γ 41)), (1, .int v1), (2, .int v2), (3, .ref (gad Γ v3)), (4, .int v4)]) rfl ?_
    exact wX1_judge_86 hC hR hm F κ v1 v2 v3 h3 n3 v4 ((mi κ 50 v4.toNatClampNeg) &&& (v2 ^^^ (-1))) v4 k14 hk14
  · refine j_aload_n hC (pc := 63) dX1_judge_63 1 rfl rfl ?_
    refine j_getR hC (pc := 64) dX1_judge_64 kf_RX1_24 lX_41 (Nat.le_of_ble_eq_true rfl) rfl ?_
    refine j_iload hC (pc := 67) dX1_judge_67 5 rfl ?_
    refine j_iald hC (pc := 69) dX1_judge_69 lX_50 (Nat.le_of_ble_eq_true rfl) ?_
    refine j_iload_n hC (pc := 70) dX1_judge_70 3 rfl rfl ?_
    refine j_ior hC (pc := 71) dX1_judge_71 ?_
    refine j_goto hC (pc := 72) dX1_judge_72 (tgt := 86) rfl ?_
    refine j_sub [1, 2, 3, 4, 5] (loc' := [(0, .ref (gad Γ 41)), (1, .int v1), (2, .int v2), (3, .ref (gad Γ v3)), (4, .int v4)]) rfl ?_
    exact wX1_judge_86 hC hR hm F κ v1 v2 v3 h3 n3 v4 ((mi κ 50 v4.toNatClampNeg) ||| v2) v4 k14 hk14
set_option maxRecDepth 20000 in
theorem wX1_judge_14 {Γ : JCtx} (hC : jC Γ cX1_judge 6 RX1 none layX 147) (hR : gR Γ = rmH 1) (hm : gcells Γ ≤ (gR Γ).cells ∧ gslots Γ ≤ (gR Γ).slots) (F : Nat) (v1 : Int32) (v2 : Int32) (v3 : Nat) (h3 : layX v3 = kIA 4096) (n3 : v3 < 147) : ∀ (n : Nat) (κ : Mem) (v4 : Int32), JP Γ (qf Γ oV) (pX1_judge_14 F v1 v2 v3 n κ v4) κ 14 [(0, .ref (gad Γ 41)), (1, .int v1), (2, .int v2), (3, .ref (gad Γ v3)), (4, .int v4)] [] := by
  intro n
  induction n with
  | zero =>
    intro κ v4
    rw [pX1_judge_14]
    exact j_none
  | succ fu ih =>
    intro κ v4
    rw [pX1_judge_14]
    refine j_iload hC (pc := 14) dX1_judge_14 4 rfl ?_
    refine j_aload_n hC (pc := 16) dX1_judge_16 0 rfl rfl ?_
    refine j_getI hC (pc := 17) dX1_judge_17 kf_RX1_9 lX_41 (Nat.le_of_ble_eq_true rfl) rfl ?_
    refine j_icmp_ge hC (pc := 20) dX1_judge_20 (tgt := 93) rfl ?_ ?_
    · refine j_aload_n hC (pc := 23) dX1_judge_23 0 rfl rfl ?_
      refine j_getR hC (pc := 24) dX1_judge_24 kf_RX1_36 lX_41 (Nat.le_of_ble_eq_true rfl) rfl ?_
      refine j_iload_n hC (pc := 27) dX1_judge_27 1 rfl rfl ?_
      refine j_aload_n hC (pc := 28) dX1_judge_28 3 rfl rfl ?_
      refine j_iload hC (pc := 29) dX1_judge_29 4 rfl ?_
      refine j_iald hC (pc := 31) dX1_judge_31 h3 n3 ?_
      refine j_callV_I hC hR (ctX2_told hC.l hC.cn 1 isG_1 κ v1 (mi κ v3 v4.toNatClampNeg)) kc_RX1_66 (Nat.le_of_ble_eq_true rfl) (Nat.le_of_ble_eq_true rfl) lX_1 (Nat.le_of_ble_eq_true rfl) rfl (As := [.int v1, .int (mi κ v3 v4.toNatClampNeg)]) (rest := []) rfl rfl (Nat.le_of_ble_eq_true rfl) hm (pc := 32) dX1_judge_32 (fun t3 => ?_)
      refine j_aload_n hC (pc := 35) dX1_judge_35 0 rfl rfl ?_
      refine j_iload_n hC (pc := 36) dX1_judge_36 1 rfl rfl ?_
      refine j_iload hC (pc := 37) dX1_judge_37 4 rfl ?_
      refine j_callV_I hC hR (ctX1_colourOf hC.l hC.cn κ v1 v4) kc_RX1_69 (Nat.le_of_ble_eq_true rfl) (Nat.le_of_ble_eq_true rfl) lX_41 (Nat.le_of_ble_eq_true rfl) rfl (As := [.int v1, .int v4]) (rest := [.int t3]) rfl rfl (Nat.le_of_ble_eq_true rfl) hm (pc := 39) dX1_judge_39 (fun t4 => ?_)
      refine j_icmp_ne hC (pc := 42) dX1_judge_42 (tgt := 49) rfl ?_ ?_
      · refine j_iconst hC (pc := 45) dX1_judge_45 ki_1 ?_
        refine j_goto hC (pc := 46) dX1_judge_46 (tgt := 50) rfl ?_
        exact wX1_judge_50 hC hR hm F κ v1 v2 v3 h3 n3 v4 1 (pX1_judge_14 F v1 v2 v3 fu) ih
      · refine j_iconst hC (pc := 49) dX1_judge_49 ki_0 ?_
        exact wX1_judge_50 hC hR hm F κ v1 v2 v3 h3 n3 v4 0 (pX1_judge_14 F v1 v2 v3 fu) ih
    · exact j_vret hC (pc := 93) dX1_judge_93 rfl rfl
set_option maxRecDepth 20000 in
theorem wX1_judge {Γ : JCtx} (hC : jC Γ cX1_judge 6 RX1 none layX 147) (hR : gR Γ = rmH 1) (hm : gcells Γ ≤ (gR Γ).cells ∧ gslots Γ ≤ (gR Γ).slots) (F : Nat) (κ : Mem) (v1 : Int32) : JP Γ (qf Γ oV) (pX1_judge F κ v1) κ 0 [(0, .ref (gad Γ 41)), (1, .int v1)] [] := by
  unfold pX1_judge
  refine j_iconst hC (pc := 0) dX1_judge_0 ki_1 ?_
  refine j_iload_n hC (pc := 1) dX1_judge_1 1 rfl rfl ?_
  refine j_ishl hC (pc := 2) dX1_judge_2 ?_
  refine j_nmi (fun x1 => ?_)
  refine j_istore_n hC (pc := 3) dX1_judge_3 rfl (Nat.le_of_ble_eq_true rfl) (loc' := [(2, .int x1), (0, .ref (gad Γ 41)), (1, .int v1)]) rfl ?_
  refine j_aload_n hC (pc := 4) dX1_judge_4 1 rfl rfl ?_
  refine j_getR hC (pc := 5) dX1_judge_5 kf_RX1_21 lX_41 (Nat.le_of_ble_eq_true rfl) rfl ?_
  refine j_iload_n hC (pc := 8) dX1_judge_8 2 rfl rfl ?_
  refine j_aald hC (pc := 9) dX1_judge_9 lX_43 (Nat.le_of_ble_eq_true rfl) (kRt_3 _) (fun hq2 => ?_)
  refine j_astore_n hC (pc := 10) dX1_judge_10 rfl (Nat.le_of_ble_eq_true rfl) (loc' := [(3, .ref (gad Γ (44 + v1.toNatClampNeg * 1))), (2, .int x1), (0, .ref (gad Γ 41)), (1, .int v1)]) rfl ?_
  refine j_iconst hC (pc := 11) dX1_judge_11 ki_0 ?_
  refine j_istore hC (pc := 12) dX1_judge_12 (Nat.le_of_ble_eq_true rfl) (loc' := [(4, .int 0), (3, .ref (gad Γ (44 + v1.toNatClampNeg * 1))), (2, .int x1), (0, .ref (gad Γ 41)), (1, .int v1)]) rfl ?_
  refine j_sub [3, 4, 2, 1, 0] (loc' := [(0, .ref (gad Γ 41)), (1, .int v1), (2, .int x1), (3, .ref (gad Γ (44 + v1.toNatClampNeg * 1))), (4, .int 0)]) rfl ?_
  exact wX1_judge_14 hC hR hm F v1 x1 (44 + v1.toNatClampNeg * 1) (lrow_43 hq2).1 (lrow_43 hq2).2 F κ 0
theorem ctX1_judge {Δ : DCtx} {l : Launch} (hl : dlay Δ = layX) (hN : dN Δ = 147) (F : Nat) (κ : Mem) (v1 : Int32) : ∀ r, pX1_judge F κ v1 = some r → CT Δ l yX1_judge cX1_judge 6 none (rmH 1) [.ref (dad Δ 41), .int v1] κ none r :=
  ct_of (nL := 6) (ret := none) (lay := layX) (N := 147) (by decide +kernel) (fun Δ => [.ref (dad Δ 41), .int v1]) (fun _ => oV) (fun _ => (Nat.le_of_ble_eq_true rfl)) (fun Γ hR hm hC => wX1_judge hC hR hm F κ v1) Δ l hl hN
set_option maxRecDepth 20000 in
theorem wX1_tally_26 {Γ : JCtx} (hC : jC Γ cX1_tally 2 RX1 none layX 147) (hR : gR Γ = rmH 0) (hm : gcells Γ ≤ (gR Γ).cells ∧ gslots Γ ≤ (gR Γ).slots) (F : Nat) : ∀ (n : Nat) (κ : Mem) (v1 : Int32), JP Γ (qf Γ oV) (pX1_tally_26 F n κ v1) κ 26 [(0, .ref (gad Γ 41)), (1, .int v1)] [] := by
  intro n
  induction n with
  | zero =>
    intro κ v1
    rw [pX1_tally_26]
    exact j_none
  | succ fu ih =>
    intro κ v1
    rw [pX1_tally_26]
    refine j_iload_n hC (pc := 26) dX1_tally_26 1 rfl rfl ?_
    refine j_aload_n hC (pc := 27) dX1_tally_27 0 rfl rfl ?_
    refine j_getI hC (pc := 28) dX1_tally_28 kf_RX1_9 lX_41 (Nat.le_of_ble_eq_true rfl) rfl ?_
    refine j_icmp_ge hC (pc := 31) dX1_tally_31 (tgt := 55) rfl ?_ ?_
    · refine j_aload_n hC (pc := 34) dX1_tally_34 0 rfl rfl ?_
      refine j_getR hC (pc := 35) dX1_tally_35 kf_RX1_27 lX_41 (Nat.le_of_ble_eq_true rfl) rfl ?_
      refine j_aload_n hC (pc := 38) dX1_tally_38 0 rfl rfl ?_
      refine j_getR hC (pc := 39) dX1_tally_39 kf_RX1_24 lX_41 (Nat.le_of_ble_eq_true rfl) rfl ?_
      refine j_iload_n hC (pc := 42) dX1_tally_42 1 rfl rfl ?_
      refine j_iald hC (pc := 43) dX1_tally_43 lX_50 (Nat.le_of_ble_eq_true rfl) ?_
      refine j_nmi (fun x2 => ?_)
      refine j_dup2 hC (pc := 44) dX1_tally_44 rfl rfl ?_
      refine j_iald hC (pc := 45) dX1_tally_45 lX_51 (Nat.le_of_ble_eq_true rfl) ?_
      refine j_iconst hC (pc := 46) dX1_tally_46 ki_1 ?_
      refine j_iadd hC (pc := 47) dX1_tally_47 ?_
      refine j_iast hC (pc := 48) dX1_tally_48 lX_51 (Nat.le_of_ble_eq_true rfl) (fun κ3 => ?_)
      refine j_iinc hC (pc := 49) dX1_tally_49 1 rfl ki_1 (Nat.le_of_ble_eq_true rfl) (loc' := [(1, .int (v1 + 1)), (0, .ref (gad Γ 41))]) rfl ?_
      refine j_goto hC (pc := 52) dX1_tally_52 (tgt := 26) rfl ?_
      refine j_sub [1, 0] (loc' := [(0, .ref (gad Γ 41)), (1, .int (v1 + 1))]) rfl ?_
      exact ih κ3 (v1 + 1)
    · exact j_vret hC (pc := 55) dX1_tally_55 rfl rfl
set_option maxRecDepth 20000 in
theorem wX1_tally_2 {Γ : JCtx} (hC : jC Γ cX1_tally 2 RX1 none layX 147) (hR : gR Γ = rmH 0) (hm : gcells Γ ≤ (gR Γ).cells ∧ gslots Γ ≤ (gR Γ).slots) (F : Nat) : ∀ (n : Nat) (κ : Mem) (v1 : Int32), JP Γ (qf Γ oV) (pX1_tally_2 F n κ v1) κ 2 [(0, .ref (gad Γ 41)), (1, .int v1)] [] := by
  intro n
  induction n with
  | zero =>
    intro κ v1
    rw [pX1_tally_2]
    exact j_none
  | succ fu ih =>
    intro κ v1
    rw [pX1_tally_2]
    refine j_iload_n hC (pc := 2) dX1_tally_2 1 rfl rfl ?_
    refine j_aload_n hC (pc := 3) dX1_tally_3 0 rfl rfl ?_
    refine j_getR hC (pc := 4) dX1_tally_4 kf_RX1_27 lX_41 (Nat.le_of_ble_eq_true rfl) rfl ?_
    refine j_alenI hC (pc := 7) dX1_tally_7 lX_51 (Nat.le_of_ble_eq_true rfl) rfl ?_
    refine j_icmp_ge hC (pc := 8) dX1_tally_8 (tgt := 24) rfl ?_ ?_
    · refine j_aload_n hC (pc := 11) dX1_tally_11 0 rfl rfl ?_
      refine j_getR hC (pc := 12) dX1_tally_12 kf_RX1_27 lX_41 (Nat.le_of_ble_eq_true rfl) rfl ?_
      refine j_iload_n hC (pc := 15) dX1_tally_15 1 rfl rfl ?_
      refine j_iconst hC (pc := 16) dX1_tally_16 ki_0 ?_
      refine j_iast hC (pc := 17) dX1_tally_17 lX_51 (Nat.le_of_ble_eq_true rfl) (fun κ1 => ?_)
      refine j_iinc hC (pc := 18) dX1_tally_18 1 rfl ki_1 (Nat.le_of_ble_eq_true rfl) (loc' := [(1, .int (v1 + 1)), (0, .ref (gad Γ 41))]) rfl ?_
      refine j_goto hC (pc := 21) dX1_tally_21 (tgt := 2) rfl ?_
      refine j_sub [1, 0] (loc' := [(0, .ref (gad Γ 41)), (1, .int (v1 + 1))]) rfl ?_
      exact ih κ1 (v1 + 1)
    · refine j_iconst hC (pc := 24) dX1_tally_24 ki_0 ?_
      refine j_istore_n hC (pc := 25) dX1_tally_25 rfl (Nat.le_of_ble_eq_true rfl) (loc' := [(1, .int 0), (0, .ref (gad Γ 41))]) rfl ?_
      refine j_sub [1, 0] (loc' := [(0, .ref (gad Γ 41)), (1, .int 0)]) rfl ?_
      exact wX1_tally_26 hC hR hm F F κ 0
set_option maxRecDepth 20000 in
theorem wX1_tally {Γ : JCtx} (hC : jC Γ cX1_tally 2 RX1 none layX 147) (hR : gR Γ = rmH 0) (hm : gcells Γ ≤ (gR Γ).cells ∧ gslots Γ ≤ (gR Γ).slots) (F : Nat) (κ : Mem) : JP Γ (qf Γ oV) (pX1_tally F κ) κ 0 [(0, .ref (gad Γ 41))] [] := by
  unfold pX1_tally
  refine j_iconst hC (pc := 0) dX1_tally_0 ki_0 ?_
  refine j_istore_n hC (pc := 1) dX1_tally_1 rfl (Nat.le_of_ble_eq_true rfl) (loc' := [(1, .int 0), (0, .ref (gad Γ 41))]) rfl ?_
  refine j_sub [1, 0] (loc' := [(0, .ref (gad Γ 41)), (1, .int 0)]) rfl ?_
  exact wX1_tally_2 hC hR hm F F κ 0
theorem ctX1_tally {Δ : DCtx} {l : Launch} (hl : dlay Δ = layX) (hN : dN Δ = 147) (F : Nat) (κ : Mem) : ∀ r, pX1_tally F κ = some r → CT Δ l yX1_tally cX1_tally 2 none (rmH 0) [.ref (dad Δ 41)] κ none r :=
  ct_of (nL := 2) (ret := none) (lay := layX) (N := 147) (by decide +kernel) (fun Δ => [.ref (dad Δ 41)]) (fun _ => oV) (fun _ => (Nat.le_of_ble_eq_true rfl)) (fun Γ hR hm hC => wX1_tally hC hR hm F κ) Δ l hl hN
set_option maxRecDepth 20000 in
theorem wX1_judgeAll_25 {Γ : JCtx} (hC : jC Γ cX1_judgeAll 2 RX1 none layX 147) (hR : gR Γ = rmH 2) (hm : gcells Γ ≤ (gR Γ).cells ∧ gslots Γ ≤ (gR Γ).slots) (F : Nat) : ∀ (n : Nat) (κ : Mem) (v1 : Int32), JP Γ (qf Γ oV) (pX1_judgeAll_25 F n κ v1) κ 25 [(0, .ref (gad Γ 41)), (1, .int v1)] [] := by
  intro n
  induction n with
  | zero =>
    intro κ v1
    rw [pX1_judgeAll_25]
    exact j_none
  | succ fu ih =>
    intro κ v1
    rw [pX1_judgeAll_25]
    refine j_iload_n hC (pc := 25) dX1_judgeAll_25 1 rfl rfl ?_
    refine j_aload_n hC (pc := 26) dX1_judgeAll_26 0 rfl rfl ?_
    refine j_getR hC (pc := 27) dX1_judgeAll_27 kf_RX1_36 lX_41 (Nat.le_of_ble_eq_true rfl) rfl ?_
    refine j_getI hC (pc := 30) dX1_judgeAll_30 kf_RX1_40 lX_1 (Nat.le_of_ble_eq_true rfl) rfl ?_
    refine j_icmp_ge hC (pc := 33) dX1_judgeAll_33 (tgt := 47) rfl ?_ ?_
    · refine j_aload_n hC (pc := 36) dX1_judgeAll_36 0 rfl rfl ?_
      refine j_iload_n hC (pc := 37) dX1_judgeAll_37 1 rfl rfl ?_
      refine j_callV_V hC hR (ctX1_judge hC.l hC.cn F κ v1) kc_RX1_59 (Nat.le_of_ble_eq_true rfl) (Nat.le_of_ble_eq_true rfl) lX_41 (Nat.le_of_ble_eq_true rfl) rfl (As := [.int v1]) (rest := []) rfl rfl (Nat.le_of_ble_eq_true rfl) hm (pc := 38) dX1_judgeAll_38 (fun t2 => ?_)
      refine j_iinc hC (pc := 41) dX1_judgeAll_41 1 rfl ki_1 (Nat.le_of_ble_eq_true rfl) (loc' := [(1, .int (v1 + 1)), (0, .ref (gad Γ 41))]) rfl ?_
      refine j_goto hC (pc := 44) dX1_judgeAll_44 (tgt := 25) rfl ?_
      refine j_sub [1, 0] (loc' := [(0, .ref (gad Γ 41)), (1, .int (v1 + 1))]) rfl ?_
      exact ih t2 (v1 + 1)
    · refine j_aload_n hC (pc := 47) dX1_judgeAll_47 0 rfl rfl ?_
      refine j_callV_V hC hR (ctX1_tally hC.l hC.cn F κ) kc_RX1_63 (Nat.le_of_ble_eq_true rfl) (Nat.le_of_ble_eq_true rfl) lX_41 (Nat.le_of_ble_eq_true rfl) rfl (As := []) (rest := []) rfl rfl (Nat.le_of_ble_eq_true rfl) hm (pc := 48) dX1_judgeAll_48 (fun t3 => ?_)
      exact j_vret hC (pc := 51) dX1_judgeAll_51 rfl rfl
set_option maxRecDepth 20000 in
theorem wX1_judgeAll_2 {Γ : JCtx} (hC : jC Γ cX1_judgeAll 2 RX1 none layX 147) (hR : gR Γ = rmH 2) (hm : gcells Γ ≤ (gR Γ).cells ∧ gslots Γ ≤ (gR Γ).slots) (F : Nat) : ∀ (n : Nat) (κ : Mem) (v1 : Int32), JP Γ (qf Γ oV) (pX1_judgeAll_2 F n κ v1) κ 2 [(0, .ref (gad Γ 41)), (1, .int v1)] [] := by
  intro n
  induction n with
  | zero =>
    intro κ v1
    rw [pX1_judgeAll_2]
    exact j_none
  | succ fu ih =>
    intro κ v1
    rw [pX1_judgeAll_2]
    refine j_iload_n hC (pc := 2) dX1_judgeAll_2 1 rfl rfl ?_
    refine j_aload_n hC (pc := 3) dX1_judgeAll_3 0 rfl rfl ?_
    refine j_getI hC (pc := 4) dX1_judgeAll_4 kf_RX1_9 lX_41 (Nat.le_of_ble_eq_true rfl) rfl ?_
    refine j_icmp_ge hC (pc := 7) dX1_judgeAll_7 (tgt := 23) rfl ?_ ?_
    · refine j_aload_n hC (pc := 10) dX1_judgeAll_10 0 rfl rfl ?_
      refine j_getR hC (pc := 11) dX1_judgeAll_11 kf_RX1_24 lX_41 (Nat.le_of_ble_eq_true rfl) rfl ?_
      refine j_iload_n hC (pc := 14) dX1_judgeAll_14 1 rfl rfl ?_
      refine j_iconst hC (pc := 15) dX1_judgeAll_15 ki_0 ?_
      refine j_iast hC (pc := 16) dX1_judgeAll_16 lX_50 (Nat.le_of_ble_eq_true rfl) (fun κ1 => ?_)
      refine j_iinc hC (pc := 17) dX1_judgeAll_17 1 rfl ki_1 (Nat.le_of_ble_eq_true rfl) (loc' := [(1, .int (v1 + 1)), (0, .ref (gad Γ 41))]) rfl ?_
      refine j_goto hC (pc := 20) dX1_judgeAll_20 (tgt := 2) rfl ?_
      refine j_sub [1, 0] (loc' := [(0, .ref (gad Γ 41)), (1, .int (v1 + 1))]) rfl ?_
      exact ih κ1 (v1 + 1)
    · refine j_iconst hC (pc := 23) dX1_judgeAll_23 ki_0 ?_
      refine j_istore_n hC (pc := 24) dX1_judgeAll_24 rfl (Nat.le_of_ble_eq_true rfl) (loc' := [(1, .int 0), (0, .ref (gad Γ 41))]) rfl ?_
      refine j_sub [1, 0] (loc' := [(0, .ref (gad Γ 41)), (1, .int 0)]) rfl ?_
      exact wX1_judgeAll_25 hC hR hm F F κ 0
set_option maxRecDepth 20000 in
theorem wX1_judgeAll {Γ : JCtx} (hC : jC Γ cX1_judgeAll 2 RX1 none layX 147) (hR : gR Γ = rmH 2) (hm : gcells Γ ≤ (gR Γ).cells ∧ gslots Γ ≤ (gR Γ).slots) (F : Nat) (κ : Mem) : JP Γ (qf Γ oV) (pX1_judgeAll F κ) κ 0 [(0, .ref (gad Γ 41))] [] := by
  unfold pX1_judgeAll
  refine j_iconst hC (pc := 0) dX1_judgeAll_0 ki_0 ?_
  refine j_istore_n hC (pc := 1) dX1_judgeAll_1 rfl (Nat.le_of_ble_eq_true rfl) (loc' := [(1, .int 0), (0, .ref (gad Γ 41))]) rfl ?_
  refine j_sub [1, 0] (loc' := [(0, .ref (gad Γ 41)), (1, .int 0)]) rfl ?_
  exact wX1_judgeAll_2 hC hR hm F F κ 0
theorem ctX1_judgeAll {Δ : DCtx} {l : Launch} (hl : dlay Δ = layX) (hN : dN Δ = 147) (F : Nat) (κ : Mem) : ∀ r, pX1_judgeAll F κ = some r → CT Δ l yX1_judgeAll cX1_judgeAll 2 none (rmH 2) [.ref (dad Δ 41)] κ none r :=
  ct_of (nL := 2) (ret := none) (lay := layX) (N := 147) (by decide +kernel) (fun Δ => [.ref (dad Δ 41)]) (fun _ => oV) (fun _ => (Nat.le_of_ble_eq_true rfl)) (fun Γ hR hm hC => wX1_judgeAll hC hR hm F κ) Δ l hl hN
set_option maxRecDepth 20000 in
theorem wX1_arrange_87 {Γ : JCtx} (hC : jC Γ cX1_arrange 5 RX1 none layX 147) (hR : gR Γ = rmH 3) (hm : gcells Γ ≤ (gR Γ).cells ∧ gslots Γ ≤ (gR Γ).slots) (F : Nat) (v2 : Int32) (k62 : Mem → Int32 → Option Mem) (hk62 : ∀ (κ : Mem) (v2 : Int32), JP Γ (qf Γ oV) (k62 κ v2) κ 62 [(0, .ref (gad Γ 41)), (2, .int v2)] []) : ∀ (n : Nat) (κ : Mem) (v3 : Int32) (v4 : Int32), JP Γ (qf Γ oV) (pX1_arrange_87 F k62 v2 n κ v3 v4) κ 87 [(0, .ref (gad Γ 41)), (2, .int v2), (3, .int v3), (4, .int v4)] [] := by
  intro n
  induction n with
  | zero =>
    intro κ v3 v4
    rw [pX1_arrange_87]
    exact j_none
  | succ fu ih =>
    intro κ v3 v4
    rw [pX1_arrange_87]
    refine j_iload hC (pc := 87) dX1_arrange_87 3 rfl ?_
    refine j_aload_n hC (pc := 89) dX1_arrange_89 0 rfl rfl ?_
    refine j_getR hC (pc := 90) dX1_arrange_90 kf_RX1_36 lX_41 (Nat.le_of_ble_eq_true rfl) rfl ?_
    refine j_getI hC (pc := 93) dX1_arrange_93 kf_RX1_40 lX_1 (Nat.le_of_ble_eq_true rfl) rfl ?_
    refine j_icmp_ge hC (pc := 96) dX1_arrange_96 (tgt := 136) rfl ?_ ?_
    · refine j_aload_n hC (pc := 99) dX1_arrange_99 0 rfl rfl ?_
      refine j_getR hC (pc := 100) dX1_arrange_100 kf_RX1_21 lX_41 (Nat.le_of_ble_eq_true rfl) rfl ?_
      refine j_iload_n hC (pc := 103) dX1_arrange_103 1 rfl rfl ?_
      refine j_aald hC (pc := 104) dX1_arrange_104 lX_43 (Nat.le_of_ble_eq_true rfl) (kRt_3 _) (fun hq5 => ?_)
      refine j_iload_n hC (pc := 105) dX1_arrange_105 2 rfl rfl ?_
      refine j_aload_n hC (pc := 106) dX1_arrange_106 0 rfl rfl ?_
      refine j_getR hC (pc := 107) dX1_arrange_107 kf_RX1_36 lX_41 (Nat.le_of_ble_eq_true rfl) rfl ?_
      refine j_getR hC (pc := 110) dX1_arrange_110 kf_RX1_45 lX_1 (Nat.le_of_ble_eq_true rfl) rfl ?_
      refine j_iload hC (pc := 113) dX1_arrange_113 3 rfl ?_
      refine j_iald hC (pc := 115) dX1_arrange_115 lX_2 (Nat.le_of_ble_eq_true rfl) ?_
      refine j_aload_n hC (pc := 116) dX1_arrange_116 0 rfl rfl ?_
      refine j_getR hC (pc := 117) dX1_arrange_117 kf_RX1_36 lX_41 (Nat.le_of_ble_eq_true rfl) rfl ?_
      refine j_iload_n hC (pc := 120) dX1_arrange_120 1 rfl rfl ?_
      refine j_iload hC (pc := 121) dX1_arrange_121 3 rfl ?_
      refine j_callV_I hC hR (ctX2_weight hC.l hC.cn 1 isG_1 F κ v2 v4) kc_RX1_48 (Nat.le_of_ble_eq_true rfl) (Nat.le_of_ble_eq_true rfl) lX_1 (Nat.le_of_ble_eq_true rfl) rfl (As := [.int v2, .int v4]) (rest := [.int (mi κ 2 v4.toNatClampNeg), .int v3, .ref (gad Γ (44 + v2.toNatClampNeg * 1))]) rfl rfl (Nat.le_of_ble_eq_true rfl) hm (pc := 123) dX1_arrange_123 (fun t6 => ?_)
      refine j_callN_E hC hR (ctX10_lengthen hC.l hC.cn (44 + v2.toNatClampNeg * 1) (lenX_ok (lrow_43 hq5).1) (lrow_43 hq5).2 F κ v3 (mi κ 2 v4.toNatClampNeg) t6) kc_RX1_52 (Nat.le_of_ble_eq_true rfl) (Nat.le_of_ble_eq_true rfl) (As := [.ref (gad Γ (44 + v2.toNatClampNeg * 1)), .int v3, .int (mi κ 2 v4.toNatClampNeg), .int t6]) (rest := []) rfl rfl (Nat.le_of_ble_eq_true rfl) hm (pc := 126) dX1_arrange_126 (fun t7 => ?_)
      refine j_istore_n hC (pc := 129) dX1_arrange_129 rfl (Nat.le_of_ble_eq_true rfl) (loc' := [(3, .int (t7.1)), (0, .ref (gad Γ 41)), (2, .int v2), (4, .int v4)]) rfl ?_
      refine j_iinc hC (pc := 130) dX1_arrange_130 3 rfl ki_1 (Nat.le_of_ble_eq_true rfl) (loc' := [(4, .int (v4 + 1)), (3, .int (t7.1)), (0, .ref (gad Γ 41)), (2, .int v2)]) rfl ?_
      refine j_goto hC (pc := 133) dX1_arrange_133 (tgt := 87) rfl ?_
      refine j_sub [2, 3, 1, 0] (loc' := [(0, .ref (gad Γ 41)), (2, .int v2), (3, .int (t7.1)), (4, .int (v4 + 1))]) rfl ?_
      exact ih t7.2 t7.1 (v4 + 1)
    · refine j_iinc hC (pc := 136) dX1_arrange_136 1 rfl ki_1 (Nat.le_of_ble_eq_true rfl) (loc' := [(2, .int (v2 + 1)), (0, .ref (gad Γ 41)), (3, .int v3), (4, .int v4)]) rfl ?_
      refine j_goto hC (pc := 139) dX1_arrange_139 (tgt := 62) rfl ?_
      refine j_sub [1, 0] (loc' := [(0, .ref (gad Γ 41)), (2, .int (v2 + 1))]) rfl ?_
      exact hk62 κ (v2 + 1)
set_option maxRecDepth 20000 in
theorem wX1_arrange_62 {Γ : JCtx} (hC : jC Γ cX1_arrange 5 RX1 none layX 147) (hR : gR Γ = rmH 3) (hm : gcells Γ ≤ (gR Γ).cells ∧ gslots Γ ≤ (gR Γ).slots) (F : Nat) : ∀ (n : Nat) (κ : Mem) (v2 : Int32), JP Γ (qf Γ oV) (pX1_arrange_62 F n κ v2) κ 62 [(0, .ref (gad Γ 41)), (2, .int v2)] [] := by
  intro n
  induction n with
  | zero =>
    intro κ v2
    rw [pX1_arrange_62]
    exact j_none
  | succ fu ih =>
    intro κ v2
    rw [pX1_arrange_62]
    refine j_iload_n hC (pc := 62) dX1_arrange_62 1 rfl rfl ?_
    refine j_aload_n hC (pc := 63) dX1_arrange_63 0 rfl rfl ?_
    refine j_getR hC (pc := 64) dX1_arrange_64 kf_RX1_36 lX_41 (Nat.le_of_ble_eq_true rfl) rfl ?_
    refine j_getI hC (pc := 67) dX1_arrange_67 kf_RX1_40 lX_1 (Nat.le_of_ble_eq_true rfl) rfl ?_
    refine j_icmp_ge hC (pc := 70) dX1_arrange_70 (tgt := 142) rfl ?_ ?_
    · refine j_iconst hC (pc := 73) dX1_arrange_73 ki_1 ?_
      refine j_istore_n hC (pc := 74) dX1_arrange_74 rfl (Nat.le_of_ble_eq_true rfl) (loc' := [(3, .int 1), (0, .ref (gad Γ 41)), (2, .int v2)]) rfl ?_
      refine j_aload_n hC (pc := 75) dX1_arrange_75 1 rfl rfl ?_
      refine j_getR hC (pc := 76) dX1_arrange_76 kf_RX1_21 lX_41 (Nat.le_of_ble_eq_true rfl) rfl ?_
      refine j_iload_n hC (pc := 79) dX1_arrange_79 2 rfl rfl ?_
      refine j_aald hC (pc := 80) dX1_arrange_80 lX_43 (Nat.le_of_ble_eq_true rfl) (kRt_3 _) (fun hq3 => ?_)
      refine j_iconst hC (pc := 81) dX1_arrange_81 ki_0 ?_
      refine j_iconst hC (pc := 82) dX1_arrange_82 ki_0 ?_
      refine j_iast hC (pc := 83) dX1_arrange_83 (lrow_43 hq3).1 (lrow_43 hq3).2 (fun κ4 => ?_)
      refine j_iconst hC (pc := 84) dX1_arrange_84 ki_0 ?_
      refine j_istore hC (pc := 85) dX1_arrange_85 (Nat.le_of_ble_eq_true rfl) (loc' := [(4, .int 0), (3, .int 1), (0, .ref (gad Γ 41)), (2, .int v2)]) rfl ?_
      refine j_sub [2, 3, 1, 0] (loc' := [(0, .ref (gad Γ 41)), (2, .int v2), (3, .int 1), (4, .int 0)]) rfl ?_
      exact wX1_arrange_87 hC hR hm F v2 (pX1_arrange_62 F fu) ih F κ4 1 0
    · refine j_aload_n hC (pc := 142) dX1_arrange_142 0 rfl rfl ?_
      refine j_callV_V hC hR (ctX1_judgeAll hC.l hC.cn F κ) kc_RX1_56 (Nat.le_of_ble_eq_true rfl) (Nat.le_of_ble_eq_true rfl) lX_41 (Nat.le_of_ble_eq_true rfl) rfl (As := []) (rest := []) rfl rfl (Nat.le_of_ble_eq_true rfl) hm (pc := 143) dX1_arrange_143 (fun t8 => ?_)
      exact j_vret hC (pc := 146) dX1_arrange_146 rfl rfl
set_option maxRecDepth 20000 in
theorem wX1_arrange_57 {Γ : JCtx} (hC : jC Γ cX1_arrange 5 RX1 none layX 147) (hR : gR Γ = rmH 3) (hm : gcells Γ ≤ (gR Γ).cells ∧ gslots Γ ≤ (gR Γ).slots) (F : Nat) (κ : Mem) (y0 : Int32) : JP Γ (qf Γ oV) (pX1_arrange_57 F κ y0) κ 57 [(0, .ref (gad Γ 41))] [.int y0, .ref (gad Γ 41)] := by
  unfold pX1_arrange_57
  refine j_putI hC (pc := 57) dX1_arrange_57 kp_RX1_9 lX_41 (Nat.le_of_ble_eq_true rfl) rfl rfl rfl (fun κ2 => ?_)
  refine j_iconst hC (pc := 60) dX1_arrange_60 ki_0 ?_
  refine j_istore_n hC (pc := 61) dX1_arrange_61 rfl (Nat.le_of_ble_eq_true rfl) (loc' := [(2, .int 0), (0, .ref (gad Γ 41))]) rfl ?_
  refine j_sub [1, 0] (loc' := [(0, .ref (gad Γ 41)), (2, .int 0)]) rfl ?_
  exact wX1_arrange_62 hC hR hm F F κ2 0
set_option maxRecDepth 20000 in
theorem wX1_arrange_12 {Γ : JCtx} (hC : jC Γ cX1_arrange 5 RX1 none layX 147) (hR : gR Γ = rmH 3) (hm : gcells Γ ≤ (gR Γ).cells ∧ gslots Γ ≤ (gR Γ).slots) (F : Nat) : ∀ (n : Nat) (κ : Mem) (v1 : Int32) (v2 : Int32), JP Γ (qf Γ oV) (pX1_arrange_12 F n κ v1 v2) κ 12 [(0, .ref (gad Γ 41)), (1, .int v1), (2, .int v2)] [] := by
  intro n
  induction n with
  | zero =>
    intro κ v1 v2
    rw [pX1_arrange_12]
    exact j_none
  | succ fu ih =>
    intro κ v1 v2
    rw [pX1_arrange_12]
    refine j_iload_n hC (pc := 12) dX1_arrange_12 2 rfl rfl ?_
    refine j_if_lt hC (pc := 13) dX1_arrange_13 (tgt := 41) rfl ?_ ?_
    · refine j_aload_n hC (pc := 41) dX1_arrange_41 0 rfl rfl ?_
      refine j_aload_n hC (pc := 42) dX1_arrange_42 0 rfl rfl ?_
      refine j_getR hC (pc := 43) dX1_arrange_43 kf_RX1_36 lX_41 (Nat.le_of_ble_eq_true rfl) rfl ?_
      refine j_getI hC (pc := 46) dX1_arrange_46 kf_RX1_40 lX_1 (Nat.le_of_ble_eq_true rfl) rfl ?_
      refine j_if_ne hC (pc := 49) dX1_arrange_49 (tgt := 56) rfl ?_ ?_
      · refine j_iconst hC (pc := 52) dX1_arrange_52 ki_0 ?_
        refine j_goto hC (pc := 53) dX1_arrange_53 (tgt := 57) rfl ?_
        refine j_sub [0] (loc' := [(0, .ref (gad Γ 41))]) rfl ?_
        exact wX1_arrange_57 hC hR hm F κ 0
      · refine j_iload_n hC (pc := 56) dX1_arrange_56 1 rfl rfl ?_
        refine j_sub [0] (loc' := [(0, .ref (gad Γ 41))]) rfl ?_
        exact wX1_arrange_57 hC hR hm F κ v1
    · refine j_aload_n hC (pc := 16) dX1_arrange_16 0 rfl rfl ?_
      refine j_getR hC (pc := 17) dX1_arrange_17 kf_RX1_15 lX_41 (Nat.le_of_ble_eq_true rfl) rfl ?_
      refine j_iload_n hC (pc := 20) dX1_arrange_20 2 rfl rfl ?_
      refine j_iload_n hC (pc := 21) dX1_arrange_21 1 rfl rfl ?_
      refine j_iast hC (pc := 22) dX1_arrange_22 lX_42 (Nat.le_of_ble_eq_true rfl) (fun κ9 => ?_)
      refine j_iload_n hC (pc := 23) dX1_arrange_23 1 rfl rfl ?_
      refine j_aload_n hC (pc := 24) dX1_arrange_24 0 rfl rfl ?_
      refine j_getR hC (pc := 25) dX1_arrange_25 kf_RX1_36 lX_41 (Nat.le_of_ble_eq_true rfl) rfl ?_
      refine j_getR hC (pc := 28) dX1_arrange_28 kf_RX1_45 lX_1 (Nat.le_of_ble_eq_true rfl) rfl ?_
      refine j_iload_n hC (pc := 31) dX1_arrange_31 2 rfl rfl ?_
      refine j_iald hC (pc := 32) dX1_arrange_32 lX_2 (Nat.le_of_ble_eq_true rfl) ?_
      refine j_imul hC (pc := 33) dX1_arrange_33 ?_
      refine j_nmi (fun x10 => ?_)
      refine j_istore_n hC (pc := 34) dX1_arrange_34 rfl (Nat.le_of_ble_eq_true rfl) (loc' := [(1, .int x10), (0, .ref (gad Γ 41)), (2, .int v2)]) rfl ?_
      refine j_iinc hC (pc := 35) dX1_arrange_35 2 rfl ki_m1 (Nat.le_of_ble_eq_true rfl) (loc' := [(2, .int (v2 + (-1))), (1, .int x10), (0, .ref (gad Γ 41))]) rfl ?_
      refine j_goto hC (pc := 38) dX1_arrange_38 (tgt := 12) rfl ?_
      refine j_sub [2, 1, 0] (loc' := [(0, .ref (gad Γ 41)), (1, .int x10), (2, .int (v2 + (-1)))]) rfl ?_
      exact ih κ9 x10 (v2 + (-1))
set_option maxRecDepth 20000 in
theorem wX1_arrange {Γ : JCtx} (hC : jC Γ cX1_arrange 5 RX1 none layX 147) (hR : gR Γ = rmH 3) (hm : gcells Γ ≤ (gR Γ).cells ∧ gslots Γ ≤ (gR Γ).slots) (F : Nat) (κ : Mem) : JP Γ (qf Γ oV) (pX1_arrange F κ) κ 0 [(0, .ref (gad Γ 41))] [] := by
  unfold pX1_arrange
  refine j_iconst hC (pc := 0) dX1_arrange_0 ki_1 ?_
  refine j_istore_n hC (pc := 1) dX1_arrange_1 rfl (Nat.le_of_ble_eq_true rfl) (loc' := [(1, .int 1), (0, .ref (gad Γ 41))]) rfl ?_
  refine j_aload_n hC (pc := 2) dX1_arrange_2 1 rfl rfl ?_
  refine j_getR hC (pc := 3) dX1_arrange_3 kf_RX1_36 lX_41 (Nat.le_of_ble_eq_true rfl) rfl ?_
  refine j_getI hC (pc := 6) dX1_arrange_6 kf_RX1_40 lX_1 (Nat.le_of_ble_eq_true rfl) rfl ?_
  refine j_iconst hC (pc := 9) dX1_arrange_9 ki_1 ?_
  refine j_isub hC (pc := 10) dX1_arrange_10 ?_
  refine j_nmi (fun x1 => ?_)
  refine j_istore_n hC (pc := 11) dX1_arrange_11 rfl (Nat.le_of_ble_eq_true rfl) (loc' := [(2, .int x1), (1, .int 1), (0, .ref (gad Γ 41))]) rfl ?_
  refine j_sub [2, 1, 0] (loc' := [(0, .ref (gad Γ 41)), (1, .int 1), (2, .int x1)]) rfl ?_
  exact wX1_arrange_12 hC hR hm F F κ 1 x1
theorem ctX1_arrange {Δ : DCtx} {l : Launch} (hl : dlay Δ = layX) (hN : dN Δ = 147) (F : Nat) (κ : Mem) : ∀ r, pX1_arrange F κ = some r → CT Δ l yX1_arrange cX1_arrange 5 none (rmH 3) [.ref (dad Δ 41)] κ none r :=
  ct_of (nL := 5) (ret := none) (lay := layX) (N := 147) (by decide +kernel) (fun Δ => [.ref (dad Δ 41)]) (fun _ => oV) (fun _ => (Nat.le_of_ble_eq_true rfl)) (fun Γ hR hm hC => wX1_arrange hC hR hm F κ) Δ l hl hN
set_option maxRecDepth 20000 in
theorem wX4_sights_4 {Γ : JCtx} (hC : jC Γ cX4_sights 3 RX4 (some .int) layX 147) (hR : gR Γ = rmH 1) (hm : gcells Γ ≤ (gR Γ).cells ∧ gslots Γ ≤ (gR Γ).slots) (F : Nat) (κ : Mem) : ∀ (n : Nat) (v1 : Int32) (v2 : Int32), JP Γ (qf Γ (oI κ)) (pX4_sights_4 F κ n v1 v2) κ 4 [(0, .ref (gad Γ 54)), (1, .int v1), (2, .int v2)] [] := by
  intro n
  induction n with
  | zero =>
    intro v1 v2
    rw [pX4_sights_4]
    exact j_none
  | succ fu ih =>
    intro v1 v2
    rw [pX4_sights_4]
    refine j_iload_n hC (pc := 4) dX4_sights_4 2 rfl rfl ?_
    refine j_aload_n hC (pc := 5) dX4_sights_5 0 rfl rfl ?_
    refine j_getR hC (pc := 6) dX4_sights_6 kf_RX4_9 lX_54 (Nat.le_of_ble_eq_true rfl) rfl ?_
    refine j_getI hC (pc := 9) dX4_sights_9 kf_RX4_15 lX_1 (Nat.le_of_ble_eq_true rfl) rfl ?_
    refine j_icmp_ge hC (pc := 12) dX4_sights_12 (tgt := 36) rfl ?_ ?_
    · refine j_iload_n hC (pc := 15) dX4_sights_15 1 rfl rfl ?_
      refine j_aload_n hC (pc := 16) dX4_sights_16 0 rfl rfl ?_
      refine j_getR hC (pc := 17) dX4_sights_17 kf_RX4_9 lX_54 (Nat.le_of_ble_eq_true rfl) rfl ?_
      refine j_getR hC (pc := 20) dX4_sights_20 kf_RX4_21 lX_1 (Nat.le_of_ble_eq_true rfl) rfl ?_
      refine j_iload_n hC (pc := 23) dX4_sights_23 2 rfl rfl ?_
      refine j_iald hC (pc := 24) dX4_sights_24 lX_3 (Nat.le_of_ble_eq_true rfl) ?_
      refine j_callS_I hC hR (ctJ6_bitCount_0f7a4 hC.l hC.cn κ (mi κ 3 v2.toNatClampNeg)) kc_RX4_25 (Nat.le_of_ble_eq_true rfl) (Nat.le_of_ble_eq_true rfl) (As := [.int (mi κ 3 v2.toNatClampNeg)]) (rest := [.int v1]) rfl rfl (Nat.le_of_ble_eq_true rfl) hm (pc := 25) dX4_sights_25 (fun t1 => ?_)
      refine j_iadd hC (pc := 28) dX4_sights_28 ?_
      refine j_nmi (fun x2 => ?_)
      refine j_istore_n hC (pc := 29) dX4_sights_29 rfl (Nat.le_of_ble_eq_true rfl) (loc' := [(1, .int x2), (0, .ref (gad Γ 54)), (2, .int v2)]) rfl ?_
      refine j_iinc hC (pc := 30) dX4_sights_30 2 rfl ki_1 (Nat.le_of_ble_eq_true rfl) (loc' := [(2, .int (v2 + 1)), (1, .int x2), (0, .ref (gad Γ 54))]) rfl ?_
      refine j_goto hC (pc := 33) dX4_sights_33 (tgt := 4) rfl ?_
      refine j_sub [2, 1, 0] (loc' := [(0, .ref (gad Γ 54)), (1, .int x2), (2, .int (v2 + 1))]) rfl ?_
      exact ih x2 (v2 + 1)
    · refine j_iload_n hC (pc := 36) dX4_sights_36 1 rfl rfl ?_
      exact j_iret hC (pc := 37) dX4_sights_37 rfl rfl rfl
set_option maxRecDepth 20000 in
theorem wX4_sights {Γ : JCtx} (hC : jC Γ cX4_sights 3 RX4 (some .int) layX 147) (hR : gR Γ = rmH 1) (hm : gcells Γ ≤ (gR Γ).cells ∧ gslots Γ ≤ (gR Γ).slots) (F : Nat) (κ : Mem) : JP Γ (qf Γ (oI κ)) (pX4_sights F κ) κ 0 [(0, .ref (gad Γ 54))] [] := by
  unfold pX4_sights
  refine j_iconst hC (pc := 0) dX4_sights_0 ki_0 ?_
  refine j_istore_n hC (pc := 1) dX4_sights_1 rfl (Nat.le_of_ble_eq_true rfl) (loc' := [(1, .int 0), (0, .ref (gad Γ 54))]) rfl ?_
  refine j_iconst hC (pc := 2) dX4_sights_2 ki_0 ?_
  refine j_istore_n hC (pc := 3) dX4_sights_3 rfl (Nat.le_of_ble_eq_true rfl) (loc' := [(2, .int 0), (1, .int 0), (0, .ref (gad Γ 54))]) rfl ?_
  refine j_sub [2, 1, 0] (loc' := [(0, .ref (gad Γ 54)), (1, .int 0), (2, .int 0)]) rfl ?_
  exact wX4_sights_4 hC hR hm F κ F 0 0
theorem ctX4_sights {Δ : DCtx} {l : Launch} (hl : dlay Δ = layX) (hN : dN Δ = 147) (F : Nat) (κ : Mem) : ∀ r, pX4_sights F κ = some r → CT Δ l yX4_sights cX4_sights 3 (some .int) (rmH 1) [.ref (dad Δ 54)] κ (some (.int r)) κ :=
  ct_of (nL := 3) (ret := (some .int)) (lay := layX) (N := 147) (by decide +kernel) (fun Δ => [.ref (dad Δ 54)]) (fun _ => oI κ) (fun _ => (Nat.le_of_ble_eq_true rfl)) (fun Γ hR hm hC => wX4_sights hC hR hm F κ) Δ l hl hN
set_option maxRecDepth 20000 in
theorem wX4_linked {Γ : JCtx} (hC : jC Γ cX4_linked 2 RX4 (some .int) layX 147) (hR : gR Γ = rmH 1) (hm : gcells Γ ≤ (gR Γ).cells ∧ gslots Γ ≤ (gR Γ).slots) (F : Nat) (κ : Mem) (v1 : Int32) : JP Γ (qf Γ (oI κ)) (pX4_linked F κ v1) κ 0 [(0, .ref (gad Γ 54)), (1, .int v1)] [] := by
  unfold pX4_linked
  refine j_aload_n hC (pc := 0) dX4_linked_0 0 rfl rfl ?_
  refine j_getR hC (pc := 1) dX4_linked_1 kf_RX4_9 lX_54 (Nat.le_of_ble_eq_true rfl) rfl ?_
  refine j_getR hC (pc := 4) dX4_linked_4 kf_RX4_21 lX_1 (Nat.le_of_ble_eq_true rfl) rfl ?_
  refine j_iload_n hC (pc := 7) dX4_linked_7 1 rfl rfl ?_
  refine j_iald hC (pc := 8) dX4_linked_8 lX_3 (Nat.le_of_ble_eq_true rfl) ?_
  refine j_aload_n hC (pc := 9) dX4_linked_9 0 rfl rfl ?_
  refine j_getR hC (pc := 10) dX4_linked_10 kf_RX4_9 lX_54 (Nat.le_of_ble_eq_true rfl) rfl ?_
  refine j_iload_n hC (pc := 13) dX4_linked_13 1 rfl rfl ?_
  refine j_callV_I hC hR (ctX2_seenBy hC.l hC.cn 1 isG_1 F κ v1) kc_RX4_31 (Nat.le_of_ble_eq_true rfl) (Nat.le_of_ble_eq_true rfl) lX_1 (Nat.le_of_ble_eq_true rfl) rfl (As := [.int v1]) (rest := [.int (mi κ 3 v1.toNatClampNeg)]) rfl rfl (Nat.le_of_ble_eq_true rfl) hm (pc := 14) dX4_linked_14 (fun t1 => ?_)
  refine j_iand hC (pc := 17) dX4_linked_17 ?_
  exact j_iret hC (pc := 18) dX4_linked_18 rfl rfl rfl
theorem ctX4_linked {Δ : DCtx} {l : Launch} (hl : dlay Δ = layX) (hN : dN Δ = 147) (F : Nat) (κ : Mem) (v1 : Int32) : ∀ r, pX4_linked F κ v1 = some r → CT Δ l yX4_linked cX4_linked 2 (some .int) (rmH 1) [.ref (dad Δ 54), .int v1] κ (some (.int r)) κ :=
  ct_of (nL := 2) (ret := (some .int)) (lay := layX) (N := 147) (by decide +kernel) (fun Δ => [.ref (dad Δ 54), .int v1]) (fun _ => oI κ) (fun _ => (Nat.le_of_ble_eq_true rfl)) (fun Γ hR hm hC => wX4_linked hC hR hm F κ v1) Δ l hl hN
set_option maxRecDepth 20000 in
theorem wX4_links_4 {Γ : JCtx} (hC : jC Γ cX4_links 3 RX4 (some .int) layX 147) (hR : gR Γ = rmH 2) (hm : gcells Γ ≤ (gR Γ).cells ∧ gslots Γ ≤ (gR Γ).slots) (F : Nat) (κ : Mem) : ∀ (n : Nat) (v1 : Int32) (v2 : Int32), JP Γ (qf Γ (oI κ)) (pX4_links_4 F κ n v1 v2) κ 4 [(0, .ref (gad Γ 54)), (1, .int v1), (2, .int v2)] [] := by
  intro n
  induction n with
  | zero =>
    intro v1 v2
    rw [pX4_links_4]
    exact j_none
  | succ fu ih =>
    intro v1 v2
    rw [pX4_links_4]
    refine j_iload_n hC (pc := 4) dX4_links_4 2 rfl rfl ?_
    refine j_aload_n hC (pc := 5) dX4_links_5 0 rfl rfl ?_
    refine j_getR hC (pc := 6) dX4_links_6 kf_RX4_9 lX_54 (Nat.le_of_ble_eq_true rfl) rfl ?_
    refine j_getI hC (pc := 9) dX4_links_9 kf_RX4_15 lX_1 (Nat.le_of_ble_eq_true rfl) rfl ?_
    refine j_icmp_ge hC (pc := 12) dX4_links_12 (tgt := 32) rfl ?_ ?_
    · refine j_iload_n hC (pc := 15) dX4_links_15 1 rfl rfl ?_
      refine j_aload_n hC (pc := 16) dX4_links_16 0 rfl rfl ?_
      refine j_iload_n hC (pc := 17) dX4_links_17 2 rfl rfl ?_
      refine j_callV_I hC hR (ctX4_linked hC.l hC.cn F κ v2) kc_RX4_34 (Nat.le_of_ble_eq_true rfl) (Nat.le_of_ble_eq_true rfl) lX_54 (Nat.le_of_ble_eq_true rfl) rfl (As := [.int v2]) (rest := [.int v1]) rfl rfl (Nat.le_of_ble_eq_true rfl) hm (pc := 18) dX4_links_18 (fun t1 => ?_)
      refine j_callS_I hC hR (ctJ6_bitCount_0f7a4 hC.l hC.cn κ t1) kc_RX4_25 (Nat.le_of_ble_eq_true rfl) (Nat.le_of_ble_eq_true rfl) (As := [.int t1]) (rest := [.int v1]) rfl rfl (Nat.le_of_ble_eq_true rfl) hm (pc := 21) dX4_links_21 (fun t2 => ?_)
      refine j_iadd hC (pc := 24) dX4_links_24 ?_
      refine j_nmi (fun x3 => ?_)
      refine j_istore_n hC (pc := 25) dX4_links_25 rfl (Nat.le_of_ble_eq_true rfl) (loc' := [(1, .int x3), (0, .ref (gad Γ 54)), (2, .int v2)]) rfl ?_
      refine j_iinc hC (pc := 26) dX4_links_26 2 rfl ki_1 (Nat.le_of_ble_eq_true rfl) (loc' := [(2, .int (v2 + 1)), (1, .int x3), (0, .ref (gad Γ 54))]) rfl ?_
      refine j_goto hC (pc := 29) dX4_links_29 (tgt := 4) rfl ?_
      refine j_sub [2, 1, 0] (loc' := [(0, .ref (gad Γ 54)), (1, .int x3), (2, .int (v2 + 1))]) rfl ?_
      exact ih x3 (v2 + 1)
    · refine j_iload_n hC (pc := 32) dX4_links_32 1 rfl rfl ?_
      refine j_iconst hC (pc := 33) dX4_links_33 ki_2 ?_
      refine j_idiv hC (pc := 34) dX4_links_34 ?_
      exact j_iret hC (pc := 35) dX4_links_35 rfl rfl rfl
set_option maxRecDepth 20000 in
theorem wX4_links {Γ : JCtx} (hC : jC Γ cX4_links 3 RX4 (some .int) layX 147) (hR : gR Γ = rmH 2) (hm : gcells Γ ≤ (gR Γ).cells ∧ gslots Γ ≤ (gR Γ).slots) (F : Nat) (κ : Mem) : JP Γ (qf Γ (oI κ)) (pX4_links F κ) κ 0 [(0, .ref (gad Γ 54))] [] := by
  unfold pX4_links
  refine j_iconst hC (pc := 0) dX4_links_0 ki_0 ?_
  refine j_istore_n hC (pc := 1) dX4_links_1 rfl (Nat.le_of_ble_eq_true rfl) (loc' := [(1, .int 0), (0, .ref (gad Γ 54))]) rfl ?_
  refine j_iconst hC (pc := 2) dX4_links_2 ki_0 ?_
  refine j_istore_n hC (pc := 3) dX4_links_3 rfl (Nat.le_of_ble_eq_true rfl) (loc' := [(2, .int 0), (1, .int 0), (0, .ref (gad Γ 54))]) rfl ?_
  refine j_sub [2, 1, 0] (loc' := [(0, .ref (gad Γ 54)), (1, .int 0), (2, .int 0)]) rfl ?_
  exact wX4_links_4 hC hR hm F κ F 0 0
theorem ctX4_links {Δ : DCtx} {l : Launch} (hl : dlay Δ = layX) (hN : dN Δ = 147) (F : Nat) (κ : Mem) : ∀ r, pX4_links F κ = some r → CT Δ l yX4_links cX4_links 3 (some .int) (rmH 2) [.ref (dad Δ 54)] κ (some (.int r)) κ :=
  ct_of (nL := 3) (ret := (some .int)) (lay := layX) (N := 147) (by decide +kernel) (fun Δ => [.ref (dad Δ 54)]) (fun _ => oI κ) (fun _ => (Nat.le_of_ble_eq_true rfl)) (fun Γ hR hm hC => wX4_links hC hR hm F κ) Δ l hl hN
set_option maxRecDepth 20000 in
theorem wX4_isMutual_18 {Γ : JCtx} (hC : jC Γ cX4_isMutual 1 RX4 (some .boolean) layX 147) (hR : gR Γ = rmH 3) (hm : gcells Γ ≤ (gR Γ).cells ∧ gslots Γ ≤ (gR Γ).slots) (F : Nat) (κ : Mem) (y0 : Int32) : JP Γ (qf Γ (oI κ)) (pX4_isMutual_18 F κ y0) κ 18 [] [.int y0] := by
  unfold pX4_isMutual_18
  refine j_ckP (fun hq3 => ?_)
  exact j_iret hC (pc := 18) dX4_isMutual_18 rfl (isB_n hq3) rfl
set_option maxRecDepth 20000 in
theorem wX4_isMutual {Γ : JCtx} (hC : jC Γ cX4_isMutual 1 RX4 (some .boolean) layX 147) (hR : gR Γ = rmH 3) (hm : gcells Γ ≤ (gR Γ).cells ∧ gslots Γ ≤ (gR Γ).slots) (F : Nat) (κ : Mem) : JP Γ (qf Γ (oI κ)) (pX4_isMutual F κ) κ 0 [(0, .ref (gad Γ 54))] [] := by
  unfold pX4_isMutual
  refine j_aload_n hC (pc := 0) dX4_isMutual_0 0 rfl rfl ?_
  refine j_callV_I hC hR (ctX4_sights hC.l hC.cn F κ) kc_RX4_37 (Nat.le_of_ble_eq_true rfl) (Nat.le_of_ble_eq_true rfl) lX_54 (Nat.le_of_ble_eq_true rfl) rfl (As := []) (rest := []) rfl rfl (Nat.le_of_ble_eq_true rfl) hm (pc := 1) dX4_isMutual_1 (fun t1 => ?_)
  refine j_iconst hC (pc := 4) dX4_isMutual_4 ki_2 ?_
  refine j_aload_n hC (pc := 5) dX4_isMutual_5 0 rfl rfl ?_
  refine j_callV_I hC hR (ctX4_links hC.l hC.cn F κ) kc_RX4_41 (Nat.le_of_ble_eq_true rfl) (Nat.le_of_ble_eq_true rfl) lX_54 (Nat.le_of_ble_eq_true rfl) rfl (As := []) (rest := [.int 2, .int t1]) rfl rfl (Nat.le_of_ble_eq_true rfl) hm (pc := 6) dX4_isMutual_6 (fun t2 => ?_)
  refine j_imul hC (pc := 9) dX4_isMutual_9 ?_
  refine j_icmp_ne hC (pc := 10) dX4_isMutual_10 (tgt := 17) rfl ?_ ?_
  · refine j_iconst hC (pc := 13) dX4_isMutual_13 ki_1 ?_
    refine j_goto hC (pc := 14) dX4_isMutual_14 (tgt := 18) rfl ?_
    refine j_sub [] (loc' := []) rfl ?_
    exact wX4_isMutual_18 hC hR hm F κ 1
  · refine j_iconst hC (pc := 17) dX4_isMutual_17 ki_0 ?_
    refine j_sub [] (loc' := []) rfl ?_
    exact wX4_isMutual_18 hC hR hm F κ 0
theorem ctX4_isMutual {Δ : DCtx} {l : Launch} (hl : dlay Δ = layX) (hN : dN Δ = 147) (F : Nat) (κ : Mem) : ∀ r, pX4_isMutual F κ = some r → CT Δ l yX4_isMutual cX4_isMutual 1 (some .boolean) (rmH 3) [.ref (dad Δ 54)] κ (some (.int r)) κ :=
  ct_of (nL := 1) (ret := (some .boolean)) (lay := layX) (N := 147) (by decide +kernel) (fun Δ => [.ref (dad Δ 54)]) (fun _ => oI κ) (fun _ => (Nat.le_of_ble_eq_true rfl)) (fun Γ hR hm hC => wX4_isMutual hC hR hm F κ) Δ l hl hN
set_option maxRecDepth 20000 in
theorem wX1_situationOf {Γ : JCtx} (hC : jC Γ cX1_situationOf 3 RX1 (some .int) layX 147) (hR : gR Γ = rmH 0) (hm : gcells Γ ≤ (gR Γ).cells ∧ gslots Γ ≤ (gR Γ).slots) (κ : Mem) (v1 : Int32) (v2 : Int32) : JP Γ (qf Γ (oI κ)) (pX1_situationOf κ v1 v2) κ 0 [(0, .ref (gad Γ 41)), (1, .int v1), (2, .int v2)] [] := by
  unfold pX1_situationOf
  refine j_aload_n hC (pc := 0) dX1_situationOf_0 0 rfl rfl ?_
  refine j_getR hC (pc := 1) dX1_situationOf_1 kf_RX1_21 lX_41 (Nat.le_of_ble_eq_true rfl) rfl ?_
  refine j_iload_n hC (pc := 4) dX1_situationOf_4 1 rfl rfl ?_
  refine j_aald hC (pc := 5) dX1_situationOf_5 lX_43 (Nat.le_of_ble_eq_true rfl) (kRt_3 _) (fun hq1 => ?_)
  refine j_iload_n hC (pc := 6) dX1_situationOf_6 2 rfl rfl ?_
  refine j_iald hC (pc := 7) dX1_situationOf_7 (lrow_43 hq1).1 (lrow_43 hq1).2 ?_
  exact j_iret hC (pc := 8) dX1_situationOf_8 rfl rfl rfl
theorem ctX1_situationOf {Δ : DCtx} {l : Launch} (hl : dlay Δ = layX) (hN : dN Δ = 147) (κ : Mem) (v1 : Int32) (v2 : Int32) : ∀ r, pX1_situationOf κ v1 v2 = some r → CT Δ l yX1_situationOf cX1_situationOf 3 (some .int) (rmH 0) [.ref (dad Δ 41), .int v1, .int v2] κ (some (.int r)) κ :=
  ct_of (nL := 3) (ret := (some .int)) (lay := layX) (N := 147) (by decide +kernel) (fun Δ => [.ref (dad Δ 41), .int v1, .int v2]) (fun _ => oI κ) (fun _ => (Nat.le_of_ble_eq_true rfl)) (fun Γ hR hm hC => wX1_situationOf hC hR hm κ v1 v2) Δ l hl hN
set_option maxRecDepth 20000 in
theorem wX1_colouringsOfOneSituation {Γ : JCtx} (hC : jC Γ cX1_colouringsOfOneSituation 2 RX1 (some .int) layX 147) (hR : gR Γ = rmH 2) (hm : gcells Γ ≤ (gR Γ).cells ∧ gslots Γ ≤ (gR Γ).slots) (F : Nat) (κ : Mem) (v1 : Int32) : JP Γ (qf Γ (oI κ)) (pX1_colouringsOfOneSituation F κ v1) κ 0 [(0, .ref (gad Γ 41)), (1, .int v1)] [] := by
  unfold pX1_colouringsOfOneSituation
  refine j_aload_n hC (pc := 0) dX1_colouringsOfOneSituation_0 0 rfl rfl ?_
  refine j_getI hC (pc := 1) dX1_colouringsOfOneSituation_1 kf_RX1_9 lX_41 (Nat.le_of_ble_eq_true rfl) rfl ?_
  refine j_aload_n hC (pc := 4) dX1_colouringsOfOneSituation_4 0 rfl rfl ?_
  refine j_getR hC (pc := 5) dX1_colouringsOfOneSituation_5 kf_RX1_36 lX_41 (Nat.le_of_ble_eq_true rfl) rfl ?_
  refine j_iload_n hC (pc := 8) dX1_colouringsOfOneSituation_8 1 rfl rfl ?_
  refine j_callV_I hC hR (ctX2_situations hC.l hC.cn 1 isG_1 F κ v1) kc_RX1_72 (Nat.le_of_ble_eq_true rfl) (Nat.le_of_ble_eq_true rfl) lX_1 (Nat.le_of_ble_eq_true rfl) rfl (As := [.int v1]) (rest := [.int (mi κ 41 1)]) rfl rfl (Nat.le_of_ble_eq_true rfl) hm (pc := 9) dX1_colouringsOfOneSituation_9 (fun t1 => ?_)
  refine j_idiv hC (pc := 12) dX1_colouringsOfOneSituation_12 ?_
  exact j_iret hC (pc := 13) dX1_colouringsOfOneSituation_13 rfl rfl rfl
theorem ctX1_colouringsOfOneSituation {Δ : DCtx} {l : Launch} (hl : dlay Δ = layX) (hN : dN Δ = 147) (F : Nat) (κ : Mem) (v1 : Int32) : ∀ r, pX1_colouringsOfOneSituation F κ v1 = some r → CT Δ l yX1_colouringsOfOneSituation cX1_colouringsOfOneSituation 2 (some .int) (rmH 2) [.ref (dad Δ 41), .int v1] κ (some (.int r)) κ :=
  ct_of (nL := 2) (ret := (some .int)) (lay := layX) (N := 147) (by decide +kernel) (fun Δ => [.ref (dad Δ 41), .int v1]) (fun _ => oI κ) (fun _ => (Nat.le_of_ble_eq_true rfl)) (fun Γ hR hm hC => wX1_colouringsOfOneSituation hC hR hm F κ v1) Δ l hl hN
set_option maxRecDepth 20000 in
theorem wX1_lostInAll {Γ : JCtx} (hC : jC Γ cX1_lostInAll 1 RX1 (some .int) layX 147) (hR : gR Γ = rmH 0) (hm : gcells Γ ≤ (gR Γ).cells ∧ gslots Γ ≤ (gR Γ).slots) (κ : Mem) : JP Γ (qf Γ (oI κ)) (pX1_lostInAll κ) κ 0 [(0, .ref (gad Γ 41))] [] := by
  unfold pX1_lostInAll
  refine j_aload_n hC (pc := 0) dX1_lostInAll_0 0 rfl rfl ?_
  refine j_getR hC (pc := 1) dX1_lostInAll_1 kf_RX1_27 lX_41 (Nat.le_of_ble_eq_true rfl) rfl ?_
  refine j_iconst hC (pc := 4) dX1_lostInAll_4 ki_0 ?_
  refine j_iald hC (pc := 5) dX1_lostInAll_5 lX_51 (Nat.le_of_ble_eq_true rfl) ?_
  exact j_iret hC (pc := 6) dX1_lostInAll_6 rfl rfl rfl
theorem ctX1_lostInAll {Δ : DCtx} {l : Launch} (hl : dlay Δ = layX) (hN : dN Δ = 147) (κ : Mem) : ∀ r, pX1_lostInAll κ = some r → CT Δ l yX1_lostInAll cX1_lostInAll 1 (some .int) (rmH 0) [.ref (dad Δ 41)] κ (some (.int r)) κ :=
  ct_of (nL := 1) (ret := (some .int)) (lay := layX) (N := 147) (by decide +kernel) (fun Δ => [.ref (dad Δ 41)]) (fun _ => oI κ) (fun _ => (Nat.le_of_ble_eq_true rfl)) (fun Γ hR hm hC => wX1_lostInAll hC hR hm κ) Δ l hl hN
set_option maxRecDepth 20000 in
theorem wX1_lostAt_31 {Γ : JCtx} (hC : jC Γ cX1_lostAt 4 RX1 (some .int) layX 147) (hR : gR Γ = rmH 0) (hm : gcells Γ ≤ (gR Γ).cells ∧ gslots Γ ≤ (gR Γ).slots) (F : Nat) (κ : Mem) (v1 : Int32) (v2 : Int32) (v3 : Int32) (k4 : Int32 → Int32 → Option Int32) (hk4 : ∀ (v2 : Int32) (v3 : Int32), JP Γ (qf Γ (oI κ)) (k4 v2 v3) κ 4 [(0, .ref (gad Γ 41)), (1, .int v1), (2, .int v2), (3, .int v3)] []) : JP Γ (qf Γ (oI κ)) (pX1_lostAt_31 F κ k4 v1 v2 v3) κ 31 [(0, .ref (gad Γ 41)), (1, .int v1), (2, .int v2), (3, .int v3)] [] := by
  unfold pX1_lostAt_31
  refine j_iinc hC (pc := 31) dX1_lostAt_31 3 rfl ki_1 (Nat.le_of_ble_eq_true rfl) (loc' := [(3, .int (v3 + 1)), (0, .ref (gad Γ 41)), (1, .int v1), (2, .int v2)]) rfl ?_
  refine j_goto hC (pc := 34) dX1_lostAt_34 (tgt := 4) rfl ?_
  refine j_sub [1, 2, 3, 0] (loc' := [(0, .ref (gad Γ 41)), (1, .int v1), (2, .int v2), (3, .int (v3 + 1))]) rfl ?_
  exact hk4 v2 (v3 + 1)
set_option maxRecDepth 20000 in
theorem wX1_lostAt_4 {Γ : JCtx} (hC : jC Γ cX1_lostAt 4 RX1 (some .int) layX 147) (hR : gR Γ = rmH 0) (hm : gcells Γ ≤ (gR Γ).cells ∧ gslots Γ ≤ (gR Γ).slots) (F : Nat) (κ : Mem) (v1 : Int32) : ∀ (n : Nat) (v2 : Int32) (v3 : Int32), JP Γ (qf Γ (oI κ)) (pX1_lostAt_4 F κ v1 n v2 v3) κ 4 [(0, .ref (gad Γ 41)), (1, .int v1), (2, .int v2), (3, .int v3)] [] := by
  intro n
  induction n with
  | zero =>
    intro v2 v3
    rw [pX1_lostAt_4]
    exact j_none
  | succ fu ih =>
    intro v2 v3
    rw [pX1_lostAt_4]
    refine j_iload_n hC (pc := 4) dX1_lostAt_4 3 rfl rfl ?_
    refine j_aload_n hC (pc := 5) dX1_lostAt_5 0 rfl rfl ?_
    refine j_getI hC (pc := 6) dX1_lostAt_6 kf_RX1_9 lX_41 (Nat.le_of_ble_eq_true rfl) rfl ?_
    refine j_icmp_ge hC (pc := 9) dX1_lostAt_9 (tgt := 37) rfl ?_ ?_
    · refine j_aload_n hC (pc := 12) dX1_lostAt_12 0 rfl rfl ?_
      refine j_getR hC (pc := 13) dX1_lostAt_13 kf_RX1_24 lX_41 (Nat.le_of_ble_eq_true rfl) rfl ?_
      refine j_iload_n hC (pc := 16) dX1_lostAt_16 3 rfl rfl ?_
      refine j_iald hC (pc := 17) dX1_lostAt_17 lX_50 (Nat.le_of_ble_eq_true rfl) ?_
      refine j_if_ne hC (pc := 18) dX1_lostAt_18 (tgt := 31) rfl ?_ ?_
      · refine j_iload_n hC (pc := 21) dX1_lostAt_21 2 rfl rfl ?_
        refine j_iload_n hC (pc := 22) dX1_lostAt_22 1 rfl rfl ?_
        refine j_icmp_ne hC (pc := 23) dX1_lostAt_23 (tgt := 28) rfl ?_ ?_
        · refine j_iload_n hC (pc := 26) dX1_lostAt_26 3 rfl rfl ?_
          exact j_iret hC (pc := 27) dX1_lostAt_27 rfl rfl rfl
        · refine j_iinc hC (pc := 28) dX1_lostAt_28 2 rfl ki_1 (Nat.le_of_ble_eq_true rfl) (loc' := [(2, .int (v2 + 1)), (0, .ref (gad Γ 41)), (1, .int v1), (3, .int v3)]) rfl ?_
          refine j_sub [1, 2, 0, 3] (loc' := [(0, .ref (gad Γ 41)), (1, .int v1), (2, .int (v2 + 1)), (3, .int v3)]) rfl ?_
          exact wX1_lostAt_31 hC hR hm F κ v1 (v2 + 1) v3 (pX1_lostAt_4 F κ v1 fu) ih
      · exact wX1_lostAt_31 hC hR hm F κ v1 v2 v3 (pX1_lostAt_4 F κ v1 fu) ih
    · refine j_iconst hC (pc := 37) dX1_lostAt_37 ki_m1 ?_
      exact j_iret hC (pc := 38) dX1_lostAt_38 rfl rfl rfl
set_option maxRecDepth 20000 in
theorem wX1_lostAt {Γ : JCtx} (hC : jC Γ cX1_lostAt 4 RX1 (some .int) layX 147) (hR : gR Γ = rmH 0) (hm : gcells Γ ≤ (gR Γ).cells ∧ gslots Γ ≤ (gR Γ).slots) (F : Nat) (κ : Mem) (v1 : Int32) : JP Γ (qf Γ (oI κ)) (pX1_lostAt F κ v1) κ 0 [(0, .ref (gad Γ 41)), (1, .int v1)] [] := by
  unfold pX1_lostAt
  refine j_iconst hC (pc := 0) dX1_lostAt_0 ki_0 ?_
  refine j_istore_n hC (pc := 1) dX1_lostAt_1 rfl (Nat.le_of_ble_eq_true rfl) (loc' := [(2, .int 0), (0, .ref (gad Γ 41)), (1, .int v1)]) rfl ?_
  refine j_iconst hC (pc := 2) dX1_lostAt_2 ki_0 ?_
  refine j_istore_n hC (pc := 3) dX1_lostAt_3 rfl (Nat.le_of_ble_eq_true rfl) (loc' := [(3, .int 0), (2, .int 0), (0, .ref (gad Γ 41)), (1, .int v1)]) rfl ?_
  refine j_sub [2, 3, 1, 0] (loc' := [(0, .ref (gad Γ 41)), (1, .int v1), (2, .int 0), (3, .int 0)]) rfl ?_
  exact wX1_lostAt_4 hC hR hm F κ v1 F 0 0
theorem ctX1_lostAt {Δ : DCtx} {l : Launch} (hl : dlay Δ = layX) (hN : dN Δ = 147) (F : Nat) (κ : Mem) (v1 : Int32) : ∀ r, pX1_lostAt F κ v1 = some r → CT Δ l yX1_lostAt cX1_lostAt 4 (some .int) (rmH 0) [.ref (dad Δ 41), .int v1] κ (some (.int r)) κ :=
  ct_of (nL := 4) (ret := (some .int)) (lay := layX) (N := 147) (by decide +kernel) (fun Δ => [.ref (dad Δ 41), .int v1]) (fun _ => oI κ) (fun _ => (Nat.le_of_ble_eq_true rfl)) (fun Γ hR hm hC => wX1_lostAt hC hR hm F κ v1) Δ l hl hN
set_option maxRecDepth 20000 in
theorem wX1_withRight_44 {Γ : JCtx} (hC : jC Γ cX1_withRight 6 RX1 (some .int) layX 147) (hR : gR Γ = rmH 1) (hm : gcells Γ ≤ (gR Γ).cells ∧ gslots Γ ≤ (gR Γ).slots) (F : Nat) (κ : Mem) (v1 : Int32) (v2 : Int32) (v3 : Int32) (v4 : Int32) (k5 : Int32 → Int32 → Option Int32) (hk5 : ∀ (v3 : Int32) (v4 : Int32), JP Γ (qf Γ (oI κ)) (k5 v3 v4) κ 5 [(0, .ref (gad Γ 41)), (1, .int v1), (2, .int v2), (3, .int v3), (4, .int v4)] []) : JP Γ (qf Γ (oI κ)) (pX1_withRight_44 F κ k5 v1 v2 v3 v4) κ 44 [(0, .ref (gad Γ 41)), (1, .int v1), (2, .int v2), (3, .int v3), (4, .int v4)] [] := by
  unfold pX1_withRight_44
  refine j_iinc hC (pc := 44) dX1_withRight_44 4 rfl ki_1 (Nat.le_of_ble_eq_true rfl) (loc' := [(4, .int (v4 + 1)), (0, .ref (gad Γ 41)), (1, .int v1), (2, .int v2), (3, .int v3)]) rfl ?_
  refine j_goto hC (pc := 47) dX1_withRight_47 (tgt := 5) rfl ?_
  refine j_sub [1, 2, 3, 4, 0] (loc' := [(0, .ref (gad Γ 41)), (1, .int v1), (2, .int v2), (3, .int v3), (4, .int (v4 + 1))]) rfl ?_
  exact hk5 v3 (v4 + 1)
set_option maxRecDepth 20000 in
theorem wX1_withRight_5 {Γ : JCtx} (hC : jC Γ cX1_withRight 6 RX1 (some .int) layX 147) (hR : gR Γ = rmH 1) (hm : gcells Γ ≤ (gR Γ).cells ∧ gslots Γ ≤ (gR Γ).slots) (F : Nat) (κ : Mem) (v1 : Int32) (v2 : Int32) : ∀ (n : Nat) (v3 : Int32) (v4 : Int32), JP Γ (qf Γ (oI κ)) (pX1_withRight_5 F κ v1 v2 n v3 v4) κ 5 [(0, .ref (gad Γ 41)), (1, .int v1), (2, .int v2), (3, .int v3), (4, .int v4)] [] := by
  intro n
  induction n with
  | zero =>
    intro v3 v4
    rw [pX1_withRight_5]
    exact j_none
  | succ fu ih =>
    intro v3 v4
    rw [pX1_withRight_5]
    refine j_iload hC (pc := 5) dX1_withRight_5 4 rfl ?_
    refine j_aload_n hC (pc := 7) dX1_withRight_7 0 rfl rfl ?_
    refine j_getR hC (pc := 8) dX1_withRight_8 kf_RX1_27 lX_41 (Nat.le_of_ble_eq_true rfl) rfl ?_
    refine j_alenI hC (pc := 11) dX1_withRight_11 lX_51 (Nat.le_of_ble_eq_true rfl) rfl ?_
    refine j_icmp_ge hC (pc := 12) dX1_withRight_12 (tgt := 50) rfl ?_ ?_
    · refine j_iload hC (pc := 15) dX1_withRight_15 4 rfl ?_
      refine j_callS_I hC hR (ctJ6_bitCount_0f7a4 hC.l hC.cn κ v4) kc_RX1_76 (Nat.le_of_ble_eq_true rfl) (Nat.le_of_ble_eq_true rfl) (As := [.int v4]) (rest := []) rfl rfl (Nat.le_of_ble_eq_true rfl) hm (pc := 17) dX1_withRight_17 (fun t1 => ?_)
      refine j_istore hC (pc := 20) dX1_withRight_20 (Nat.le_of_ble_eq_true rfl) (loc' := [(5, .int t1), (0, .ref (gad Γ 41)), (1, .int v1), (2, .int v2), (3, .int v3), (4, .int v4)]) rfl ?_
      refine j_iload hC (pc := 22) dX1_withRight_22 0 rfl ?_
      refine j_iload_n hC (pc := 24) dX1_withRight_24 2 rfl rfl ?_
      refine j_icmp_lt hC (pc := 25) dX1_withRight_25 (tgt := 44) rfl ?_ ?_
      · refine j_sub [1, 2, 3, 4, 5] (loc' := [(0, .ref (gad Γ 41)), (1, .int v1), (2, .int v2), (3, .int v3), (4, .int v4)]) rfl ?_
        exact wX1_withRight_44 hC hR hm F κ v1 v2 v3 v4 (pX1_withRight_5 F κ v1 v2 fu) ih
      · refine j_iload hC (pc := 28) dX1_withRight_28 0 rfl ?_
        refine j_iload_n hC (pc := 30) dX1_withRight_30 3 rfl rfl ?_
        refine j_icmp_gt hC (pc := 31) dX1_withRight_31 (tgt := 44) rfl ?_ ?_
        · refine j_iload_n hC (pc := 34) dX1_withRight_34 4 rfl rfl ?_
          refine j_aload_n hC (pc := 35) dX1_withRight_35 1 rfl rfl ?_
          refine j_getR hC (pc := 36) dX1_withRight_36 kf_RX1_27 lX_41 (Nat.le_of_ble_eq_true rfl) rfl ?_
          refine j_iload hC (pc := 39) dX1_withRight_39 5 rfl ?_
          refine j_iald hC (pc := 41) dX1_withRight_41 lX_51 (Nat.le_of_ble_eq_true rfl) ?_
          refine j_iadd hC (pc := 42) dX1_withRight_42 ?_
          refine j_nmi (fun x2 => ?_)
          refine j_istore_n hC (pc := 43) dX1_withRight_43 rfl (Nat.le_of_ble_eq_true rfl) (loc' := [(3, .int x2), (5, .int t1), (0, .ref (gad Γ 41)), (1, .int v1), (2, .int v2), (4, .int v4)]) rfl ?_
          refine j_sub [2, 3, 4, 0, 5] (loc' := [(0, .ref (gad Γ 41)), (1, .int v1), (2, .int v2), (3, .int x2), (4, .int v4)]) rfl ?_
          exact wX1_withRight_44 hC hR hm F κ v1 v2 x2 v4 (pX1_withRight_5 F κ v1 v2 fu) ih
        · refine j_sub [1, 2, 3, 4, 5] (loc' := [(0, .ref (gad Γ 41)), (1, .int v1), (2, .int v2), (3, .int v3), (4, .int v4)]) rfl ?_
          exact wX1_withRight_44 hC hR hm F κ v1 v2 v3 v4 (pX1_withRight_5 F κ v1 v2 fu) ih
    · refine j_iload_n hC (pc := 50) dX1_withRight_50 3 rfl rfl ?_
      exact j_iret hC (pc := 51) dX1_withRight_51 rfl rfl rfl
set_option maxRecDepth 20000 in
theorem wX1_withRight {Γ : JCtx} (hC : jC Γ cX1_withRight 6 RX1 (some .int) layX 147) (hR : gR Γ = rmH 1) (hm : gcells Γ ≤ (gR Γ).cells ∧ gslots Γ ≤ (gR Γ).slots) (F : Nat) (κ : Mem) (v1 : Int32) (v2 : Int32) : JP Γ (qf Γ (oI κ)) (pX1_withRight F κ v1 v2) κ 0 [(0, .ref (gad Γ 41)), (1, .int v1), (2, .int v2)] [] := by
  unfold pX1_withRight
  refine j_iconst hC (pc := 0) dX1_withRight_0 ki_0 ?_
  refine j_istore_n hC (pc := 1) dX1_withRight_1 rfl (Nat.le_of_ble_eq_true rfl) (loc' := [(3, .int 0), (0, .ref (gad Γ 41)), (1, .int v1), (2, .int v2)]) rfl ?_
  refine j_iconst hC (pc := 2) dX1_withRight_2 ki_0 ?_
  refine j_istore hC (pc := 3) dX1_withRight_3 (Nat.le_of_ble_eq_true rfl) (loc' := [(4, .int 0), (3, .int 0), (0, .ref (gad Γ 41)), (1, .int v1), (2, .int v2)]) rfl ?_
  refine j_sub [2, 3, 4, 1, 0] (loc' := [(0, .ref (gad Γ 41)), (1, .int v1), (2, .int v2), (3, .int 0), (4, .int 0)]) rfl ?_
  exact wX1_withRight_5 hC hR hm F κ v1 v2 F 0 0
theorem ctX1_withRight {Δ : DCtx} {l : Launch} (hl : dlay Δ = layX) (hN : dN Δ = 147) (F : Nat) (κ : Mem) (v1 : Int32) (v2 : Int32) : ∀ r, pX1_withRight F κ v1 v2 = some r → CT Δ l yX1_withRight cX1_withRight 6 (some .int) (rmH 1) [.ref (dad Δ 41), .int v1, .int v2] κ (some (.int r)) κ :=
  ct_of (nL := 6) (ret := (some .int)) (lay := layX) (N := 147) (by decide +kernel) (fun Δ => [.ref (dad Δ 41), .int v1, .int v2]) (fun _ => oI κ) (fun _ => (Nat.le_of_ble_eq_true rfl)) (fun Γ hR hm hC => wX1_withRight hC hR hm F κ v1 v2) Δ l hl hN
set_option maxRecDepth 20000 in
theorem wX1_allRightOf_29 {Γ : JCtx} (hC : jC Γ cX1_allRightOf 4 RX1 (some .int) layX 147) (hR : gR Γ = rmH 0) (hm : gcells Γ ≤ (gR Γ).cells ∧ gslots Γ ≤ (gR Γ).slots) (F : Nat) (κ : Mem) (v1 : Int32) (v2 : Int32) (v3 : Int32) (k4 : Int32 → Int32 → Option Int32) (hk4 : ∀ (v2 : Int32) (v3 : Int32), JP Γ (qf Γ (oI κ)) (k4 v2 v3) κ 4 [(0, .ref (gad Γ 41)), (1, .int v1), (2, .int v2), (3, .int v3)] []) : JP Γ (qf Γ (oI κ)) (pX1_allRightOf_29 F κ k4 v1 v2 v3) κ 29 [(0, .ref (gad Γ 41)), (1, .int v1), (2, .int v2), (3, .int v3)] [] := by
  unfold pX1_allRightOf_29
  refine j_iinc hC (pc := 29) dX1_allRightOf_29 3 rfl ki_1 (Nat.le_of_ble_eq_true rfl) (loc' := [(3, .int (v3 + 1)), (0, .ref (gad Γ 41)), (1, .int v1), (2, .int v2)]) rfl ?_
  refine j_goto hC (pc := 32) dX1_allRightOf_32 (tgt := 4) rfl ?_
  refine j_sub [1, 2, 3, 0] (loc' := [(0, .ref (gad Γ 41)), (1, .int v1), (2, .int v2), (3, .int (v3 + 1))]) rfl ?_
  exact hk4 v2 (v3 + 1)
set_option maxRecDepth 20000 in
theorem wX1_allRightOf_4 {Γ : JCtx} (hC : jC Γ cX1_allRightOf 4 RX1 (some .int) layX 147) (hR : gR Γ = rmH 0) (hm : gcells Γ ≤ (gR Γ).cells ∧ gslots Γ ≤ (gR Γ).slots) (F : Nat) (κ : Mem) (v1 : Int32) : ∀ (n : Nat) (v2 : Int32) (v3 : Int32), JP Γ (qf Γ (oI κ)) (pX1_allRightOf_4 F κ v1 n v2 v3) κ 4 [(0, .ref (gad Γ 41)), (1, .int v1), (2, .int v2), (3, .int v3)] [] := by
  intro n
  induction n with
  | zero =>
    intro v2 v3
    rw [pX1_allRightOf_4]
    exact j_none
  | succ fu ih =>
    intro v2 v3
    rw [pX1_allRightOf_4]
    refine j_iload_n hC (pc := 4) dX1_allRightOf_4 3 rfl rfl ?_
    refine j_aload_n hC (pc := 5) dX1_allRightOf_5 0 rfl rfl ?_
    refine j_getR hC (pc := 6) dX1_allRightOf_6 kf_RX1_27 lX_41 (Nat.le_of_ble_eq_true rfl) rfl ?_
    refine j_alenI hC (pc := 9) dX1_allRightOf_9 lX_51 (Nat.le_of_ble_eq_true rfl) rfl ?_
    refine j_icmp_ge hC (pc := 10) dX1_allRightOf_10 (tgt := 35) rfl ?_ ?_
    · refine j_iload_n hC (pc := 13) dX1_allRightOf_13 3 rfl rfl ?_
      refine j_iload_n hC (pc := 14) dX1_allRightOf_14 1 rfl rfl ?_
      refine j_iand hC (pc := 15) dX1_allRightOf_15 ?_
      refine j_iload_n hC (pc := 16) dX1_allRightOf_16 1 rfl rfl ?_
      refine j_icmp_ne hC (pc := 17) dX1_allRightOf_17 (tgt := 29) rfl ?_ ?_
      · refine j_iload_n hC (pc := 20) dX1_allRightOf_20 2 rfl rfl ?_
        refine j_aload_n hC (pc := 21) dX1_allRightOf_21 0 rfl rfl ?_
        refine j_getR hC (pc := 22) dX1_allRightOf_22 kf_RX1_27 lX_41 (Nat.le_of_ble_eq_true rfl) rfl ?_
        refine j_iload_n hC (pc := 25) dX1_allRightOf_25 3 rfl rfl ?_
        refine j_iald hC (pc := 26) dX1_allRightOf_26 lX_51 (Nat.le_of_ble_eq_true rfl) ?_
        refine j_iadd hC (pc := 27) dX1_allRightOf_27 ?_
        refine j_nmi (fun x1 => ?_)
        refine j_istore_n hC (pc := 28) dX1_allRightOf_28 rfl (Nat.le_of_ble_eq_true rfl) (loc' := [(2, .int x1), (0, .ref (gad Γ 41)), (1, .int v1), (3, .int v3)]) rfl ?_
        refine j_sub [1, 2, 0, 3] (loc' := [(0, .ref (gad Γ 41)), (1, .int v1), (2, .int x1), (3, .int v3)]) rfl ?_
        exact wX1_allRightOf_29 hC hR hm F κ v1 x1 v3 (pX1_allRightOf_4 F κ v1 fu) ih
      · exact wX1_allRightOf_29 hC hR hm F κ v1 v2 v3 (pX1_allRightOf_4 F κ v1 fu) ih
    · refine j_iload_n hC (pc := 35) dX1_allRightOf_35 2 rfl rfl ?_
      exact j_iret hC (pc := 36) dX1_allRightOf_36 rfl rfl rfl
set_option maxRecDepth 20000 in
theorem wX1_allRightOf {Γ : JCtx} (hC : jC Γ cX1_allRightOf 4 RX1 (some .int) layX 147) (hR : gR Γ = rmH 0) (hm : gcells Γ ≤ (gR Γ).cells ∧ gslots Γ ≤ (gR Γ).slots) (F : Nat) (κ : Mem) (v1 : Int32) : JP Γ (qf Γ (oI κ)) (pX1_allRightOf F κ v1) κ 0 [(0, .ref (gad Γ 41)), (1, .int v1)] [] := by
  unfold pX1_allRightOf
  refine j_iconst hC (pc := 0) dX1_allRightOf_0 ki_0 ?_
  refine j_istore_n hC (pc := 1) dX1_allRightOf_1 rfl (Nat.le_of_ble_eq_true rfl) (loc' := [(2, .int 0), (0, .ref (gad Γ 41)), (1, .int v1)]) rfl ?_
  refine j_iconst hC (pc := 2) dX1_allRightOf_2 ki_0 ?_
  refine j_istore_n hC (pc := 3) dX1_allRightOf_3 rfl (Nat.le_of_ble_eq_true rfl) (loc' := [(3, .int 0), (2, .int 0), (0, .ref (gad Γ 41)), (1, .int v1)]) rfl ?_
  refine j_sub [2, 3, 1, 0] (loc' := [(0, .ref (gad Γ 41)), (1, .int v1), (2, .int 0), (3, .int 0)]) rfl ?_
  exact wX1_allRightOf_4 hC hR hm F κ v1 F 0 0
theorem ctX1_allRightOf {Δ : DCtx} {l : Launch} (hl : dlay Δ = layX) (hN : dN Δ = 147) (F : Nat) (κ : Mem) (v1 : Int32) : ∀ r, pX1_allRightOf F κ v1 = some r → CT Δ l yX1_allRightOf cX1_allRightOf 4 (some .int) (rmH 0) [.ref (dad Δ 41), .int v1] κ (some (.int r)) κ :=
  ct_of (nL := 4) (ret := (some .int)) (lay := layX) (N := 147) (by decide +kernel) (fun Δ => [.ref (dad Δ 41), .int v1]) (fun _ => oI κ) (fun _ => (Nat.le_of_ble_eq_true rfl)) (fun Γ hR hm hC => wX1_allRightOf hC hR hm F κ v1) Δ l hl hN
set_option maxRecDepth 20000 in
theorem wX1_noneRightOf_28 {Γ : JCtx} (hC : jC Γ cX1_noneRightOf 4 RX1 (some .int) layX 147) (hR : gR Γ = rmH 0) (hm : gcells Γ ≤ (gR Γ).cells ∧ gslots Γ ≤ (gR Γ).slots) (F : Nat) (κ : Mem) (v1 : Int32) (v2 : Int32) (v3 : Int32) (k4 : Int32 → Int32 → Option Int32) (hk4 : ∀ (v2 : Int32) (v3 : Int32), JP Γ (qf Γ (oI κ)) (k4 v2 v3) κ 4 [(0, .ref (gad Γ 41)), (1, .int v1), (2, .int v2), (3, .int v3)] []) : JP Γ (qf Γ (oI κ)) (pX1_noneRightOf_28 F κ k4 v1 v2 v3) κ 28 [(0, .ref (gad Γ 41)), (1, .int v1), (2, .int v2), (3, .int v3)] [] := by
  unfold pX1_noneRightOf_28
  refine j_iinc hC (pc := 28) dX1_noneRightOf_28 3 rfl ki_1 (Nat.le_of_ble_eq_true rfl) (loc' := [(3, .int (v3 + 1)), (0, .ref (gad Γ 41)), (1, .int v1), (2, .int v2)]) rfl ?_
  refine j_goto hC (pc := 31) dX1_noneRightOf_31 (tgt := 4) rfl ?_
  refine j_sub [1, 2, 3, 0] (loc' := [(0, .ref (gad Γ 41)), (1, .int v1), (2, .int v2), (3, .int (v3 + 1))]) rfl ?_
  exact hk4 v2 (v3 + 1)
set_option maxRecDepth 20000 in
theorem wX1_noneRightOf_4 {Γ : JCtx} (hC : jC Γ cX1_noneRightOf 4 RX1 (some .int) layX 147) (hR : gR Γ = rmH 0) (hm : gcells Γ ≤ (gR Γ).cells ∧ gslots Γ ≤ (gR Γ).slots) (F : Nat) (κ : Mem) (v1 : Int32) : ∀ (n : Nat) (v2 : Int32) (v3 : Int32), JP Γ (qf Γ (oI κ)) (pX1_noneRightOf_4 F κ v1 n v2 v3) κ 4 [(0, .ref (gad Γ 41)), (1, .int v1), (2, .int v2), (3, .int v3)] [] := by
  intro n
  induction n with
  | zero =>
    intro v2 v3
    rw [pX1_noneRightOf_4]
    exact j_none
  | succ fu ih =>
    intro v2 v3
    rw [pX1_noneRightOf_4]
    refine j_iload_n hC (pc := 4) dX1_noneRightOf_4 3 rfl rfl ?_
    refine j_aload_n hC (pc := 5) dX1_noneRightOf_5 0 rfl rfl ?_
    refine j_getR hC (pc := 6) dX1_noneRightOf_6 kf_RX1_27 lX_41 (Nat.le_of_ble_eq_true rfl) rfl ?_
    refine j_alenI hC (pc := 9) dX1_noneRightOf_9 lX_51 (Nat.le_of_ble_eq_true rfl) rfl ?_
    refine j_icmp_ge hC (pc := 10) dX1_noneRightOf_10 (tgt := 34) rfl ?_ ?_
    · refine j_iload_n hC (pc := 13) dX1_noneRightOf_13 3 rfl rfl ?_
      refine j_iload_n hC (pc := 14) dX1_noneRightOf_14 1 rfl rfl ?_
      refine j_iand hC (pc := 15) dX1_noneRightOf_15 ?_
      refine j_if_ne hC (pc := 16) dX1_noneRightOf_16 (tgt := 28) rfl ?_ ?_
      · refine j_iload_n hC (pc := 19) dX1_noneRightOf_19 2 rfl rfl ?_
        refine j_aload_n hC (pc := 20) dX1_noneRightOf_20 0 rfl rfl ?_
        refine j_getR hC (pc := 21) dX1_noneRightOf_21 kf_RX1_27 lX_41 (Nat.le_of_ble_eq_true rfl) rfl ?_
        refine j_iload_n hC (pc := 24) dX1_noneRightOf_24 3 rfl rfl ?_
        refine j_iald hC (pc := 25) dX1_noneRightOf_25 lX_51 (Nat.le_of_ble_eq_true rfl) ?_
        refine j_iadd hC (pc := 26) dX1_noneRightOf_26 ?_
        refine j_nmi (fun x1 => ?_)
        refine j_istore_n hC (pc := 27) dX1_noneRightOf_27 rfl (Nat.le_of_ble_eq_true rfl) (loc' := [(2, .int x1), (0, .ref (gad Γ 41)), (1, .int v1), (3, .int v3)]) rfl ?_
        refine j_sub [1, 2, 0, 3] (loc' := [(0, .ref (gad Γ 41)), (1, .int v1), (2, .int x1), (3, .int v3)]) rfl ?_
        exact wX1_noneRightOf_28 hC hR hm F κ v1 x1 v3 (pX1_noneRightOf_4 F κ v1 fu) ih
      · exact wX1_noneRightOf_28 hC hR hm F κ v1 v2 v3 (pX1_noneRightOf_4 F κ v1 fu) ih
    · refine j_iload_n hC (pc := 34) dX1_noneRightOf_34 2 rfl rfl ?_
      exact j_iret hC (pc := 35) dX1_noneRightOf_35 rfl rfl rfl
set_option maxRecDepth 20000 in
theorem wX1_noneRightOf {Γ : JCtx} (hC : jC Γ cX1_noneRightOf 4 RX1 (some .int) layX 147) (hR : gR Γ = rmH 0) (hm : gcells Γ ≤ (gR Γ).cells ∧ gslots Γ ≤ (gR Γ).slots) (F : Nat) (κ : Mem) (v1 : Int32) : JP Γ (qf Γ (oI κ)) (pX1_noneRightOf F κ v1) κ 0 [(0, .ref (gad Γ 41)), (1, .int v1)] [] := by
  unfold pX1_noneRightOf
  refine j_iconst hC (pc := 0) dX1_noneRightOf_0 ki_0 ?_
  refine j_istore_n hC (pc := 1) dX1_noneRightOf_1 rfl (Nat.le_of_ble_eq_true rfl) (loc' := [(2, .int 0), (0, .ref (gad Γ 41)), (1, .int v1)]) rfl ?_
  refine j_iconst hC (pc := 2) dX1_noneRightOf_2 ki_0 ?_
  refine j_istore_n hC (pc := 3) dX1_noneRightOf_3 rfl (Nat.le_of_ble_eq_true rfl) (loc' := [(3, .int 0), (2, .int 0), (0, .ref (gad Γ 41)), (1, .int v1)]) rfl ?_
  refine j_sub [2, 3, 1, 0] (loc' := [(0, .ref (gad Γ 41)), (1, .int v1), (2, .int 0), (3, .int 0)]) rfl ?_
  exact wX1_noneRightOf_4 hC hR hm F κ v1 F 0 0
theorem ctX1_noneRightOf {Δ : DCtx} {l : Launch} (hl : dlay Δ = layX) (hN : dN Δ = 147) (F : Nat) (κ : Mem) (v1 : Int32) : ∀ r, pX1_noneRightOf F κ v1 = some r → CT Δ l yX1_noneRightOf cX1_noneRightOf 4 (some .int) (rmH 0) [.ref (dad Δ 41), .int v1] κ (some (.int r)) κ :=
  ct_of (nL := 4) (ret := (some .int)) (lay := layX) (N := 147) (by decide +kernel) (fun Δ => [.ref (dad Δ 41), .int v1]) (fun _ => oI κ) (fun _ => (Nat.le_of_ble_eq_true rfl)) (fun Γ hR hm hC => wX1_noneRightOf hC hR hm F κ v1) Δ l hl hN
set_option maxRecDepth 20000 in
theorem wX1_mostRight_31 {Γ : JCtx} (hC : jC Γ cX1_mostRight 3 RX1 (some .int) layX 147) (hR : gR Γ = rmH 1) (hm : gcells Γ ≤ (gR Γ).cells ∧ gslots Γ ≤ (gR Γ).slots) (F : Nat) (κ : Mem) (v1 : Int32) (v2 : Int32) (k4 : Int32 → Int32 → Option Int32) (hk4 : ∀ (v1 : Int32) (v2 : Int32), JP Γ (qf Γ (oI κ)) (k4 v1 v2) κ 4 [(0, .ref (gad Γ 41)), (1, .int v1), (2, .int v2)] []) : JP Γ (qf Γ (oI κ)) (pX1_mostRight_31 F κ k4 v1 v2) κ 31 [(0, .ref (gad Γ 41)), (1, .int v1), (2, .int v2)] [] := by
  unfold pX1_mostRight_31
  refine j_iinc hC (pc := 31) dX1_mostRight_31 2 rfl ki_1 (Nat.le_of_ble_eq_true rfl) (loc' := [(2, .int (v2 + 1)), (0, .ref (gad Γ 41)), (1, .int v1)]) rfl ?_
  refine j_goto hC (pc := 34) dX1_mostRight_34 (tgt := 4) rfl ?_
  refine j_sub [1, 2, 0] (loc' := [(0, .ref (gad Γ 41)), (1, .int v1), (2, .int (v2 + 1))]) rfl ?_
  exact hk4 v1 (v2 + 1)
set_option maxRecDepth 20000 in
theorem wX1_mostRight_4 {Γ : JCtx} (hC : jC Γ cX1_mostRight 3 RX1 (some .int) layX 147) (hR : gR Γ = rmH 1) (hm : gcells Γ ≤ (gR Γ).cells ∧ gslots Γ ≤ (gR Γ).slots) (F : Nat) (κ : Mem) : ∀ (n : Nat) (v1 : Int32) (v2 : Int32), JP Γ (qf Γ (oI κ)) (pX1_mostRight_4 F κ n v1 v2) κ 4 [(0, .ref (gad Γ 41)), (1, .int v1), (2, .int v2)] [] := by
  intro n
  induction n with
  | zero =>
    intro v1 v2
    rw [pX1_mostRight_4]
    exact j_none
  | succ fu ih =>
    intro v1 v2
    rw [pX1_mostRight_4]
    refine j_iload_n hC (pc := 4) dX1_mostRight_4 2 rfl rfl ?_
    refine j_aload_n hC (pc := 5) dX1_mostRight_5 0 rfl rfl ?_
    refine j_getR hC (pc := 6) dX1_mostRight_6 kf_RX1_27 lX_41 (Nat.le_of_ble_eq_true rfl) rfl ?_
    refine j_alenI hC (pc := 9) dX1_mostRight_9 lX_51 (Nat.le_of_ble_eq_true rfl) rfl ?_
    refine j_icmp_ge hC (pc := 10) dX1_mostRight_10 (tgt := 37) rfl ?_ ?_
    · refine j_aload_n hC (pc := 13) dX1_mostRight_13 0 rfl rfl ?_
      refine j_getR hC (pc := 14) dX1_mostRight_14 kf_RX1_27 lX_41 (Nat.le_of_ble_eq_true rfl) rfl ?_
      refine j_iload_n hC (pc := 17) dX1_mostRight_17 2 rfl rfl ?_
      refine j_iald hC (pc := 18) dX1_mostRight_18 lX_51 (Nat.le_of_ble_eq_true rfl) ?_
      refine j_if_le hC (pc := 19) dX1_mostRight_19 (tgt := 31) rfl ?_ ?_
      · exact wX1_mostRight_31 hC hR hm F κ v1 v2 (pX1_mostRight_4 F κ fu) ih
      · refine j_iload_n hC (pc := 22) dX1_mostRight_22 1 rfl rfl ?_
        refine j_iload_n hC (pc := 23) dX1_mostRight_23 2 rfl rfl ?_
        refine j_callS_I hC hR (ctJ6_bitCount_0f7a4 hC.l hC.cn κ v2) kc_RX1_76 (Nat.le_of_ble_eq_true rfl) (Nat.le_of_ble_eq_true rfl) (As := [.int v2]) (rest := [.int v1]) rfl rfl (Nat.le_of_ble_eq_true rfl) hm (pc := 24) dX1_mostRight_24 (fun t1 => ?_)
        refine j_mmax hC hR kc_RX1_81 (Nat.le_of_ble_eq_true rfl) (rest := []) (Nat.le_of_ble_eq_true rfl) hm (pc := 27) dX1_mostRight_27 ?_
        refine j_nmi (fun x2 => ?_)
        refine j_istore_n hC (pc := 30) dX1_mostRight_30 rfl (Nat.le_of_ble_eq_true rfl) (loc' := [(1, .int x2), (0, .ref (gad Γ 41)), (2, .int v2)]) rfl ?_
        refine j_sub [1, 0, 2] (loc' := [(0, .ref (gad Γ 41)), (1, .int x2), (2, .int v2)]) rfl ?_
        exact wX1_mostRight_31 hC hR hm F κ x2 v2 (pX1_mostRight_4 F κ fu) ih
    · refine j_iload_n hC (pc := 37) dX1_mostRight_37 1 rfl rfl ?_
      exact j_iret hC (pc := 38) dX1_mostRight_38 rfl rfl rfl
set_option maxRecDepth 20000 in
theorem wX1_mostRight {Γ : JCtx} (hC : jC Γ cX1_mostRight 3 RX1 (some .int) layX 147) (hR : gR Γ = rmH 1) (hm : gcells Γ ≤ (gR Γ).cells ∧ gslots Γ ≤ (gR Γ).slots) (F : Nat) (κ : Mem) : JP Γ (qf Γ (oI κ)) (pX1_mostRight F κ) κ 0 [(0, .ref (gad Γ 41))] [] := by
  unfold pX1_mostRight
  refine j_iconst hC (pc := 0) dX1_mostRight_0 ki_0 ?_
  refine j_istore_n hC (pc := 1) dX1_mostRight_1 rfl (Nat.le_of_ble_eq_true rfl) (loc' := [(1, .int 0), (0, .ref (gad Γ 41))]) rfl ?_
  refine j_iconst hC (pc := 2) dX1_mostRight_2 ki_0 ?_
  refine j_istore_n hC (pc := 3) dX1_mostRight_3 rfl (Nat.le_of_ble_eq_true rfl) (loc' := [(2, .int 0), (1, .int 0), (0, .ref (gad Γ 41))]) rfl ?_
  refine j_sub [2, 1, 0] (loc' := [(0, .ref (gad Γ 41)), (1, .int 0), (2, .int 0)]) rfl ?_
  exact wX1_mostRight_4 hC hR hm F κ F 0 0
theorem ctX1_mostRight {Δ : DCtx} {l : Launch} (hl : dlay Δ = layX) (hN : dN Δ = 147) (F : Nat) (κ : Mem) : ∀ r, pX1_mostRight F κ = some r → CT Δ l yX1_mostRight cX1_mostRight 3 (some .int) (rmH 1) [.ref (dad Δ 41)] κ (some (.int r)) κ :=
  ct_of (nL := 3) (ret := (some .int)) (lay := layX) (N := 147) (by decide +kernel) (fun Δ => [.ref (dad Δ 41)]) (fun _ => oI κ) (fun _ => (Nat.le_of_ble_eq_true rfl)) (fun Γ hR hm hC => wX1_mostRight hC hR hm F κ) Δ l hl hN
set_option maxRecDepth 20000 in
theorem wX1_firstWithRight_2 {Γ : JCtx} (hC : jC Γ cX1_firstWithRight 3 RX1 (some .int) layX 147) (hR : gR Γ = rmH 1) (hm : gcells Γ ≤ (gR Γ).cells ∧ gslots Γ ≤ (gR Γ).slots) (F : Nat) (κ : Mem) (v1 : Int32) : ∀ (n : Nat) (v2 : Int32), JP Γ (qf Γ (oI κ)) (pX1_firstWithRight_2 F κ v1 n v2) κ 2 [(0, .ref (gad Γ 41)), (1, .int v1), (2, .int v2)] [] := by
  intro n
  induction n with
  | zero =>
    intro v2
    rw [pX1_firstWithRight_2]
    exact j_none
  | succ fu ih =>
    intro v2
    rw [pX1_firstWithRight_2]
    refine j_iload_n hC (pc := 2) dX1_firstWithRight_2 2 rfl rfl ?_
    refine j_aload_n hC (pc := 3) dX1_firstWithRight_3 0 rfl rfl ?_
    refine j_getI hC (pc := 4) dX1_firstWithRight_4 kf_RX1_9 lX_41 (Nat.le_of_ble_eq_true rfl) rfl ?_
    refine j_icmp_ge hC (pc := 7) dX1_firstWithRight_7 (tgt := 31) rfl ?_ ?_
    · refine j_aload_n hC (pc := 10) dX1_firstWithRight_10 0 rfl rfl ?_
      refine j_getR hC (pc := 11) dX1_firstWithRight_11 kf_RX1_24 lX_41 (Nat.le_of_ble_eq_true rfl) rfl ?_
      refine j_iload_n hC (pc := 14) dX1_firstWithRight_14 2 rfl rfl ?_
      refine j_iald hC (pc := 15) dX1_firstWithRight_15 lX_50 (Nat.le_of_ble_eq_true rfl) ?_
      refine j_callS_I hC hR (ctJ6_bitCount_0f7a4 hC.l hC.cn κ (mi κ 50 v2.toNatClampNeg)) kc_RX1_76 (Nat.le_of_ble_eq_true rfl) (Nat.le_of_ble_eq_true rfl) (As := [.int (mi κ 50 v2.toNatClampNeg)]) (rest := []) rfl rfl (Nat.le_of_ble_eq_true rfl) hm (pc := 16) dX1_firstWithRight_16 (fun t1 => ?_)
      refine j_iload_n hC (pc := 19) dX1_firstWithRight_19 1 rfl rfl ?_
      refine j_icmp_ne hC (pc := 20) dX1_firstWithRight_20 (tgt := 25) rfl ?_ ?_
      · refine j_iload_n hC (pc := 23) dX1_firstWithRight_23 2 rfl rfl ?_
        exact j_iret hC (pc := 24) dX1_firstWithRight_24 rfl rfl rfl
      · refine j_iinc hC (pc := 25) dX1_firstWithRight_25 2 rfl ki_1 (Nat.le_of_ble_eq_true rfl) (loc' := [(2, .int (v2 + 1)), (0, .ref (gad Γ 41)), (1, .int v1)]) rfl ?_
        refine j_goto hC (pc := 28) dX1_firstWithRight_28 (tgt := 2) rfl ?_
        refine j_sub [1, 2, 0] (loc' := [(0, .ref (gad Γ 41)), (1, .int v1), (2, .int (v2 + 1))]) rfl ?_
        exact ih (v2 + 1)
    · refine j_iconst hC (pc := 31) dX1_firstWithRight_31 ki_m1 ?_
      exact j_iret hC (pc := 32) dX1_firstWithRight_32 rfl rfl rfl
set_option maxRecDepth 20000 in
theorem wX1_firstWithRight {Γ : JCtx} (hC : jC Γ cX1_firstWithRight 3 RX1 (some .int) layX 147) (hR : gR Γ = rmH 1) (hm : gcells Γ ≤ (gR Γ).cells ∧ gslots Γ ≤ (gR Γ).slots) (F : Nat) (κ : Mem) (v1 : Int32) : JP Γ (qf Γ (oI κ)) (pX1_firstWithRight F κ v1) κ 0 [(0, .ref (gad Γ 41)), (1, .int v1)] [] := by
  unfold pX1_firstWithRight
  refine j_iconst hC (pc := 0) dX1_firstWithRight_0 ki_0 ?_
  refine j_istore_n hC (pc := 1) dX1_firstWithRight_1 rfl (Nat.le_of_ble_eq_true rfl) (loc' := [(2, .int 0), (0, .ref (gad Γ 41)), (1, .int v1)]) rfl ?_
  refine j_sub [1, 2, 0] (loc' := [(0, .ref (gad Γ 41)), (1, .int v1), (2, .int 0)]) rfl ?_
  exact wX1_firstWithRight_2 hC hR hm F κ v1 F 0
theorem ctX1_firstWithRight {Δ : DCtx} {l : Launch} (hl : dlay Δ = layX) (hN : dN Δ = 147) (F : Nat) (κ : Mem) (v1 : Int32) : ∀ r, pX1_firstWithRight F κ v1 = some r → CT Δ l yX1_firstWithRight cX1_firstWithRight 3 (some .int) (rmH 1) [.ref (dad Δ 41), .int v1] κ (some (.int r)) κ :=
  ct_of (nL := 3) (ret := (some .int)) (lay := layX) (N := 147) (by decide +kernel) (fun Δ => [.ref (dad Δ 41), .int v1]) (fun _ => oI κ) (fun _ => (Nat.le_of_ble_eq_true rfl)) (fun Γ hR hm hC => wX1_firstWithRight hC hR hm F κ v1) Δ l hl hN
set_option maxRecDepth 20000 in
theorem wX1_secondIsRight_2 {Γ : JCtx} (hC : jC Γ cX1_secondIsRight 4 RX1 (some .boolean) layX 147) (hR : gR Γ = rmH 1) (hm : gcells Γ ≤ (gR Γ).cells ∧ gslots Γ ≤ (gR Γ).slots) (F : Nat) (κ : Mem) (v1 : Int32) : ∀ (n : Nat) (v2 : Int32), JP Γ (qf Γ (oI κ)) (pX1_secondIsRight_2 F κ v1 n v2) κ 2 [(0, .ref (gad Γ 41)), (1, .int v1), (2, .int v2)] [] := by
  intro n
  induction n with
  | zero =>
    intro v2
    rw [pX1_secondIsRight_2]
    exact j_none
  | succ fu ih =>
    intro v2
    rw [pX1_secondIsRight_2]
    refine j_iload_n hC (pc := 2) dX1_secondIsRight_2 2 rfl rfl ?_
    refine j_aload_n hC (pc := 3) dX1_secondIsRight_3 0 rfl rfl ?_
    refine j_getR hC (pc := 4) dX1_secondIsRight_4 kf_RX1_36 lX_41 (Nat.le_of_ble_eq_true rfl) rfl ?_
    refine j_getI hC (pc := 7) dX1_secondIsRight_7 kf_RX1_40 lX_1 (Nat.le_of_ble_eq_true rfl) rfl ?_
    refine j_icmp_ge hC (pc := 10) dX1_secondIsRight_10 (tgt := 60) rfl ?_ ?_
    · refine j_aload_n hC (pc := 13) dX1_secondIsRight_13 0 rfl rfl ?_
      refine j_getR hC (pc := 14) dX1_secondIsRight_14 kf_RX1_36 lX_41 (Nat.le_of_ble_eq_true rfl) rfl ?_
      refine j_iload_n hC (pc := 17) dX1_secondIsRight_17 2 rfl rfl ?_
      refine j_aload_n hC (pc := 18) dX1_secondIsRight_18 0 rfl rfl ?_
      refine j_getR hC (pc := 19) dX1_secondIsRight_19 kf_RX1_21 lX_41 (Nat.le_of_ble_eq_true rfl) rfl ?_
      refine j_iload_n hC (pc := 22) dX1_secondIsRight_22 2 rfl rfl ?_
      refine j_aald hC (pc := 23) dX1_secondIsRight_23 lX_43 (Nat.le_of_ble_eq_true rfl) (kRt_3 _) (fun hq1 => ?_)
      refine j_iload_n hC (pc := 24) dX1_secondIsRight_24 1 rfl rfl ?_
      refine j_iald hC (pc := 25) dX1_secondIsRight_25 (lrow_43 hq1).1 (lrow_43 hq1).2 ?_
      refine j_callV_I hC hR (ctX2_told hC.l hC.cn 1 isG_1 κ v2 (mi κ (44 + v2.toNatClampNeg * 1) v1.toNatClampNeg)) kc_RX1_66 (Nat.le_of_ble_eq_true rfl) (Nat.le_of_ble_eq_true rfl) lX_1 (Nat.le_of_ble_eq_true rfl) rfl (As := [.int v2, .int (mi κ (44 + v2.toNatClampNeg * 1) v1.toNatClampNeg)]) (rest := []) rfl rfl (Nat.le_of_ble_eq_true rfl) hm (pc := 26) dX1_secondIsRight_26 (fun t2 => ?_)
      refine j_iconst hC (pc := 29) dX1_secondIsRight_29 ki_1 ?_
      refine j_iadd hC (pc := 30) dX1_secondIsRight_30 ?_
      refine j_aload_n hC (pc := 31) dX1_secondIsRight_31 0 rfl rfl ?_
      refine j_getR hC (pc := 32) dX1_secondIsRight_32 kf_RX1_36 lX_41 (Nat.le_of_ble_eq_true rfl) rfl ?_
      refine j_getR hC (pc := 35) dX1_secondIsRight_35 kf_RX1_45 lX_1 (Nat.le_of_ble_eq_true rfl) rfl ?_
      refine j_iload_n hC (pc := 38) dX1_secondIsRight_38 2 rfl rfl ?_
      refine j_iald hC (pc := 39) dX1_secondIsRight_39 lX_2 (Nat.le_of_ble_eq_true rfl) ?_
      refine j_irem hC (pc := 40) dX1_secondIsRight_40 ?_
      refine j_nmi (fun x3 => ?_)
      refine j_istore_n hC (pc := 41) dX1_secondIsRight_41 rfl (Nat.le_of_ble_eq_true rfl) (loc' := [(3, .int x3), (0, .ref (gad Γ 41)), (1, .int v1), (2, .int v2)]) rfl ?_
      refine j_iload_n hC (pc := 42) dX1_secondIsRight_42 0 rfl rfl ?_
      refine j_aload_n hC (pc := 43) dX1_secondIsRight_43 1 rfl rfl ?_
      refine j_iload_n hC (pc := 44) dX1_secondIsRight_44 3 rfl rfl ?_
      refine j_iload_n hC (pc := 45) dX1_secondIsRight_45 2 rfl rfl ?_
      refine j_callV_I hC hR (ctX1_colourOf hC.l hC.cn κ v2 v1) kc_RX1_69 (Nat.le_of_ble_eq_true rfl) (Nat.le_of_ble_eq_true rfl) lX_41 (Nat.le_of_ble_eq_true rfl) rfl (As := [.int v2, .int v1]) (rest := [.int x3]) rfl rfl (Nat.le_of_ble_eq_true rfl) hm (pc := 46) dX1_secondIsRight_46 (fun t4 => ?_)
      refine j_icmp_ne hC (pc := 49) dX1_secondIsRight_49 (tgt := 54) rfl ?_ ?_
      · refine j_iconst hC (pc := 52) dX1_secondIsRight_52 ki_1 ?_
        exact j_iret hC (pc := 53) dX1_secondIsRight_53 rfl rfl rfl
      · refine j_iinc hC (pc := 54) dX1_secondIsRight_54 3 rfl ki_1 (Nat.le_of_ble_eq_true rfl) (loc' := [(2, .int (v2 + 1)), (3, .int x3), (0, .ref (gad Γ 41)), (1, .int v1)]) rfl ?_
        refine j_goto hC (pc := 57) dX1_secondIsRight_57 (tgt := 2) rfl ?_
        refine j_sub [2, 3, 0] (loc' := [(0, .ref (gad Γ 41)), (1, .int v1), (2, .int (v2 + 1))]) rfl ?_
        exact ih (v2 + 1)
    · refine j_iconst hC (pc := 60) dX1_secondIsRight_60 ki_0 ?_
      exact j_iret hC (pc := 61) dX1_secondIsRight_61 rfl rfl rfl
set_option maxRecDepth 20000 in
theorem wX1_secondIsRight {Γ : JCtx} (hC : jC Γ cX1_secondIsRight 4 RX1 (some .boolean) layX 147) (hR : gR Γ = rmH 1) (hm : gcells Γ ≤ (gR Γ).cells ∧ gslots Γ ≤ (gR Γ).slots) (F : Nat) (κ : Mem) (v1 : Int32) : JP Γ (qf Γ (oI κ)) (pX1_secondIsRight F κ v1) κ 0 [(0, .ref (gad Γ 41)), (1, .int v1)] [] := by
  unfold pX1_secondIsRight
  refine j_iconst hC (pc := 0) dX1_secondIsRight_0 ki_0 ?_
  refine j_istore_n hC (pc := 1) dX1_secondIsRight_1 rfl (Nat.le_of_ble_eq_true rfl) (loc' := [(2, .int 0), (0, .ref (gad Γ 41)), (1, .int v1)]) rfl ?_
  refine j_sub [1, 2, 0] (loc' := [(0, .ref (gad Γ 41)), (1, .int v1), (2, .int 0)]) rfl ?_
  exact wX1_secondIsRight_2 hC hR hm F κ v1 F 0
theorem ctX1_secondIsRight {Δ : DCtx} {l : Launch} (hl : dlay Δ = layX) (hN : dN Δ = 147) (F : Nat) (κ : Mem) (v1 : Int32) : ∀ r, pX1_secondIsRight F κ v1 = some r → CT Δ l yX1_secondIsRight cX1_secondIsRight 4 (some .boolean) (rmH 1) [.ref (dad Δ 41), .int v1] κ (some (.int r)) κ :=
  ct_of (nL := 4) (ret := (some .boolean)) (lay := layX) (N := 147) (by decide +kernel) (fun Δ => [.ref (dad Δ 41), .int v1]) (fun _ => oI κ) (fun _ => (Nat.le_of_ble_eq_true rfl)) (fun Γ hR hm hC => wX1_secondIsRight hC hR hm F κ v1) Δ l hl hN
set_option maxRecDepth 20000 in
theorem wX1_lostOfTwoGuesses_32 {Γ : JCtx} (hC : jC Γ cX1_lostOfTwoGuesses 3 RX1 (some .int) layX 147) (hR : gR Γ = rmH 2) (hm : gcells Γ ≤ (gR Γ).cells ∧ gslots Γ ≤ (gR Γ).slots) (F : Nat) (κ : Mem) (v1 : Int32) (v2 : Int32) (k4 : Int32 → Int32 → Option Int32) (hk4 : ∀ (v1 : Int32) (v2 : Int32), JP Γ (qf Γ (oI κ)) (k4 v1 v2) κ 4 [(0, .ref (gad Γ 41)), (1, .int v1), (2, .int v2)] []) : JP Γ (qf Γ (oI κ)) (pX1_lostOfTwoGuesses_32 F κ k4 v1 v2) κ 32 [(0, .ref (gad Γ 41)), (1, .int v1), (2, .int v2)] [] := by
  unfold pX1_lostOfTwoGuesses_32
  refine j_iinc hC (pc := 32) dX1_lostOfTwoGuesses_32 2 rfl ki_1 (Nat.le_of_ble_eq_true rfl) (loc' := [(2, .int (v2 + 1)), (0, .ref (gad Γ 41)), (1, .int v1)]) rfl ?_
  refine j_goto hC (pc := 35) dX1_lostOfTwoGuesses_35 (tgt := 4) rfl ?_
  refine j_sub [1, 2, 0] (loc' := [(0, .ref (gad Γ 41)), (1, .int v1), (2, .int (v2 + 1))]) rfl ?_
  exact hk4 v1 (v2 + 1)
set_option maxRecDepth 20000 in
theorem wX1_lostOfTwoGuesses_4 {Γ : JCtx} (hC : jC Γ cX1_lostOfTwoGuesses 3 RX1 (some .int) layX 147) (hR : gR Γ = rmH 2) (hm : gcells Γ ≤ (gR Γ).cells ∧ gslots Γ ≤ (gR Γ).slots) (F : Nat) (κ : Mem) : ∀ (n : Nat) (v1 : Int32) (v2 : Int32), JP Γ (qf Γ (oI κ)) (pX1_lostOfTwoGuesses_4 F κ n v1 v2) κ 4 [(0, .ref (gad Γ 41)), (1, .int v1), (2, .int v2)] [] := by
  intro n
  induction n with
  | zero =>
    intro v1 v2
    rw [pX1_lostOfTwoGuesses_4]
    exact j_none
  | succ fu ih =>
    intro v1 v2
    rw [pX1_lostOfTwoGuesses_4]
    refine j_iload_n hC (pc := 4) dX1_lostOfTwoGuesses_4 2 rfl rfl ?_
    refine j_aload_n hC (pc := 5) dX1_lostOfTwoGuesses_5 0 rfl rfl ?_
    refine j_getI hC (pc := 6) dX1_lostOfTwoGuesses_6 kf_RX1_9 lX_41 (Nat.le_of_ble_eq_true rfl) rfl ?_
    refine j_icmp_ge hC (pc := 9) dX1_lostOfTwoGuesses_9 (tgt := 38) rfl ?_ ?_
    · refine j_aload_n hC (pc := 12) dX1_lostOfTwoGuesses_12 0 rfl rfl ?_
      refine j_getR hC (pc := 13) dX1_lostOfTwoGuesses_13 kf_RX1_24 lX_41 (Nat.le_of_ble_eq_true rfl) rfl ?_
      refine j_iload_n hC (pc := 16) dX1_lostOfTwoGuesses_16 2 rfl rfl ?_
      refine j_iald hC (pc := 17) dX1_lostOfTwoGuesses_17 lX_50 (Nat.le_of_ble_eq_true rfl) ?_
      refine j_if_ne hC (pc := 18) dX1_lostOfTwoGuesses_18 (tgt := 32) rfl ?_ ?_
      · refine j_aload_n hC (pc := 21) dX1_lostOfTwoGuesses_21 0 rfl rfl ?_
        refine j_iload_n hC (pc := 22) dX1_lostOfTwoGuesses_22 2 rfl rfl ?_
        refine j_callV_I hC hR (ctX1_secondIsRight hC.l hC.cn F κ v2) kc_RX1_86 (Nat.le_of_ble_eq_true rfl) (Nat.le_of_ble_eq_true rfl) lX_41 (Nat.le_of_ble_eq_true rfl) rfl (As := [.int v2]) (rest := []) rfl rfl (Nat.le_of_ble_eq_true rfl) hm (pc := 23) dX1_lostOfTwoGuesses_23 (fun t1 => ?_)
        refine j_if_ne hC (pc := 26) dX1_lostOfTwoGuesses_26 (tgt := 32) rfl ?_ ?_
        · refine j_iinc hC (pc := 29) dX1_lostOfTwoGuesses_29 1 rfl ki_1 (Nat.le_of_ble_eq_true rfl) (loc' := [(1, .int (v1 + 1)), (0, .ref (gad Γ 41)), (2, .int v2)]) rfl ?_
          refine j_sub [1, 0, 2] (loc' := [(0, .ref (gad Γ 41)), (1, .int (v1 + 1)), (2, .int v2)]) rfl ?_
          exact wX1_lostOfTwoGuesses_32 hC hR hm F κ (v1 + 1) v2 (pX1_lostOfTwoGuesses_4 F κ fu) ih
        · exact wX1_lostOfTwoGuesses_32 hC hR hm F κ v1 v2 (pX1_lostOfTwoGuesses_4 F κ fu) ih
      · exact wX1_lostOfTwoGuesses_32 hC hR hm F κ v1 v2 (pX1_lostOfTwoGuesses_4 F κ fu) ih
    · refine j_iload_n hC (pc := 38) dX1_lostOfTwoGuesses_38 1 rfl rfl ?_
      exact j_iret hC (pc := 39) dX1_lostOfTwoGuesses_39 rfl rfl rfl
set_option maxRecDepth 20000 in
theorem wX1_lostOfTwoGuesses {Γ : JCtx} (hC : jC Γ cX1_lostOfTwoGuesses 3 RX1 (some .int) layX 147) (hR : gR Γ = rmH 2) (hm : gcells Γ ≤ (gR Γ).cells ∧ gslots Γ ≤ (gR Γ).slots) (F : Nat) (κ : Mem) : JP Γ (qf Γ (oI κ)) (pX1_lostOfTwoGuesses F κ) κ 0 [(0, .ref (gad Γ 41))] [] := by
  unfold pX1_lostOfTwoGuesses
  refine j_iconst hC (pc := 0) dX1_lostOfTwoGuesses_0 ki_0 ?_
  refine j_istore_n hC (pc := 1) dX1_lostOfTwoGuesses_1 rfl (Nat.le_of_ble_eq_true rfl) (loc' := [(1, .int 0), (0, .ref (gad Γ 41))]) rfl ?_
  refine j_iconst hC (pc := 2) dX1_lostOfTwoGuesses_2 ki_0 ?_
  refine j_istore_n hC (pc := 3) dX1_lostOfTwoGuesses_3 rfl (Nat.le_of_ble_eq_true rfl) (loc' := [(2, .int 0), (1, .int 0), (0, .ref (gad Γ 41))]) rfl ?_
  refine j_sub [2, 1, 0] (loc' := [(0, .ref (gad Γ 41)), (1, .int 0), (2, .int 0)]) rfl ?_
  exact wX1_lostOfTwoGuesses_4 hC hR hm F κ F 0 0
theorem ctX1_lostOfTwoGuesses {Δ : DCtx} {l : Launch} (hl : dlay Δ = layX) (hN : dN Δ = 147) (F : Nat) (κ : Mem) : ∀ r, pX1_lostOfTwoGuesses F κ = some r → CT Δ l yX1_lostOfTwoGuesses cX1_lostOfTwoGuesses 3 (some .int) (rmH 2) [.ref (dad Δ 41)] κ (some (.int r)) κ :=
  ct_of (nL := 3) (ret := (some .int)) (lay := layX) (N := 147) (by decide +kernel) (fun Δ => [.ref (dad Δ 41)]) (fun _ => oI κ) (fun _ => (Nat.le_of_ble_eq_true rfl)) (fun Γ hR hm hC => wX1_lostOfTwoGuesses hC hR hm F κ) Δ l hl hN
set_option maxRecDepth 20000 in
theorem wX1_lostUnseen_89 {Γ : JCtx} (hC : jC Γ cX1_lostUnseen 8 RX1 (some .int) layX 147) (hR : gR Γ = rmH 2) (hm : gcells Γ ≤ (gR Γ).cells ∧ gslots Γ ≤ (gR Γ).slots) (F : Nat) (κ : Mem) (v1 : Int32) (v2 : Int32) (v3 : Int32) (v4 : Int32) (v5 : Int32) (v6 : Int32) (k23 : Int32 → Int32 → Option Int32) (hk23 : ∀ (v5 : Int32) (v6 : Int32), JP Γ (qf Γ (oI κ)) (k23 v5 v6) κ 23 [(0, .ref (gad Γ 41)), (1, .int v1), (2, .int v2), (3, .int v3), (4, .int v4), (5, .int v5), (6, .int v6)] []) : JP Γ (qf Γ (oI κ)) (pX1_lostUnseen_89 F κ k23 v1 v2 v3 v4 v5 v6) κ 89 [(0, .ref (gad Γ 41)), (1, .int v1), (2, .int v2), (3, .int v3), (4, .int v4), (5, .int v5), (6, .int v6)] [] := by
  unfold pX1_lostUnseen_89
  refine j_iinc hC (pc := 89) dX1_lostUnseen_89 6 rfl ki_1 (Nat.le_of_ble_eq_true rfl) (loc' := [(6, .int (v6 + 1)), (0, .ref (gad Γ 41)), (1, .int v1), (2, .int v2), (3, .int v3), (4, .int v4), (5, .int v5)]) rfl ?_
  refine j_goto hC (pc := 92) dX1_lostUnseen_92 (tgt := 23) rfl ?_
  refine j_sub [1, 2, 3, 4, 5, 6, 0] (loc' := [(0, .ref (gad Γ 41)), (1, .int v1), (2, .int v2), (3, .int v3), (4, .int v4), (5, .int v5), (6, .int (v6 + 1))]) rfl ?_
  exact hk23 v5 (v6 + 1)
set_option maxRecDepth 20000 in
theorem wX1_lostUnseen_23 {Γ : JCtx} (hC : jC Γ cX1_lostUnseen 8 RX1 (some .int) layX 147) (hR : gR Γ = rmH 2) (hm : gcells Γ ≤ (gR Γ).cells ∧ gslots Γ ≤ (gR Γ).slots) (F : Nat) (κ : Mem) (v1 : Int32) (v2 : Int32) (v3 : Int32) (v4 : Int32) : ∀ (n : Nat) (v5 : Int32) (v6 : Int32), JP Γ (qf Γ (oI κ)) (pX1_lostUnseen_23 F κ v1 v2 v3 v4 n v5 v6) κ 23 [(0, .ref (gad Γ 41)), (1, .int v1), (2, .int v2), (3, .int v3), (4, .int v4), (5, .int v5), (6, .int v6)] [] := by
  intro n
  induction n with
  | zero =>
    intro v5 v6
    rw [pX1_lostUnseen_23]
    exact j_none
  | succ fu ih =>
    intro v5 v6
    rw [pX1_lostUnseen_23]
    refine j_iload hC (pc := 23) dX1_lostUnseen_23 6 rfl ?_
    refine j_aload_n hC (pc := 25) dX1_lostUnseen_25 0 rfl rfl ?_
    refine j_getI hC (pc := 26) dX1_lostUnseen_26 kf_RX1_9 lX_41 (Nat.le_of_ble_eq_true rfl) rfl ?_
    refine j_icmp_ge hC (pc := 29) dX1_lostUnseen_29 (tgt := 95) rfl ?_ ?_
    · refine j_aload_n hC (pc := 32) dX1_lostUnseen_32 0 rfl rfl ?_
      refine j_getR hC (pc := 33) dX1_lostUnseen_33 kf_RX1_24 lX_41 (Nat.le_of_ble_eq_true rfl) rfl ?_
      refine j_iload hC (pc := 36) dX1_lostUnseen_36 6 rfl ?_
      refine j_iald hC (pc := 38) dX1_lostUnseen_38 lX_50 (Nat.le_of_ble_eq_true rfl) ?_
      refine j_iload hC (pc := 39) dX1_lostUnseen_39 4 rfl ?_
      refine j_iand hC (pc := 41) dX1_lostUnseen_41 ?_
      refine j_if_ne hC (pc := 42) dX1_lostUnseen_42 (tgt := 89) rfl ?_ ?_
      · refine j_aload_n hC (pc := 45) dX1_lostUnseen_45 0 rfl rfl ?_
        refine j_getR hC (pc := 46) dX1_lostUnseen_46 kf_RX1_21 lX_41 (Nat.le_of_ble_eq_true rfl) rfl ?_
        refine j_iload_n hC (pc := 49) dX1_lostUnseen_49 1 rfl rfl ?_
        refine j_aald hC (pc := 50) dX1_lostUnseen_50 lX_43 (Nat.le_of_ble_eq_true rfl) (kRt_3 _) (fun hq3 => ?_)
        refine j_iload hC (pc := 51) dX1_lostUnseen_51 6 rfl ?_
        refine j_iald hC (pc := 53) dX1_lostUnseen_53 (lrow_43 hq3).1 (lrow_43 hq3).2 ?_
        refine j_aload_n hC (pc := 54) dX1_lostUnseen_54 0 rfl rfl ?_
        refine j_iload_n hC (pc := 55) dX1_lostUnseen_55 2 rfl rfl ?_
        refine j_iload hC (pc := 56) dX1_lostUnseen_56 6 rfl ?_
        refine j_callV_I hC hR (ctX1_colourOf hC.l hC.cn κ v2 v6) kc_RX1_69 (Nat.le_of_ble_eq_true rfl) (Nat.le_of_ble_eq_true rfl) lX_41 (Nat.le_of_ble_eq_true rfl) rfl (As := [.int v2, .int v6]) (rest := [.int (mi κ (44 + v1.toNatClampNeg * 1) v6.toNatClampNeg)]) rfl rfl (Nat.le_of_ble_eq_true rfl) hm (pc := 58) dX1_lostUnseen_58 (fun t4 => ?_)
        refine j_iload_n hC (pc := 61) dX1_lostUnseen_61 3 rfl rfl ?_
        refine j_imul hC (pc := 62) dX1_lostUnseen_62 ?_
        refine j_isub hC (pc := 63) dX1_lostUnseen_63 ?_
        refine j_nmi (fun x5 => ?_)
        refine j_istore hC (pc := 64) dX1_lostUnseen_64 (Nat.le_of_ble_eq_true rfl) (loc' := [(7, .int x5), (0, .ref (gad Γ 41)), (1, .int v1), (2, .int v2), (3, .int v3), (4, .int v4), (5, .int v5), (6, .int v6)]) rfl ?_
        refine j_aload_n hC (pc := 66) dX1_lostUnseen_66 1 rfl rfl ?_
        refine j_getR hC (pc := 67) dX1_lostUnseen_67 kf_RX1_36 lX_41 (Nat.le_of_ble_eq_true rfl) rfl ?_
        refine j_iload_n hC (pc := 70) dX1_lostUnseen_70 2 rfl rfl ?_
        refine j_iload hC (pc := 71) dX1_lostUnseen_71 0 rfl ?_
        refine j_callV_I hC hR (ctX2_told hC.l hC.cn 1 isG_1 κ v1 x5) kc_RX1_66 (Nat.le_of_ble_eq_true rfl) (Nat.le_of_ble_eq_true rfl) lX_1 (Nat.le_of_ble_eq_true rfl) rfl (As := [.int v1, .int x5]) (rest := []) rfl rfl (Nat.le_of_ble_eq_true rfl) hm (pc := 73) dX1_lostUnseen_73 (fun t6 => ?_)
        refine j_aload_n hC (pc := 76) dX1_lostUnseen_76 1 rfl rfl ?_
        refine j_iload_n hC (pc := 77) dX1_lostUnseen_77 2 rfl rfl ?_
        refine j_iload hC (pc := 78) dX1_lostUnseen_78 7 rfl ?_
        refine j_callV_I hC hR (ctX1_colourOf hC.l hC.cn κ v1 v6) kc_RX1_69 (Nat.le_of_ble_eq_true rfl) (Nat.le_of_ble_eq_true rfl) lX_41 (Nat.le_of_ble_eq_true rfl) rfl (As := [.int v1, .int v6]) (rest := [.int t6]) rfl rfl (Nat.le_of_ble_eq_true rfl) hm (pc := 80) dX1_lostUnseen_80 (fun t7 => ?_)
        refine j_icmp_eq hC (pc := 83) dX1_lostUnseen_83 (tgt := 89) rfl ?_ ?_
        · refine j_sub [1, 2, 3, 4, 5, 6, 7] (loc' := [(0, .ref (gad Γ 41)), (1, .int v1), (2, .int v2), (3, .int v3), (4, .int v4), (5, .int v5), (6, .int v6)]) rfl ?_
          exact wX1_lostUnseen_89 hC hR hm F κ v1 v2 v3 v4 v5 v6 (pX1_lostUnseen_23 F κ v1 v2 v3 v4 fu) ih
        · refine j_iinc hC (pc := 86) dX1_lostUnseen_86 6 rfl ki_1 (Nat.le_of_ble_eq_true rfl) (loc' := [(5, .int (v5 + 1)), (7, .int x5), (0, .ref (gad Γ 41)), (1, .int v1), (2, .int v2), (3, .int v3), (4, .int v4), (6, .int v6)]) rfl ?_
          refine j_sub [2, 3, 4, 5, 6, 0, 7] (loc' := [(0, .ref (gad Γ 41)), (1, .int v1), (2, .int v2), (3, .int v3), (4, .int v4), (5, .int (v5 + 1)), (6, .int v6)]) rfl ?_
          exact wX1_lostUnseen_89 hC hR hm F κ v1 v2 v3 v4 (v5 + 1) v6 (pX1_lostUnseen_23 F κ v1 v2 v3 v4 fu) ih
      · exact wX1_lostUnseen_89 hC hR hm F κ v1 v2 v3 v4 v5 v6 (pX1_lostUnseen_23 F κ v1 v2 v3 v4 fu) ih
    · refine j_iload hC (pc := 95) dX1_lostUnseen_95 5 rfl ?_
      exact j_iret hC (pc := 97) dX1_lostUnseen_97 rfl rfl rfl
set_option maxRecDepth 20000 in
theorem wX1_lostUnseen {Γ : JCtx} (hC : jC Γ cX1_lostUnseen 8 RX1 (some .int) layX 147) (hR : gR Γ = rmH 2) (hm : gcells Γ ≤ (gR Γ).cells ∧ gslots Γ ≤ (gR Γ).slots) (F : Nat) (κ : Mem) (v1 : Int32) (v2 : Int32) : JP Γ (qf Γ (oI κ)) (pX1_lostUnseen F κ v1 v2) κ 0 [(0, .ref (gad Γ 41)), (1, .int v1), (2, .int v2)] [] := by
  unfold pX1_lostUnseen
  refine j_aload_n hC (pc := 0) dX1_lostUnseen_0 0 rfl rfl ?_
  refine j_getR hC (pc := 1) dX1_lostUnseen_1 kf_RX1_36 lX_41 (Nat.le_of_ble_eq_true rfl) rfl ?_
  refine j_iload_n hC (pc := 4) dX1_lostUnseen_4 1 rfl rfl ?_
  refine j_iload_n hC (pc := 5) dX1_lostUnseen_5 2 rfl rfl ?_
  refine j_callV_I hC hR (ctX2_weight hC.l hC.cn 1 isG_1 F κ v1 v2) kc_RX1_48 (Nat.le_of_ble_eq_true rfl) (Nat.le_of_ble_eq_true rfl) lX_1 (Nat.le_of_ble_eq_true rfl) rfl (As := [.int v1, .int v2]) (rest := []) rfl rfl (Nat.le_of_ble_eq_true rfl) hm (pc := 6) dX1_lostUnseen_6 (fun t1 => ?_)
  refine j_istore_n hC (pc := 9) dX1_lostUnseen_9 rfl (Nat.le_of_ble_eq_true rfl) (loc' := [(3, .int t1), (0, .ref (gad Γ 41)), (1, .int v1), (2, .int v2)]) rfl ?_
  refine j_iconst hC (pc := 10) dX1_lostUnseen_10 ki_1 ?_
  refine j_iload_n hC (pc := 11) dX1_lostUnseen_11 2 rfl rfl ?_
  refine j_ishl hC (pc := 12) dX1_lostUnseen_12 ?_
  refine j_iconst hC (pc := 13) dX1_lostUnseen_13 ki_m1 ?_
  refine j_ixor hC (pc := 14) dX1_lostUnseen_14 ?_
  refine j_nmi (fun x2 => ?_)
  refine j_istore hC (pc := 15) dX1_lostUnseen_15 (Nat.le_of_ble_eq_true rfl) (loc' := [(4, .int x2), (3, .int t1), (0, .ref (gad Γ 41)), (1, .int v1), (2, .int v2)]) rfl ?_
  refine j_iconst hC (pc := 17) dX1_lostUnseen_17 ki_0 ?_
  refine j_istore hC (pc := 18) dX1_lostUnseen_18 (Nat.le_of_ble_eq_true rfl) (loc' := [(5, .int 0), (4, .int x2), (3, .int t1), (0, .ref (gad Γ 41)), (1, .int v1), (2, .int v2)]) rfl ?_
  refine j_iconst hC (pc := 20) dX1_lostUnseen_20 ki_0 ?_
  refine j_istore hC (pc := 21) dX1_lostUnseen_21 (Nat.le_of_ble_eq_true rfl) (loc' := [(6, .int 0), (5, .int 0), (4, .int x2), (3, .int t1), (0, .ref (gad Γ 41)), (1, .int v1), (2, .int v2)]) rfl ?_
  refine j_sub [4, 5, 6, 3, 2, 1, 0] (loc' := [(0, .ref (gad Γ 41)), (1, .int v1), (2, .int v2), (3, .int t1), (4, .int x2), (5, .int 0), (6, .int 0)]) rfl ?_
  exact wX1_lostUnseen_23 hC hR hm F κ v1 v2 t1 x2 F 0 0
theorem ctX1_lostUnseen {Δ : DCtx} {l : Launch} (hl : dlay Δ = layX) (hN : dN Δ = 147) (F : Nat) (κ : Mem) (v1 : Int32) (v2 : Int32) : ∀ r, pX1_lostUnseen F κ v1 v2 = some r → CT Δ l yX1_lostUnseen cX1_lostUnseen 8 (some .int) (rmH 2) [.ref (dad Δ 41), .int v1, .int v2] κ (some (.int r)) κ :=
  ct_of (nL := 8) (ret := (some .int)) (lay := layX) (N := 147) (by decide +kernel) (fun Δ => [.ref (dad Δ 41), .int v1, .int v2]) (fun _ => oI κ) (fun _ => (Nat.le_of_ble_eq_true rfl)) (fun Γ hR hm hC => wX1_lostUnseen hC hR hm F κ v1 v2) Δ l hl hN
set_option maxRecDepth 20000 in
theorem wX1_fewestNeeded_58 {Γ : JCtx} (hC : jC Γ cX1_fewestNeeded 5 RX1 (some .int) layX 147) (hR : gR Γ = rmH 1) (hm : gcells Γ ≤ (gR Γ).cells ∧ gslots Γ ≤ (gR Γ).slots) (F : Nat) (κ : Mem) (v1 : Int32) (v2 : Int32) (v3 : Int32) (k16 : Int32 → Int32 → Option Int32) (hk16 : ∀ (v2 : Int32) (v3 : Int32), JP Γ (qf Γ (oI κ)) (k16 v2 v3) κ 16 [(0, .ref (gad Γ 41)), (1, .int v1), (2, .int v2), (3, .int v3)] []) : JP Γ (qf Γ (oI κ)) (pX1_fewestNeeded_58 F κ k16 v1 v2 v3) κ 58 [(0, .ref (gad Γ 41)), (1, .int v1), (2, .int v2), (3, .int v3)] [] := by
  unfold pX1_fewestNeeded_58
  refine j_iinc hC (pc := 58) dX1_fewestNeeded_58 3 rfl ki_1 (Nat.le_of_ble_eq_true rfl) (loc' := [(3, .int (v3 + 1)), (0, .ref (gad Γ 41)), (1, .int v1), (2, .int v2)]) rfl ?_
  refine j_goto hC (pc := 61) dX1_fewestNeeded_61 (tgt := 16) rfl ?_
  refine j_sub [1, 2, 3, 0] (loc' := [(0, .ref (gad Γ 41)), (1, .int v1), (2, .int v2), (3, .int (v3 + 1))]) rfl ?_
  exact hk16 v2 (v3 + 1)
set_option maxRecDepth 20000 in
theorem wX1_fewestNeeded_37 {Γ : JCtx} (hC : jC Γ cX1_fewestNeeded 5 RX1 (some .int) layX 147) (hR : gR Γ = rmH 1) (hm : gcells Γ ≤ (gR Γ).cells ∧ gslots Γ ≤ (gR Γ).slots) (F : Nat) (κ : Mem) (v1 : Int32) (v2 : Int32) (v3 : Int32) (y0 : Int32) (k16 : Int32 → Int32 → Option Int32) (hk16 : ∀ (v2 : Int32) (v3 : Int32), JP Γ (qf Γ (oI κ)) (k16 v2 v3) κ 16 [(0, .ref (gad Γ 41)), (1, .int v1), (2, .int v2), (3, .int v3)] []) : JP Γ (qf Γ (oI κ)) (pX1_fewestNeeded_37 F κ k16 v1 v2 v3 y0) κ 37 [(0, .ref (gad Γ 41)), (1, .int v1), (2, .int v2), (3, .int v3)] [.int y0] := by
  unfold pX1_fewestNeeded_37
  refine j_istore hC (pc := 37) dX1_fewestNeeded_37 (Nat.le_of_ble_eq_true rfl) (loc' := [(4, .int y0), (0, .ref (gad Γ 41)), (1, .int v1), (2, .int v2), (3, .int v3)]) rfl ?_
  refine j_iload hC (pc := 39) dX1_fewestNeeded_39 0 rfl ?_
  refine j_if_eq hC (pc := 41) dX1_fewestNeeded_41 (tgt := 58) rfl ?_ ?_
  · refine j_sub [1, 2, 3, 4] (loc' := [(0, .ref (gad Γ 41)), (1, .int v1), (2, .int v2), (3, .int v3)]) rfl ?_
    exact wX1_fewestNeeded_58 hC hR hm F κ v1 v2 v3 k16 hk16
  · refine j_aload_n hC (pc := 44) dX1_fewestNeeded_44 1 rfl rfl ?_
    refine j_iload_n hC (pc := 45) dX1_fewestNeeded_45 4 rfl rfl ?_
    refine j_callV_I hC hR (ctX1_noneRightOf hC.l hC.cn F κ v3) kc_RX1_90 (Nat.le_of_ble_eq_true rfl) (Nat.le_of_ble_eq_true rfl) lX_41 (Nat.le_of_ble_eq_true rfl) rfl (As := [.int v3]) (rest := []) rfl rfl (Nat.le_of_ble_eq_true rfl) hm (pc := 46) dX1_fewestNeeded_46 (fun t4 => ?_)
    refine j_aload_n hC (pc := 49) dX1_fewestNeeded_49 1 rfl rfl ?_
    refine j_callV_I hC hR (ctX1_lostInAll hC.l hC.cn κ) kc_RX1_93 (Nat.le_of_ble_eq_true rfl) (Nat.le_of_ble_eq_true rfl) lX_41 (Nat.le_of_ble_eq_true rfl) rfl (As := []) (rest := [.int t4]) rfl rfl (Nat.le_of_ble_eq_true rfl) hm (pc := 50) dX1_fewestNeeded_50 (fun t5 => ?_)
    refine j_icmp_gt hC (pc := 53) dX1_fewestNeeded_53 (tgt := 58) rfl ?_ ?_
    · refine j_iload_n hC (pc := 56) dX1_fewestNeeded_56 4 rfl rfl ?_
      refine j_istore_n hC (pc := 57) dX1_fewestNeeded_57 rfl (Nat.le_of_ble_eq_true rfl) (loc' := [(2, .int v3), (4, .int y0), (0, .ref (gad Γ 41)), (1, .int v1), (3, .int v3)]) rfl ?_
      refine j_sub [2, 3, 0, 4] (loc' := [(0, .ref (gad Γ 41)), (1, .int v1), (2, .int v3), (3, .int v3)]) rfl ?_
      exact wX1_fewestNeeded_58 hC hR hm F κ v1 v3 v3 k16 hk16
    · refine j_sub [1, 2, 3, 4] (loc' := [(0, .ref (gad Γ 41)), (1, .int v1), (2, .int v2), (3, .int v3)]) rfl ?_
      exact wX1_fewestNeeded_58 hC hR hm F κ v1 v2 v3 k16 hk16
set_option maxRecDepth 20000 in
theorem wX1_fewestNeeded_16 {Γ : JCtx} (hC : jC Γ cX1_fewestNeeded 5 RX1 (some .int) layX 147) (hR : gR Γ = rmH 1) (hm : gcells Γ ≤ (gR Γ).cells ∧ gslots Γ ≤ (gR Γ).slots) (F : Nat) (κ : Mem) (v1 : Int32) : ∀ (n : Nat) (v2 : Int32) (v3 : Int32), JP Γ (qf Γ (oI κ)) (pX1_fewestNeeded_16 F κ v1 n v2 v3) κ 16 [(0, .ref (gad Γ 41)), (1, .int v1), (2, .int v2), (3, .int v3)] [] := by
  intro n
  induction n with
  | zero =>
    intro v2 v3
    rw [pX1_fewestNeeded_16]
    exact j_none
  | succ fu ih =>
    intro v2 v3
    rw [pX1_fewestNeeded_16]
    refine j_iload_n hC (pc := 16) dX1_fewestNeeded_16 3 rfl rfl ?_
    refine j_iload_n hC (pc := 17) dX1_fewestNeeded_17 1 rfl rfl ?_
    refine j_icmp_ge hC (pc := 18) dX1_fewestNeeded_18 (tgt := 64) rfl ?_ ?_
    · refine j_iload_n hC (pc := 21) dX1_fewestNeeded_21 3 rfl rfl ?_
      refine j_callS_I hC hR (ctJ6_bitCount_0f7a4 hC.l hC.cn κ v3) kc_RX1_76 (Nat.le_of_ble_eq_true rfl) (Nat.le_of_ble_eq_true rfl) (As := [.int v3]) (rest := []) rfl rfl (Nat.le_of_ble_eq_true rfl) hm (pc := 22) dX1_fewestNeeded_22 (fun t2 => ?_)
      refine j_iload_n hC (pc := 25) dX1_fewestNeeded_25 2 rfl rfl ?_
      refine j_callS_I hC hR (ctJ6_bitCount_0f7a4 hC.l hC.cn κ v2) kc_RX1_76 (Nat.le_of_ble_eq_true rfl) (Nat.le_of_ble_eq_true rfl) (As := [.int v2]) (rest := [.int t2]) rfl rfl (Nat.le_of_ble_eq_true rfl) hm (pc := 26) dX1_fewestNeeded_26 (fun t3 => ?_)
      refine j_icmp_ge hC (pc := 29) dX1_fewestNeeded_29 (tgt := 36) rfl ?_ ?_
      · refine j_iconst hC (pc := 32) dX1_fewestNeeded_32 ki_1 ?_
        refine j_goto hC (pc := 33) dX1_fewestNeeded_33 (tgt := 37) rfl ?_
        exact wX1_fewestNeeded_37 hC hR hm F κ v1 v2 v3 1 (pX1_fewestNeeded_16 F κ v1 fu) ih
      · refine j_iconst hC (pc := 36) dX1_fewestNeeded_36 ki_0 ?_
        exact wX1_fewestNeeded_37 hC hR hm F κ v1 v2 v3 0 (pX1_fewestNeeded_16 F κ v1 fu) ih
    · refine j_iload_n hC (pc := 64) dX1_fewestNeeded_64 2 rfl rfl ?_
      exact j_iret hC (pc := 65) dX1_fewestNeeded_65 rfl rfl rfl
set_option maxRecDepth 20000 in
theorem wX1_fewestNeeded {Γ : JCtx} (hC : jC Γ cX1_fewestNeeded 5 RX1 (some .int) layX 147) (hR : gR Γ = rmH 1) (hm : gcells Γ ≤ (gR Γ).cells ∧ gslots Γ ≤ (gR Γ).slots) (F : Nat) (κ : Mem) : JP Γ (qf Γ (oI κ)) (pX1_fewestNeeded F κ) κ 0 [(0, .ref (gad Γ 41))] [] := by
  unfold pX1_fewestNeeded
  refine j_iconst hC (pc := 0) dX1_fewestNeeded_0 ki_1 ?_
  refine j_aload_n hC (pc := 1) dX1_fewestNeeded_1 0 rfl rfl ?_
  refine j_getR hC (pc := 2) dX1_fewestNeeded_2 kf_RX1_36 lX_41 (Nat.le_of_ble_eq_true rfl) rfl ?_
  refine j_getI hC (pc := 5) dX1_fewestNeeded_5 kf_RX1_40 lX_1 (Nat.le_of_ble_eq_true rfl) rfl ?_
  refine j_ishl hC (pc := 8) dX1_fewestNeeded_8 ?_
  refine j_iconst hC (pc := 9) dX1_fewestNeeded_9 ki_1 ?_
  refine j_isub hC (pc := 10) dX1_fewestNeeded_10 ?_
  refine j_nmi (fun x1 => ?_)
  refine j_istore_n hC (pc := 11) dX1_fewestNeeded_11 rfl (Nat.le_of_ble_eq_true rfl) (loc' := [(1, .int x1), (0, .ref (gad Γ 41))]) rfl ?_
  refine j_iload_n hC (pc := 12) dX1_fewestNeeded_12 0 rfl rfl ?_
  refine j_istore_n hC (pc := 13) dX1_fewestNeeded_13 rfl (Nat.le_of_ble_eq_true rfl) (loc' := [(2, .int x1), (1, .int x1), (0, .ref (gad Γ 41))]) rfl ?_
  refine j_iconst hC (pc := 14) dX1_fewestNeeded_14 ki_1 ?_
  refine j_istore_n hC (pc := 15) dX1_fewestNeeded_15 rfl (Nat.le_of_ble_eq_true rfl) (loc' := [(3, .int 1), (2, .int x1), (1, .int x1), (0, .ref (gad Γ 41))]) rfl ?_
  refine j_sub [3, 2, 1, 0] (loc' := [(0, .ref (gad Γ 41)), (1, .int x1), (2, .int x1), (3, .int 1)]) rfl ?_
  exact wX1_fewestNeeded_16 hC hR hm F κ x1 F x1 1
theorem ctX1_fewestNeeded {Δ : DCtx} {l : Launch} (hl : dlay Δ = layX) (hN : dN Δ = 147) (F : Nat) (κ : Mem) : ∀ r, pX1_fewestNeeded F κ = some r → CT Δ l yX1_fewestNeeded cX1_fewestNeeded 5 (some .int) (rmH 1) [.ref (dad Δ 41)] κ (some (.int r)) κ :=
  ct_of (nL := 5) (ret := (some .int)) (lay := layX) (N := 147) (by decide +kernel) (fun Δ => [.ref (dad Δ 41)]) (fun _ => oI κ) (fun _ => (Nat.le_of_ble_eq_true rfl)) (fun Γ hR hm hC => wX1_fewestNeeded hC hR hm F κ) Δ l hl hN
set_option maxRecDepth 20000 in
theorem wX1_lostWith_38 {Γ : JCtx} (hC : jC Γ cX1_lostWith 5 RX1 (some .int) layX 147) (hR : gR Γ = rmH 1) (hm : gcells Γ ≤ (gR Γ).cells ∧ gslots Γ ≤ (gR Γ).slots) (F : Nat) (κ : Mem) (v1 : Int32) (v2 : Int32) (v3 : Int32) (v4 : Int32) (k5 : Int32 → Int32 → Option Int32) (hk5 : ∀ (v3 : Int32) (v4 : Int32), JP Γ (qf Γ (oI κ)) (k5 v3 v4) κ 5 [(0, .ref (gad Γ 41)), (1, .int v1), (2, .int v2), (3, .int v3), (4, .int v4)] []) : JP Γ (qf Γ (oI κ)) (pX1_lostWith_38 F κ k5 v1 v2 v3 v4) κ 38 [(0, .ref (gad Γ 41)), (1, .int v1), (2, .int v2), (3, .int v3), (4, .int v4)] [] := by
  unfold pX1_lostWith_38
  refine j_iinc hC (pc := 38) dX1_lostWith_38 4 rfl ki_1 (Nat.le_of_ble_eq_true rfl) (loc' := [(4, .int (v4 + 1)), (0, .ref (gad Γ 41)), (1, .int v1), (2, .int v2), (3, .int v3)]) rfl ?_
  refine j_goto hC (pc := 41) dX1_lostWith_41 (tgt := 5) rfl ?_
  refine j_sub [1, 2, 3, 4, 0] (loc' := [(0, .ref (gad Γ 41)), (1, .int v1), (2, .int v2), (3, .int v3), (4, .int (v4 + 1))]) rfl ?_
  exact hk5 v3 (v4 + 1)
set_option maxRecDepth 20000 in
theorem wX1_lostWith_5 {Γ : JCtx} (hC : jC Γ cX1_lostWith 5 RX1 (some .int) layX 147) (hR : gR Γ = rmH 1) (hm : gcells Γ ≤ (gR Γ).cells ∧ gslots Γ ≤ (gR Γ).slots) (F : Nat) (κ : Mem) (v1 : Int32) (v2 : Int32) : ∀ (n : Nat) (v3 : Int32) (v4 : Int32), JP Γ (qf Γ (oI κ)) (pX1_lostWith_5 F κ v1 v2 n v3 v4) κ 5 [(0, .ref (gad Γ 41)), (1, .int v1), (2, .int v2), (3, .int v3), (4, .int v4)] [] := by
  intro n
  induction n with
  | zero =>
    intro v3 v4
    rw [pX1_lostWith_5]
    exact j_none
  | succ fu ih =>
    intro v3 v4
    rw [pX1_lostWith_5]
    refine j_iload hC (pc := 5) dX1_lostWith_5 4 rfl ?_
    refine j_aload_n hC (pc := 7) dX1_lostWith_7 0 rfl rfl ?_
    refine j_getI hC (pc := 8) dX1_lostWith_8 kf_RX1_9 lX_41 (Nat.le_of_ble_eq_true rfl) rfl ?_
    refine j_icmp_ge hC (pc := 11) dX1_lostWith_11 (tgt := 44) rfl ?_ ?_
    · refine j_aload_n hC (pc := 14) dX1_lostWith_14 0 rfl rfl ?_
      refine j_getR hC (pc := 15) dX1_lostWith_15 kf_RX1_24 lX_41 (Nat.le_of_ble_eq_true rfl) rfl ?_
      refine j_iload hC (pc := 18) dX1_lostWith_18 4 rfl ?_
      refine j_iald hC (pc := 20) dX1_lostWith_20 lX_50 (Nat.le_of_ble_eq_true rfl) ?_
      refine j_if_ne hC (pc := 21) dX1_lostWith_21 (tgt := 38) rfl ?_ ?_
      · refine j_aload_n hC (pc := 24) dX1_lostWith_24 0 rfl rfl ?_
        refine j_iload_n hC (pc := 25) dX1_lostWith_25 1 rfl rfl ?_
        refine j_iload hC (pc := 26) dX1_lostWith_26 4 rfl ?_
        refine j_callV_I hC hR (ctX1_colourOf hC.l hC.cn κ v1 v4) kc_RX1_69 (Nat.le_of_ble_eq_true rfl) (Nat.le_of_ble_eq_true rfl) lX_41 (Nat.le_of_ble_eq_true rfl) rfl (As := [.int v1, .int v4]) (rest := []) rfl rfl (Nat.le_of_ble_eq_true rfl) hm (pc := 28) dX1_lostWith_28 (fun t1 => ?_)
        refine j_iload_n hC (pc := 31) dX1_lostWith_31 2 rfl rfl ?_
        refine j_icmp_ne hC (pc := 32) dX1_lostWith_32 (tgt := 38) rfl ?_ ?_
        · refine j_iinc hC (pc := 35) dX1_lostWith_35 3 rfl ki_1 (Nat.le_of_ble_eq_true rfl) (loc' := [(3, .int (v3 + 1)), (0, .ref (gad Γ 41)), (1, .int v1), (2, .int v2), (4, .int v4)]) rfl ?_
          refine j_sub [1, 2, 3, 0, 4] (loc' := [(0, .ref (gad Γ 41)), (1, .int v1), (2, .int v2), (3, .int (v3 + 1)), (4, .int v4)]) rfl ?_
          exact wX1_lostWith_38 hC hR hm F κ v1 v2 (v3 + 1) v4 (pX1_lostWith_5 F κ v1 v2 fu) ih
        · exact wX1_lostWith_38 hC hR hm F κ v1 v2 v3 v4 (pX1_lostWith_5 F κ v1 v2 fu) ih
      · exact wX1_lostWith_38 hC hR hm F κ v1 v2 v3 v4 (pX1_lostWith_5 F κ v1 v2 fu) ih
    · refine j_iload_n hC (pc := 44) dX1_lostWith_44 3 rfl rfl ?_
      exact j_iret hC (pc := 45) dX1_lostWith_45 rfl rfl rfl
set_option maxRecDepth 20000 in
theorem wX1_lostWith {Γ : JCtx} (hC : jC Γ cX1_lostWith 5 RX1 (some .int) layX 147) (hR : gR Γ = rmH 1) (hm : gcells Γ ≤ (gR Γ).cells ∧ gslots Γ ≤ (gR Γ).slots) (F : Nat) (κ : Mem) (v1 : Int32) (v2 : Int32) : JP Γ (qf Γ (oI κ)) (pX1_lostWith F κ v1 v2) κ 0 [(0, .ref (gad Γ 41)), (1, .int v1), (2, .int v2)] [] := by
  unfold pX1_lostWith
  refine j_iconst hC (pc := 0) dX1_lostWith_0 ki_0 ?_
  refine j_istore_n hC (pc := 1) dX1_lostWith_1 rfl (Nat.le_of_ble_eq_true rfl) (loc' := [(3, .int 0), (0, .ref (gad Γ 41)), (1, .int v1), (2, .int v2)]) rfl ?_
  refine j_iconst hC (pc := 2) dX1_lostWith_2 ki_0 ?_
  refine j_istore hC (pc := 3) dX1_lostWith_3 (Nat.le_of_ble_eq_true rfl) (loc' := [(4, .int 0), (3, .int 0), (0, .ref (gad Γ 41)), (1, .int v1), (2, .int v2)]) rfl ?_
  refine j_sub [2, 3, 4, 1, 0] (loc' := [(0, .ref (gad Γ 41)), (1, .int v1), (2, .int v2), (3, .int 0), (4, .int 0)]) rfl ?_
  exact wX1_lostWith_5 hC hR hm F κ v1 v2 F 0 0
theorem ctX1_lostWith {Δ : DCtx} {l : Launch} (hl : dlay Δ = layX) (hN : dN Δ = 147) (F : Nat) (κ : Mem) (v1 : Int32) (v2 : Int32) : ∀ r, pX1_lostWith F κ v1 v2 = some r → CT Δ l yX1_lostWith cX1_lostWith 5 (some .int) (rmH 1) [.ref (dad Δ 41), .int v1, .int v2] κ (some (.int r)) κ :=
  ct_of (nL := 5) (ret := (some .int)) (lay := layX) (N := 147) (by decide +kernel) (fun Δ => [.ref (dad Δ 41), .int v1, .int v2]) (fun _ => oI κ) (fun _ => (Nat.le_of_ble_eq_true rfl)) (fun Γ hR hm hC => wX1_lostWith hC hR hm F κ v1 v2) Δ l hl hN
set_option maxRecDepth 20000 in
theorem wX1_unlike_37 {Γ : JCtx} (hC : jC Γ cX1_unlike 5 RX1 (some .int) layX 147) (hR : gR Γ = rmH 1) (hm : gcells Γ ≤ (gR Γ).cells ∧ gslots Γ ≤ (gR Γ).slots) (F : Nat) (κ : Mem) (v1 : Int32) (v2 : Int32) (v3 : Int32) (v4 : Int32) (k5 : Int32 → Int32 → Option Int32) (hk5 : ∀ (v3 : Int32) (v4 : Int32), JP Γ (qf Γ (oI κ)) (k5 v3 v4) κ 5 [(0, .ref (gad Γ 41)), (1, .int v1), (2, .int v2), (3, .int v3), (4, .int v4)] []) : JP Γ (qf Γ (oI κ)) (pX1_unlike_37 F κ k5 v1 v2 v3 v4) κ 37 [(0, .ref (gad Γ 41)), (1, .int v1), (2, .int v2), (3, .int v3), (4, .int v4)] [] := by
  unfold pX1_unlike_37
  refine j_iinc hC (pc := 37) dX1_unlike_37 4 rfl ki_1 (Nat.le_of_ble_eq_true rfl) (loc' := [(4, .int (v4 + 1)), (0, .ref (gad Γ 41)), (1, .int v1), (2, .int v2), (3, .int v3)]) rfl ?_
  refine j_goto hC (pc := 40) dX1_unlike_40 (tgt := 5) rfl ?_
  refine j_sub [1, 2, 3, 4, 0] (loc' := [(0, .ref (gad Γ 41)), (1, .int v1), (2, .int v2), (3, .int v3), (4, .int (v4 + 1))]) rfl ?_
  exact hk5 v3 (v4 + 1)
set_option maxRecDepth 20000 in
theorem wX1_unlike_5 {Γ : JCtx} (hC : jC Γ cX1_unlike 5 RX1 (some .int) layX 147) (hR : gR Γ = rmH 1) (hm : gcells Γ ≤ (gR Γ).cells ∧ gslots Γ ≤ (gR Γ).slots) (F : Nat) (κ : Mem) (v1 : Int32) (v2 : Int32) : ∀ (n : Nat) (v3 : Int32) (v4 : Int32), JP Γ (qf Γ (oI κ)) (pX1_unlike_5 F κ v1 v2 n v3 v4) κ 5 [(0, .ref (gad Γ 41)), (1, .int v1), (2, .int v2), (3, .int v3), (4, .int v4)] [] := by
  intro n
  induction n with
  | zero =>
    intro v3 v4
    rw [pX1_unlike_5]
    exact j_none
  | succ fu ih =>
    intro v3 v4
    rw [pX1_unlike_5]
    refine j_iload hC (pc := 5) dX1_unlike_5 4 rfl ?_
    refine j_aload_n hC (pc := 7) dX1_unlike_7 0 rfl rfl ?_
    refine j_getR hC (pc := 8) dX1_unlike_8 kf_RX1_36 lX_41 (Nat.le_of_ble_eq_true rfl) rfl ?_
    refine j_getI hC (pc := 11) dX1_unlike_11 kf_RX1_40 lX_1 (Nat.le_of_ble_eq_true rfl) rfl ?_
    refine j_icmp_ge hC (pc := 14) dX1_unlike_14 (tgt := 43) rfl ?_ ?_
    · refine j_aload_n hC (pc := 17) dX1_unlike_17 0 rfl rfl ?_
      refine j_iload hC (pc := 18) dX1_unlike_18 4 rfl ?_
      refine j_iload_n hC (pc := 20) dX1_unlike_20 1 rfl rfl ?_
      refine j_callV_I hC hR (ctX1_colourOf hC.l hC.cn κ v4 v1) kc_RX1_69 (Nat.le_of_ble_eq_true rfl) (Nat.le_of_ble_eq_true rfl) lX_41 (Nat.le_of_ble_eq_true rfl) rfl (As := [.int v4, .int v1]) (rest := []) rfl rfl (Nat.le_of_ble_eq_true rfl) hm (pc := 21) dX1_unlike_21 (fun t1 => ?_)
      refine j_aload_n hC (pc := 24) dX1_unlike_24 0 rfl rfl ?_
      refine j_iload hC (pc := 25) dX1_unlike_25 4 rfl ?_
      refine j_iload_n hC (pc := 27) dX1_unlike_27 2 rfl rfl ?_
      refine j_callV_I hC hR (ctX1_colourOf hC.l hC.cn κ v4 v2) kc_RX1_69 (Nat.le_of_ble_eq_true rfl) (Nat.le_of_ble_eq_true rfl) lX_41 (Nat.le_of_ble_eq_true rfl) rfl (As := [.int v4, .int v2]) (rest := [.int t1]) rfl rfl (Nat.le_of_ble_eq_true rfl) hm (pc := 28) dX1_unlike_28 (fun t2 => ?_)
      refine j_icmp_eq hC (pc := 31) dX1_unlike_31 (tgt := 37) rfl ?_ ?_
      · exact wX1_unlike_37 hC hR hm F κ v1 v2 v3 v4 (pX1_unlike_5 F κ v1 v2 fu) ih
      · refine j_iinc hC (pc := 34) dX1_unlike_34 3 rfl ki_1 (Nat.le_of_ble_eq_true rfl) (loc' := [(3, .int (v3 + 1)), (0, .ref (gad Γ 41)), (1, .int v1), (2, .int v2), (4, .int v4)]) rfl ?_
        refine j_sub [1, 2, 3, 0, 4] (loc' := [(0, .ref (gad Γ 41)), (1, .int v1), (2, .int v2), (3, .int (v3 + 1)), (4, .int v4)]) rfl ?_
        exact wX1_unlike_37 hC hR hm F κ v1 v2 (v3 + 1) v4 (pX1_unlike_5 F κ v1 v2 fu) ih
    · refine j_iload_n hC (pc := 43) dX1_unlike_43 3 rfl rfl ?_
      exact j_iret hC (pc := 44) dX1_unlike_44 rfl rfl rfl
set_option maxRecDepth 20000 in
theorem wX1_unlike {Γ : JCtx} (hC : jC Γ cX1_unlike 5 RX1 (some .int) layX 147) (hR : gR Γ = rmH 1) (hm : gcells Γ ≤ (gR Γ).cells ∧ gslots Γ ≤ (gR Γ).slots) (F : Nat) (κ : Mem) (v1 : Int32) (v2 : Int32) : JP Γ (qf Γ (oI κ)) (pX1_unlike F κ v1 v2) κ 0 [(0, .ref (gad Γ 41)), (1, .int v1), (2, .int v2)] [] := by
  unfold pX1_unlike
  refine j_iconst hC (pc := 0) dX1_unlike_0 ki_0 ?_
  refine j_istore_n hC (pc := 1) dX1_unlike_1 rfl (Nat.le_of_ble_eq_true rfl) (loc' := [(3, .int 0), (0, .ref (gad Γ 41)), (1, .int v1), (2, .int v2)]) rfl ?_
  refine j_iconst hC (pc := 2) dX1_unlike_2 ki_0 ?_
  refine j_istore hC (pc := 3) dX1_unlike_3 (Nat.le_of_ble_eq_true rfl) (loc' := [(4, .int 0), (3, .int 0), (0, .ref (gad Γ 41)), (1, .int v1), (2, .int v2)]) rfl ?_
  refine j_sub [2, 3, 4, 1, 0] (loc' := [(0, .ref (gad Γ 41)), (1, .int v1), (2, .int v2), (3, .int 0), (4, .int 0)]) rfl ?_
  exact wX1_unlike_5 hC hR hm F κ v1 v2 F 0 0
theorem ctX1_unlike {Δ : DCtx} {l : Launch} (hl : dlay Δ = layX) (hN : dN Δ = 147) (F : Nat) (κ : Mem) (v1 : Int32) (v2 : Int32) : ∀ r, pX1_unlike F κ v1 v2 = some r → CT Δ l yX1_unlike cX1_unlike 5 (some .int) (rmH 1) [.ref (dad Δ 41), .int v1, .int v2] κ (some (.int r)) κ :=
  ct_of (nL := 5) (ret := (some .int)) (lay := layX) (N := 147) (by decide +kernel) (fun Δ => [.ref (dad Δ 41), .int v1, .int v2]) (fun _ => oI κ) (fun _ => (Nat.le_of_ble_eq_true rfl)) (fun Γ hR hm hC => wX1_unlike hC hR hm F κ v1 v2) Δ l hl hN
set_option maxRecDepth 20000 in
theorem wX1_nearestLost_49 {Γ : JCtx} (hC : jC Γ cX1_nearestLost 5 RX1 (some .int) layX 147) (hR : gR Γ = rmH 2) (hm : gcells Γ ≤ (gR Γ).cells ∧ gslots Γ ≤ (gR Γ).slots) (F : Nat) (κ : Mem) (v1 : Int32) (v2 : Int32) (v3 : Int32) (v4 : Int32) (k8 : Int32 → Int32 → Int32 → Option Int32) (hk8 : ∀ (v2 : Int32) (v3 : Int32) (v4 : Int32), JP Γ (qf Γ (oI κ)) (k8 v2 v3 v4) κ 8 [(0, .ref (gad Γ 41)), (1, .int v1), (2, .int v2), (3, .int v3), (4, .int v4)] []) : JP Γ (qf Γ (oI κ)) (pX1_nearestLost_49 F κ k8 v1 v2 v3 v4) κ 49 [(0, .ref (gad Γ 41)), (1, .int v1), (2, .int v2), (3, .int v3), (4, .int v4)] [] := by
  unfold pX1_nearestLost_49
  refine j_iinc hC (pc := 49) dX1_nearestLost_49 4 rfl ki_1 (Nat.le_of_ble_eq_true rfl) (loc' := [(4, .int (v4 + 1)), (0, .ref (gad Γ 41)), (1, .int v1), (2, .int v2), (3, .int v3)]) rfl ?_
  refine j_goto hC (pc := 52) dX1_nearestLost_52 (tgt := 8) rfl ?_
  refine j_sub [1, 2, 3, 4, 0] (loc' := [(0, .ref (gad Γ 41)), (1, .int v1), (2, .int v2), (3, .int v3), (4, .int (v4 + 1))]) rfl ?_
  exact hk8 v2 v3 (v4 + 1)
set_option maxRecDepth 20000 in
theorem wX1_nearestLost_8 {Γ : JCtx} (hC : jC Γ cX1_nearestLost 5 RX1 (some .int) layX 147) (hR : gR Γ = rmH 2) (hm : gcells Γ ≤ (gR Γ).cells ∧ gslots Γ ≤ (gR Γ).slots) (F : Nat) (κ : Mem) (v1 : Int32) : ∀ (n : Nat) (v2 : Int32) (v3 : Int32) (v4 : Int32), JP Γ (qf Γ (oI κ)) (pX1_nearestLost_8 F κ v1 n v2 v3 v4) κ 8 [(0, .ref (gad Γ 41)), (1, .int v1), (2, .int v2), (3, .int v3), (4, .int v4)] [] := by
  intro n
  induction n with
  | zero =>
    intro v2 v3 v4
    rw [pX1_nearestLost_8]
    exact j_none
  | succ fu ih =>
    intro v2 v3 v4
    rw [pX1_nearestLost_8]
    refine j_iload hC (pc := 8) dX1_nearestLost_8 4 rfl ?_
    refine j_aload_n hC (pc := 10) dX1_nearestLost_10 0 rfl rfl ?_
    refine j_getI hC (pc := 11) dX1_nearestLost_11 kf_RX1_9 lX_41 (Nat.le_of_ble_eq_true rfl) rfl ?_
    refine j_icmp_ge hC (pc := 14) dX1_nearestLost_14 (tgt := 55) rfl ?_ ?_
    · refine j_aload_n hC (pc := 17) dX1_nearestLost_17 0 rfl rfl ?_
      refine j_getR hC (pc := 18) dX1_nearestLost_18 kf_RX1_24 lX_41 (Nat.le_of_ble_eq_true rfl) rfl ?_
      refine j_iload hC (pc := 21) dX1_nearestLost_21 4 rfl ?_
      refine j_iald hC (pc := 23) dX1_nearestLost_23 lX_50 (Nat.le_of_ble_eq_true rfl) ?_
      refine j_if_ne hC (pc := 24) dX1_nearestLost_24 (tgt := 49) rfl ?_ ?_
      · refine j_aload_n hC (pc := 27) dX1_nearestLost_27 0 rfl rfl ?_
        refine j_iload_n hC (pc := 28) dX1_nearestLost_28 1 rfl rfl ?_
        refine j_iload hC (pc := 29) dX1_nearestLost_29 4 rfl ?_
        refine j_callV_I hC hR (ctX1_unlike hC.l hC.cn F κ v1 v4) kc_RX1_97 (Nat.le_of_ble_eq_true rfl) (Nat.le_of_ble_eq_true rfl) lX_41 (Nat.le_of_ble_eq_true rfl) rfl (As := [.int v1, .int v4]) (rest := []) rfl rfl (Nat.le_of_ble_eq_true rfl) hm (pc := 31) dX1_nearestLost_31 (fun t1 => ?_)
        refine j_iload_n hC (pc := 34) dX1_nearestLost_34 3 rfl rfl ?_
        refine j_icmp_ge hC (pc := 35) dX1_nearestLost_35 (tgt := 49) rfl ?_ ?_
        · refine j_aload_n hC (pc := 38) dX1_nearestLost_38 0 rfl rfl ?_
          refine j_iload_n hC (pc := 39) dX1_nearestLost_39 1 rfl rfl ?_
          refine j_iload hC (pc := 40) dX1_nearestLost_40 4 rfl ?_
          refine j_callV_I hC hR (ctX1_unlike hC.l hC.cn F κ v1 v4) kc_RX1_97 (Nat.le_of_ble_eq_true rfl) (Nat.le_of_ble_eq_true rfl) lX_41 (Nat.le_of_ble_eq_true rfl) rfl (As := [.int v1, .int v4]) (rest := []) rfl rfl (Nat.le_of_ble_eq_true rfl) hm (pc := 42) dX1_nearestLost_42 (fun t2 => ?_)
          refine j_istore_n hC (pc := 45) dX1_nearestLost_45 rfl (Nat.le_of_ble_eq_true rfl) (loc' := [(3, .int t2), (0, .ref (gad Γ 41)), (1, .int v1), (2, .int v2), (4, .int v4)]) rfl ?_
          refine j_iload hC (pc := 46) dX1_nearestLost_46 4 rfl ?_
          refine j_istore_n hC (pc := 48) dX1_nearestLost_48 rfl (Nat.le_of_ble_eq_true rfl) (loc' := [(2, .int v4), (3, .int t2), (0, .ref (gad Γ 41)), (1, .int v1), (4, .int v4)]) rfl ?_
          refine j_sub [2, 3, 0, 1, 4] (loc' := [(0, .ref (gad Γ 41)), (1, .int v1), (2, .int v4), (3, .int t2), (4, .int v4)]) rfl ?_
          exact wX1_nearestLost_49 hC hR hm F κ v1 v4 t2 v4 (pX1_nearestLost_8 F κ v1 fu) ih
        · exact wX1_nearestLost_49 hC hR hm F κ v1 v2 v3 v4 (pX1_nearestLost_8 F κ v1 fu) ih
      · exact wX1_nearestLost_49 hC hR hm F κ v1 v2 v3 v4 (pX1_nearestLost_8 F κ v1 fu) ih
    · refine j_iload_n hC (pc := 55) dX1_nearestLost_55 2 rfl rfl ?_
      exact j_iret hC (pc := 56) dX1_nearestLost_56 rfl rfl rfl
set_option maxRecDepth 20000 in
theorem wX1_nearestLost {Γ : JCtx} (hC : jC Γ cX1_nearestLost 5 RX1 (some .int) layX 147) (hR : gR Γ = rmH 2) (hm : gcells Γ ≤ (gR Γ).cells ∧ gslots Γ ≤ (gR Γ).slots) (F : Nat) (κ : Mem) (v1 : Int32) : JP Γ (qf Γ (oI κ)) (pX1_nearestLost F κ v1) κ 0 [(0, .ref (gad Γ 41)), (1, .int v1)] [] := by
  unfold pX1_nearestLost
  refine j_iconst hC (pc := 0) dX1_nearestLost_0 ki_m1 ?_
  refine j_istore_n hC (pc := 1) dX1_nearestLost_1 rfl (Nat.le_of_ble_eq_true rfl) (loc' := [(2, .int (-1)), (0, .ref (gad Γ 41)), (1, .int v1)]) rfl ?_
  refine j_bipush hC (pc := 2) dX1_nearestLost_2 kb_7 ?_
  refine j_istore_n hC (pc := 4) dX1_nearestLost_4 rfl (Nat.le_of_ble_eq_true rfl) (loc' := [(3, .int 7), (2, .int (-1)), (0, .ref (gad Γ 41)), (1, .int v1)]) rfl ?_
  refine j_iconst hC (pc := 5) dX1_nearestLost_5 ki_0 ?_
  refine j_istore hC (pc := 6) dX1_nearestLost_6 (Nat.le_of_ble_eq_true rfl) (loc' := [(4, .int 0), (3, .int 7), (2, .int (-1)), (0, .ref (gad Γ 41)), (1, .int v1)]) rfl ?_
  refine j_sub [3, 4, 2, 1, 0] (loc' := [(0, .ref (gad Γ 41)), (1, .int v1), (2, .int (-1)), (3, .int 7), (4, .int 0)]) rfl ?_
  exact wX1_nearestLost_8 hC hR hm F κ v1 F (-1) 7 0
theorem ctX1_nearestLost {Δ : DCtx} {l : Launch} (hl : dlay Δ = layX) (hN : dN Δ = 147) (F : Nat) (κ : Mem) (v1 : Int32) : ∀ r, pX1_nearestLost F κ v1 = some r → CT Δ l yX1_nearestLost cX1_nearestLost 5 (some .int) (rmH 2) [.ref (dad Δ 41), .int v1] κ (some (.int r)) κ :=
  ct_of (nL := 5) (ret := (some .int)) (lay := layX) (N := 147) (by decide +kernel) (fun Δ => [.ref (dad Δ 41), .int v1]) (fun _ => oI κ) (fun _ => (Nat.le_of_ble_eq_true rfl)) (fun Γ hR hm hC => wX1_nearestLost hC hR hm F κ v1) Δ l hl hN
set_option maxRecDepth 20000 in
theorem wX4_everybody {Γ : JCtx} (hC : jC Γ cX4_everybody 1 RX4 (some .int) layX 147) (hR : gR Γ = rmH 0) (hm : gcells Γ ≤ (gR Γ).cells ∧ gslots Γ ≤ (gR Γ).slots) (κ : Mem) : JP Γ (qf Γ (oI κ)) (pX4_everybody κ) κ 0 [(0, .ref (gad Γ 54))] [] := by
  unfold pX4_everybody
  refine j_iconst hC (pc := 0) dX4_everybody_0 ki_1 ?_
  refine j_aload_n hC (pc := 1) dX4_everybody_1 0 rfl rfl ?_
  refine j_getR hC (pc := 2) dX4_everybody_2 kf_RX4_9 lX_54 (Nat.le_of_ble_eq_true rfl) rfl ?_
  refine j_getI hC (pc := 5) dX4_everybody_5 kf_RX4_15 lX_1 (Nat.le_of_ble_eq_true rfl) rfl ?_
  refine j_ishl hC (pc := 8) dX4_everybody_8 ?_
  refine j_iconst hC (pc := 9) dX4_everybody_9 ki_1 ?_
  refine j_isub hC (pc := 10) dX4_everybody_10 ?_
  exact j_iret hC (pc := 11) dX4_everybody_11 rfl rfl rfl
theorem ctX4_everybody {Δ : DCtx} {l : Launch} (hl : dlay Δ = layX) (hN : dN Δ = 147) (κ : Mem) : ∀ r, pX4_everybody κ = some r → CT Δ l yX4_everybody cX4_everybody 1 (some .int) (rmH 0) [.ref (dad Δ 54)] κ (some (.int r)) κ :=
  ct_of (nL := 1) (ret := (some .int)) (lay := layX) (N := 147) (by decide +kernel) (fun Δ => [.ref (dad Δ 54)]) (fun _ => oI κ) (fun _ => (Nat.le_of_ble_eq_true rfl)) (fun Γ hR hm hC => wX4_everybody hC hR hm κ) Δ l hl hN
set_option maxRecDepth 20000 in
theorem wX4_isAcyclic_53 {Γ : JCtx} (hC : jC Γ cX4_isAcyclic 4 RX4 (some .boolean) layX 147) (hR : gR Γ = rmH 1) (hm : gcells Γ ≤ (gR Γ).cells ∧ gslots Γ ≤ (gR Γ).slots) (F : Nat) (κ : Mem) (v1 : Int32) (v2 : Int32) (v3 : Int32) (k20 : Int32 → Int32 → Option Int32) (hk20 : ∀ (v1 : Int32) (v3 : Int32), JP Γ (qf Γ (oI κ)) (k20 v1 v3) κ 20 [(0, .ref (gad Γ 54)), (1, .int v1), (2, .int v2), (3, .int v3)] []) : JP Γ (qf Γ (oI κ)) (pX4_isAcyclic_53 F κ k20 v1 v2 v3) κ 53 [(0, .ref (gad Γ 54)), (1, .int v1), (2, .int v2), (3, .int v3)] [] := by
  unfold pX4_isAcyclic_53
  refine j_iinc hC (pc := 53) dX4_isAcyclic_53 3 rfl ki_1 (Nat.le_of_ble_eq_true rfl) (loc' := [(3, .int (v3 + 1)), (0, .ref (gad Γ 54)), (1, .int v1), (2, .int v2)]) rfl ?_
  refine j_goto hC (pc := 56) dX4_isAcyclic_56 (tgt := 20) rfl ?_
  refine j_sub [1, 2, 3, 0] (loc' := [(0, .ref (gad Γ 54)), (1, .int v1), (2, .int v2), (3, .int (v3 + 1))]) rfl ?_
  exact hk20 v1 (v3 + 1)
set_option maxRecDepth 20000 in
theorem wX4_isAcyclic_20 {Γ : JCtx} (hC : jC Γ cX4_isAcyclic 4 RX4 (some .boolean) layX 147) (hR : gR Γ = rmH 1) (hm : gcells Γ ≤ (gR Γ).cells ∧ gslots Γ ≤ (gR Γ).slots) (F : Nat) (κ : Mem) (v2 : Int32) (k7 : Int32 → Int32 → Option Int32) (hk7 : ∀ (v1 : Int32) (v2 : Int32), JP Γ (qf Γ (oI κ)) (k7 v1 v2) κ 7 [(0, .ref (gad Γ 54)), (1, .int v1), (2, .int v2)] []) : ∀ (n : Nat) (v1 : Int32) (v3 : Int32), JP Γ (qf Γ (oI κ)) (pX4_isAcyclic_20 F κ k7 v2 n v1 v3) κ 20 [(0, .ref (gad Γ 54)), (1, .int v1), (2, .int v2), (3, .int v3)] [] := by
  intro n
  induction n with
  | zero =>
    intro v1 v3
    rw [pX4_isAcyclic_20]
    exact j_none
  | succ fu ih =>
    intro v1 v3
    rw [pX4_isAcyclic_20]
    refine j_iload_n hC (pc := 20) dX4_isAcyclic_20 3 rfl rfl ?_
    refine j_aload_n hC (pc := 21) dX4_isAcyclic_21 0 rfl rfl ?_
    refine j_getR hC (pc := 22) dX4_isAcyclic_22 kf_RX4_9 lX_54 (Nat.le_of_ble_eq_true rfl) rfl ?_
    refine j_getI hC (pc := 25) dX4_isAcyclic_25 kf_RX4_15 lX_1 (Nat.le_of_ble_eq_true rfl) rfl ?_
    refine j_icmp_ge hC (pc := 28) dX4_isAcyclic_28 (tgt := 59) rfl ?_ ?_
    · refine j_aload_n hC (pc := 31) dX4_isAcyclic_31 0 rfl rfl ?_
      refine j_getR hC (pc := 32) dX4_isAcyclic_32 kf_RX4_9 lX_54 (Nat.le_of_ble_eq_true rfl) rfl ?_
      refine j_getR hC (pc := 35) dX4_isAcyclic_35 kf_RX4_21 lX_1 (Nat.le_of_ble_eq_true rfl) rfl ?_
      refine j_iload_n hC (pc := 38) dX4_isAcyclic_38 3 rfl rfl ?_
      refine j_iald hC (pc := 39) dX4_isAcyclic_39 lX_3 (Nat.le_of_ble_eq_true rfl) ?_
      refine j_iload_n hC (pc := 40) dX4_isAcyclic_40 1 rfl rfl ?_
      refine j_iand hC (pc := 41) dX4_isAcyclic_41 ?_
      refine j_if_ne hC (pc := 42) dX4_isAcyclic_42 (tgt := 53) rfl ?_ ?_
      · refine j_iload_n hC (pc := 45) dX4_isAcyclic_45 1 rfl rfl ?_
        refine j_iconst hC (pc := 46) dX4_isAcyclic_46 ki_1 ?_
        refine j_iload_n hC (pc := 47) dX4_isAcyclic_47 3 rfl rfl ?_
        refine j_ishl hC (pc := 48) dX4_isAcyclic_48 ?_
        refine j_iconst hC (pc := 49) dX4_isAcyclic_49 ki_m1 ?_
        refine j_ixor hC (pc := 50) dX4_isAcyclic_50 ?_
        refine j_iand hC (pc := 51) dX4_isAcyclic_51 ?_
        refine j_nmi (fun x2 => ?_)
        refine j_istore_n hC (pc := 52) dX4_isAcyclic_52 rfl (Nat.le_of_ble_eq_true rfl) (loc' := [(1, .int x2), (0, .ref (gad Γ 54)), (2, .int v2), (3, .int v3)]) rfl ?_
        refine j_sub [1, 0, 2, 3] (loc' := [(0, .ref (gad Γ 54)), (1, .int x2), (2, .int v2), (3, .int v3)]) rfl ?_
        exact wX4_isAcyclic_53 hC hR hm F κ x2 v2 v3 (pX4_isAcyclic_20 F κ k7 v2 fu) ih
      · exact wX4_isAcyclic_53 hC hR hm F κ v1 v2 v3 (pX4_isAcyclic_20 F κ k7 v2 fu) ih
    · refine j_iinc hC (pc := 59) dX4_isAcyclic_59 2 rfl ki_1 (Nat.le_of_ble_eq_true rfl) (loc' := [(2, .int (v2 + 1)), (0, .ref (gad Γ 54)), (1, .int v1), (3, .int v3)]) rfl ?_
      refine j_goto hC (pc := 62) dX4_isAcyclic_62 (tgt := 7) rfl ?_
      refine j_sub [1, 2, 0] (loc' := [(0, .ref (gad Γ 54)), (1, .int v1), (2, .int (v2 + 1))]) rfl ?_
      exact hk7 v1 (v2 + 1)
set_option maxRecDepth 20000 in
theorem wX4_isAcyclic_74 {Γ : JCtx} (hC : jC Γ cX4_isAcyclic 4 RX4 (some .boolean) layX 147) (hR : gR Γ = rmH 1) (hm : gcells Γ ≤ (gR Γ).cells ∧ gslots Γ ≤ (gR Γ).slots) (F : Nat) (κ : Mem) (y0 : Int32) : JP Γ (qf Γ (oI κ)) (pX4_isAcyclic_74 F κ y0) κ 74 [] [.int y0] := by
  unfold pX4_isAcyclic_74
  refine j_ckP (fun hq3 => ?_)
  exact j_iret hC (pc := 74) dX4_isAcyclic_74 rfl (isB_n hq3) rfl
set_option maxRecDepth 20000 in
theorem wX4_isAcyclic_7 {Γ : JCtx} (hC : jC Γ cX4_isAcyclic 4 RX4 (some .boolean) layX 147) (hR : gR Γ = rmH 1) (hm : gcells Γ ≤ (gR Γ).cells ∧ gslots Γ ≤ (gR Γ).slots) (F : Nat) (κ : Mem) : ∀ (n : Nat) (v1 : Int32) (v2 : Int32), JP Γ (qf Γ (oI κ)) (pX4_isAcyclic_7 F κ n v1 v2) κ 7 [(0, .ref (gad Γ 54)), (1, .int v1), (2, .int v2)] [] := by
  intro n
  induction n with
  | zero =>
    intro v1 v2
    rw [pX4_isAcyclic_7]
    exact j_none
  | succ fu ih =>
    intro v1 v2
    rw [pX4_isAcyclic_7]
    refine j_iload_n hC (pc := 7) dX4_isAcyclic_7 2 rfl rfl ?_
    refine j_aload_n hC (pc := 8) dX4_isAcyclic_8 0 rfl rfl ?_
    refine j_getR hC (pc := 9) dX4_isAcyclic_9 kf_RX4_9 lX_54 (Nat.le_of_ble_eq_true rfl) rfl ?_
    refine j_getI hC (pc := 12) dX4_isAcyclic_12 kf_RX4_15 lX_1 (Nat.le_of_ble_eq_true rfl) rfl ?_
    refine j_icmp_ge hC (pc := 15) dX4_isAcyclic_15 (tgt := 65) rfl ?_ ?_
    · refine j_iconst hC (pc := 18) dX4_isAcyclic_18 ki_0 ?_
      refine j_istore_n hC (pc := 19) dX4_isAcyclic_19 rfl (Nat.le_of_ble_eq_true rfl) (loc' := [(3, .int 0), (0, .ref (gad Γ 54)), (1, .int v1), (2, .int v2)]) rfl ?_
      refine j_sub [1, 2, 3, 0] (loc' := [(0, .ref (gad Γ 54)), (1, .int v1), (2, .int v2), (3, .int 0)]) rfl ?_
      exact wX4_isAcyclic_20 hC hR hm F κ v2 (pX4_isAcyclic_7 F κ fu) ih F v1 0
    · refine j_iload_n hC (pc := 65) dX4_isAcyclic_65 1 rfl rfl ?_
      refine j_if_ne hC (pc := 66) dX4_isAcyclic_66 (tgt := 73) rfl ?_ ?_
      · refine j_iconst hC (pc := 69) dX4_isAcyclic_69 ki_1 ?_
        refine j_goto hC (pc := 70) dX4_isAcyclic_70 (tgt := 74) rfl ?_
        refine j_sub [] (loc' := []) rfl ?_
        exact wX4_isAcyclic_74 hC hR hm F κ 1
      · refine j_iconst hC (pc := 73) dX4_isAcyclic_73 ki_0 ?_
        refine j_sub [] (loc' := []) rfl ?_
        exact wX4_isAcyclic_74 hC hR hm F κ 0
set_option maxRecDepth 20000 in
theorem wX4_isAcyclic {Γ : JCtx} (hC : jC Γ cX4_isAcyclic 4 RX4 (some .boolean) layX 147) (hR : gR Γ = rmH 1) (hm : gcells Γ ≤ (gR Γ).cells ∧ gslots Γ ≤ (gR Γ).slots) (F : Nat) (κ : Mem) : JP Γ (qf Γ (oI κ)) (pX4_isAcyclic F κ) κ 0 [(0, .ref (gad Γ 54))] [] := by
  unfold pX4_isAcyclic
  refine j_aload_n hC (pc := 0) dX4_isAcyclic_0 0 rfl rfl ?_
  refine j_callV_I hC hR (ctX4_everybody hC.l hC.cn κ) kc_RX4_44 (Nat.le_of_ble_eq_true rfl) (Nat.le_of_ble_eq_true rfl) lX_54 (Nat.le_of_ble_eq_true rfl) rfl (As := []) (rest := []) rfl rfl (Nat.le_of_ble_eq_true rfl) hm (pc := 1) dX4_isAcyclic_1 (fun t1 => ?_)
  refine j_istore_n hC (pc := 4) dX4_isAcyclic_4 rfl (Nat.le_of_ble_eq_true rfl) (loc' := [(1, .int t1), (0, .ref (gad Γ 54))]) rfl ?_
  refine j_iconst hC (pc := 5) dX4_isAcyclic_5 ki_0 ?_
  refine j_istore_n hC (pc := 6) dX4_isAcyclic_6 rfl (Nat.le_of_ble_eq_true rfl) (loc' := [(2, .int 0), (1, .int t1), (0, .ref (gad Γ 54))]) rfl ?_
  refine j_sub [2, 1, 0] (loc' := [(0, .ref (gad Γ 54)), (1, .int t1), (2, .int 0)]) rfl ?_
  exact wX4_isAcyclic_7 hC hR hm F κ F t1 0
theorem ctX4_isAcyclic {Δ : DCtx} {l : Launch} (hl : dlay Δ = layX) (hN : dN Δ = 147) (F : Nat) (κ : Mem) : ∀ r, pX4_isAcyclic F κ = some r → CT Δ l yX4_isAcyclic cX4_isAcyclic 4 (some .boolean) (rmH 1) [.ref (dad Δ 54)] κ (some (.int r)) κ :=
  ct_of (nL := 4) (ret := (some .boolean)) (lay := layX) (N := 147) (by decide +kernel) (fun Δ => [.ref (dad Δ 54)]) (fun _ => oI κ) (fun _ => (Nat.le_of_ble_eq_true rfl)) (fun Γ hR hm hC => wX4_isAcyclic hC hR hm F κ) Δ l hl hN
set_option maxRecDepth 20000 in
theorem wX4_seesNoneOfItself_38 {Γ : JCtx} (hC : jC Γ cX4_seesNoneOfItself 3 RX4 (some .boolean) layX 147) (hR : gR Γ = rmH 0) (hm : gcells Γ ≤ (gR Γ).cells ∧ gslots Γ ≤ (gR Γ).slots) (F : Nat) (κ : Mem) (v1 : Int32) (v2 : Int32) (k2 : Int32 → Option Int32) (hk2 : ∀ (v2 : Int32), JP Γ (qf Γ (oI κ)) (k2 v2) κ 2 [(0, .ref (gad Γ 54)), (1, .int v1), (2, .int v2)] []) : JP Γ (qf Γ (oI κ)) (pX4_seesNoneOfItself_38 F κ k2 v1 v2) κ 38 [(0, .ref (gad Γ 54)), (1, .int v1), (2, .int v2)] [] := by
  unfold pX4_seesNoneOfItself_38
  refine j_iinc hC (pc := 38) dX4_seesNoneOfItself_38 2 rfl ki_1 (Nat.le_of_ble_eq_true rfl) (loc' := [(2, .int (v2 + 1)), (0, .ref (gad Γ 54)), (1, .int v1)]) rfl ?_
  refine j_goto hC (pc := 41) dX4_seesNoneOfItself_41 (tgt := 2) rfl ?_
  refine j_sub [1, 2, 0] (loc' := [(0, .ref (gad Γ 54)), (1, .int v1), (2, .int (v2 + 1))]) rfl ?_
  exact hk2 (v2 + 1)
set_option maxRecDepth 20000 in
theorem wX4_seesNoneOfItself_2 {Γ : JCtx} (hC : jC Γ cX4_seesNoneOfItself 3 RX4 (some .boolean) layX 147) (hR : gR Γ = rmH 0) (hm : gcells Γ ≤ (gR Γ).cells ∧ gslots Γ ≤ (gR Γ).slots) (F : Nat) (κ : Mem) (v1 : Int32) : ∀ (n : Nat) (v2 : Int32), JP Γ (qf Γ (oI κ)) (pX4_seesNoneOfItself_2 F κ v1 n v2) κ 2 [(0, .ref (gad Γ 54)), (1, .int v1), (2, .int v2)] [] := by
  intro n
  induction n with
  | zero =>
    intro v2
    rw [pX4_seesNoneOfItself_2]
    exact j_none
  | succ fu ih =>
    intro v2
    rw [pX4_seesNoneOfItself_2]
    refine j_iload_n hC (pc := 2) dX4_seesNoneOfItself_2 2 rfl rfl ?_
    refine j_aload_n hC (pc := 3) dX4_seesNoneOfItself_3 0 rfl rfl ?_
    refine j_getR hC (pc := 4) dX4_seesNoneOfItself_4 kf_RX4_9 lX_54 (Nat.le_of_ble_eq_true rfl) rfl ?_
    refine j_getI hC (pc := 7) dX4_seesNoneOfItself_7 kf_RX4_15 lX_1 (Nat.le_of_ble_eq_true rfl) rfl ?_
    refine j_icmp_ge hC (pc := 10) dX4_seesNoneOfItself_10 (tgt := 44) rfl ?_ ?_
    · refine j_iload_n hC (pc := 13) dX4_seesNoneOfItself_13 1 rfl rfl ?_
      refine j_iload_n hC (pc := 14) dX4_seesNoneOfItself_14 2 rfl rfl ?_
      refine j_ishr hC (pc := 15) dX4_seesNoneOfItself_15 ?_
      refine j_iconst hC (pc := 16) dX4_seesNoneOfItself_16 ki_1 ?_
      refine j_iand hC (pc := 17) dX4_seesNoneOfItself_17 ?_
      refine j_iconst hC (pc := 18) dX4_seesNoneOfItself_18 ki_1 ?_
      refine j_icmp_ne hC (pc := 19) dX4_seesNoneOfItself_19 (tgt := 38) rfl ?_ ?_
      · refine j_aload_n hC (pc := 22) dX4_seesNoneOfItself_22 0 rfl rfl ?_
        refine j_getR hC (pc := 23) dX4_seesNoneOfItself_23 kf_RX4_9 lX_54 (Nat.le_of_ble_eq_true rfl) rfl ?_
        refine j_getR hC (pc := 26) dX4_seesNoneOfItself_26 kf_RX4_21 lX_1 (Nat.le_of_ble_eq_true rfl) rfl ?_
        refine j_iload_n hC (pc := 29) dX4_seesNoneOfItself_29 2 rfl rfl ?_
        refine j_iald hC (pc := 30) dX4_seesNoneOfItself_30 lX_3 (Nat.le_of_ble_eq_true rfl) ?_
        refine j_iload_n hC (pc := 31) dX4_seesNoneOfItself_31 1 rfl rfl ?_
        refine j_iand hC (pc := 32) dX4_seesNoneOfItself_32 ?_
        refine j_if_eq hC (pc := 33) dX4_seesNoneOfItself_33 (tgt := 38) rfl ?_ ?_
        · exact wX4_seesNoneOfItself_38 hC hR hm F κ v1 v2 (pX4_seesNoneOfItself_2 F κ v1 fu) ih
        · refine j_iconst hC (pc := 36) dX4_seesNoneOfItself_36 ki_0 ?_
          exact j_iret hC (pc := 37) dX4_seesNoneOfItself_37 rfl rfl rfl
      · exact wX4_seesNoneOfItself_38 hC hR hm F κ v1 v2 (pX4_seesNoneOfItself_2 F κ v1 fu) ih
    · refine j_iconst hC (pc := 44) dX4_seesNoneOfItself_44 ki_1 ?_
      exact j_iret hC (pc := 45) dX4_seesNoneOfItself_45 rfl rfl rfl
set_option maxRecDepth 20000 in
theorem wX4_seesNoneOfItself {Γ : JCtx} (hC : jC Γ cX4_seesNoneOfItself 3 RX4 (some .boolean) layX 147) (hR : gR Γ = rmH 0) (hm : gcells Γ ≤ (gR Γ).cells ∧ gslots Γ ≤ (gR Γ).slots) (F : Nat) (κ : Mem) (v1 : Int32) : JP Γ (qf Γ (oI κ)) (pX4_seesNoneOfItself F κ v1) κ 0 [(0, .ref (gad Γ 54)), (1, .int v1)] [] := by
  unfold pX4_seesNoneOfItself
  refine j_iconst hC (pc := 0) dX4_seesNoneOfItself_0 ki_0 ?_
  refine j_istore_n hC (pc := 1) dX4_seesNoneOfItself_1 rfl (Nat.le_of_ble_eq_true rfl) (loc' := [(2, .int 0), (0, .ref (gad Γ 54)), (1, .int v1)]) rfl ?_
  refine j_sub [1, 2, 0] (loc' := [(0, .ref (gad Γ 54)), (1, .int v1), (2, .int 0)]) rfl ?_
  exact wX4_seesNoneOfItself_2 hC hR hm F κ v1 F 0
theorem ctX4_seesNoneOfItself {Δ : DCtx} {l : Launch} (hl : dlay Δ = layX) (hN : dN Δ = 147) (F : Nat) (κ : Mem) (v1 : Int32) : ∀ r, pX4_seesNoneOfItself F κ v1 = some r → CT Δ l yX4_seesNoneOfItself cX4_seesNoneOfItself 3 (some .boolean) (rmH 0) [.ref (dad Δ 54), .int v1] κ (some (.int r)) κ :=
  ct_of (nL := 3) (ret := (some .boolean)) (lay := layX) (N := 147) (by decide +kernel) (fun Δ => [.ref (dad Δ 54), .int v1]) (fun _ => oI κ) (fun _ => (Nat.le_of_ble_eq_true rfl)) (fun Γ hR hm hC => wX4_seesNoneOfItself hC hR hm F κ v1) Δ l hl hN
set_option maxRecDepth 20000 in
theorem wX4_greatestBlindSet_33 {Γ : JCtx} (hC : jC Γ cX4_greatestBlindSet 3 RX4 (some .int) layX 147) (hR : gR Γ = rmH 1) (hm : gcells Γ ≤ (gR Γ).cells ∧ gslots Γ ≤ (gR Γ).slots) (F : Nat) (κ : Mem) (v1 : Int32) (v2 : Int32) (k4 : Int32 → Int32 → Option Int32) (hk4 : ∀ (v1 : Int32) (v2 : Int32), JP Γ (qf Γ (oI κ)) (k4 v1 v2) κ 4 [(0, .ref (gad Γ 54)), (1, .int v1), (2, .int v2)] []) : JP Γ (qf Γ (oI κ)) (pX4_greatestBlindSet_33 F κ k4 v1 v2) κ 33 [(0, .ref (gad Γ 54)), (1, .int v1), (2, .int v2)] [] := by
  unfold pX4_greatestBlindSet_33
  refine j_iinc hC (pc := 33) dX4_greatestBlindSet_33 2 rfl ki_1 (Nat.le_of_ble_eq_true rfl) (loc' := [(2, .int (v2 + 1)), (0, .ref (gad Γ 54)), (1, .int v1)]) rfl ?_
  refine j_goto hC (pc := 36) dX4_greatestBlindSet_36 (tgt := 4) rfl ?_
  refine j_sub [1, 2, 0] (loc' := [(0, .ref (gad Γ 54)), (1, .int v1), (2, .int (v2 + 1))]) rfl ?_
  exact hk4 v1 (v2 + 1)
set_option maxRecDepth 20000 in
theorem wX4_greatestBlindSet_4 {Γ : JCtx} (hC : jC Γ cX4_greatestBlindSet 3 RX4 (some .int) layX 147) (hR : gR Γ = rmH 1) (hm : gcells Γ ≤ (gR Γ).cells ∧ gslots Γ ≤ (gR Γ).slots) (F : Nat) (κ : Mem) : ∀ (n : Nat) (v1 : Int32) (v2 : Int32), JP Γ (qf Γ (oI κ)) (pX4_greatestBlindSet_4 F κ n v1 v2) κ 4 [(0, .ref (gad Γ 54)), (1, .int v1), (2, .int v2)] [] := by
  intro n
  induction n with
  | zero =>
    intro v1 v2
    rw [pX4_greatestBlindSet_4]
    exact j_none
  | succ fu ih =>
    intro v1 v2
    rw [pX4_greatestBlindSet_4]
    refine j_iload_n hC (pc := 4) dX4_greatestBlindSet_4 2 rfl rfl ?_
    refine j_aload_n hC (pc := 5) dX4_greatestBlindSet_5 0 rfl rfl ?_
    refine j_callV_I hC hR (ctX4_everybody hC.l hC.cn κ) kc_RX4_44 (Nat.le_of_ble_eq_true rfl) (Nat.le_of_ble_eq_true rfl) lX_54 (Nat.le_of_ble_eq_true rfl) rfl (As := []) (rest := [.int v2]) rfl rfl (Nat.le_of_ble_eq_true rfl) hm (pc := 6) dX4_greatestBlindSet_6 (fun t1 => ?_)
    refine j_icmp_gt hC (pc := 9) dX4_greatestBlindSet_9 (tgt := 39) rfl ?_ ?_
    · refine j_iload_n hC (pc := 12) dX4_greatestBlindSet_12 2 rfl rfl ?_
      refine j_callS_I hC hR (ctJ6_bitCount_0f7a4 hC.l hC.cn κ v2) kc_RX4_25 (Nat.le_of_ble_eq_true rfl) (Nat.le_of_ble_eq_true rfl) (As := [.int v2]) (rest := []) rfl rfl (Nat.le_of_ble_eq_true rfl) hm (pc := 13) dX4_greatestBlindSet_13 (fun t2 => ?_)
      refine j_iload_n hC (pc := 16) dX4_greatestBlindSet_16 1 rfl rfl ?_
      refine j_callS_I hC hR (ctJ6_bitCount_0f7a4 hC.l hC.cn κ v1) kc_RX4_25 (Nat.le_of_ble_eq_true rfl) (Nat.le_of_ble_eq_true rfl) (As := [.int v1]) (rest := [.int t2]) rfl rfl (Nat.le_of_ble_eq_true rfl) hm (pc := 17) dX4_greatestBlindSet_17 (fun t3 => ?_)
      refine j_icmp_le hC (pc := 20) dX4_greatestBlindSet_20 (tgt := 33) rfl ?_ ?_
      · exact wX4_greatestBlindSet_33 hC hR hm F κ v1 v2 (pX4_greatestBlindSet_4 F κ fu) ih
      · refine j_aload_n hC (pc := 23) dX4_greatestBlindSet_23 0 rfl rfl ?_
        refine j_iload_n hC (pc := 24) dX4_greatestBlindSet_24 2 rfl rfl ?_
        refine j_callV_I hC hR (ctX4_seesNoneOfItself hC.l hC.cn F κ v2) kc_RX4_47 (Nat.le_of_ble_eq_true rfl) (Nat.le_of_ble_eq_true rfl) lX_54 (Nat.le_of_ble_eq_true rfl) rfl (As := [.int v2]) (rest := []) rfl rfl (Nat.le_of_ble_eq_true rfl) hm (pc := 25) dX4_greatestBlindSet_25 (fun t4 => ?_)
        refine j_if_eq hC (pc := 28) dX4_greatestBlindSet_28 (tgt := 33) rfl ?_ ?_
        · exact wX4_greatestBlindSet_33 hC hR hm F κ v1 v2 (pX4_greatestBlindSet_4 F κ fu) ih
        · refine j_iload_n hC (pc := 31) dX4_greatestBlindSet_31 2 rfl rfl ?_
          refine j_istore_n hC (pc := 32) dX4_greatestBlindSet_32 rfl (Nat.le_of_ble_eq_true rfl) (loc' := [(1, .int v2), (0, .ref (gad Γ 54)), (2, .int v2)]) rfl ?_
          refine j_sub [1, 0, 2] (loc' := [(0, .ref (gad Γ 54)), (1, .int v2), (2, .int v2)]) rfl ?_
          exact wX4_greatestBlindSet_33 hC hR hm F κ v2 v2 (pX4_greatestBlindSet_4 F κ fu) ih
    · refine j_iload_n hC (pc := 39) dX4_greatestBlindSet_39 1 rfl rfl ?_
      exact j_iret hC (pc := 40) dX4_greatestBlindSet_40 rfl rfl rfl
set_option maxRecDepth 20000 in
theorem wX4_greatestBlindSet {Γ : JCtx} (hC : jC Γ cX4_greatestBlindSet 3 RX4 (some .int) layX 147) (hR : gR Γ = rmH 1) (hm : gcells Γ ≤ (gR Γ).cells ∧ gslots Γ ≤ (gR Γ).slots) (F : Nat) (κ : Mem) : JP Γ (qf Γ (oI κ)) (pX4_greatestBlindSet F κ) κ 0 [(0, .ref (gad Γ 54))] [] := by
  unfold pX4_greatestBlindSet
  refine j_iconst hC (pc := 0) dX4_greatestBlindSet_0 ki_0 ?_
  refine j_istore_n hC (pc := 1) dX4_greatestBlindSet_1 rfl (Nat.le_of_ble_eq_true rfl) (loc' := [(1, .int 0), (0, .ref (gad Γ 54))]) rfl ?_
  refine j_iconst hC (pc := 2) dX4_greatestBlindSet_2 ki_1 ?_
  refine j_istore_n hC (pc := 3) dX4_greatestBlindSet_3 rfl (Nat.le_of_ble_eq_true rfl) (loc' := [(2, .int 1), (1, .int 0), (0, .ref (gad Γ 54))]) rfl ?_
  refine j_sub [2, 1, 0] (loc' := [(0, .ref (gad Γ 54)), (1, .int 0), (2, .int 1)]) rfl ?_
  exact wX4_greatestBlindSet_4 hC hR hm F κ F 0 1
theorem ctX4_greatestBlindSet {Δ : DCtx} {l : Launch} (hl : dlay Δ = layX) (hN : dN Δ = 147) (F : Nat) (κ : Mem) : ∀ r, pX4_greatestBlindSet F κ = some r → CT Δ l yX4_greatestBlindSet cX4_greatestBlindSet 3 (some .int) (rmH 1) [.ref (dad Δ 54)] κ (some (.int r)) κ :=
  ct_of (nL := 3) (ret := (some .int)) (lay := layX) (N := 147) (by decide +kernel) (fun Δ => [.ref (dad Δ 54)]) (fun _ => oI κ) (fun _ => (Nat.le_of_ble_eq_true rfl)) (fun Γ hR hm hC => wX4_greatestBlindSet hC hR hm F κ) Δ l hl hN
set_option maxRecDepth 20000 in
theorem wX4_twelfths_39 {Γ : JCtx} (hC : jC Γ cX4_twelfths 4 RX4 (some .int) layX 147) (hR : gR Γ = rmH 0) (hm : gcells Γ ≤ (gR Γ).cells ∧ gslots Γ ≤ (gR Γ).slots) (F : Nat) (κ : Mem) (v1 : Int32) (v2 : Int32) (v3 : Int32) (k4 : Int32 → Int32 → Option Int32) (hk4 : ∀ (v2 : Int32) (v3 : Int32), JP Γ (qf Γ (oI κ)) (k4 v2 v3) κ 4 [(0, .ref (gad Γ 54)), (1, .int v1), (2, .int v2), (3, .int v3)] []) : JP Γ (qf Γ (oI κ)) (pX4_twelfths_39 F κ k4 v1 v2 v3) κ 39 [(0, .ref (gad Γ 54)), (1, .int v1), (2, .int v2), (3, .int v3)] [] := by
  unfold pX4_twelfths_39
  refine j_iinc hC (pc := 39) dX4_twelfths_39 3 rfl ki_1 (Nat.le_of_ble_eq_true rfl) (loc' := [(3, .int (v3 + 1)), (0, .ref (gad Γ 54)), (1, .int v1), (2, .int v2)]) rfl ?_
  refine j_goto hC (pc := 42) dX4_twelfths_42 (tgt := 4) rfl ?_
  refine j_sub [1, 2, 3, 0] (loc' := [(0, .ref (gad Γ 54)), (1, .int v1), (2, .int v2), (3, .int (v3 + 1))]) rfl ?_
  exact hk4 v2 (v3 + 1)
set_option maxRecDepth 20000 in
theorem wX4_twelfths_4 {Γ : JCtx} (hC : jC Γ cX4_twelfths 4 RX4 (some .int) layX 147) (hR : gR Γ = rmH 0) (hm : gcells Γ ≤ (gR Γ).cells ∧ gslots Γ ≤ (gR Γ).slots) (F : Nat) (κ : Mem) (v1 : Int32) : ∀ (n : Nat) (v2 : Int32) (v3 : Int32), JP Γ (qf Γ (oI κ)) (pX4_twelfths_4 F κ v1 n v2 v3) κ 4 [(0, .ref (gad Γ 54)), (1, .int v1), (2, .int v2), (3, .int v3)] [] := by
  intro n
  induction n with
  | zero =>
    intro v2 v3
    rw [pX4_twelfths_4]
    exact j_none
  | succ fu ih =>
    intro v2 v3
    rw [pX4_twelfths_4]
    refine j_iload_n hC (pc := 4) dX4_twelfths_4 3 rfl rfl ?_
    refine j_aload_n hC (pc := 5) dX4_twelfths_5 0 rfl rfl ?_
    refine j_getR hC (pc := 6) dX4_twelfths_6 kf_RX4_9 lX_54 (Nat.le_of_ble_eq_true rfl) rfl ?_
    refine j_getI hC (pc := 9) dX4_twelfths_9 kf_RX4_15 lX_1 (Nat.le_of_ble_eq_true rfl) rfl ?_
    refine j_icmp_ge hC (pc := 12) dX4_twelfths_12 (tgt := 45) rfl ?_ ?_
    · refine j_iload_n hC (pc := 15) dX4_twelfths_15 1 rfl rfl ?_
      refine j_iload_n hC (pc := 16) dX4_twelfths_16 3 rfl rfl ?_
      refine j_ishr hC (pc := 17) dX4_twelfths_17 ?_
      refine j_iconst hC (pc := 18) dX4_twelfths_18 ki_1 ?_
      refine j_iand hC (pc := 19) dX4_twelfths_19 ?_
      refine j_iconst hC (pc := 20) dX4_twelfths_20 ki_1 ?_
      refine j_icmp_ne hC (pc := 21) dX4_twelfths_21 (tgt := 39) rfl ?_ ?_
      · refine j_iload_n hC (pc := 24) dX4_twelfths_24 2 rfl rfl ?_
        refine j_bipush hC (pc := 25) dX4_twelfths_25 kb_12 ?_
        refine j_aload_n hC (pc := 27) dX4_twelfths_27 0 rfl rfl ?_
        refine j_getR hC (pc := 28) dX4_twelfths_28 kf_RX4_9 lX_54 (Nat.le_of_ble_eq_true rfl) rfl ?_
        refine j_getR hC (pc := 31) dX4_twelfths_31 kf_RX4_51 lX_1 (Nat.le_of_ble_eq_true rfl) rfl ?_
        refine j_iload_n hC (pc := 34) dX4_twelfths_34 3 rfl rfl ?_
        refine j_iald hC (pc := 35) dX4_twelfths_35 lX_2 (Nat.le_of_ble_eq_true rfl) ?_
        refine j_idiv hC (pc := 36) dX4_twelfths_36 ?_
        refine j_iadd hC (pc := 37) dX4_twelfths_37 ?_
        refine j_nmi (fun x1 => ?_)
        refine j_istore_n hC (pc := 38) dX4_twelfths_38 rfl (Nat.le_of_ble_eq_true rfl) (loc' := [(2, .int x1), (0, .ref (gad Γ 54)), (1, .int v1), (3, .int v3)]) rfl ?_
        refine j_sub [1, 2, 0, 3] (loc' := [(0, .ref (gad Γ 54)), (1, .int v1), (2, .int x1), (3, .int v3)]) rfl ?_
        exact wX4_twelfths_39 hC hR hm F κ v1 x1 v3 (pX4_twelfths_4 F κ v1 fu) ih
      · exact wX4_twelfths_39 hC hR hm F κ v1 v2 v3 (pX4_twelfths_4 F κ v1 fu) ih
    · refine j_iload_n hC (pc := 45) dX4_twelfths_45 2 rfl rfl ?_
      exact j_iret hC (pc := 46) dX4_twelfths_46 rfl rfl rfl
set_option maxRecDepth 20000 in
theorem wX4_twelfths {Γ : JCtx} (hC : jC Γ cX4_twelfths 4 RX4 (some .int) layX 147) (hR : gR Γ = rmH 0) (hm : gcells Γ ≤ (gR Γ).cells ∧ gslots Γ ≤ (gR Γ).slots) (F : Nat) (κ : Mem) (v1 : Int32) : JP Γ (qf Γ (oI κ)) (pX4_twelfths F κ v1) κ 0 [(0, .ref (gad Γ 54)), (1, .int v1)] [] := by
  unfold pX4_twelfths
  refine j_iconst hC (pc := 0) dX4_twelfths_0 ki_0 ?_
  refine j_istore_n hC (pc := 1) dX4_twelfths_1 rfl (Nat.le_of_ble_eq_true rfl) (loc' := [(2, .int 0), (0, .ref (gad Γ 54)), (1, .int v1)]) rfl ?_
  refine j_iconst hC (pc := 2) dX4_twelfths_2 ki_0 ?_
  refine j_istore_n hC (pc := 3) dX4_twelfths_3 rfl (Nat.le_of_ble_eq_true rfl) (loc' := [(3, .int 0), (2, .int 0), (0, .ref (gad Γ 54)), (1, .int v1)]) rfl ?_
  refine j_sub [2, 3, 1, 0] (loc' := [(0, .ref (gad Γ 54)), (1, .int v1), (2, .int 0), (3, .int 0)]) rfl ?_
  exact wX4_twelfths_4 hC hR hm F κ v1 F 0 0
theorem ctX4_twelfths {Δ : DCtx} {l : Launch} (hl : dlay Δ = layX) (hN : dN Δ = 147) (F : Nat) (κ : Mem) (v1 : Int32) : ∀ r, pX4_twelfths F κ v1 = some r → CT Δ l yX4_twelfths cX4_twelfths 4 (some .int) (rmH 0) [.ref (dad Δ 54), .int v1] κ (some (.int r)) κ :=
  ct_of (nL := 4) (ret := (some .int)) (lay := layX) (N := 147) (by decide +kernel) (fun Δ => [.ref (dad Δ 54), .int v1]) (fun _ => oI κ) (fun _ => (Nat.le_of_ble_eq_true rfl)) (fun Γ hR hm hC => wX4_twelfths hC hR hm F κ v1) Δ l hl hN
set_option maxRecDepth 20000 in
theorem wX4_isClique_43 {Γ : JCtx} (hC : jC Γ cX4_isClique 3 RX4 (some .boolean) layX 147) (hR : gR Γ = rmH 0) (hm : gcells Γ ≤ (gR Γ).cells ∧ gslots Γ ≤ (gR Γ).slots) (F : Nat) (κ : Mem) (v1 : Int32) (v2 : Int32) (k2 : Int32 → Option Int32) (hk2 : ∀ (v2 : Int32), JP Γ (qf Γ (oI κ)) (k2 v2) κ 2 [(0, .ref (gad Γ 54)), (1, .int v1), (2, .int v2)] []) : JP Γ (qf Γ (oI κ)) (pX4_isClique_43 F κ k2 v1 v2) κ 43 [(0, .ref (gad Γ 54)), (1, .int v1), (2, .int v2)] [] := by
  unfold pX4_isClique_43
  refine j_iinc hC (pc := 43) dX4_isClique_43 2 rfl ki_1 (Nat.le_of_ble_eq_true rfl) (loc' := [(2, .int (v2 + 1)), (0, .ref (gad Γ 54)), (1, .int v1)]) rfl ?_
  refine j_goto hC (pc := 46) dX4_isClique_46 (tgt := 2) rfl ?_
  refine j_sub [1, 2, 0] (loc' := [(0, .ref (gad Γ 54)), (1, .int v1), (2, .int (v2 + 1))]) rfl ?_
  exact hk2 (v2 + 1)
set_option maxRecDepth 20000 in
theorem wX4_isClique_2 {Γ : JCtx} (hC : jC Γ cX4_isClique 3 RX4 (some .boolean) layX 147) (hR : gR Γ = rmH 0) (hm : gcells Γ ≤ (gR Γ).cells ∧ gslots Γ ≤ (gR Γ).slots) (F : Nat) (κ : Mem) (v1 : Int32) : ∀ (n : Nat) (v2 : Int32), JP Γ (qf Γ (oI κ)) (pX4_isClique_2 F κ v1 n v2) κ 2 [(0, .ref (gad Γ 54)), (1, .int v1), (2, .int v2)] [] := by
  intro n
  induction n with
  | zero =>
    intro v2
    rw [pX4_isClique_2]
    exact j_none
  | succ fu ih =>
    intro v2
    rw [pX4_isClique_2]
    refine j_iload_n hC (pc := 2) dX4_isClique_2 2 rfl rfl ?_
    refine j_aload_n hC (pc := 3) dX4_isClique_3 0 rfl rfl ?_
    refine j_getR hC (pc := 4) dX4_isClique_4 kf_RX4_9 lX_54 (Nat.le_of_ble_eq_true rfl) rfl ?_
    refine j_getI hC (pc := 7) dX4_isClique_7 kf_RX4_15 lX_1 (Nat.le_of_ble_eq_true rfl) rfl ?_
    refine j_icmp_ge hC (pc := 10) dX4_isClique_10 (tgt := 49) rfl ?_ ?_
    · refine j_iload_n hC (pc := 13) dX4_isClique_13 1 rfl rfl ?_
      refine j_iload_n hC (pc := 14) dX4_isClique_14 2 rfl rfl ?_
      refine j_ishr hC (pc := 15) dX4_isClique_15 ?_
      refine j_iconst hC (pc := 16) dX4_isClique_16 ki_1 ?_
      refine j_iand hC (pc := 17) dX4_isClique_17 ?_
      refine j_iconst hC (pc := 18) dX4_isClique_18 ki_1 ?_
      refine j_icmp_ne hC (pc := 19) dX4_isClique_19 (tgt := 43) rfl ?_ ?_
      · refine j_aload_n hC (pc := 22) dX4_isClique_22 0 rfl rfl ?_
        refine j_getR hC (pc := 23) dX4_isClique_23 kf_RX4_9 lX_54 (Nat.le_of_ble_eq_true rfl) rfl ?_
        refine j_getR hC (pc := 26) dX4_isClique_26 kf_RX4_21 lX_1 (Nat.le_of_ble_eq_true rfl) rfl ?_
        refine j_iload_n hC (pc := 29) dX4_isClique_29 2 rfl rfl ?_
        refine j_iald hC (pc := 30) dX4_isClique_30 lX_3 (Nat.le_of_ble_eq_true rfl) ?_
        refine j_iconst hC (pc := 31) dX4_isClique_31 ki_1 ?_
        refine j_iload_n hC (pc := 32) dX4_isClique_32 2 rfl rfl ?_
        refine j_ishl hC (pc := 33) dX4_isClique_33 ?_
        refine j_ior hC (pc := 34) dX4_isClique_34 ?_
        refine j_iload_n hC (pc := 35) dX4_isClique_35 1 rfl rfl ?_
        refine j_iand hC (pc := 36) dX4_isClique_36 ?_
        refine j_iload_n hC (pc := 37) dX4_isClique_37 1 rfl rfl ?_
        refine j_icmp_eq hC (pc := 38) dX4_isClique_38 (tgt := 43) rfl ?_ ?_
        · exact wX4_isClique_43 hC hR hm F κ v1 v2 (pX4_isClique_2 F κ v1 fu) ih
        · refine j_iconst hC (pc := 41) dX4_isClique_41 ki_0 ?_
          exact j_iret hC (pc := 42) dX4_isClique_42 rfl rfl rfl
      · exact wX4_isClique_43 hC hR hm F κ v1 v2 (pX4_isClique_2 F κ v1 fu) ih
    · refine j_iconst hC (pc := 49) dX4_isClique_49 ki_1 ?_
      exact j_iret hC (pc := 50) dX4_isClique_50 rfl rfl rfl
set_option maxRecDepth 20000 in
theorem wX4_isClique {Γ : JCtx} (hC : jC Γ cX4_isClique 3 RX4 (some .boolean) layX 147) (hR : gR Γ = rmH 0) (hm : gcells Γ ≤ (gR Γ).cells ∧ gslots Γ ≤ (gR Γ).slots) (F : Nat) (κ : Mem) (v1 : Int32) : JP Γ (qf Γ (oI κ)) (pX4_isClique F κ v1) κ 0 [(0, .ref (gad Γ 54)), (1, .int v1)] [] := by
  unfold pX4_isClique
  refine j_iconst hC (pc := 0) dX4_isClique_0 ki_0 ?_
  refine j_istore_n hC (pc := 1) dX4_isClique_1 rfl (Nat.le_of_ble_eq_true rfl) (loc' := [(2, .int 0), (0, .ref (gad Γ 54)), (1, .int v1)]) rfl ?_
  refine j_sub [1, 2, 0] (loc' := [(0, .ref (gad Γ 54)), (1, .int v1), (2, .int 0)]) rfl ?_
  exact wX4_isClique_2 hC hR hm F κ v1 F 0
theorem ctX4_isClique {Δ : DCtx} {l : Launch} (hl : dlay Δ = layX) (hN : dN Δ = 147) (F : Nat) (κ : Mem) (v1 : Int32) : ∀ r, pX4_isClique F κ v1 = some r → CT Δ l yX4_isClique cX4_isClique 3 (some .boolean) (rmH 0) [.ref (dad Δ 54), .int v1] κ (some (.int r)) κ :=
  ct_of (nL := 3) (ret := (some .boolean)) (lay := layX) (N := 147) (by decide +kernel) (fun Δ => [.ref (dad Δ 54), .int v1]) (fun _ => oI κ) (fun _ => (Nat.le_of_ble_eq_true rfl)) (fun Γ hR hm hC => wX4_isClique hC hR hm F κ v1) Δ l hl hN
set_option maxRecDepth 20000 in
theorem wX4_greatestClique_33 {Γ : JCtx} (hC : jC Γ cX4_greatestClique 3 RX4 (some .int) layX 147) (hR : gR Γ = rmH 1) (hm : gcells Γ ≤ (gR Γ).cells ∧ gslots Γ ≤ (gR Γ).slots) (F : Nat) (κ : Mem) (v1 : Int32) (v2 : Int32) (k4 : Int32 → Int32 → Option Int32) (hk4 : ∀ (v1 : Int32) (v2 : Int32), JP Γ (qf Γ (oI κ)) (k4 v1 v2) κ 4 [(0, .ref (gad Γ 54)), (1, .int v1), (2, .int v2)] []) : JP Γ (qf Γ (oI κ)) (pX4_greatestClique_33 F κ k4 v1 v2) κ 33 [(0, .ref (gad Γ 54)), (1, .int v1), (2, .int v2)] [] := by
  unfold pX4_greatestClique_33
  refine j_iinc hC (pc := 33) dX4_greatestClique_33 2 rfl ki_1 (Nat.le_of_ble_eq_true rfl) (loc' := [(2, .int (v2 + 1)), (0, .ref (gad Γ 54)), (1, .int v1)]) rfl ?_
  refine j_goto hC (pc := 36) dX4_greatestClique_36 (tgt := 4) rfl ?_
  refine j_sub [1, 2, 0] (loc' := [(0, .ref (gad Γ 54)), (1, .int v1), (2, .int (v2 + 1))]) rfl ?_
  exact hk4 v1 (v2 + 1)
set_option maxRecDepth 20000 in
theorem wX4_greatestClique_4 {Γ : JCtx} (hC : jC Γ cX4_greatestClique 3 RX4 (some .int) layX 147) (hR : gR Γ = rmH 1) (hm : gcells Γ ≤ (gR Γ).cells ∧ gslots Γ ≤ (gR Γ).slots) (F : Nat) (κ : Mem) : ∀ (n : Nat) (v1 : Int32) (v2 : Int32), JP Γ (qf Γ (oI κ)) (pX4_greatestClique_4 F κ n v1 v2) κ 4 [(0, .ref (gad Γ 54)), (1, .int v1), (2, .int v2)] [] := by
  intro n
  induction n with
  | zero =>
    intro v1 v2
    rw [pX4_greatestClique_4]
    exact j_none
  | succ fu ih =>
    intro v1 v2
    rw [pX4_greatestClique_4]
    refine j_iload_n hC (pc := 4) dX4_greatestClique_4 2 rfl rfl ?_
    refine j_aload_n hC (pc := 5) dX4_greatestClique_5 0 rfl rfl ?_
    refine j_callV_I hC hR (ctX4_everybody hC.l hC.cn κ) kc_RX4_44 (Nat.le_of_ble_eq_true rfl) (Nat.le_of_ble_eq_true rfl) lX_54 (Nat.le_of_ble_eq_true rfl) rfl (As := []) (rest := [.int v2]) rfl rfl (Nat.le_of_ble_eq_true rfl) hm (pc := 6) dX4_greatestClique_6 (fun t1 => ?_)
    refine j_icmp_gt hC (pc := 9) dX4_greatestClique_9 (tgt := 39) rfl ?_ ?_
    · refine j_iload_n hC (pc := 12) dX4_greatestClique_12 2 rfl rfl ?_
      refine j_callS_I hC hR (ctJ6_bitCount_0f7a4 hC.l hC.cn κ v2) kc_RX4_25 (Nat.le_of_ble_eq_true rfl) (Nat.le_of_ble_eq_true rfl) (As := [.int v2]) (rest := []) rfl rfl (Nat.le_of_ble_eq_true rfl) hm (pc := 13) dX4_greatestClique_13 (fun t2 => ?_)
      refine j_iload_n hC (pc := 16) dX4_greatestClique_16 1 rfl rfl ?_
      refine j_callS_I hC hR (ctJ6_bitCount_0f7a4 hC.l hC.cn κ v1) kc_RX4_25 (Nat.le_of_ble_eq_true rfl) (Nat.le_of_ble_eq_true rfl) (As := [.int v1]) (rest := [.int t2]) rfl rfl (Nat.le_of_ble_eq_true rfl) hm (pc := 17) dX4_greatestClique_17 (fun t3 => ?_)
      refine j_icmp_le hC (pc := 20) dX4_greatestClique_20 (tgt := 33) rfl ?_ ?_
      · exact wX4_greatestClique_33 hC hR hm F κ v1 v2 (pX4_greatestClique_4 F κ fu) ih
      · refine j_aload_n hC (pc := 23) dX4_greatestClique_23 0 rfl rfl ?_
        refine j_iload_n hC (pc := 24) dX4_greatestClique_24 2 rfl rfl ?_
        refine j_callV_I hC hR (ctX4_isClique hC.l hC.cn F κ v2) kc_RX4_54 (Nat.le_of_ble_eq_true rfl) (Nat.le_of_ble_eq_true rfl) lX_54 (Nat.le_of_ble_eq_true rfl) rfl (As := [.int v2]) (rest := []) rfl rfl (Nat.le_of_ble_eq_true rfl) hm (pc := 25) dX4_greatestClique_25 (fun t4 => ?_)
        refine j_if_eq hC (pc := 28) dX4_greatestClique_28 (tgt := 33) rfl ?_ ?_
        · exact wX4_greatestClique_33 hC hR hm F κ v1 v2 (pX4_greatestClique_4 F κ fu) ih
        · refine j_iload_n hC (pc := 31) dX4_greatestClique_31 2 rfl rfl ?_
          refine j_istore_n hC (pc := 32) dX4_greatestClique_32 rfl (Nat.le_of_ble_eq_true rfl) (loc' := [(1, .int v2), (0, .ref (gad Γ 54)), (2, .int v2)]) rfl ?_
          refine j_sub [1, 0, 2] (loc' := [(0, .ref (gad Γ 54)), (1, .int v2), (2, .int v2)]) rfl ?_
          exact wX4_greatestClique_33 hC hR hm F κ v2 v2 (pX4_greatestClique_4 F κ fu) ih
    · refine j_iload_n hC (pc := 39) dX4_greatestClique_39 1 rfl rfl ?_
      exact j_iret hC (pc := 40) dX4_greatestClique_40 rfl rfl rfl
set_option maxRecDepth 20000 in
theorem wX4_greatestClique {Γ : JCtx} (hC : jC Γ cX4_greatestClique 3 RX4 (some .int) layX 147) (hR : gR Γ = rmH 1) (hm : gcells Γ ≤ (gR Γ).cells ∧ gslots Γ ≤ (gR Γ).slots) (F : Nat) (κ : Mem) : JP Γ (qf Γ (oI κ)) (pX4_greatestClique F κ) κ 0 [(0, .ref (gad Γ 54))] [] := by
  unfold pX4_greatestClique
  refine j_iconst hC (pc := 0) dX4_greatestClique_0 ki_0 ?_
  refine j_istore_n hC (pc := 1) dX4_greatestClique_1 rfl (Nat.le_of_ble_eq_true rfl) (loc' := [(1, .int 0), (0, .ref (gad Γ 54))]) rfl ?_
  refine j_iconst hC (pc := 2) dX4_greatestClique_2 ki_1 ?_
  refine j_istore_n hC (pc := 3) dX4_greatestClique_3 rfl (Nat.le_of_ble_eq_true rfl) (loc' := [(2, .int 1), (1, .int 0), (0, .ref (gad Γ 54))]) rfl ?_
  refine j_sub [2, 1, 0] (loc' := [(0, .ref (gad Γ 54)), (1, .int 0), (2, .int 1)]) rfl ?_
  exact wX4_greatestClique_4 hC hR hm F κ F 0 1
theorem ctX4_greatestClique {Δ : DCtx} {l : Launch} (hl : dlay Δ = layX) (hN : dN Δ = 147) (F : Nat) (κ : Mem) : ∀ r, pX4_greatestClique F κ = some r → CT Δ l yX4_greatestClique cX4_greatestClique 3 (some .int) (rmH 1) [.ref (dad Δ 54)] κ (some (.int r)) κ :=
  ct_of (nL := 3) (ret := (some .int)) (lay := layX) (N := 147) (by decide +kernel) (fun Δ => [.ref (dad Δ 54)]) (fun _ => oI κ) (fun _ => (Nat.le_of_ble_eq_true rfl)) (fun Γ hR hm hC => wX4_greatestClique hC hR hm F κ) Δ l hl hN
set_option maxRecDepth 20000 in
theorem wX4_strongestClique_35 {Γ : JCtx} (hC : jC Γ cX4_strongestClique 3 RX4 (some .int) layX 147) (hR : gR Γ = rmH 1) (hm : gcells Γ ≤ (gR Γ).cells ∧ gslots Γ ≤ (gR Γ).slots) (F : Nat) (κ : Mem) (v1 : Int32) (v2 : Int32) (k4 : Int32 → Int32 → Option Int32) (hk4 : ∀ (v1 : Int32) (v2 : Int32), JP Γ (qf Γ (oI κ)) (k4 v1 v2) κ 4 [(0, .ref (gad Γ 54)), (1, .int v1), (2, .int v2)] []) : JP Γ (qf Γ (oI κ)) (pX4_strongestClique_35 F κ k4 v1 v2) κ 35 [(0, .ref (gad Γ 54)), (1, .int v1), (2, .int v2)] [] := by
  unfold pX4_strongestClique_35
  refine j_iinc hC (pc := 35) dX4_strongestClique_35 2 rfl ki_1 (Nat.le_of_ble_eq_true rfl) (loc' := [(2, .int (v2 + 1)), (0, .ref (gad Γ 54)), (1, .int v1)]) rfl ?_
  refine j_goto hC (pc := 38) dX4_strongestClique_38 (tgt := 4) rfl ?_
  refine j_sub [1, 2, 0] (loc' := [(0, .ref (gad Γ 54)), (1, .int v1), (2, .int (v2 + 1))]) rfl ?_
  exact hk4 v1 (v2 + 1)
set_option maxRecDepth 20000 in
theorem wX4_strongestClique_4 {Γ : JCtx} (hC : jC Γ cX4_strongestClique 3 RX4 (some .int) layX 147) (hR : gR Γ = rmH 1) (hm : gcells Γ ≤ (gR Γ).cells ∧ gslots Γ ≤ (gR Γ).slots) (F : Nat) (κ : Mem) : ∀ (n : Nat) (v1 : Int32) (v2 : Int32), JP Γ (qf Γ (oI κ)) (pX4_strongestClique_4 F κ n v1 v2) κ 4 [(0, .ref (gad Γ 54)), (1, .int v1), (2, .int v2)] [] := by
  intro n
  induction n with
  | zero =>
    intro v1 v2
    rw [pX4_strongestClique_4]
    exact j_none
  | succ fu ih =>
    intro v1 v2
    rw [pX4_strongestClique_4]
    refine j_iload_n hC (pc := 4) dX4_strongestClique_4 2 rfl rfl ?_
    refine j_aload_n hC (pc := 5) dX4_strongestClique_5 0 rfl rfl ?_
    refine j_callV_I hC hR (ctX4_everybody hC.l hC.cn κ) kc_RX4_44 (Nat.le_of_ble_eq_true rfl) (Nat.le_of_ble_eq_true rfl) lX_54 (Nat.le_of_ble_eq_true rfl) rfl (As := []) (rest := [.int v2]) rfl rfl (Nat.le_of_ble_eq_true rfl) hm (pc := 6) dX4_strongestClique_6 (fun t1 => ?_)
    refine j_icmp_gt hC (pc := 9) dX4_strongestClique_9 (tgt := 41) rfl ?_ ?_
    · refine j_aload_n hC (pc := 12) dX4_strongestClique_12 0 rfl rfl ?_
      refine j_iload_n hC (pc := 13) dX4_strongestClique_13 2 rfl rfl ?_
      refine j_callV_I hC hR (ctX4_twelfths hC.l hC.cn F κ v2) kc_RX4_57 (Nat.le_of_ble_eq_true rfl) (Nat.le_of_ble_eq_true rfl) lX_54 (Nat.le_of_ble_eq_true rfl) rfl (As := [.int v2]) (rest := []) rfl rfl (Nat.le_of_ble_eq_true rfl) hm (pc := 14) dX4_strongestClique_14 (fun t2 => ?_)
      refine j_aload_n hC (pc := 17) dX4_strongestClique_17 0 rfl rfl ?_
      refine j_iload_n hC (pc := 18) dX4_strongestClique_18 1 rfl rfl ?_
      refine j_callV_I hC hR (ctX4_twelfths hC.l hC.cn F κ v1) kc_RX4_57 (Nat.le_of_ble_eq_true rfl) (Nat.le_of_ble_eq_true rfl) lX_54 (Nat.le_of_ble_eq_true rfl) rfl (As := [.int v1]) (rest := [.int t2]) rfl rfl (Nat.le_of_ble_eq_true rfl) hm (pc := 19) dX4_strongestClique_19 (fun t3 => ?_)
      refine j_icmp_le hC (pc := 22) dX4_strongestClique_22 (tgt := 35) rfl ?_ ?_
      · exact wX4_strongestClique_35 hC hR hm F κ v1 v2 (pX4_strongestClique_4 F κ fu) ih
      · refine j_aload_n hC (pc := 25) dX4_strongestClique_25 0 rfl rfl ?_
        refine j_iload_n hC (pc := 26) dX4_strongestClique_26 2 rfl rfl ?_
        refine j_callV_I hC hR (ctX4_isClique hC.l hC.cn F κ v2) kc_RX4_54 (Nat.le_of_ble_eq_true rfl) (Nat.le_of_ble_eq_true rfl) lX_54 (Nat.le_of_ble_eq_true rfl) rfl (As := [.int v2]) (rest := []) rfl rfl (Nat.le_of_ble_eq_true rfl) hm (pc := 27) dX4_strongestClique_27 (fun t4 => ?_)
        refine j_if_eq hC (pc := 30) dX4_strongestClique_30 (tgt := 35) rfl ?_ ?_
        · exact wX4_strongestClique_35 hC hR hm F κ v1 v2 (pX4_strongestClique_4 F κ fu) ih
        · refine j_iload_n hC (pc := 33) dX4_strongestClique_33 2 rfl rfl ?_
          refine j_istore_n hC (pc := 34) dX4_strongestClique_34 rfl (Nat.le_of_ble_eq_true rfl) (loc' := [(1, .int v2), (0, .ref (gad Γ 54)), (2, .int v2)]) rfl ?_
          refine j_sub [1, 0, 2] (loc' := [(0, .ref (gad Γ 54)), (1, .int v2), (2, .int v2)]) rfl ?_
          exact wX4_strongestClique_35 hC hR hm F κ v2 v2 (pX4_strongestClique_4 F κ fu) ih
    · refine j_iload_n hC (pc := 41) dX4_strongestClique_41 1 rfl rfl ?_
      exact j_iret hC (pc := 42) dX4_strongestClique_42 rfl rfl rfl
set_option maxRecDepth 20000 in
theorem wX4_strongestClique {Γ : JCtx} (hC : jC Γ cX4_strongestClique 3 RX4 (some .int) layX 147) (hR : gR Γ = rmH 1) (hm : gcells Γ ≤ (gR Γ).cells ∧ gslots Γ ≤ (gR Γ).slots) (F : Nat) (κ : Mem) : JP Γ (qf Γ (oI κ)) (pX4_strongestClique F κ) κ 0 [(0, .ref (gad Γ 54))] [] := by
  unfold pX4_strongestClique
  refine j_iconst hC (pc := 0) dX4_strongestClique_0 ki_0 ?_
  refine j_istore_n hC (pc := 1) dX4_strongestClique_1 rfl (Nat.le_of_ble_eq_true rfl) (loc' := [(1, .int 0), (0, .ref (gad Γ 54))]) rfl ?_
  refine j_iconst hC (pc := 2) dX4_strongestClique_2 ki_1 ?_
  refine j_istore_n hC (pc := 3) dX4_strongestClique_3 rfl (Nat.le_of_ble_eq_true rfl) (loc' := [(2, .int 1), (1, .int 0), (0, .ref (gad Γ 54))]) rfl ?_
  refine j_sub [2, 1, 0] (loc' := [(0, .ref (gad Γ 54)), (1, .int 0), (2, .int 1)]) rfl ?_
  exact wX4_strongestClique_4 hC hR hm F κ F 0 1
theorem ctX4_strongestClique {Δ : DCtx} {l : Launch} (hl : dlay Δ = layX) (hN : dN Δ = 147) (F : Nat) (κ : Mem) : ∀ r, pX4_strongestClique F κ = some r → CT Δ l yX4_strongestClique cX4_strongestClique 3 (some .int) (rmH 1) [.ref (dad Δ 54)] κ (some (.int r)) κ :=
  ct_of (nL := 3) (ret := (some .int)) (lay := layX) (N := 147) (by decide +kernel) (fun Δ => [.ref (dad Δ 54)]) (fun _ => oI κ) (fun _ => (Nat.le_of_ble_eq_true rfl)) (fun Γ hR hm hC => wX4_strongestClique hC hR hm F κ) Δ l hl hN
set_option maxRecDepth 20000 in
theorem wX4_sureCliques_33 {Γ : JCtx} (hC : jC Γ cX4_sureCliques 3 RX4 (some .int) layX 147) (hR : gR Γ = rmH 1) (hm : gcells Γ ≤ (gR Γ).cells ∧ gslots Γ ≤ (gR Γ).slots) (F : Nat) (κ : Mem) (v1 : Int32) (v2 : Int32) (k4 : Int32 → Int32 → Option Int32) (hk4 : ∀ (v1 : Int32) (v2 : Int32), JP Γ (qf Γ (oI κ)) (k4 v1 v2) κ 4 [(0, .ref (gad Γ 54)), (1, .int v1), (2, .int v2)] []) : JP Γ (qf Γ (oI κ)) (pX4_sureCliques_33 F κ k4 v1 v2) κ 33 [(0, .ref (gad Γ 54)), (1, .int v1), (2, .int v2)] [] := by
  unfold pX4_sureCliques_33
  refine j_iinc hC (pc := 33) dX4_sureCliques_33 2 rfl ki_1 (Nat.le_of_ble_eq_true rfl) (loc' := [(2, .int (v2 + 1)), (0, .ref (gad Γ 54)), (1, .int v1)]) rfl ?_
  refine j_goto hC (pc := 36) dX4_sureCliques_36 (tgt := 4) rfl ?_
  refine j_sub [1, 2, 0] (loc' := [(0, .ref (gad Γ 54)), (1, .int v1), (2, .int (v2 + 1))]) rfl ?_
  exact hk4 v1 (v2 + 1)
set_option maxRecDepth 20000 in
theorem wX4_sureCliques_4 {Γ : JCtx} (hC : jC Γ cX4_sureCliques 3 RX4 (some .int) layX 147) (hR : gR Γ = rmH 1) (hm : gcells Γ ≤ (gR Γ).cells ∧ gslots Γ ≤ (gR Γ).slots) (F : Nat) (κ : Mem) : ∀ (n : Nat) (v1 : Int32) (v2 : Int32), JP Γ (qf Γ (oI κ)) (pX4_sureCliques_4 F κ n v1 v2) κ 4 [(0, .ref (gad Γ 54)), (1, .int v1), (2, .int v2)] [] := by
  intro n
  induction n with
  | zero =>
    intro v1 v2
    rw [pX4_sureCliques_4]
    exact j_none
  | succ fu ih =>
    intro v1 v2
    rw [pX4_sureCliques_4]
    refine j_iload_n hC (pc := 4) dX4_sureCliques_4 2 rfl rfl ?_
    refine j_aload_n hC (pc := 5) dX4_sureCliques_5 0 rfl rfl ?_
    refine j_callV_I hC hR (ctX4_everybody hC.l hC.cn κ) kc_RX4_44 (Nat.le_of_ble_eq_true rfl) (Nat.le_of_ble_eq_true rfl) lX_54 (Nat.le_of_ble_eq_true rfl) rfl (As := []) (rest := [.int v2]) rfl rfl (Nat.le_of_ble_eq_true rfl) hm (pc := 6) dX4_sureCliques_6 (fun t1 => ?_)
    refine j_icmp_gt hC (pc := 9) dX4_sureCliques_9 (tgt := 39) rfl ?_ ?_
    · refine j_aload_n hC (pc := 12) dX4_sureCliques_12 0 rfl rfl ?_
      refine j_iload_n hC (pc := 13) dX4_sureCliques_13 2 rfl rfl ?_
      refine j_callV_I hC hR (ctX4_twelfths hC.l hC.cn F κ v2) kc_RX4_57 (Nat.le_of_ble_eq_true rfl) (Nat.le_of_ble_eq_true rfl) lX_54 (Nat.le_of_ble_eq_true rfl) rfl (As := [.int v2]) (rest := []) rfl rfl (Nat.le_of_ble_eq_true rfl) hm (pc := 14) dX4_sureCliques_14 (fun t2 => ?_)
      refine j_bipush hC (pc := 17) dX4_sureCliques_17 kb_12 ?_
      refine j_icmp_lt hC (pc := 19) dX4_sureCliques_19 (tgt := 33) rfl ?_ ?_
      · exact wX4_sureCliques_33 hC hR hm F κ v1 v2 (pX4_sureCliques_4 F κ fu) ih
      · refine j_aload_n hC (pc := 22) dX4_sureCliques_22 0 rfl rfl ?_
        refine j_iload_n hC (pc := 23) dX4_sureCliques_23 2 rfl rfl ?_
        refine j_callV_I hC hR (ctX4_isClique hC.l hC.cn F κ v2) kc_RX4_54 (Nat.le_of_ble_eq_true rfl) (Nat.le_of_ble_eq_true rfl) lX_54 (Nat.le_of_ble_eq_true rfl) rfl (As := [.int v2]) (rest := []) rfl rfl (Nat.le_of_ble_eq_true rfl) hm (pc := 24) dX4_sureCliques_24 (fun t3 => ?_)
        refine j_if_eq hC (pc := 27) dX4_sureCliques_27 (tgt := 33) rfl ?_ ?_
        · exact wX4_sureCliques_33 hC hR hm F κ v1 v2 (pX4_sureCliques_4 F κ fu) ih
        · refine j_iinc hC (pc := 30) dX4_sureCliques_30 1 rfl ki_1 (Nat.le_of_ble_eq_true rfl) (loc' := [(1, .int (v1 + 1)), (0, .ref (gad Γ 54)), (2, .int v2)]) rfl ?_
          refine j_sub [1, 0, 2] (loc' := [(0, .ref (gad Γ 54)), (1, .int (v1 + 1)), (2, .int v2)]) rfl ?_
          exact wX4_sureCliques_33 hC hR hm F κ (v1 + 1) v2 (pX4_sureCliques_4 F κ fu) ih
    · refine j_iload_n hC (pc := 39) dX4_sureCliques_39 1 rfl rfl ?_
      exact j_iret hC (pc := 40) dX4_sureCliques_40 rfl rfl rfl
set_option maxRecDepth 20000 in
theorem wX4_sureCliques {Γ : JCtx} (hC : jC Γ cX4_sureCliques 3 RX4 (some .int) layX 147) (hR : gR Γ = rmH 1) (hm : gcells Γ ≤ (gR Γ).cells ∧ gslots Γ ≤ (gR Γ).slots) (F : Nat) (κ : Mem) : JP Γ (qf Γ (oI κ)) (pX4_sureCliques F κ) κ 0 [(0, .ref (gad Γ 54))] [] := by
  unfold pX4_sureCliques
  refine j_iconst hC (pc := 0) dX4_sureCliques_0 ki_0 ?_
  refine j_istore_n hC (pc := 1) dX4_sureCliques_1 rfl (Nat.le_of_ble_eq_true rfl) (loc' := [(1, .int 0), (0, .ref (gad Γ 54))]) rfl ?_
  refine j_iconst hC (pc := 2) dX4_sureCliques_2 ki_1 ?_
  refine j_istore_n hC (pc := 3) dX4_sureCliques_3 rfl (Nat.le_of_ble_eq_true rfl) (loc' := [(2, .int 1), (1, .int 0), (0, .ref (gad Γ 54))]) rfl ?_
  refine j_sub [2, 1, 0] (loc' := [(0, .ref (gad Γ 54)), (1, .int 0), (2, .int 1)]) rfl ?_
  exact wX4_sureCliques_4 hC hR hm F κ F 0 1
theorem ctX4_sureCliques {Δ : DCtx} {l : Launch} (hl : dlay Δ = layX) (hN : dN Δ = 147) (F : Nat) (κ : Mem) : ∀ r, pX4_sureCliques F κ = some r → CT Δ l yX4_sureCliques cX4_sureCliques 3 (some .int) (rmH 1) [.ref (dad Δ 54)] κ (some (.int r)) κ :=
  ct_of (nL := 3) (ret := (some .int)) (lay := layX) (N := 147) (by decide +kernel) (fun Δ => [.ref (dad Δ 54)]) (fun _ => oI κ) (fun _ => (Nat.le_of_ble_eq_true rfl)) (fun Γ hR hm hC => wX4_sureCliques hC hR hm F κ) Δ l hl hN
set_option maxRecDepth 20000 in
theorem wX1_countRescued_92 {Γ : JCtx} (hC : jC Γ cX1_countRescued 6 RX1 (some .int) layX 147) (hR : gR Γ = rmH 1) (hm : gcells Γ ≤ (gR Γ).cells ∧ gslots Γ ≤ (gR Γ).slots) (F : Nat) (κ : Mem) (v1 : Int32) (v3 : Int32) (v4 : Int32) (v5 : Int32) (k32 : Mem → Int32 → Int32 → Option (Int32 × Mem)) (hk32 : ∀ (κ : Mem) (v4 : Int32) (v5 : Int32), JP Γ (qf Γ oE) (k32 κ v4 v5) κ 32 [(0, .ref (gad Γ 41)), (1, .int v1), (3, .int v3), (4, .int v4), (5, .int v5)] []) : JP Γ (qf Γ oE) (pX1_countRescued_92 F k32 κ v1 v3 v4 v5) κ 92 [(0, .ref (gad Γ 41)), (1, .int v1), (3, .int v3), (4, .int v4), (5, .int v5)] [] := by
  unfold pX1_countRescued_92
  refine j_iinc hC (pc := 92) dX1_countRescued_92 4 rfl ki_1 (Nat.le_of_ble_eq_true rfl) (loc' := [(5, .int (v5 + 1)), (0, .ref (gad Γ 41)), (1, .int v1), (3, .int v3), (4, .int v4)]) rfl ?_
  refine j_goto hC (pc := 95) dX1_countRescued_95 (tgt := 32) rfl ?_
  refine j_sub [1, 2, 3, 4, 0] (loc' := [(0, .ref (gad Γ 41)), (1, .int v1), (3, .int v3), (4, .int v4), (5, .int (v5 + 1))]) rfl ?_
  exact hk32 κ v4 (v5 + 1)
set_option maxRecDepth 20000 in
theorem wX1_countRescued_32 {Γ : JCtx} (hC : jC Γ cX1_countRescued 6 RX1 (some .int) layX 147) (hR : gR Γ = rmH 1) (hm : gcells Γ ≤ (gR Γ).cells ∧ gslots Γ ≤ (gR Γ).slots) (F : Nat) (v1 : Int32) (v3 : Int32) : ∀ (n : Nat) (κ : Mem) (v4 : Int32) (v5 : Int32), JP Γ (qf Γ oE) (pX1_countRescued_32 F v1 v3 n κ v4 v5) κ 32 [(0, .ref (gad Γ 41)), (1, .int v1), (3, .int v3), (4, .int v4), (5, .int v5)] [] := by
  intro n
  induction n with
  | zero =>
    intro κ v4 v5
    rw [pX1_countRescued_32]
    exact j_none
  | succ fu ih =>
    intro κ v4 v5
    rw [pX1_countRescued_32]
    refine j_iload hC (pc := 32) dX1_countRescued_32 4 rfl ?_
    refine j_aload_n hC (pc := 34) dX1_countRescued_34 0 rfl rfl ?_
    refine j_getI hC (pc := 35) dX1_countRescued_35 kf_RX1_9 lX_41 (Nat.le_of_ble_eq_true rfl) rfl ?_
    refine j_icmp_ge hC (pc := 38) dX1_countRescued_38 (tgt := 98) rfl ?_ ?_
    · refine j_aload_n hC (pc := 41) dX1_countRescued_41 0 rfl rfl ?_
      refine j_getR hC (pc := 42) dX1_countRescued_42 kf_RX1_24 lX_41 (Nat.le_of_ble_eq_true rfl) rfl ?_
      refine j_iload hC (pc := 45) dX1_countRescued_45 4 rfl ?_
      refine j_iald hC (pc := 47) dX1_countRescued_47 lX_50 (Nat.le_of_ble_eq_true rfl) ?_
      refine j_iload_n hC (pc := 48) dX1_countRescued_48 2 rfl rfl ?_
      refine j_iand hC (pc := 49) dX1_countRescued_49 ?_
      refine j_if_ne hC (pc := 50) dX1_countRescued_50 (tgt := 92) rfl ?_ ?_
      · refine j_aload_n hC (pc := 53) dX1_countRescued_53 0 rfl rfl ?_
        refine j_getR hC (pc := 54) dX1_countRescued_54 kf_RX1_33 lX_41 (Nat.le_of_ble_eq_true rfl) rfl ?_
        refine j_aload_n hC (pc := 57) dX1_countRescued_57 0 rfl rfl ?_
        refine j_getR hC (pc := 58) dX1_countRescued_58 kf_RX1_21 lX_41 (Nat.le_of_ble_eq_true rfl) rfl ?_
        refine j_iload_n hC (pc := 61) dX1_countRescued_61 1 rfl rfl ?_
        refine j_aald hC (pc := 62) dX1_countRescued_62 lX_43 (Nat.le_of_ble_eq_true rfl) (kRt_3 _) (fun hq3 => ?_)
        refine j_iload hC (pc := 63) dX1_countRescued_63 4 rfl ?_
        refine j_iald hC (pc := 65) dX1_countRescued_65 (lrow_43 hq3).1 (lrow_43 hq3).2 ?_
        refine j_aload_n hC (pc := 66) dX1_countRescued_66 0 rfl rfl ?_
        refine j_getR hC (pc := 67) dX1_countRescued_67 kf_RX1_36 lX_41 (Nat.le_of_ble_eq_true rfl) rfl ?_
        refine j_getR hC (pc := 70) dX1_countRescued_70 kf_RX1_45 lX_1 (Nat.le_of_ble_eq_true rfl) rfl ?_
        refine j_iload_n hC (pc := 73) dX1_countRescued_73 1 rfl rfl ?_
        refine j_iald hC (pc := 74) dX1_countRescued_74 lX_2 (Nat.le_of_ble_eq_true rfl) ?_
        refine j_imul hC (pc := 75) dX1_countRescued_75 ?_
        refine j_aload_n hC (pc := 76) dX1_countRescued_76 0 rfl rfl ?_
        refine j_iload_n hC (pc := 77) dX1_countRescued_77 1 rfl rfl ?_
        refine j_iload hC (pc := 78) dX1_countRescued_78 4 rfl ?_
        refine j_callV_I hC hR (ctX1_colourOf hC.l hC.cn κ v1 v5) kc_RX1_69 (Nat.le_of_ble_eq_true rfl) (Nat.le_of_ble_eq_true rfl) lX_41 (Nat.le_of_ble_eq_true rfl) rfl (As := [.int v1, .int v5]) (rest := [.int ((mi κ (44 + v1.toNatClampNeg * 1) v5.toNatClampNeg) * (mi κ 2 v1.toNatClampNeg)), .ref (gad Γ 53)]) rfl rfl (Nat.le_of_ble_eq_true rfl) hm (pc := 80) dX1_countRescued_80 (fun t4 => ?_)
        refine j_iadd hC (pc := 83) dX1_countRescued_83 ?_
        refine j_nmi (fun x5 => ?_)
        refine j_dup2 hC (pc := 84) dX1_countRescued_84 rfl rfl ?_
        refine j_iald hC (pc := 85) dX1_countRescued_85 lX_53 (Nat.le_of_ble_eq_true rfl) ?_
        refine j_iconst hC (pc := 86) dX1_countRescued_86 ki_1 ?_
        refine j_iadd hC (pc := 87) dX1_countRescued_87 ?_
        refine j_iast hC (pc := 88) dX1_countRescued_88 lX_53 (Nat.le_of_ble_eq_true rfl) (fun κ6 => ?_)
        refine j_iinc hC (pc := 89) dX1_countRescued_89 3 rfl ki_1 (Nat.le_of_ble_eq_true rfl) (loc' := [(4, .int (v4 + 1)), (0, .ref (gad Γ 41)), (1, .int v1), (3, .int v3), (5, .int v5)]) rfl ?_
        refine j_sub [1, 2, 3, 0, 4] (loc' := [(0, .ref (gad Γ 41)), (1, .int v1), (3, .int v3), (4, .int (v4 + 1)), (5, .int v5)]) rfl ?_
        exact wX1_countRescued_92 hC hR hm F κ6 v1 v3 (v4 + 1) v5 (pX1_countRescued_32 F v1 v3 fu) ih
      · exact wX1_countRescued_92 hC hR hm F κ v1 v3 v4 v5 (pX1_countRescued_32 F v1 v3 fu) ih
    · refine j_iload hC (pc := 98) dX1_countRescued_98 3 rfl ?_
      exact j_iret hC (pc := 100) dX1_countRescued_100 rfl rfl rfl
set_option maxRecDepth 20000 in
theorem wX1_countRescued_2 {Γ : JCtx} (hC : jC Γ cX1_countRescued 6 RX1 (some .int) layX 147) (hR : gR Γ = rmH 1) (hm : gcells Γ ≤ (gR Γ).cells ∧ gslots Γ ≤ (gR Γ).slots) (F : Nat) (v1 : Int32) (v2 : Int32) : ∀ (n : Nat) (κ : Mem) (v3 : Int32), JP Γ (qf Γ oE) (pX1_countRescued_2 F v1 v2 n κ v3) κ 2 [(0, .ref (gad Γ 41)), (1, .int v1), (2, .int v2), (3, .int v3)] [] := by
  intro n
  induction n with
  | zero =>
    intro κ v3
    rw [pX1_countRescued_2]
    exact j_none
  | succ fu ih =>
    intro κ v3
    rw [pX1_countRescued_2]
    refine j_iload_n hC (pc := 2) dX1_countRescued_2 3 rfl rfl ?_
    refine j_iload_n hC (pc := 3) dX1_countRescued_3 2 rfl rfl ?_
    refine j_icmp_ge hC (pc := 4) dX1_countRescued_4 (tgt := 20) rfl ?_ ?_
    · refine j_aload_n hC (pc := 7) dX1_countRescued_7 0 rfl rfl ?_
      refine j_getR hC (pc := 8) dX1_countRescued_8 kf_RX1_33 lX_41 (Nat.le_of_ble_eq_true rfl) rfl ?_
      refine j_iload_n hC (pc := 11) dX1_countRescued_11 3 rfl rfl ?_
      refine j_iconst hC (pc := 12) dX1_countRescued_12 ki_0 ?_
      refine j_iast hC (pc := 13) dX1_countRescued_13 lX_53 (Nat.le_of_ble_eq_true rfl) (fun κ1 => ?_)
      refine j_iinc hC (pc := 14) dX1_countRescued_14 3 rfl ki_1 (Nat.le_of_ble_eq_true rfl) (loc' := [(3, .int (v3 + 1)), (0, .ref (gad Γ 41)), (1, .int v1), (2, .int v2)]) rfl ?_
      refine j_goto hC (pc := 17) dX1_countRescued_17 (tgt := 2) rfl ?_
      refine j_sub [1, 2, 3, 0] (loc' := [(0, .ref (gad Γ 41)), (1, .int v1), (2, .int v2), (3, .int (v3 + 1))]) rfl ?_
      exact ih κ1 (v3 + 1)
    · refine j_iconst hC (pc := 20) dX1_countRescued_20 ki_1 ?_
      refine j_iload_n hC (pc := 21) dX1_countRescued_21 1 rfl rfl ?_
      refine j_ishl hC (pc := 22) dX1_countRescued_22 ?_
      refine j_iconst hC (pc := 23) dX1_countRescued_23 ki_m1 ?_
      refine j_ixor hC (pc := 24) dX1_countRescued_24 ?_
      refine j_nmi (fun x2 => ?_)
      refine j_istore_n hC (pc := 25) dX1_countRescued_25 rfl (Nat.le_of_ble_eq_true rfl) (loc' := [(3, .int x2), (0, .ref (gad Γ 41)), (1, .int v1), (2, .int v2)]) rfl ?_
      refine j_iconst hC (pc := 26) dX1_countRescued_26 ki_0 ?_
      refine j_istore hC (pc := 27) dX1_countRescued_27 (Nat.le_of_ble_eq_true rfl) (loc' := [(4, .int 0), (3, .int x2), (0, .ref (gad Γ 41)), (1, .int v1), (2, .int v2)]) rfl ?_
      refine j_iconst hC (pc := 29) dX1_countRescued_29 ki_0 ?_
      refine j_istore hC (pc := 30) dX1_countRescued_30 (Nat.le_of_ble_eq_true rfl) (loc' := [(5, .int 0), (4, .int 0), (3, .int x2), (0, .ref (gad Γ 41)), (1, .int v1), (2, .int v2)]) rfl ?_
      refine j_sub [3, 4, 2, 1, 0] (loc' := [(0, .ref (gad Γ 41)), (1, .int v1), (3, .int x2), (4, .int 0), (5, .int 0)]) rfl ?_
      exact wX1_countRescued_32 hC hR hm F v1 x2 F κ 0 0
set_option maxRecDepth 20000 in
theorem wX1_countRescued {Γ : JCtx} (hC : jC Γ cX1_countRescued 6 RX1 (some .int) layX 147) (hR : gR Γ = rmH 1) (hm : gcells Γ ≤ (gR Γ).cells ∧ gslots Γ ≤ (gR Γ).slots) (F : Nat) (κ : Mem) (v1 : Int32) (v2 : Int32) : JP Γ (qf Γ oE) (pX1_countRescued F κ v1 v2) κ 0 [(0, .ref (gad Γ 41)), (1, .int v1), (2, .int v2)] [] := by
  unfold pX1_countRescued
  refine j_iconst hC (pc := 0) dX1_countRescued_0 ki_0 ?_
  refine j_istore_n hC (pc := 1) dX1_countRescued_1 rfl (Nat.le_of_ble_eq_true rfl) (loc' := [(3, .int 0), (0, .ref (gad Γ 41)), (1, .int v1), (2, .int v2)]) rfl ?_
  refine j_sub [1, 2, 3, 0] (loc' := [(0, .ref (gad Γ 41)), (1, .int v1), (2, .int v2), (3, .int 0)]) rfl ?_
  exact wX1_countRescued_2 hC hR hm F v1 v2 F κ 0
theorem ctX1_countRescued {Δ : DCtx} {l : Launch} (hl : dlay Δ = layX) (hN : dN Δ = 147) (F : Nat) (κ : Mem) (v1 : Int32) (v2 : Int32) : ∀ r, pX1_countRescued F κ v1 v2 = some r → CT Δ l yX1_countRescued cX1_countRescued 6 (some .int) (rmH 1) [.ref (dad Δ 41), .int v1, .int v2] κ (some (.int r.1)) r.2 :=
  ct_of (nL := 6) (ret := (some .int)) (lay := layX) (N := 147) (by decide +kernel) (fun Δ => [.ref (dad Δ 41), .int v1, .int v2]) (fun _ => oE) (fun _ => (Nat.le_of_ble_eq_true rfl)) (fun Γ hR hm hC => wX1_countRescued hC hR hm F κ v1 v2) Δ l hl hN
set_option maxRecDepth 20000 in
theorem wX1_weighBest_81 {Γ : JCtx} (hC : jC Γ cX1_weighBest 8 RX1 (some .int) layX 147) (hR : gR Γ = rmH 2) (hm : gcells Γ ≤ (gR Γ).cells ∧ gslots Γ ≤ (gR Γ).slots) (F : Nat) (κ : Mem) (v2 : Int32) (v3 : Int32) (v4 : Int32) (v5 : Int32) (v6 : Int32) (v7 : Int32) (k44 : Int32 → Int32 → Option (Int32 × Mem)) (hk44 : ∀ (v6 : Int32) (v7 : Int32), JP Γ (qf Γ oE) (k44 v6 v7) κ 44 [(0, .ref (gad Γ 41)), (2, .int v2), (3, .int v3), (4, .int v4), (5, .int v5), (6, .int v6), (7, .int v7)] []) : JP Γ (qf Γ oE) (pX1_weighBest_81 F k44 κ v2 v3 v4 v5 v6 v7) κ 81 [(0, .ref (gad Γ 41)), (2, .int v2), (3, .int v3), (4, .int v4), (5, .int v5), (6, .int v6), (7, .int v7)] [] := by
  unfold pX1_weighBest_81
  refine j_iinc hC (pc := 81) dX1_weighBest_81 6 rfl ki_1 (Nat.le_of_ble_eq_true rfl) (loc' := [(7, .int (v7 + 1)), (0, .ref (gad Γ 41)), (2, .int v2), (3, .int v3), (4, .int v4), (5, .int v5), (6, .int v6)]) rfl ?_
  refine j_goto hC (pc := 84) dX1_weighBest_84 (tgt := 44) rfl ?_
  refine j_sub [1, 2, 3, 4, 5, 6, 0] (loc' := [(0, .ref (gad Γ 41)), (2, .int v2), (3, .int v3), (4, .int v4), (5, .int v5), (6, .int v6), (7, .int (v7 + 1))]) rfl ?_
  exact hk44 v6 (v7 + 1)
set_option maxRecDepth 20000 in
theorem wX1_weighBest_44 {Γ : JCtx} (hC : jC Γ cX1_weighBest 8 RX1 (some .int) layX 147) (hR : gR Γ = rmH 2) (hm : gcells Γ ≤ (gR Γ).cells ∧ gslots Γ ≤ (gR Γ).slots) (F : Nat) (κ : Mem) (v2 : Int32) (v3 : Int32) (v4 : Int32) (v5 : Int32) (k32 : Mem → Int32 → Int32 → Option (Int32 × Mem)) (hk32 : ∀ (κ : Mem) (v4 : Int32) (v5 : Int32), JP Γ (qf Γ oE) (k32 κ v4 v5) κ 32 [(0, .ref (gad Γ 41)), (2, .int v2), (3, .int v3), (4, .int v4), (5, .int v5)] []) : ∀ (n : Nat) (v6 : Int32) (v7 : Int32), JP Γ (qf Γ oE) (pX1_weighBest_44 F k32 κ v2 v3 v4 v5 n v6 v7) κ 44 [(0, .ref (gad Γ 41)), (2, .int v2), (3, .int v3), (4, .int v4), (5, .int v5), (6, .int v6), (7, .int v7)] [] := by
  intro n
  induction n with
  | zero =>
    intro v6 v7
    rw [pX1_weighBest_44]
    exact j_none
  | succ fu ih =>
    intro v6 v7
    rw [pX1_weighBest_44]
    refine j_iload hC (pc := 44) dX1_weighBest_44 6 rfl ?_
    refine j_iload_n hC (pc := 46) dX1_weighBest_46 1 rfl rfl ?_
    refine j_icmp_ge hC (pc := 47) dX1_weighBest_47 (tgt := 87) rfl ?_ ?_
    · refine j_aload_n hC (pc := 50) dX1_weighBest_50 0 rfl rfl ?_
      refine j_getR hC (pc := 51) dX1_weighBest_51 kf_RX1_33 lX_41 (Nat.le_of_ble_eq_true rfl) rfl ?_
      refine j_iload hC (pc := 54) dX1_weighBest_54 4 rfl ?_
      refine j_iload_n hC (pc := 56) dX1_weighBest_56 1 rfl rfl ?_
      refine j_imul hC (pc := 57) dX1_weighBest_57 ?_
      refine j_iload hC (pc := 58) dX1_weighBest_58 6 rfl ?_
      refine j_iadd hC (pc := 60) dX1_weighBest_60 ?_
      refine j_iald hC (pc := 61) dX1_weighBest_61 lX_53 (Nat.le_of_ble_eq_true rfl) ?_
      refine j_aload_n hC (pc := 62) dX1_weighBest_62 0 rfl rfl ?_
      refine j_getR hC (pc := 63) dX1_weighBest_63 kf_RX1_33 lX_41 (Nat.le_of_ble_eq_true rfl) rfl ?_
      refine j_iload hC (pc := 66) dX1_weighBest_66 4 rfl ?_
      refine j_iload_n hC (pc := 68) dX1_weighBest_68 1 rfl rfl ?_
      refine j_imul hC (pc := 69) dX1_weighBest_69 ?_
      refine j_iload hC (pc := 70) dX1_weighBest_70 5 rfl ?_
      refine j_iadd hC (pc := 72) dX1_weighBest_72 ?_
      refine j_iald hC (pc := 73) dX1_weighBest_73 lX_53 (Nat.le_of_ble_eq_true rfl) ?_
      refine j_icmp_le hC (pc := 74) dX1_weighBest_74 (tgt := 81) rfl ?_ ?_
      · exact wX1_weighBest_81 hC hR hm F κ v2 v3 v4 v5 v6 v7 (pX1_weighBest_44 F k32 κ v2 v3 v4 v5 fu) ih
      · refine j_iload hC (pc := 77) dX1_weighBest_77 6 rfl ?_
        refine j_istore hC (pc := 79) dX1_weighBest_79 (Nat.le_of_ble_eq_true rfl) (loc' := [(6, .int v7), (0, .ref (gad Γ 41)), (2, .int v2), (3, .int v3), (4, .int v4), (5, .int v5), (7, .int v7)]) rfl ?_
        refine j_sub [1, 2, 3, 4, 5, 0, 6] (loc' := [(0, .ref (gad Γ 41)), (2, .int v2), (3, .int v3), (4, .int v4), (5, .int v5), (6, .int v7), (7, .int v7)]) rfl ?_
        exact wX1_weighBest_81 hC hR hm F κ v2 v3 v4 v5 v7 v7 (pX1_weighBest_44 F k32 κ v2 v3 v4 v5 fu) ih
    · refine j_aload_n hC (pc := 87) dX1_weighBest_87 0 rfl rfl ?_
      refine j_getR hC (pc := 88) dX1_weighBest_88 kf_RX1_30 lX_41 (Nat.le_of_ble_eq_true rfl) rfl ?_
      refine j_iload hC (pc := 91) dX1_weighBest_91 4 rfl ?_
      refine j_iload hC (pc := 93) dX1_weighBest_93 5 rfl ?_
      refine j_iast hC (pc := 95) dX1_weighBest_95 lX_52 (Nat.le_of_ble_eq_true rfl) (fun κ4 => ?_)
      refine j_iload hC (pc := 96) dX1_weighBest_96 3 rfl ?_
      refine j_aload_n hC (pc := 98) dX1_weighBest_98 0 rfl rfl ?_
      refine j_getR hC (pc := 99) dX1_weighBest_99 kf_RX1_33 lX_41 (Nat.le_of_ble_eq_true rfl) rfl ?_
      refine j_iload hC (pc := 102) dX1_weighBest_102 4 rfl ?_
      refine j_iload_n hC (pc := 104) dX1_weighBest_104 1 rfl rfl ?_
      refine j_imul hC (pc := 105) dX1_weighBest_105 ?_
      refine j_iload hC (pc := 106) dX1_weighBest_106 5 rfl ?_
      refine j_iadd hC (pc := 108) dX1_weighBest_108 ?_
      refine j_iald hC (pc := 109) dX1_weighBest_109 lX_53 (Nat.le_of_ble_eq_true rfl) ?_
      refine j_isub hC (pc := 110) dX1_weighBest_110 ?_
      refine j_nmi (fun x5 => ?_)
      refine j_istore hC (pc := 111) dX1_weighBest_111 (Nat.le_of_ble_eq_true rfl) (loc' := [(4, .int x5), (0, .ref (gad Γ 41)), (2, .int v2), (3, .int v3), (5, .int v5), (6, .int v6), (7, .int v7)]) rfl ?_
      refine j_iinc hC (pc := 113) dX1_weighBest_113 4 rfl ki_1 (Nat.le_of_ble_eq_true rfl) (loc' := [(5, .int (v5 + 1)), (4, .int x5), (0, .ref (gad Γ 41)), (2, .int v2), (3, .int v3), (6, .int v6), (7, .int v7)]) rfl ?_
      refine j_goto hC (pc := 116) dX1_weighBest_116 (tgt := 32) rfl ?_
      refine j_sub [2, 3, 4, 1, 0] (loc' := [(0, .ref (gad Γ 41)), (2, .int v2), (3, .int v3), (4, .int x5), (5, .int (v5 + 1))]) rfl ?_
      exact hk32 κ4 x5 (v5 + 1)
set_option maxRecDepth 20000 in
theorem wX1_weighBest_32 {Γ : JCtx} (hC : jC Γ cX1_weighBest 8 RX1 (some .int) layX 147) (hR : gR Γ = rmH 2) (hm : gcells Γ ≤ (gR Γ).cells ∧ gslots Γ ≤ (gR Γ).slots) (F : Nat) (v2 : Int32) (v3 : Int32) : ∀ (n : Nat) (κ : Mem) (v4 : Int32) (v5 : Int32), JP Γ (qf Γ oE) (pX1_weighBest_32 F v2 v3 n κ v4 v5) κ 32 [(0, .ref (gad Γ 41)), (2, .int v2), (3, .int v3), (4, .int v4), (5, .int v5)] [] := by
  intro n
  induction n with
  | zero =>
    intro κ v4 v5
    rw [pX1_weighBest_32]
    exact j_none
  | succ fu ih =>
    intro κ v4 v5
    rw [pX1_weighBest_32]
    refine j_iload hC (pc := 32) dX1_weighBest_32 4 rfl ?_
    refine j_iload_n hC (pc := 34) dX1_weighBest_34 2 rfl rfl ?_
    refine j_icmp_ge hC (pc := 35) dX1_weighBest_35 (tgt := 119) rfl ?_ ?_
    · refine j_iconst hC (pc := 38) dX1_weighBest_38 ki_0 ?_
      refine j_istore hC (pc := 39) dX1_weighBest_39 (Nat.le_of_ble_eq_true rfl) (loc' := [(6, .int 0), (0, .ref (gad Γ 41)), (2, .int v2), (3, .int v3), (4, .int v4), (5, .int v5)]) rfl ?_
      refine j_iconst hC (pc := 41) dX1_weighBest_41 ki_1 ?_
      refine j_istore hC (pc := 42) dX1_weighBest_42 (Nat.le_of_ble_eq_true rfl) (loc' := [(7, .int 1), (6, .int 0), (0, .ref (gad Γ 41)), (2, .int v2), (3, .int v3), (4, .int v4), (5, .int v5)]) rfl ?_
      refine j_sub [2, 3, 4, 5, 6, 1, 0] (loc' := [(0, .ref (gad Γ 41)), (2, .int v2), (3, .int v3), (4, .int v4), (5, .int v5), (6, .int 0), (7, .int 1)]) rfl ?_
      exact wX1_weighBest_44 hC hR hm F κ v2 v3 v4 v5 (pX1_weighBest_32 F v2 v3 fu) ih F 0 1
    · refine j_iload hC (pc := 119) dX1_weighBest_119 3 rfl ?_
      exact j_iret hC (pc := 121) dX1_weighBest_121 rfl rfl rfl
set_option maxRecDepth 20000 in
theorem wX1_weighBest {Γ : JCtx} (hC : jC Γ cX1_weighBest 8 RX1 (some .int) layX 147) (hR : gR Γ = rmH 2) (hm : gcells Γ ≤ (gR Γ).cells ∧ gslots Γ ≤ (gR Γ).slots) (F : Nat) (κ : Mem) (v1 : Int32) : JP Γ (qf Γ oE) (pX1_weighBest F κ v1) κ 0 [(0, .ref (gad Γ 41)), (1, .int v1)] [] := by
  unfold pX1_weighBest
  refine j_aload_n hC (pc := 0) dX1_weighBest_0 0 rfl rfl ?_
  refine j_getR hC (pc := 1) dX1_weighBest_1 kf_RX1_36 lX_41 (Nat.le_of_ble_eq_true rfl) rfl ?_
  refine j_getR hC (pc := 4) dX1_weighBest_4 kf_RX1_45 lX_1 (Nat.le_of_ble_eq_true rfl) rfl ?_
  refine j_iload_n hC (pc := 7) dX1_weighBest_7 1 rfl rfl ?_
  refine j_iald hC (pc := 8) dX1_weighBest_8 lX_2 (Nat.le_of_ble_eq_true rfl) ?_
  refine j_nmi (fun x1 => ?_)
  refine j_istore_n hC (pc := 9) dX1_weighBest_9 rfl (Nat.le_of_ble_eq_true rfl) (loc' := [(2, .int x1), (0, .ref (gad Γ 41)), (1, .int v1)]) rfl ?_
  refine j_aload_n hC (pc := 10) dX1_weighBest_10 1 rfl rfl ?_
  refine j_getR hC (pc := 11) dX1_weighBest_11 kf_RX1_36 lX_41 (Nat.le_of_ble_eq_true rfl) rfl ?_
  refine j_iload_n hC (pc := 14) dX1_weighBest_14 2 rfl rfl ?_
  refine j_callV_I hC hR (ctX2_situations hC.l hC.cn 1 isG_1 F κ v1) kc_RX1_72 (Nat.le_of_ble_eq_true rfl) (Nat.le_of_ble_eq_true rfl) lX_1 (Nat.le_of_ble_eq_true rfl) rfl (As := [.int v1]) (rest := []) rfl rfl (Nat.le_of_ble_eq_true rfl) hm (pc := 15) dX1_weighBest_15 (fun t2 => ?_)
  refine j_istore_n hC (pc := 18) dX1_weighBest_18 rfl (Nat.le_of_ble_eq_true rfl) (loc' := [(3, .int t2), (2, .int x1), (0, .ref (gad Γ 41)), (1, .int v1)]) rfl ?_
  refine j_aload_n hC (pc := 19) dX1_weighBest_19 2 rfl rfl ?_
  refine j_iload_n hC (pc := 20) dX1_weighBest_20 3 rfl rfl ?_
  refine j_iload_n hC (pc := 21) dX1_weighBest_21 0 rfl rfl ?_
  refine j_iload_n hC (pc := 22) dX1_weighBest_22 1 rfl rfl ?_
  refine j_imul hC (pc := 23) dX1_weighBest_23 ?_
  refine j_callV_E hC hR (ctX1_countRescued hC.l hC.cn F κ v1 (t2 * x1)) kc_RX1_100 (Nat.le_of_ble_eq_true rfl) (Nat.le_of_ble_eq_true rfl) lX_41 (Nat.le_of_ble_eq_true rfl) rfl (As := [.int v1, .int (t2 * x1)]) (rest := []) rfl rfl (Nat.le_of_ble_eq_true rfl) hm (pc := 24) dX1_weighBest_24 (fun t3 => ?_)
  refine j_istore hC (pc := 27) dX1_weighBest_27 (Nat.le_of_ble_eq_true rfl) (loc' := [(4, .int (t3.1)), (3, .int t2), (2, .int x1), (0, .ref (gad Γ 41)), (1, .int v1)]) rfl ?_
  refine j_iconst hC (pc := 29) dX1_weighBest_29 ki_0 ?_
  refine j_istore hC (pc := 30) dX1_weighBest_30 (Nat.le_of_ble_eq_true rfl) (loc' := [(5, .int 0), (4, .int (t3.1)), (3, .int t2), (2, .int x1), (0, .ref (gad Γ 41)), (1, .int v1)]) rfl ?_
  refine j_sub [4, 3, 2, 1, 0] (loc' := [(0, .ref (gad Γ 41)), (2, .int x1), (3, .int t2), (4, .int (t3.1)), (5, .int 0)]) rfl ?_
  exact wX1_weighBest_32 hC hR hm F x1 t2 F t3.2 t3.1 0
theorem ctX1_weighBest {Δ : DCtx} {l : Launch} (hl : dlay Δ = layX) (hN : dN Δ = 147) (F : Nat) (κ : Mem) (v1 : Int32) : ∀ r, pX1_weighBest F κ v1 = some r → CT Δ l yX1_weighBest cX1_weighBest 8 (some .int) (rmH 2) [.ref (dad Δ 41), .int v1] κ (some (.int r.1)) r.2 :=
  ct_of (nL := 8) (ret := (some .int)) (lay := layX) (N := 147) (by decide +kernel) (fun Δ => [.ref (dad Δ 41), .int v1]) (fun _ => oE) (fun _ => (Nat.le_of_ble_eq_true rfl)) (fun Γ hR hm hC => wX1_weighBest hC hR hm F κ v1) Δ l hl hN
set_option maxRecDepth 20000 in
theorem wX9_someHasOneColour_2 {Γ : JCtx} (hC : jC Γ cX9_someHasOneColour 2 RX9 (some .boolean) layX 147) (hR : gR Γ = rmH 0) (hm : gcells Γ ≤ (gR Γ).cells ∧ gslots Γ ≤ (gR Γ).slots) (F : Nat) (κ : Mem) : ∀ (n : Nat) (v1 : Int32), JP Γ (qf Γ (oI κ)) (pX9_someHasOneColour_2 F κ n v1) κ 2 [(0, .ref (gad Γ 59)), (1, .int v1)] [] := by
  intro n
  induction n with
  | zero =>
    intro v1
    rw [pX9_someHasOneColour_2]
    exact j_none
  | succ fu ih =>
    intro v1
    rw [pX9_someHasOneColour_2]
    refine j_iload_n hC (pc := 2) dX9_someHasOneColour_2 1 rfl rfl ?_
    refine j_aload_n hC (pc := 3) dX9_someHasOneColour_3 0 rfl rfl ?_
    refine j_getR hC (pc := 4) dX9_someHasOneColour_4 kf_RX9_36 lX_59 (Nat.le_of_ble_eq_true rfl) rfl ?_
    refine j_getI hC (pc := 7) dX9_someHasOneColour_7 kf_RX9_76 lX_1 (Nat.le_of_ble_eq_true rfl) rfl ?_
    refine j_icmp_ge hC (pc := 10) dX9_someHasOneColour_10 (tgt := 34) rfl ?_ ?_
    · refine j_aload_n hC (pc := 13) dX9_someHasOneColour_13 0 rfl rfl ?_
      refine j_getR hC (pc := 14) dX9_someHasOneColour_14 kf_RX9_36 lX_59 (Nat.le_of_ble_eq_true rfl) rfl ?_
      refine j_getR hC (pc := 17) dX9_someHasOneColour_17 kf_RX9_79 lX_1 (Nat.le_of_ble_eq_true rfl) rfl ?_
      refine j_iload_n hC (pc := 20) dX9_someHasOneColour_20 1 rfl rfl ?_
      refine j_iald hC (pc := 21) dX9_someHasOneColour_21 lX_2 (Nat.le_of_ble_eq_true rfl) ?_
      refine j_iconst hC (pc := 22) dX9_someHasOneColour_22 ki_1 ?_
      refine j_icmp_ne hC (pc := 23) dX9_someHasOneColour_23 (tgt := 28) rfl ?_ ?_
      · refine j_iconst hC (pc := 26) dX9_someHasOneColour_26 ki_1 ?_
        exact j_iret hC (pc := 27) dX9_someHasOneColour_27 rfl rfl rfl
      · refine j_iinc hC (pc := 28) dX9_someHasOneColour_28 1 rfl ki_1 (Nat.le_of_ble_eq_true rfl) (loc' := [(1, .int (v1 + 1)), (0, .ref (gad Γ 59))]) rfl ?_
        refine j_goto hC (pc := 31) dX9_someHasOneColour_31 (tgt := 2) rfl ?_
        refine j_sub [1, 0] (loc' := [(0, .ref (gad Γ 59)), (1, .int (v1 + 1))]) rfl ?_
        exact ih (v1 + 1)
    · refine j_iconst hC (pc := 34) dX9_someHasOneColour_34 ki_0 ?_
      exact j_iret hC (pc := 35) dX9_someHasOneColour_35 rfl rfl rfl
set_option maxRecDepth 20000 in
theorem wX9_someHasOneColour {Γ : JCtx} (hC : jC Γ cX9_someHasOneColour 2 RX9 (some .boolean) layX 147) (hR : gR Γ = rmH 0) (hm : gcells Γ ≤ (gR Γ).cells ∧ gslots Γ ≤ (gR Γ).slots) (F : Nat) (κ : Mem) : JP Γ (qf Γ (oI κ)) (pX9_someHasOneColour F κ) κ 0 [(0, .ref (gad Γ 59))] [] := by
  unfold pX9_someHasOneColour
  refine j_iconst hC (pc := 0) dX9_someHasOneColour_0 ki_0 ?_
  refine j_istore_n hC (pc := 1) dX9_someHasOneColour_1 rfl (Nat.le_of_ble_eq_true rfl) (loc' := [(1, .int 0), (0, .ref (gad Γ 59))]) rfl ?_
  refine j_sub [1, 0] (loc' := [(0, .ref (gad Γ 59)), (1, .int 0)]) rfl ?_
  exact wX9_someHasOneColour_2 hC hR hm F κ F 0
theorem ctX9_someHasOneColour {Δ : DCtx} {l : Launch} (hl : dlay Δ = layX) (hN : dN Δ = 147) (F : Nat) (κ : Mem) : ∀ r, pX9_someHasOneColour F κ = some r → CT Δ l yX9_someHasOneColour cX9_someHasOneColour 2 (some .boolean) (rmH 0) [.ref (dad Δ 59)] κ (some (.int r)) κ :=
  ct_of (nL := 2) (ret := (some .boolean)) (lay := layX) (N := 147) (by decide +kernel) (fun Δ => [.ref (dad Δ 59)]) (fun _ => oI κ) (fun _ => (Nat.le_of_ble_eq_true rfl)) (fun Γ hR hm hC => wX9_someHasOneColour hC hR hm F κ) Δ l hl hN
set_option maxRecDepth 20000 in
theorem wX9_layOutPlayer_80 {Γ : JCtx} (hC : jC Γ cX9_layOutPlayer 7 RX9 none layX 147) (hR : gR Γ = rmH 2) (hm : gcells Γ ≤ (gR Γ).cells ∧ gslots Γ ≤ (gR Γ).slots) (F : Nat) (v1 : Int32) (v2 : Int32) (v3 : Int32) (v4 : Int32) (v5 : Int32) (k63 : Mem → Int32 → Option Mem) (hk63 : ∀ (κ : Mem) (v5 : Int32), JP Γ (qf Γ oV) (k63 κ v5) κ 63 [(0, .ref (gad Γ 59)), (1, .int v1), (2, .int v2), (3, .int v3), (4, .int v4), (5, .int v5)] []) : ∀ (n : Nat) (κ : Mem) (v6 : Int32), JP Γ (qf Γ oV) (pX9_layOutPlayer_80 F k63 v1 v2 v3 v4 v5 n κ v6) κ 80 [(0, .ref (gad Γ 59)), (1, .int v1), (2, .int v2), (3, .int v3), (4, .int v4), (5, .int v5), (6, .int v6)] [] := by
  intro n
  induction n with
  | zero =>
    intro κ v6
    rw [pX9_layOutPlayer_80]
    exact j_none
  | succ fu ih =>
    intro κ v6
    rw [pX9_layOutPlayer_80]
    refine j_iload hC (pc := 80) dX9_layOutPlayer_80 6 rfl ?_
    refine j_aload_n hC (pc := 82) dX9_layOutPlayer_82 0 rfl rfl ?_
    refine j_getI hC (pc := 83) dX9_layOutPlayer_83 kf_RX9_85 lX_59 (Nat.le_of_ble_eq_true rfl) rfl ?_
    refine j_icmp_ge hC (pc := 86) dX9_layOutPlayer_86 (tgt := 113) rfl ?_ ?_
    · refine j_aload_n hC (pc := 89) dX9_layOutPlayer_89 0 rfl rfl ?_
      refine j_getR hC (pc := 90) dX9_layOutPlayer_90 kf_RX9_13 lX_59 (Nat.le_of_ble_eq_true rfl) rfl ?_
      refine j_aload_n hC (pc := 93) dX9_layOutPlayer_93 0 rfl rfl ?_
      refine j_getI hC (pc := 94) dX9_layOutPlayer_94 kf_RX9_57 lX_59 (Nat.le_of_ble_eq_true rfl) rfl ?_
      refine j_iconst hC (pc := 97) dX9_layOutPlayer_97 ki_4 ?_
      refine j_imul hC (pc := 98) dX9_layOutPlayer_98 ?_
      refine j_iload hC (pc := 99) dX9_layOutPlayer_99 5 rfl ?_
      refine j_iadd hC (pc := 101) dX9_layOutPlayer_101 ?_
      refine j_aald hC (pc := 102) dX9_layOutPlayer_102 lX_60 (Nat.le_of_ble_eq_true rfl) (kRt_4 _) (fun hq5 => ?_)
      refine j_iload hC (pc := 103) dX9_layOutPlayer_103 6 rfl ?_
      refine j_lconst hC (pc := 105) dX9_layOutPlayer_105 rfl ?_
      refine j_last hC (pc := 106) dX9_layOutPlayer_106 (lrow_60 hq5).1 (lrow_60 hq5).2 (fun κ6 => ?_)
      refine j_iinc hC (pc := 107) dX9_layOutPlayer_107 6 rfl ki_1 (Nat.le_of_ble_eq_true rfl) (loc' := [(6, .int (v6 + 1)), (0, .ref (gad Γ 59)), (1, .int v1), (2, .int v2), (3, .int v3), (4, .int v4), (5, .int v5)]) rfl ?_
      refine j_goto hC (pc := 110) dX9_layOutPlayer_110 (tgt := 80) rfl ?_
      refine j_sub [1, 2, 3, 4, 5, 6, 0] (loc' := [(0, .ref (gad Γ 59)), (1, .int v1), (2, .int v2), (3, .int v3), (4, .int v4), (5, .int v5), (6, .int (v6 + 1))]) rfl ?_
      exact ih κ6 (v6 + 1)
    · refine j_iinc hC (pc := 113) dX9_layOutPlayer_113 5 rfl ki_1 (Nat.le_of_ble_eq_true rfl) (loc' := [(5, .int (v5 + 1)), (0, .ref (gad Γ 59)), (1, .int v1), (2, .int v2), (3, .int v3), (4, .int v4), (6, .int v6)]) rfl ?_
      refine j_goto hC (pc := 116) dX9_layOutPlayer_116 (tgt := 63) rfl ?_
      refine j_sub [1, 2, 3, 4, 5, 0] (loc' := [(0, .ref (gad Γ 59)), (1, .int v1), (2, .int v2), (3, .int v3), (4, .int v4), (5, .int (v5 + 1))]) rfl ?_
      exact hk63 κ (v5 + 1)
set_option maxRecDepth 20000 in
theorem wX9_layOutPlayer_63 {Γ : JCtx} (hC : jC Γ cX9_layOutPlayer 7 RX9 none layX 147) (hR : gR Γ = rmH 2) (hm : gcells Γ ≤ (gR Γ).cells ∧ gslots Γ ≤ (gR Γ).slots) (F : Nat) (v1 : Int32) (v2 : Int32) (v3 : Int32) (v4 : Int32) (k17 : Mem → Int32 → Option Mem) (hk17 : ∀ (κ : Mem) (v4 : Int32), JP Γ (qf Γ oV) (k17 κ v4) κ 17 [(0, .ref (gad Γ 59)), (1, .int v1), (2, .int v2), (3, .int v3), (4, .int v4)] []) : ∀ (n : Nat) (κ : Mem) (v5 : Int32), JP Γ (qf Γ oV) (pX9_layOutPlayer_63 F k17 v1 v2 v3 v4 n κ v5) κ 63 [(0, .ref (gad Γ 59)), (1, .int v1), (2, .int v2), (3, .int v3), (4, .int v4), (5, .int v5)] [] := by
  intro n
  induction n with
  | zero =>
    intro κ v5
    rw [pX9_layOutPlayer_63]
    exact j_none
  | succ fu ih =>
    intro κ v5
    rw [pX9_layOutPlayer_63]
    refine j_iload hC (pc := 63) dX9_layOutPlayer_63 5 rfl ?_
    refine j_aload_n hC (pc := 65) dX9_layOutPlayer_65 0 rfl rfl ?_
    refine j_getR hC (pc := 66) dX9_layOutPlayer_66 kf_RX9_36 lX_59 (Nat.le_of_ble_eq_true rfl) rfl ?_
    refine j_getR hC (pc := 69) dX9_layOutPlayer_69 kf_RX9_79 lX_1 (Nat.le_of_ble_eq_true rfl) rfl ?_
    refine j_iload_n hC (pc := 72) dX9_layOutPlayer_72 1 rfl rfl ?_
    refine j_iald hC (pc := 73) dX9_layOutPlayer_73 lX_2 (Nat.le_of_ble_eq_true rfl) ?_
    refine j_icmp_ge hC (pc := 74) dX9_layOutPlayer_74 (tgt := 119) rfl ?_ ?_
    · refine j_iconst hC (pc := 77) dX9_layOutPlayer_77 ki_0 ?_
      refine j_istore hC (pc := 78) dX9_layOutPlayer_78 (Nat.le_of_ble_eq_true rfl) (loc' := [(6, .int 0), (0, .ref (gad Γ 59)), (1, .int v1), (2, .int v2), (3, .int v3), (4, .int v4), (5, .int v5)]) rfl ?_
      refine j_sub [1, 2, 3, 4, 5, 6, 0] (loc' := [(0, .ref (gad Γ 59)), (1, .int v1), (2, .int v2), (3, .int v3), (4, .int v4), (5, .int v5), (6, .int 0)]) rfl ?_
      exact wX9_layOutPlayer_80 hC hR hm F v1 v2 v3 v4 v5 (pX9_layOutPlayer_63 F k17 v1 v2 v3 v4 fu) ih F κ 0
    · refine j_aload_n hC (pc := 119) dX9_layOutPlayer_119 0 rfl rfl ?_
      refine j_dup hC (pc := 120) dX9_layOutPlayer_120 rfl ?_
      refine j_getI hC (pc := 121) dX9_layOutPlayer_121 kf_RX9_57 lX_59 (Nat.le_of_ble_eq_true rfl) rfl ?_
      refine j_iconst hC (pc := 124) dX9_layOutPlayer_124 ki_1 ?_
      refine j_iadd hC (pc := 125) dX9_layOutPlayer_125 ?_
      refine j_putI hC (pc := 126) dX9_layOutPlayer_126 kp_RX9_57 lX_59 (Nat.le_of_ble_eq_true rfl) rfl rfl rfl (fun κ7 => ?_)
      refine j_iinc hC (pc := 129) dX9_layOutPlayer_129 4 rfl ki_1 (Nat.le_of_ble_eq_true rfl) (loc' := [(4, .int (v4 + 1)), (0, .ref (gad Γ 59)), (1, .int v1), (2, .int v2), (3, .int v3), (5, .int v5)]) rfl ?_
      refine j_goto hC (pc := 132) dX9_layOutPlayer_132 (tgt := 17) rfl ?_
      refine j_sub [1, 2, 3, 4, 0] (loc' := [(0, .ref (gad Γ 59)), (1, .int v1), (2, .int v2), (3, .int v3), (4, .int (v4 + 1))]) rfl ?_
      exact hk17 κ7 (v4 + 1)
set_option maxRecDepth 20000 in
theorem wX9_layOutPlayer_211 {Γ : JCtx} (hC : jC Γ cX9_layOutPlayer 7 RX9 none layX 147) (hR : gR Γ = rmH 2) (hm : gcells Γ ≤ (gR Γ).cells ∧ gslots Γ ≤ (gR Γ).slots) (F : Nat) (κ : Mem) (v1 : Int32) (v2 : Int32) (v4 : Int32) (k138 : Mem → Int32 → Option Mem) (hk138 : ∀ (κ : Mem) (v4 : Int32), JP Γ (qf Γ oV) (k138 κ v4) κ 138 [(0, .ref (gad Γ 59)), (1, .int v1), (2, .int v2), (4, .int v4)] []) : JP Γ (qf Γ oV) (pX9_layOutPlayer_211 F k138 κ v1 v2 v4) κ 211 [(0, .ref (gad Γ 59)), (1, .int v1), (2, .int v2), (4, .int v4)] [] := by
  unfold pX9_layOutPlayer_211
  refine j_iinc hC (pc := 211) dX9_layOutPlayer_211 3 rfl ki_1 (Nat.le_of_ble_eq_true rfl) (loc' := [(4, .int (v4 + 1)), (0, .ref (gad Γ 59)), (1, .int v1), (2, .int v2)]) rfl ?_
  refine j_goto hC (pc := 214) dX9_layOutPlayer_214 (tgt := 138) rfl ?_
  refine j_sub [1, 2, 3, 0] (loc' := [(0, .ref (gad Γ 59)), (1, .int v1), (2, .int v2), (4, .int (v4 + 1))]) rfl ?_
  exact hk138 κ (v4 + 1)
set_option maxRecDepth 20000 in
theorem wX9_layOutPlayer_138 {Γ : JCtx} (hC : jC Γ cX9_layOutPlayer 7 RX9 none layX 147) (hR : gR Γ = rmH 2) (hm : gcells Γ ≤ (gR Γ).cells ∧ gslots Γ ≤ (gR Γ).slots) (F : Nat) (v1 : Int32) (v2 : Int32) : ∀ (n : Nat) (κ : Mem) (v4 : Int32), JP Γ (qf Γ oV) (pX9_layOutPlayer_138 F v1 v2 n κ v4) κ 138 [(0, .ref (gad Γ 59)), (1, .int v1), (2, .int v2), (4, .int v4)] [] := by
  intro n
  induction n with
  | zero =>
    intro κ v4
    rw [pX9_layOutPlayer_138]
    exact j_none
  | succ fu ih =>
    intro κ v4
    rw [pX9_layOutPlayer_138]
    refine j_iload hC (pc := 138) dX9_layOutPlayer_138 3 rfl ?_
    refine j_aload_n hC (pc := 140) dX9_layOutPlayer_140 0 rfl rfl ?_
    refine j_getR hC (pc := 141) dX9_layOutPlayer_141 kf_RX9_26 lX_59 (Nat.le_of_ble_eq_true rfl) rfl ?_
    refine j_getI hC (pc := 144) dX9_layOutPlayer_144 kf_RX9_82 lX_41 (Nat.le_of_ble_eq_true rfl) rfl ?_
    refine j_icmp_ge hC (pc := 147) dX9_layOutPlayer_147 (tgt := 217) rfl ?_ ?_
    · refine j_iload_n hC (pc := 150) dX9_layOutPlayer_150 2 rfl rfl ?_
      refine j_aload_n hC (pc := 151) dX9_layOutPlayer_151 0 rfl rfl ?_
      refine j_getR hC (pc := 152) dX9_layOutPlayer_152 kf_RX9_26 lX_59 (Nat.le_of_ble_eq_true rfl) rfl ?_
      refine j_iload_n hC (pc := 155) dX9_layOutPlayer_155 1 rfl rfl ?_
      refine j_iload hC (pc := 156) dX9_layOutPlayer_156 3 rfl ?_
      refine j_callV_I hC hR (ctX1_situationOf hC.l hC.cn κ v1 v4) kc_RX9_95 (Nat.le_of_ble_eq_true rfl) (Nat.le_of_ble_eq_true rfl) lX_41 (Nat.le_of_ble_eq_true rfl) rfl (As := [.int v1, .int v4]) (rest := [.int v2]) rfl rfl (Nat.le_of_ble_eq_true rfl) hm (pc := 158) dX9_layOutPlayer_158 (fun t8 => ?_)
      refine j_iadd hC (pc := 161) dX9_layOutPlayer_161 ?_
      refine j_nmi (fun x9 => ?_)
      refine j_istore hC (pc := 162) dX9_layOutPlayer_162 (Nat.le_of_ble_eq_true rfl) (loc' := [(5, .int x9), (0, .ref (gad Γ 59)), (1, .int v1), (2, .int v2), (4, .int v4)]) rfl ?_
      refine j_iload hC (pc := 164) dX9_layOutPlayer_164 0 rfl ?_
      refine j_bipush hC (pc := 166) dX9_layOutPlayer_166 kb_14 ?_
      refine j_icmp_ge hC (pc := 168) dX9_layOutPlayer_168 (tgt := 211) rfl ?_ ?_
      · refine j_iload hC (pc := 171) dX9_layOutPlayer_171 0 rfl ?_
        refine j_iconst hC (pc := 173) dX9_layOutPlayer_173 ki_4 ?_
        refine j_imul hC (pc := 174) dX9_layOutPlayer_174 ?_
        refine j_aload_n hC (pc := 175) dX9_layOutPlayer_175 1 rfl rfl ?_
        refine j_getR hC (pc := 176) dX9_layOutPlayer_176 kf_RX9_26 lX_59 (Nat.le_of_ble_eq_true rfl) rfl ?_
        refine j_iload_n hC (pc := 179) dX9_layOutPlayer_179 2 rfl rfl ?_
        refine j_iload hC (pc := 180) dX9_layOutPlayer_180 4 rfl ?_
        refine j_callV_I hC hR (ctX1_colourOf hC.l hC.cn κ v1 v4) kc_RX9_98 (Nat.le_of_ble_eq_true rfl) (Nat.le_of_ble_eq_true rfl) lX_41 (Nat.le_of_ble_eq_true rfl) rfl (As := [.int v1, .int v4]) (rest := [.int (x9 * 4)]) rfl rfl (Nat.le_of_ble_eq_true rfl) hm (pc := 182) dX9_layOutPlayer_182 (fun t10 => ?_)
        refine j_iadd hC (pc := 185) dX9_layOutPlayer_185 ?_
        refine j_nmi (fun x11 => ?_)
        refine j_istore hC (pc := 186) dX9_layOutPlayer_186 (Nat.le_of_ble_eq_true rfl) (loc' := [(6, .int x11), (5, .int x9), (0, .ref (gad Γ 59)), (1, .int v1), (2, .int v2), (4, .int v4)]) rfl ?_
        refine j_aload_n hC (pc := 188) dX9_layOutPlayer_188 2 rfl rfl ?_
        refine j_getR hC (pc := 189) dX9_layOutPlayer_189 kf_RX9_13 lX_59 (Nat.le_of_ble_eq_true rfl) rfl ?_
        refine j_iload hC (pc := 192) dX9_layOutPlayer_192 0 rfl ?_
        refine j_aald hC (pc := 194) dX9_layOutPlayer_194 lX_60 (Nat.le_of_ble_eq_true rfl) (kRt_4 _) (fun hq12 => ?_)
        refine j_iload hC (pc := 195) dX9_layOutPlayer_195 5 rfl ?_
        refine j_bipush hC (pc := 197) dX9_layOutPlayer_197 kb_64 ?_
        refine j_idiv hC (pc := 199) dX9_layOutPlayer_199 ?_
        refine j_nmi (fun x13 => ?_)
        refine j_dup2 hC (pc := 200) dX9_layOutPlayer_200 rfl rfl ?_
        refine j_lald hC (pc := 201) dX9_layOutPlayer_201 (lrow_60 hq12).1 (lrow_60 hq12).2 ?_
        refine j_lconst hC (pc := 202) dX9_layOutPlayer_202 rfl ?_
        refine j_iload hC (pc := 203) dX9_layOutPlayer_203 5 rfl ?_
        refine j_bipush hC (pc := 205) dX9_layOutPlayer_205 kb_64 ?_
        refine j_irem hC (pc := 207) dX9_layOutPlayer_207 ?_
        refine j_lshl hC (pc := 208) dX9_layOutPlayer_208 ?_
        refine j_lor hC (pc := 209) dX9_layOutPlayer_209 ?_
        refine j_last hC (pc := 210) dX9_layOutPlayer_210 (lrow_60 hq12).1 (lrow_60 hq12).2 (fun κ14 => ?_)
        refine j_sub [2, 3, 4, 5] (loc' := [(0, .ref (gad Γ 59)), (1, .int v1), (2, .int v2), (4, .int v4)]) rfl ?_
        exact wX9_layOutPlayer_211 hC hR hm F κ14 v1 v2 v4 (pX9_layOutPlayer_138 F v1 v2 fu) ih
      · refine j_sub [1, 2, 3, 4] (loc' := [(0, .ref (gad Γ 59)), (1, .int v1), (2, .int v2), (4, .int v4)]) rfl ?_
        exact wX9_layOutPlayer_211 hC hR hm F κ v1 v2 v4 (pX9_layOutPlayer_138 F v1 v2 fu) ih
    · exact j_vret hC (pc := 217) dX9_layOutPlayer_217 rfl rfl
set_option maxRecDepth 20000 in
theorem wX9_layOutPlayer_135 {Γ : JCtx} (hC : jC Γ cX9_layOutPlayer 7 RX9 none layX 147) (hR : gR Γ = rmH 2) (hm : gcells Γ ≤ (gR Γ).cells ∧ gslots Γ ≤ (gR Γ).slots) (F : Nat) (κ : Mem) (v1 : Int32) (v2 : Int32) : JP Γ (qf Γ oV) (pX9_layOutPlayer_135 F κ v1 v2) κ 135 [(0, .ref (gad Γ 59)), (1, .int v1), (2, .int v2)] [] := by
  unfold pX9_layOutPlayer_135
  refine j_iconst hC (pc := 135) dX9_layOutPlayer_135 ki_0 ?_
  refine j_istore hC (pc := 136) dX9_layOutPlayer_136 (Nat.le_of_ble_eq_true rfl) (loc' := [(4, .int 0), (0, .ref (gad Γ 59)), (1, .int v1), (2, .int v2)]) rfl ?_
  refine j_sub [1, 2, 3, 0] (loc' := [(0, .ref (gad Γ 59)), (1, .int v1), (2, .int v2), (4, .int 0)]) rfl ?_
  exact wX9_layOutPlayer_138 hC hR hm F v1 v2 F κ 0
set_option maxRecDepth 20000 in
theorem wX9_layOutPlayer_17 {Γ : JCtx} (hC : jC Γ cX9_layOutPlayer 7 RX9 none layX 147) (hR : gR Γ = rmH 2) (hm : gcells Γ ≤ (gR Γ).cells ∧ gslots Γ ≤ (gR Γ).slots) (F : Nat) (v1 : Int32) (v2 : Int32) (v3 : Int32) : ∀ (n : Nat) (κ : Mem) (v4 : Int32), JP Γ (qf Γ oV) (pX9_layOutPlayer_17 F v1 v2 v3 n κ v4) κ 17 [(0, .ref (gad Γ 59)), (1, .int v1), (2, .int v2), (3, .int v3), (4, .int v4)] [] := by
  intro n
  induction n with
  | zero =>
    intro κ v4
    rw [pX9_layOutPlayer_17]
    exact j_none
  | succ fu ih =>
    intro κ v4
    rw [pX9_layOutPlayer_17]
    refine j_iload hC (pc := 17) dX9_layOutPlayer_17 4 rfl ?_
    refine j_iload_n hC (pc := 19) dX9_layOutPlayer_19 3 rfl rfl ?_
    refine j_icmp_ge hC (pc := 20) dX9_layOutPlayer_20 (tgt := 135) rfl ?_ ?_
    · refine j_aload_n hC (pc := 23) dX9_layOutPlayer_23 0 rfl rfl ?_
      refine j_getI hC (pc := 24) dX9_layOutPlayer_24 kf_RX9_57 lX_59 (Nat.le_of_ble_eq_true rfl) rfl ?_
      refine j_bipush hC (pc := 27) dX9_layOutPlayer_27 kb_14 ?_
      refine j_icmp_ge hC (pc := 29) dX9_layOutPlayer_29 (tgt := 135) rfl ?_ ?_
      · refine j_aload_n hC (pc := 32) dX9_layOutPlayer_32 0 rfl rfl ?_
        refine j_getR hC (pc := 33) dX9_layOutPlayer_33 kf_RX9_19 lX_59 (Nat.le_of_ble_eq_true rfl) rfl ?_
        refine j_aload_n hC (pc := 36) dX9_layOutPlayer_36 0 rfl rfl ?_
        refine j_getI hC (pc := 37) dX9_layOutPlayer_37 kf_RX9_57 lX_59 (Nat.le_of_ble_eq_true rfl) rfl ?_
        refine j_aload_n hC (pc := 40) dX9_layOutPlayer_40 0 rfl rfl ?_
        refine j_getR hC (pc := 41) dX9_layOutPlayer_41 kf_RX9_36 lX_59 (Nat.le_of_ble_eq_true rfl) rfl ?_
        refine j_getR hC (pc := 44) dX9_layOutPlayer_44 kf_RX9_79 lX_1 (Nat.le_of_ble_eq_true rfl) rfl ?_
        refine j_iload_n hC (pc := 47) dX9_layOutPlayer_47 1 rfl rfl ?_
        refine j_iald hC (pc := 48) dX9_layOutPlayer_48 lX_2 (Nat.le_of_ble_eq_true rfl) ?_
        refine j_iast hC (pc := 49) dX9_layOutPlayer_49 lX_62 (Nat.le_of_ble_eq_true rfl) (fun κ3 => ?_)
        refine j_aload_n hC (pc := 50) dX9_layOutPlayer_50 0 rfl rfl ?_
        refine j_getR hC (pc := 51) dX9_layOutPlayer_51 kf_RX9_23 lX_59 (Nat.le_of_ble_eq_true rfl) rfl ?_
        refine j_aload_n hC (pc := 54) dX9_layOutPlayer_54 0 rfl rfl ?_
        refine j_getI hC (pc := 55) dX9_layOutPlayer_55 kf_RX9_57 lX_59 (Nat.le_of_ble_eq_true rfl) rfl ?_
        refine j_iconst hC (pc := 58) dX9_layOutPlayer_58 ki_0 ?_
        refine j_iast hC (pc := 59) dX9_layOutPlayer_59 lX_63 (Nat.le_of_ble_eq_true rfl) (fun κ4 => ?_)
        refine j_iconst hC (pc := 60) dX9_layOutPlayer_60 ki_0 ?_
        refine j_istore hC (pc := 61) dX9_layOutPlayer_61 (Nat.le_of_ble_eq_true rfl) (loc' := [(5, .int 0), (0, .ref (gad Γ 59)), (1, .int v1), (2, .int v2), (3, .int v3), (4, .int v4)]) rfl ?_
        refine j_sub [1, 2, 3, 4, 5, 0] (loc' := [(0, .ref (gad Γ 59)), (1, .int v1), (2, .int v2), (3, .int v3), (4, .int v4), (5, .int 0)]) rfl ?_
        exact wX9_layOutPlayer_63 hC hR hm F v1 v2 v3 v4 (pX9_layOutPlayer_17 F v1 v2 v3 fu) ih F κ4 0
      · refine j_sub [0, 1, 2] (loc' := [(0, .ref (gad Γ 59)), (1, .int v1), (2, .int v2)]) rfl ?_
        exact wX9_layOutPlayer_135 hC hR hm F κ v1 v2
    · refine j_sub [0, 1, 2] (loc' := [(0, .ref (gad Γ 59)), (1, .int v1), (2, .int v2)]) rfl ?_
      exact wX9_layOutPlayer_135 hC hR hm F κ v1 v2
set_option maxRecDepth 20000 in
theorem wX9_layOutPlayer {Γ : JCtx} (hC : jC Γ cX9_layOutPlayer 7 RX9 none layX 147) (hR : gR Γ = rmH 2) (hm : gcells Γ ≤ (gR Γ).cells ∧ gslots Γ ≤ (gR Γ).slots) (F : Nat) (κ : Mem) (v1 : Int32) : JP Γ (qf Γ oV) (pX9_layOutPlayer F κ v1) κ 0 [(0, .ref (gad Γ 59)), (1, .int v1)] [] := by
  unfold pX9_layOutPlayer
  refine j_aload_n hC (pc := 0) dX9_layOutPlayer_0 0 rfl rfl ?_
  refine j_getI hC (pc := 1) dX9_layOutPlayer_1 kf_RX9_57 lX_59 (Nat.le_of_ble_eq_true rfl) rfl ?_
  refine j_nmi (fun x1 => ?_)
  refine j_istore_n hC (pc := 4) dX9_layOutPlayer_4 rfl (Nat.le_of_ble_eq_true rfl) (loc' := [(2, .int x1), (0, .ref (gad Γ 59)), (1, .int v1)]) rfl ?_
  refine j_aload_n hC (pc := 5) dX9_layOutPlayer_5 1 rfl rfl ?_
  refine j_getR hC (pc := 6) dX9_layOutPlayer_6 kf_RX9_36 lX_59 (Nat.le_of_ble_eq_true rfl) rfl ?_
  refine j_iload_n hC (pc := 9) dX9_layOutPlayer_9 2 rfl rfl ?_
  refine j_callV_I hC hR (ctX2_situations hC.l hC.cn 1 isG_1 F κ v1) kc_RX9_91 (Nat.le_of_ble_eq_true rfl) (Nat.le_of_ble_eq_true rfl) lX_1 (Nat.le_of_ble_eq_true rfl) rfl (As := [.int v1]) (rest := []) rfl rfl (Nat.le_of_ble_eq_true rfl) hm (pc := 10) dX9_layOutPlayer_10 (fun t2 => ?_)
  refine j_istore_n hC (pc := 13) dX9_layOutPlayer_13 rfl (Nat.le_of_ble_eq_true rfl) (loc' := [(3, .int t2), (2, .int x1), (0, .ref (gad Γ 59)), (1, .int v1)]) rfl ?_
  refine j_iconst hC (pc := 14) dX9_layOutPlayer_14 ki_0 ?_
  refine j_istore hC (pc := 15) dX9_layOutPlayer_15 (Nat.le_of_ble_eq_true rfl) (loc' := [(4, .int 0), (3, .int t2), (2, .int x1), (0, .ref (gad Γ 59)), (1, .int v1)]) rfl ?_
  refine j_sub [3, 4, 2, 1, 0] (loc' := [(0, .ref (gad Γ 59)), (1, .int v1), (2, .int x1), (3, .int t2), (4, .int 0)]) rfl ?_
  exact wX9_layOutPlayer_17 hC hR hm F v1 x1 t2 F κ 0
theorem ctX9_layOutPlayer {Δ : DCtx} {l : Launch} (hl : dlay Δ = layX) (hN : dN Δ = 147) (F : Nat) (κ : Mem) (v1 : Int32) : ∀ r, pX9_layOutPlayer F κ v1 = some r → CT Δ l yX9_layOutPlayer cX9_layOutPlayer 7 none (rmH 2) [.ref (dad Δ 59), .int v1] κ none r :=
  ct_of (nL := 7) (ret := none) (lay := layX) (N := 147) (by decide +kernel) (fun Δ => [.ref (dad Δ 59), .int v1]) (fun _ => oV) (fun _ => (Nat.le_of_ble_eq_true rfl)) (fun Γ hR hm hC => wX9_layOutPlayer hC hR hm F κ v1) Δ l hl hN
set_option maxRecDepth 20000 in
theorem wX9_layOut_88 {Γ : JCtx} (hC : jC Γ cX9_layOut 2 RX9 none layX 147) (hR : gR Γ = rmH 3) (hm : gcells Γ ≤ (gR Γ).cells ∧ gslots Γ ≤ (gR Γ).slots) (F : Nat) : ∀ (n : Nat) (κ : Mem) (v1 : Int32), JP Γ (qf Γ oV) (pX9_layOut_88 F n κ v1) κ 88 [(0, .ref (gad Γ 59)), (1, .int v1)] [] := by
  intro n
  induction n with
  | zero =>
    intro κ v1
    rw [pX9_layOut_88]
    exact j_none
  | succ fu ih =>
    intro κ v1
    rw [pX9_layOut_88]
    refine j_iload_n hC (pc := 88) dX9_layOut_88 1 rfl rfl ?_
    refine j_aload_n hC (pc := 89) dX9_layOut_89 0 rfl rfl ?_
    refine j_getR hC (pc := 90) dX9_layOut_90 kf_RX9_36 lX_59 (Nat.le_of_ble_eq_true rfl) rfl ?_
    refine j_getI hC (pc := 93) dX9_layOut_93 kf_RX9_76 lX_1 (Nat.le_of_ble_eq_true rfl) rfl ?_
    refine j_icmp_ge hC (pc := 96) dX9_layOut_96 (tgt := 110) rfl ?_ ?_
    · refine j_aload_n hC (pc := 99) dX9_layOut_99 0 rfl rfl ?_
      refine j_iload_n hC (pc := 100) dX9_layOut_100 1 rfl rfl ?_
      refine j_callV_V hC hR (ctX9_layOutPlayer hC.l hC.cn F κ v1) kc_RX9_88 (Nat.le_of_ble_eq_true rfl) (Nat.le_of_ble_eq_true rfl) lX_59 (Nat.le_of_ble_eq_true rfl) rfl (As := [.int v1]) (rest := []) rfl rfl (Nat.le_of_ble_eq_true rfl) hm (pc := 101) dX9_layOut_101 (fun t8 => ?_)
      refine j_iinc hC (pc := 104) dX9_layOut_104 1 rfl ki_1 (Nat.le_of_ble_eq_true rfl) (loc' := [(1, .int (v1 + 1)), (0, .ref (gad Γ 59))]) rfl ?_
      refine j_goto hC (pc := 107) dX9_layOut_107 (tgt := 88) rfl ?_
      refine j_sub [1, 0] (loc' := [(0, .ref (gad Γ 59)), (1, .int (v1 + 1))]) rfl ?_
      exact ih t8 (v1 + 1)
    · exact j_vret hC (pc := 110) dX9_layOut_110 rfl rfl
set_option maxRecDepth 20000 in
theorem wX9_layOut_49 {Γ : JCtx} (hC : jC Γ cX9_layOut 2 RX9 none layX 147) (hR : gR Γ = rmH 3) (hm : gcells Γ ≤ (gR Γ).cells ∧ gslots Γ ≤ (gR Γ).slots) (F : Nat) : ∀ (n : Nat) (κ : Mem) (v1 : Int32), JP Γ (qf Γ oV) (pX9_layOut_49 F n κ v1) κ 49 [(0, .ref (gad Γ 59)), (1, .int v1)] [] := by
  intro n
  induction n with
  | zero =>
    intro κ v1
    rw [pX9_layOut_49]
    exact j_none
  | succ fu ih =>
    intro κ v1
    rw [pX9_layOut_49]
    refine j_iload_n hC (pc := 49) dX9_layOut_49 1 rfl rfl ?_
    refine j_aload_n hC (pc := 50) dX9_layOut_50 0 rfl rfl ?_
    refine j_getR hC (pc := 51) dX9_layOut_51 kf_RX9_26 lX_59 (Nat.le_of_ble_eq_true rfl) rfl ?_
    refine j_getI hC (pc := 54) dX9_layOut_54 kf_RX9_82 lX_41 (Nat.le_of_ble_eq_true rfl) rfl ?_
    refine j_icmp_ge hC (pc := 57) dX9_layOut_57 (tgt := 86) rfl ?_ ?_
    · refine j_aload_n hC (pc := 60) dX9_layOut_60 0 rfl rfl ?_
      refine j_getR hC (pc := 61) dX9_layOut_61 kf_RX9_16 lX_59 (Nat.le_of_ble_eq_true rfl) rfl ?_
      refine j_iconst hC (pc := 64) dX9_layOut_64 ki_0 ?_
      refine j_aald hC (pc := 65) dX9_layOut_65 lX_61 (Nat.le_of_ble_eq_true rfl) (kRt_4 _) (fun hq5 => ?_)
      refine j_iload_n hC (pc := 66) dX9_layOut_66 1 rfl rfl ?_
      refine j_bipush hC (pc := 67) dX9_layOut_67 kb_64 ?_
      refine j_idiv hC (pc := 69) dX9_layOut_69 ?_
      refine j_nmi (fun x6 => ?_)
      refine j_dup2 hC (pc := 70) dX9_layOut_70 rfl rfl ?_
      refine j_lald hC (pc := 71) dX9_layOut_71 (lrow_61 hq5).1 (lrow_61 hq5).2 ?_
      refine j_lconst hC (pc := 72) dX9_layOut_72 rfl ?_
      refine j_iload_n hC (pc := 73) dX9_layOut_73 1 rfl rfl ?_
      refine j_bipush hC (pc := 74) dX9_layOut_74 kb_64 ?_
      refine j_irem hC (pc := 76) dX9_layOut_76 ?_
      refine j_lshl hC (pc := 77) dX9_layOut_77 ?_
      refine j_lor hC (pc := 78) dX9_layOut_78 ?_
      refine j_last hC (pc := 79) dX9_layOut_79 (lrow_61 hq5).1 (lrow_61 hq5).2 (fun κ7 => ?_)
      refine j_iinc hC (pc := 80) dX9_layOut_80 1 rfl ki_1 (Nat.le_of_ble_eq_true rfl) (loc' := [(1, .int (v1 + 1)), (0, .ref (gad Γ 59))]) rfl ?_
      refine j_goto hC (pc := 83) dX9_layOut_83 (tgt := 49) rfl ?_
      refine j_sub [1, 0] (loc' := [(0, .ref (gad Γ 59)), (1, .int (v1 + 1))]) rfl ?_
      exact ih κ7 (v1 + 1)
    · refine j_iconst hC (pc := 86) dX9_layOut_86 ki_0 ?_
      refine j_istore_n hC (pc := 87) dX9_layOut_87 rfl (Nat.le_of_ble_eq_true rfl) (loc' := [(1, .int 0), (0, .ref (gad Γ 59))]) rfl ?_
      refine j_sub [1, 0] (loc' := [(0, .ref (gad Γ 59)), (1, .int 0)]) rfl ?_
      exact wX9_layOut_88 hC hR hm F F κ 0
set_option maxRecDepth 20000 in
theorem wX9_layOut_24 {Γ : JCtx} (hC : jC Γ cX9_layOut 2 RX9 none layX 147) (hR : gR Γ = rmH 3) (hm : gcells Γ ≤ (gR Γ).cells ∧ gslots Γ ≤ (gR Γ).slots) (F : Nat) : ∀ (n : Nat) (κ : Mem) (v1 : Int32), JP Γ (qf Γ oV) (pX9_layOut_24 F n κ v1) κ 24 [(0, .ref (gad Γ 59)), (1, .int v1)] [] := by
  intro n
  induction n with
  | zero =>
    intro κ v1
    rw [pX9_layOut_24]
    exact j_none
  | succ fu ih =>
    intro κ v1
    rw [pX9_layOut_24]
    refine j_iload_n hC (pc := 24) dX9_layOut_24 1 rfl rfl ?_
    refine j_aload_n hC (pc := 25) dX9_layOut_25 0 rfl rfl ?_
    refine j_getI hC (pc := 26) dX9_layOut_26 kf_RX9_85 lX_59 (Nat.le_of_ble_eq_true rfl) rfl ?_
    refine j_icmp_ge hC (pc := 29) dX9_layOut_29 (tgt := 47) rfl ?_ ?_
    · refine j_aload_n hC (pc := 32) dX9_layOut_32 0 rfl rfl ?_
      refine j_getR hC (pc := 33) dX9_layOut_33 kf_RX9_16 lX_59 (Nat.le_of_ble_eq_true rfl) rfl ?_
      refine j_iconst hC (pc := 36) dX9_layOut_36 ki_0 ?_
      refine j_aald hC (pc := 37) dX9_layOut_37 lX_61 (Nat.le_of_ble_eq_true rfl) (kRt_4 _) (fun hq3 => ?_)
      refine j_iload_n hC (pc := 38) dX9_layOut_38 1 rfl rfl ?_
      refine j_lconst hC (pc := 39) dX9_layOut_39 rfl ?_
      refine j_last hC (pc := 40) dX9_layOut_40 (lrow_61 hq3).1 (lrow_61 hq3).2 (fun κ4 => ?_)
      refine j_iinc hC (pc := 41) dX9_layOut_41 1 rfl ki_1 (Nat.le_of_ble_eq_true rfl) (loc' := [(1, .int (v1 + 1)), (0, .ref (gad Γ 59))]) rfl ?_
      refine j_goto hC (pc := 44) dX9_layOut_44 (tgt := 24) rfl ?_
      refine j_sub [1, 0] (loc' := [(0, .ref (gad Γ 59)), (1, .int (v1 + 1))]) rfl ?_
      exact ih κ4 (v1 + 1)
    · refine j_iconst hC (pc := 47) dX9_layOut_47 ki_0 ?_
      refine j_istore_n hC (pc := 48) dX9_layOut_48 rfl (Nat.le_of_ble_eq_true rfl) (loc' := [(1, .int 0), (0, .ref (gad Γ 59))]) rfl ?_
      refine j_sub [1, 0] (loc' := [(0, .ref (gad Γ 59)), (1, .int 0)]) rfl ?_
      exact wX9_layOut_49 hC hR hm F F κ 0
set_option maxRecDepth 20000 in
theorem wX9_layOut {Γ : JCtx} (hC : jC Γ cX9_layOut 2 RX9 none layX 147) (hR : gR Γ = rmH 3) (hm : gcells Γ ≤ (gR Γ).cells ∧ gslots Γ ≤ (gR Γ).slots) (F : Nat) (κ : Mem) : JP Γ (qf Γ oV) (pX9_layOut F κ) κ 0 [(0, .ref (gad Γ 59))] [] := by
  unfold pX9_layOut
  refine j_aload_n hC (pc := 0) dX9_layOut_0 0 rfl rfl ?_
  refine j_aload_n hC (pc := 1) dX9_layOut_1 0 rfl rfl ?_
  refine j_getR hC (pc := 2) dX9_layOut_2 kf_RX9_26 lX_59 (Nat.le_of_ble_eq_true rfl) rfl ?_
  refine j_getI hC (pc := 5) dX9_layOut_5 kf_RX9_82 lX_41 (Nat.le_of_ble_eq_true rfl) rfl ?_
  refine j_bipush hC (pc := 8) dX9_layOut_8 kb_63 ?_
  refine j_iadd hC (pc := 10) dX9_layOut_10 ?_
  refine j_bipush hC (pc := 11) dX9_layOut_11 kb_64 ?_
  refine j_idiv hC (pc := 13) dX9_layOut_13 ?_
  refine j_putI hC (pc := 14) dX9_layOut_14 kp_RX9_85 lX_59 (Nat.le_of_ble_eq_true rfl) rfl rfl rfl (fun κ1 => ?_)
  refine j_aload_n hC (pc := 17) dX9_layOut_17 0 rfl rfl ?_
  refine j_iconst hC (pc := 18) dX9_layOut_18 ki_0 ?_
  refine j_putI hC (pc := 19) dX9_layOut_19 kp_RX9_57 lX_59 (Nat.le_of_ble_eq_true rfl) rfl rfl rfl (fun κ2 => ?_)
  refine j_iconst hC (pc := 22) dX9_layOut_22 ki_0 ?_
  refine j_istore_n hC (pc := 23) dX9_layOut_23 rfl (Nat.le_of_ble_eq_true rfl) (loc' := [(1, .int 0), (0, .ref (gad Γ 59))]) rfl ?_
  refine j_sub [1, 0] (loc' := [(0, .ref (gad Γ 59)), (1, .int 0)]) rfl ?_
  exact wX9_layOut_24 hC hR hm F F κ2 0
theorem ctX9_layOut {Δ : DCtx} {l : Launch} (hl : dlay Δ = layX) (hN : dN Δ = 147) (F : Nat) (κ : Mem) : ∀ r, pX9_layOut F κ = some r → CT Δ l yX9_layOut cX9_layOut 2 none (rmH 3) [.ref (dad Δ 59)] κ none r :=
  ct_of (nL := 2) (ret := none) (lay := layX) (N := 147) (by decide +kernel) (fun Δ => [.ref (dad Δ 59)]) (fun _ => oV) (fun _ => (Nat.le_of_ble_eq_true rfl)) (fun Γ hR hm hC => wX9_layOut hC hR hm F κ) Δ l hl hN
set_option maxRecDepth 20000 in
theorem wX9_settle_36 {Γ : JCtx} (hC : jC Γ cX9_settle 6 RX9 none layX 147) (hR : gR Γ = rmH 0) (hm : gcells Γ ≤ (gR Γ).cells ∧ gslots Γ ≤ (gR Γ).slots) (F : Nat) (v2 : Nat) (h2 : layX v2 = kLA 64) (n2 : v2 < 147) (v3 : Nat) (h3 : layX v3 = kLA 64) (n3 : v3 < 147) (v4 : Nat) (h4 : layX v4 = kLA 64) (n4 : v4 < 147) : ∀ (n : Nat) (κ : Mem) (v5 : Int32), JP Γ (qf Γ oV) (pX9_settle_36 F v2 v3 v4 n κ v5) κ 36 [(0, .ref (gad Γ 59)), (2, .ref (gad Γ v2)), (3, .ref (gad Γ v3)), (4, .ref (gad Γ v4)), (5, .int v5)] [] := by
  intro n
  induction n with
  | zero =>
    intro κ v5
    rw [pX9_settle_36]
    exact j_none
  | succ fu ih =>
    intro κ v5
    rw [pX9_settle_36]
    refine j_iload hC (pc := 36) dX9_settle_36 4 rfl ?_
    refine j_aload_n hC (pc := 38) dX9_settle_38 0 rfl rfl ?_
    refine j_getI hC (pc := 39) dX9_settle_39 kf_RX9_85 lX_59 (Nat.le_of_ble_eq_true rfl) rfl ?_
    refine j_icmp_ge hC (pc := 42) dX9_settle_42 (tgt := 69) rfl ?_ ?_
    · refine j_aload_n hC (pc := 45) dX9_settle_45 2 rfl rfl ?_
      refine j_iload hC (pc := 46) dX9_settle_46 4 rfl ?_
      refine j_aload_n hC (pc := 48) dX9_settle_48 1 rfl rfl ?_
      refine j_iload hC (pc := 49) dX9_settle_49 4 rfl ?_
      refine j_lald hC (pc := 51) dX9_settle_51 h2 n2 ?_
      refine j_aload hC (pc := 52) dX9_settle_52 3 rfl ?_
      refine j_iload hC (pc := 54) dX9_settle_54 4 rfl ?_
      refine j_lald hC (pc := 56) dX9_settle_56 h4 n4 ?_
      refine j_ldc2 hC (pc := 57) dX9_settle_57 w_487 ?_
      refine j_lxor hC (pc := 60) dX9_settle_60 ?_
      refine j_land hC (pc := 61) dX9_settle_61 ?_
      refine j_last hC (pc := 62) dX9_settle_62 h3 n3 (fun κ4 => ?_)
      refine j_iinc hC (pc := 63) dX9_settle_63 4 rfl ki_1 (Nat.le_of_ble_eq_true rfl) (loc' := [(5, .int (v5 + 1)), (0, .ref (gad Γ 59)), (2, .ref (gad Γ v2)), (3, .ref (gad Γ v3)), (4, .ref (gad Γ v4))]) rfl ?_
      refine j_goto hC (pc := 66) dX9_settle_66 (tgt := 36) rfl ?_
      refine j_sub [1, 2, 3, 4, 0] (loc' := [(0, .ref (gad Γ 59)), (2, .ref (gad Γ v2)), (3, .ref (gad Γ v3)), (4, .ref (gad Γ v4)), (5, .int (v5 + 1))]) rfl ?_
      exact ih κ4 (v5 + 1)
    · exact j_vret hC (pc := 69) dX9_settle_69 rfl rfl
set_option maxRecDepth 20000 in
theorem wX9_settle {Γ : JCtx} (hC : jC Γ cX9_settle 6 RX9 none layX 147) (hR : gR Γ = rmH 0) (hm : gcells Γ ≤ (gR Γ).cells ∧ gslots Γ ≤ (gR Γ).slots) (F : Nat) (κ : Mem) (v1 : Int32) : JP Γ (qf Γ oV) (pX9_settle F κ v1) κ 0 [(0, .ref (gad Γ 59)), (1, .int v1)] [] := by
  unfold pX9_settle
  refine j_aload_n hC (pc := 0) dX9_settle_0 0 rfl rfl ?_
  refine j_getR hC (pc := 1) dX9_settle_1 kf_RX9_16 lX_59 (Nat.le_of_ble_eq_true rfl) rfl ?_
  refine j_iload_n hC (pc := 4) dX9_settle_4 1 rfl rfl ?_
  refine j_aald hC (pc := 5) dX9_settle_5 lX_61 (Nat.le_of_ble_eq_true rfl) (kRt_4 _) (fun hq1 => ?_)
  refine j_astore_n hC (pc := 6) dX9_settle_6 rfl (Nat.le_of_ble_eq_true rfl) (loc' := [(2, .ref (gad Γ (120 + v1.toNatClampNeg * 1))), (0, .ref (gad Γ 59)), (1, .int v1)]) rfl ?_
  refine j_aload_n hC (pc := 7) dX9_settle_7 1 rfl rfl ?_
  refine j_getR hC (pc := 8) dX9_settle_8 kf_RX9_16 lX_59 (Nat.le_of_ble_eq_true rfl) rfl ?_
  refine j_iload_n hC (pc := 11) dX9_settle_11 2 rfl rfl ?_
  refine j_iconst hC (pc := 12) dX9_settle_12 ki_1 ?_
  refine j_iadd hC (pc := 13) dX9_settle_13 ?_
  refine j_aald hC (pc := 14) dX9_settle_14 lX_61 (Nat.le_of_ble_eq_true rfl) (kRt_4 _) (fun hq2 => ?_)
  refine j_astore_n hC (pc := 15) dX9_settle_15 rfl (Nat.le_of_ble_eq_true rfl) (loc' := [(3, .ref (gad Γ (120 + (v1 + 1).toNatClampNeg * 1))), (2, .ref (gad Γ (120 + v1.toNatClampNeg * 1))), (0, .ref (gad Γ 59)), (1, .int v1)]) rfl ?_
  refine j_aload_n hC (pc := 16) dX9_settle_16 2 rfl rfl ?_
  refine j_getR hC (pc := 17) dX9_settle_17 kf_RX9_13 lX_59 (Nat.le_of_ble_eq_true rfl) rfl ?_
  refine j_iload_n hC (pc := 20) dX9_settle_20 3 rfl rfl ?_
  refine j_iconst hC (pc := 21) dX9_settle_21 ki_4 ?_
  refine j_imul hC (pc := 22) dX9_settle_22 ?_
  refine j_aload_n hC (pc := 23) dX9_settle_23 2 rfl rfl ?_
  refine j_getR hC (pc := 24) dX9_settle_24 kf_RX9_23 lX_59 (Nat.le_of_ble_eq_true rfl) rfl ?_
  refine j_iload_n hC (pc := 27) dX9_settle_27 3 rfl rfl ?_
  refine j_iald hC (pc := 28) dX9_settle_28 lX_63 (Nat.le_of_ble_eq_true rfl) ?_
  refine j_iadd hC (pc := 29) dX9_settle_29 ?_
  refine j_aald hC (pc := 30) dX9_settle_30 lX_60 (Nat.le_of_ble_eq_true rfl) (kRt_4 _) (fun hq3 => ?_)
  refine j_astore hC (pc := 31) dX9_settle_31 (Nat.le_of_ble_eq_true rfl) (loc' := [(4, .ref (gad Γ (64 + ((v1 * 4) + (mi κ 63 v1.toNatClampNeg)).toNatClampNeg * 1))), (3, .ref (gad Γ (120 + (v1 + 1).toNatClampNeg * 1))), (2, .ref (gad Γ (120 + v1.toNatClampNeg * 1))), (0, .ref (gad Γ 59)), (1, .int v1)]) rfl ?_
  refine j_iconst hC (pc := 33) dX9_settle_33 ki_0 ?_
  refine j_istore hC (pc := 34) dX9_settle_34 (Nat.le_of_ble_eq_true rfl) (loc' := [(5, .int 0), (4, .ref (gad Γ (64 + ((v1 * 4) + (mi κ 63 v1.toNatClampNeg)).toNatClampNeg * 1))), (3, .ref (gad Γ (120 + (v1 + 1).toNatClampNeg * 1))), (2, .ref (gad Γ (120 + v1.toNatClampNeg * 1))), (0, .ref (gad Γ 59)), (1, .int v1)]) rfl ?_
  refine j_sub [4, 3, 2, 1, 0] (loc' := [(0, .ref (gad Γ 59)), (2, .ref (gad Γ (120 + v1.toNatClampNeg * 1))), (3, .ref (gad Γ (120 + (v1 + 1).toNatClampNeg * 1))), (4, .ref (gad Γ (64 + ((v1 * 4) + (mi κ 63 v1.toNatClampNeg)).toNatClampNeg * 1))), (5, .int 0)]) rfl ?_
  exact wX9_settle_36 hC hR hm F (120 + v1.toNatClampNeg * 1) (lrow_61 hq1).1 (lrow_61 hq1).2 (120 + (v1 + 1).toNatClampNeg * 1) (lrow_61 hq2).1 (lrow_61 hq2).2 (64 + ((v1 * 4) + (mi κ 63 v1.toNatClampNeg)).toNatClampNeg * 1) (lrow_60 hq3).1 (lrow_60 hq3).2 F κ 0
theorem ctX9_settle {Δ : DCtx} {l : Launch} (hl : dlay Δ = layX) (hN : dN Δ = 147) (F : Nat) (κ : Mem) (v1 : Int32) : ∀ r, pX9_settle F κ v1 = some r → CT Δ l yX9_settle cX9_settle 6 none (rmH 0) [.ref (dad Δ 59), .int v1] κ none r :=
  ct_of (nL := 6) (ret := none) (lay := layX) (N := 147) (by decide +kernel) (fun Δ => [.ref (dad Δ 59), .int v1]) (fun _ => oV) (fun _ => (Nat.le_of_ble_eq_true rfl)) (fun Γ hR hm hC => wX9_settle hC hR hm F κ v1) Δ l hl hN
set_option maxRecDepth 20000 in
theorem wX9_stillOpen_4 {Γ : JCtx} (hC : jC Γ cX9_stillOpen 3 RX9 (some .int) layX 147) (hR : gR Γ = rmH 1) (hm : gcells Γ ≤ (gR Γ).cells ∧ gslots Γ ≤ (gR Γ).slots) (F : Nat) (κ : Mem) : ∀ (n : Nat) (v1 : Int32) (v2 : Int32), JP Γ (qf Γ (oI κ)) (pX9_stillOpen_4 F κ n v1 v2) κ 4 [(0, .ref (gad Γ 59)), (1, .int v1), (2, .int v2)] [] := by
  intro n
  induction n with
  | zero =>
    intro v1 v2
    rw [pX9_stillOpen_4]
    exact j_none
  | succ fu ih =>
    intro v1 v2
    rw [pX9_stillOpen_4]
    refine j_iload_n hC (pc := 4) dX9_stillOpen_4 2 rfl rfl ?_
    refine j_aload_n hC (pc := 5) dX9_stillOpen_5 0 rfl rfl ?_
    refine j_getI hC (pc := 6) dX9_stillOpen_6 kf_RX9_85 lX_59 (Nat.le_of_ble_eq_true rfl) rfl ?_
    refine j_icmp_ge hC (pc := 9) dX9_stillOpen_9 (tgt := 35) rfl ?_ ?_
    · refine j_iload_n hC (pc := 12) dX9_stillOpen_12 1 rfl rfl ?_
      refine j_aload_n hC (pc := 13) dX9_stillOpen_13 0 rfl rfl ?_
      refine j_getR hC (pc := 14) dX9_stillOpen_14 kf_RX9_16 lX_59 (Nat.le_of_ble_eq_true rfl) rfl ?_
      refine j_aload_n hC (pc := 17) dX9_stillOpen_17 0 rfl rfl ?_
      refine j_getI hC (pc := 18) dX9_stillOpen_18 kf_RX9_57 lX_59 (Nat.le_of_ble_eq_true rfl) rfl ?_
      refine j_aald hC (pc := 21) dX9_stillOpen_21 lX_61 (Nat.le_of_ble_eq_true rfl) (kRt_4 _) (fun hq1 => ?_)
      refine j_iload_n hC (pc := 22) dX9_stillOpen_22 2 rfl rfl ?_
      refine j_lald hC (pc := 23) dX9_stillOpen_23 (lrow_61 hq1).1 (lrow_61 hq1).2 ?_
      refine j_callS_I hC hR (ctJ13_bitCount_95d88 hC.l hC.cn κ (ml κ (120 + (mi κ 59 6).toNatClampNeg * 1) v2.toNatClampNeg)) kc_RX9_103 (Nat.le_of_ble_eq_true rfl) (Nat.le_of_ble_eq_true rfl) (As := [.long (ml κ (120 + (mi κ 59 6).toNatClampNeg * 1) v2.toNatClampNeg)]) (rest := [.int v1]) rfl rfl (Nat.le_of_ble_eq_true rfl) hm (pc := 24) dX9_stillOpen_24 (fun t2 => ?_)
      refine j_iadd hC (pc := 27) dX9_stillOpen_27 ?_
      refine j_nmi (fun x3 => ?_)
      refine j_istore_n hC (pc := 28) dX9_stillOpen_28 rfl (Nat.le_of_ble_eq_true rfl) (loc' := [(1, .int x3), (0, .ref (gad Γ 59)), (2, .int v2)]) rfl ?_
      refine j_iinc hC (pc := 29) dX9_stillOpen_29 2 rfl ki_1 (Nat.le_of_ble_eq_true rfl) (loc' := [(2, .int (v2 + 1)), (1, .int x3), (0, .ref (gad Γ 59))]) rfl ?_
      refine j_goto hC (pc := 32) dX9_stillOpen_32 (tgt := 4) rfl ?_
      refine j_sub [2, 1, 0] (loc' := [(0, .ref (gad Γ 59)), (1, .int x3), (2, .int (v2 + 1))]) rfl ?_
      exact ih x3 (v2 + 1)
    · refine j_iload_n hC (pc := 35) dX9_stillOpen_35 1 rfl rfl ?_
      exact j_iret hC (pc := 36) dX9_stillOpen_36 rfl rfl rfl
set_option maxRecDepth 20000 in
theorem wX9_stillOpen {Γ : JCtx} (hC : jC Γ cX9_stillOpen 3 RX9 (some .int) layX 147) (hR : gR Γ = rmH 1) (hm : gcells Γ ≤ (gR Γ).cells ∧ gslots Γ ≤ (gR Γ).slots) (F : Nat) (κ : Mem) : JP Γ (qf Γ (oI κ)) (pX9_stillOpen F κ) κ 0 [(0, .ref (gad Γ 59))] [] := by
  unfold pX9_stillOpen
  refine j_iconst hC (pc := 0) dX9_stillOpen_0 ki_0 ?_
  refine j_istore_n hC (pc := 1) dX9_stillOpen_1 rfl (Nat.le_of_ble_eq_true rfl) (loc' := [(1, .int 0), (0, .ref (gad Γ 59))]) rfl ?_
  refine j_iconst hC (pc := 2) dX9_stillOpen_2 ki_0 ?_
  refine j_istore_n hC (pc := 3) dX9_stillOpen_3 rfl (Nat.le_of_ble_eq_true rfl) (loc' := [(2, .int 0), (1, .int 0), (0, .ref (gad Γ 59))]) rfl ?_
  refine j_sub [2, 1, 0] (loc' := [(0, .ref (gad Γ 59)), (1, .int 0), (2, .int 0)]) rfl ?_
  exact wX9_stillOpen_4 hC hR hm F κ F 0 0
theorem ctX9_stillOpen {Δ : DCtx} {l : Launch} (hl : dlay Δ = layX) (hN : dN Δ = 147) (F : Nat) (κ : Mem) : ∀ r, pX9_stillOpen F κ = some r → CT Δ l yX9_stillOpen cX9_stillOpen 3 (some .int) (rmH 1) [.ref (dad Δ 59)] κ (some (.int r)) κ :=
  ct_of (nL := 3) (ret := (some .int)) (lay := layX) (N := 147) (by decide +kernel) (fun Δ => [.ref (dad Δ 59)]) (fun _ => oI κ) (fun _ => (Nat.le_of_ble_eq_true rfl)) (fun Γ hR hm hC => wX9_stillOpen hC hR hm F κ) Δ l hl hN
set_option maxRecDepth 20000 in
theorem wX9_pickNext_7 {Γ : JCtx} (hC : jC Γ cX9_pickNext 2 RX9 (some .int) layX 147) (hR : gR Γ = rmH 0) (hm : gcells Γ ≤ (gR Γ).cells ∧ gslots Γ ≤ (gR Γ).slots) (F : Nat) : ∀ (n : Nat) (κ : Mem) (v1 : Int32), JP Γ (qf Γ oE) (pX9_pickNext_7 F n κ v1) κ 7 [(0, .ref (gad Γ 59)), (1, .int v1)] [] := by
  intro n
  induction n with
  | zero =>
    intro κ v1
    rw [pX9_pickNext_7]
    exact j_none
  | succ fu ih =>
    intro κ v1
    rw [pX9_pickNext_7]
    refine j_iload_n hC (pc := 7) dX9_pickNext_7 1 rfl rfl ?_
    refine j_if_lt hC (pc := 8) dX9_pickNext_8 (tgt := 51) rfl ?_ ?_
    · refine j_aload_n hC (pc := 51) dX9_pickNext_51 0 rfl rfl ?_
      refine j_getI hC (pc := 52) dX9_pickNext_52 kf_RX9_57 lX_59 (Nat.le_of_ble_eq_true rfl) rfl ?_
      exact j_iret hC (pc := 55) dX9_pickNext_55 rfl rfl rfl
    · refine j_aload_n hC (pc := 11) dX9_pickNext_11 0 rfl rfl ?_
      refine j_getR hC (pc := 12) dX9_pickNext_12 kf_RX9_23 lX_59 (Nat.le_of_ble_eq_true rfl) rfl ?_
      refine j_iload_n hC (pc := 15) dX9_pickNext_15 1 rfl rfl ?_
      refine j_dup2 hC (pc := 16) dX9_pickNext_16 rfl rfl ?_
      refine j_iald hC (pc := 17) dX9_pickNext_17 lX_63 (Nat.le_of_ble_eq_true rfl) ?_
      refine j_iconst hC (pc := 18) dX9_pickNext_18 ki_1 ?_
      refine j_iadd hC (pc := 19) dX9_pickNext_19 ?_
      refine j_iast hC (pc := 20) dX9_pickNext_20 lX_63 (Nat.le_of_ble_eq_true rfl) (fun κ2 => ?_)
      refine j_aload_n hC (pc := 21) dX9_pickNext_21 0 rfl rfl ?_
      refine j_getR hC (pc := 22) dX9_pickNext_22 kf_RX9_23 lX_59 (Nat.le_of_ble_eq_true rfl) rfl ?_
      refine j_iload_n hC (pc := 25) dX9_pickNext_25 1 rfl rfl ?_
      refine j_iald hC (pc := 26) dX9_pickNext_26 lX_63 (Nat.le_of_ble_eq_true rfl) ?_
      refine j_aload_n hC (pc := 27) dX9_pickNext_27 0 rfl rfl ?_
      refine j_getR hC (pc := 28) dX9_pickNext_28 kf_RX9_19 lX_59 (Nat.le_of_ble_eq_true rfl) rfl ?_
      refine j_iload_n hC (pc := 31) dX9_pickNext_31 1 rfl rfl ?_
      refine j_iald hC (pc := 32) dX9_pickNext_32 lX_62 (Nat.le_of_ble_eq_true rfl) ?_
      refine j_icmp_ge hC (pc := 33) dX9_pickNext_33 (tgt := 38) rfl ?_ ?_
      · refine j_iload_n hC (pc := 36) dX9_pickNext_36 1 rfl rfl ?_
        exact j_iret hC (pc := 37) dX9_pickNext_37 rfl rfl rfl
      · refine j_aload_n hC (pc := 38) dX9_pickNext_38 0 rfl rfl ?_
        refine j_getR hC (pc := 39) dX9_pickNext_39 kf_RX9_23 lX_59 (Nat.le_of_ble_eq_true rfl) rfl ?_
        refine j_iload_n hC (pc := 42) dX9_pickNext_42 1 rfl rfl ?_
        refine j_iconst hC (pc := 43) dX9_pickNext_43 ki_0 ?_
        refine j_iast hC (pc := 44) dX9_pickNext_44 lX_63 (Nat.le_of_ble_eq_true rfl) (fun κ3 => ?_)
        refine j_iinc hC (pc := 45) dX9_pickNext_45 1 rfl ki_m1 (Nat.le_of_ble_eq_true rfl) (loc' := [(1, .int (v1 + (-1))), (0, .ref (gad Γ 59))]) rfl ?_
        refine j_goto hC (pc := 48) dX9_pickNext_48 (tgt := 7) rfl ?_
        refine j_sub [1, 0] (loc' := [(0, .ref (gad Γ 59)), (1, .int (v1 + (-1)))]) rfl ?_
        exact ih κ3 (v1 + (-1))
set_option maxRecDepth 20000 in
theorem wX9_pickNext {Γ : JCtx} (hC : jC Γ cX9_pickNext 2 RX9 (some .int) layX 147) (hR : gR Γ = rmH 0) (hm : gcells Γ ≤ (gR Γ).cells ∧ gslots Γ ≤ (gR Γ).slots) (F : Nat) (κ : Mem) : JP Γ (qf Γ oE) (pX9_pickNext F κ) κ 0 [(0, .ref (gad Γ 59))] [] := by
  unfold pX9_pickNext
  refine j_aload_n hC (pc := 0) dX9_pickNext_0 0 rfl rfl ?_
  refine j_getI hC (pc := 1) dX9_pickNext_1 kf_RX9_57 lX_59 (Nat.le_of_ble_eq_true rfl) rfl ?_
  refine j_iconst hC (pc := 4) dX9_pickNext_4 ki_1 ?_
  refine j_isub hC (pc := 5) dX9_pickNext_5 ?_
  refine j_nmi (fun x1 => ?_)
  refine j_istore_n hC (pc := 6) dX9_pickNext_6 rfl (Nat.le_of_ble_eq_true rfl) (loc' := [(1, .int x1), (0, .ref (gad Γ 59))]) rfl ?_
  refine j_sub [1, 0] (loc' := [(0, .ref (gad Γ 59)), (1, .int x1)]) rfl ?_
  exact wX9_pickNext_7 hC hR hm F F κ x1
theorem ctX9_pickNext {Δ : DCtx} {l : Launch} (hl : dlay Δ = layX) (hN : dN Δ = 147) (F : Nat) (κ : Mem) : ∀ r, pX9_pickNext F κ = some r → CT Δ l yX9_pickNext cX9_pickNext 2 (some .int) (rmH 0) [.ref (dad Δ 59)] κ (some (.int r.1)) r.2 :=
  ct_of (nL := 2) (ret := (some .int)) (lay := layX) (N := 147) (by decide +kernel) (fun Δ => [.ref (dad Δ 59)]) (fun _ => oE) (fun _ => (Nat.le_of_ble_eq_true rfl)) (fun Γ hR hm hC => wX9_pickNext hC hR hm F κ) Δ l hl hN
set_option maxRecDepth 20000 in
theorem wX9_goThrough_96 {Γ : JCtx} (hC : jC Γ cX9_goThrough 5 RX9 none layX 147) (hR : gR Γ = rmH 4) (hm : gcells Γ ≤ (gR Γ).cells ∧ gslots Γ ≤ (gR Γ).slots) (F : Nat) (κ : Mem) (v1 : Int32) (v3 : Int32) (v4 : Int32) (y0 : Int32) (y1 : Int32) (k46 : Mem → Int32 → Int32 → Option Mem) (hk46 : ∀ (κ : Mem) (v2 : Int32) (v3 : Int32), JP Γ (qf Γ oV) (k46 κ v2 v3) κ 46 [(0, .ref (gad Γ 59)), (1, .int v1), (2, .int v2), (3, .int v3)] []) : JP Γ (qf Γ oV) (pX9_goThrough_96 F k46 κ v1 v3 v4 y0 y1) κ 96 [(0, .ref (gad Γ 59)), (1, .int v1), (3, .int v3), (4, .int v4)] [.int y0, .int y1, .ref (gad Γ 59)] := by
  unfold pX9_goThrough_96
  refine j_iadd hC (pc := 96) dX9_goThrough_96 ?_
  refine j_putI hC (pc := 97) dX9_goThrough_97 kp_RX9_47 lX_59 (Nat.le_of_ble_eq_true rfl) rfl rfl rfl (fun κ8 => ?_)
  refine j_aload_n hC (pc := 100) dX9_goThrough_100 0 rfl rfl ?_
  refine j_aload_n hC (pc := 101) dX9_goThrough_101 0 rfl rfl ?_
  refine j_getI hC (pc := 102) dX9_goThrough_102 kf_RX9_51 lX_59 (Nat.le_of_ble_eq_true rfl) rfl ?_
  refine j_iload hC (pc := 105) dX9_goThrough_105 3 rfl ?_
  refine j_mmin hC hR kc_RX9_67 (Nat.le_of_ble_eq_true rfl) (rest := [.ref (gad Γ 59)]) (Nat.le_of_ble_eq_true rfl) hm (pc := 107) dX9_goThrough_107 ?_
  refine j_putI hC (pc := 110) dX9_goThrough_110 kp_RX9_51 lX_59 (Nat.le_of_ble_eq_true rfl) rfl rfl rfl (fun κ9 => ?_)
  refine j_aload_n hC (pc := 113) dX9_goThrough_113 0 rfl rfl ?_
  refine j_callV_E hC hR (ctX9_pickNext hC.l hC.cn F κ9) kc_RX9_73 (Nat.le_of_ble_eq_true rfl) (Nat.le_of_ble_eq_true rfl) lX_59 (Nat.le_of_ble_eq_true rfl) rfl (As := []) (rest := []) rfl rfl (Nat.le_of_ble_eq_true rfl) hm (pc := 114) dX9_goThrough_114 (fun t10 => ?_)
  refine j_istore_n hC (pc := 117) dX9_goThrough_117 rfl (Nat.le_of_ble_eq_true rfl) (loc' := [(2, .int (t10.1)), (0, .ref (gad Γ 59)), (1, .int v1), (3, .int v3), (4, .int v4)]) rfl ?_
  refine j_iinc hC (pc := 118) dX9_goThrough_118 3 rfl ki_1 (Nat.le_of_ble_eq_true rfl) (loc' := [(3, .int (v3 + 1)), (2, .int (t10.1)), (0, .ref (gad Γ 59)), (1, .int v1), (4, .int v4)]) rfl ?_
  refine j_goto hC (pc := 121) dX9_goThrough_121 (tgt := 46) rfl ?_
  refine j_sub [2, 3, 1, 0] (loc' := [(0, .ref (gad Γ 59)), (1, .int v1), (2, .int (t10.1)), (3, .int (v3 + 1))]) rfl ?_
  exact hk46 t10.2 t10.1 (v3 + 1)
set_option maxRecDepth 20000 in
theorem wX9_goThrough_54 {Γ : JCtx} (hC : jC Γ cX9_goThrough 5 RX9 none layX 147) (hR : gR Γ = rmH 4) (hm : gcells Γ ≤ (gR Γ).cells ∧ gslots Γ ≤ (gR Γ).slots) (F : Nat) (v1 : Int32) (v3 : Int32) (k46 : Mem → Int32 → Int32 → Option Mem) (hk46 : ∀ (κ : Mem) (v2 : Int32) (v3 : Int32), JP Γ (qf Γ oV) (k46 κ v2 v3) κ 46 [(0, .ref (gad Γ 59)), (1, .int v1), (2, .int v2), (3, .int v3)] []) : ∀ (n : Nat) (κ : Mem) (v4 : Int32), JP Γ (qf Γ oV) (pX9_goThrough_54 F k46 v1 v3 n κ v4) κ 54 [(0, .ref (gad Γ 59)), (1, .int v1), (3, .int v3), (4, .int v4)] [] := by
  intro n
  induction n with
  | zero =>
    intro κ v4
    rw [pX9_goThrough_54]
    exact j_none
  | succ fu ih =>
    intro κ v4
    rw [pX9_goThrough_54]
    refine j_iload hC (pc := 54) dX9_goThrough_54 3 rfl ?_
    refine j_aload_n hC (pc := 56) dX9_goThrough_56 0 rfl rfl ?_
    refine j_getI hC (pc := 57) dX9_goThrough_57 kf_RX9_57 lX_59 (Nat.le_of_ble_eq_true rfl) rfl ?_
    refine j_icmp_ge hC (pc := 60) dX9_goThrough_60 (tgt := 75) rfl ?_ ?_
    · refine j_aload_n hC (pc := 63) dX9_goThrough_63 0 rfl rfl ?_
      refine j_iload hC (pc := 64) dX9_goThrough_64 3 rfl ?_
      refine j_callV_V hC hR (ctX9_settle hC.l hC.cn F κ v4) kc_RX9_60 (Nat.le_of_ble_eq_true rfl) (Nat.le_of_ble_eq_true rfl) lX_59 (Nat.le_of_ble_eq_true rfl) rfl (As := [.int v4]) (rest := []) rfl rfl (Nat.le_of_ble_eq_true rfl) hm (pc := 66) dX9_goThrough_66 (fun t6 => ?_)
      refine j_iinc hC (pc := 69) dX9_goThrough_69 3 rfl ki_1 (Nat.le_of_ble_eq_true rfl) (loc' := [(4, .int (v4 + 1)), (0, .ref (gad Γ 59)), (1, .int v1), (3, .int v3)]) rfl ?_
      refine j_goto hC (pc := 72) dX9_goThrough_72 (tgt := 54) rfl ?_
      refine j_sub [1, 2, 3, 0] (loc' := [(0, .ref (gad Γ 59)), (1, .int v1), (3, .int v3), (4, .int (v4 + 1))]) rfl ?_
      exact ih t6 (v4 + 1)
    · refine j_aload_n hC (pc := 75) dX9_goThrough_75 0 rfl rfl ?_
      refine j_callV_I hC hR (ctX9_stillOpen hC.l hC.cn F κ) kc_RX9_64 (Nat.le_of_ble_eq_true rfl) (Nat.le_of_ble_eq_true rfl) lX_59 (Nat.le_of_ble_eq_true rfl) rfl (As := []) (rest := []) rfl rfl (Nat.le_of_ble_eq_true rfl) hm (pc := 76) dX9_goThrough_76 (fun t7 => ?_)
      refine j_istore hC (pc := 79) dX9_goThrough_79 (Nat.le_of_ble_eq_true rfl) (loc' := [(4, .int t7), (0, .ref (gad Γ 59)), (1, .int v1), (3, .int v3)]) rfl ?_
      refine j_aload_n hC (pc := 81) dX9_goThrough_81 1 rfl rfl ?_
      refine j_dup hC (pc := 82) dX9_goThrough_82 rfl ?_
      refine j_getI hC (pc := 83) dX9_goThrough_83 kf_RX9_47 lX_59 (Nat.le_of_ble_eq_true rfl) rfl ?_
      refine j_iload hC (pc := 86) dX9_goThrough_86 0 rfl ?_
      refine j_if_ne hC (pc := 88) dX9_goThrough_88 (tgt := 95) rfl ?_ ?_
      · refine j_iconst hC (pc := 91) dX9_goThrough_91 ki_1 ?_
        refine j_goto hC (pc := 92) dX9_goThrough_92 (tgt := 96) rfl ?_
        refine j_sub [1, 2, 3, 0] (loc' := [(0, .ref (gad Γ 59)), (1, .int v1), (3, .int v3), (4, .int t7)]) rfl ?_
        exact wX9_goThrough_96 hC hR hm F κ v1 v3 t7 1 (mi κ 59 8) k46 hk46
      · refine j_iconst hC (pc := 95) dX9_goThrough_95 ki_0 ?_
        refine j_sub [1, 2, 3, 0] (loc' := [(0, .ref (gad Γ 59)), (1, .int v1), (3, .int v3), (4, .int t7)]) rfl ?_
        exact wX9_goThrough_96 hC hR hm F κ v1 v3 t7 0 (mi κ 59 8) k46 hk46
set_option maxRecDepth 20000 in
theorem wX9_goThrough_46 {Γ : JCtx} (hC : jC Γ cX9_goThrough 5 RX9 none layX 147) (hR : gR Γ = rmH 4) (hm : gcells Γ ≤ (gR Γ).cells ∧ gslots Γ ≤ (gR Γ).slots) (F : Nat) (v1 : Int32) : ∀ (n : Nat) (κ : Mem) (v2 : Int32) (v3 : Int32), JP Γ (qf Γ oV) (pX9_goThrough_46 F v1 n κ v2 v3) κ 46 [(0, .ref (gad Γ 59)), (1, .int v1), (2, .int v2), (3, .int v3)] [] := by
  intro n
  induction n with
  | zero =>
    intro κ v2 v3
    rw [pX9_goThrough_46]
    exact j_none
  | succ fu ih =>
    intro κ v2 v3
    rw [pX9_goThrough_46]
    refine j_iload_n hC (pc := 46) dX9_goThrough_46 3 rfl rfl ?_
    refine j_iload_n hC (pc := 47) dX9_goThrough_47 1 rfl rfl ?_
    refine j_icmp_ge hC (pc := 48) dX9_goThrough_48 (tgt := 124) rfl ?_ ?_
    · refine j_iload_n hC (pc := 51) dX9_goThrough_51 2 rfl rfl ?_
      refine j_istore hC (pc := 52) dX9_goThrough_52 (Nat.le_of_ble_eq_true rfl) (loc' := [(4, .int v2), (0, .ref (gad Γ 59)), (1, .int v1), (2, .int v2), (3, .int v3)]) rfl ?_
      refine j_sub [1, 2, 4, 0] (loc' := [(0, .ref (gad Γ 59)), (1, .int v1), (3, .int v3), (4, .int v2)]) rfl ?_
      exact wX9_goThrough_54 hC hR hm F v1 v3 (pX9_goThrough_46 F v1 fu) ih F κ v2
    · exact j_vret hC (pc := 124) dX9_goThrough_124 rfl rfl
set_option maxRecDepth 20000 in
theorem wX9_goThrough {Γ : JCtx} (hC : jC Γ cX9_goThrough 5 RX9 none layX 147) (hR : gR Γ = rmH 4) (hm : gcells Γ ≤ (gR Γ).cells ∧ gslots Γ ≤ (gR Γ).slots) (F : Nat) (κ : Mem) : JP Γ (qf Γ oV) (pX9_goThrough F κ) κ 0 [(0, .ref (gad Γ 59))] [] := by
  unfold pX9_goThrough
  refine j_aload_n hC (pc := 0) dX9_goThrough_0 0 rfl rfl ?_
  refine j_getR hC (pc := 1) dX9_goThrough_1 kf_RX9_36 lX_59 (Nat.le_of_ble_eq_true rfl) rfl ?_
  refine j_callV_I hC hR (ctX2_waysToGuess hC.l hC.cn 1 isG_1 F κ) kc_RX9_37 (Nat.le_of_ble_eq_true rfl) (Nat.le_of_ble_eq_true rfl) lX_1 (Nat.le_of_ble_eq_true rfl) rfl (As := []) (rest := []) rfl rfl (Nat.le_of_ble_eq_true rfl) hm (pc := 4) dX9_goThrough_4 (fun t1 => ?_)
  refine j_istore_n hC (pc := 7) dX9_goThrough_7 rfl (Nat.le_of_ble_eq_true rfl) (loc' := [(1, .int t1), (0, .ref (gad Γ 59))]) rfl ?_
  refine j_aload_n hC (pc := 8) dX9_goThrough_8 1 rfl rfl ?_
  refine j_callV_I hC hR (ctX9_someHasOneColour hC.l hC.cn F κ) kc_RX9_43 (Nat.le_of_ble_eq_true rfl) (Nat.le_of_ble_eq_true rfl) lX_59 (Nat.le_of_ble_eq_true rfl) rfl (As := []) (rest := []) rfl rfl (Nat.le_of_ble_eq_true rfl) hm (pc := 9) dX9_goThrough_9 (fun t2 => ?_)
  refine j_if_eq hC (pc := 12) dX9_goThrough_12 (tgt := 26) rfl ?_ ?_
  · refine j_aload_n hC (pc := 26) dX9_goThrough_26 1 rfl rfl ?_
    refine j_iconst hC (pc := 27) dX9_goThrough_27 ki_0 ?_
    refine j_putI hC (pc := 28) dX9_goThrough_28 kp_RX9_47 lX_59 (Nat.le_of_ble_eq_true rfl) rfl rfl rfl (fun κ3 => ?_)
    refine j_aload_n hC (pc := 31) dX9_goThrough_31 1 rfl rfl ?_
    refine j_sipush hC (pc := 32) dX9_goThrough_32 ks_4096 ?_
    refine j_putI hC (pc := 35) dX9_goThrough_35 kp_RX9_51 lX_59 (Nat.le_of_ble_eq_true rfl) rfl rfl rfl (fun κ4 => ?_)
    refine j_aload_n hC (pc := 38) dX9_goThrough_38 1 rfl rfl ?_
    refine j_callV_V hC hR (ctX9_layOut hC.l hC.cn F κ4) kc_RX9_54 (Nat.le_of_ble_eq_true rfl) (Nat.le_of_ble_eq_true rfl) lX_59 (Nat.le_of_ble_eq_true rfl) rfl (As := []) (rest := []) rfl rfl (Nat.le_of_ble_eq_true rfl) hm (pc := 39) dX9_goThrough_39 (fun t5 => ?_)
    refine j_iconst hC (pc := 42) dX9_goThrough_42 ki_0 ?_
    refine j_istore_n hC (pc := 43) dX9_goThrough_43 rfl (Nat.le_of_ble_eq_true rfl) (loc' := [(2, .int 0), (1, .int t1), (0, .ref (gad Γ 59))]) rfl ?_
    refine j_iconst hC (pc := 44) dX9_goThrough_44 ki_0 ?_
    refine j_istore_n hC (pc := 45) dX9_goThrough_45 rfl (Nat.le_of_ble_eq_true rfl) (loc' := [(3, .int 0), (2, .int 0), (1, .int t1), (0, .ref (gad Γ 59))]) rfl ?_
    refine j_sub [3, 2, 1, 0] (loc' := [(0, .ref (gad Γ 59)), (1, .int t1), (2, .int 0), (3, .int 0)]) rfl ?_
    exact wX9_goThrough_46 hC hR hm F t1 F t5 0 0
  · refine j_aload_n hC (pc := 15) dX9_goThrough_15 1 rfl rfl ?_
    refine j_iload_n hC (pc := 16) dX9_goThrough_16 0 rfl rfl ?_
    refine j_putI hC (pc := 17) dX9_goThrough_17 kp_RX9_47 lX_59 (Nat.le_of_ble_eq_true rfl) rfl rfl rfl (fun κ11 => ?_)
    refine j_aload_n hC (pc := 20) dX9_goThrough_20 1 rfl rfl ?_
    refine j_iconst hC (pc := 21) dX9_goThrough_21 ki_0 ?_
    refine j_putI hC (pc := 22) dX9_goThrough_22 kp_RX9_51 lX_59 (Nat.le_of_ble_eq_true rfl) rfl rfl rfl (fun κ12 => ?_)
    exact j_vret hC (pc := 25) dX9_goThrough_25 rfl rfl
theorem ctX9_goThrough {Δ : DCtx} {l : Launch} (hl : dlay Δ = layX) (hN : dN Δ = 147) (F : Nat) (κ : Mem) : ∀ r, pX9_goThrough F κ = some r → CT Δ l yX9_goThrough cX9_goThrough 5 none (rmH 4) [.ref (dad Δ 59)] κ none r :=
  ct_of (nL := 5) (ret := none) (lay := layX) (N := 147) (by decide +kernel) (fun Δ => [.ref (dad Δ 59)]) (fun _ => oV) (fun _ => (Nat.le_of_ble_eq_true rfl)) (fun Γ hR hm hC => wX9_goThrough hC hR hm F κ) Δ l hl hN
set_option maxRecDepth 20000 in
theorem wX1_judgeAgain {Γ : JCtx} (hC : jC Γ cX1_judgeAgain 2 RX1 none layX 147) (hR : gR Γ = rmH 2) (hm : gcells Γ ≤ (gR Γ).cells ∧ gslots Γ ≤ (gR Γ).slots) (F : Nat) (κ : Mem) (v1 : Int32) : JP Γ (qf Γ oV) (pX1_judgeAgain F κ v1) κ 0 [(0, .ref (gad Γ 41)), (1, .int v1)] [] := by
  unfold pX1_judgeAgain
  refine j_aload_n hC (pc := 0) dX1_judgeAgain_0 0 rfl rfl ?_
  refine j_iload_n hC (pc := 1) dX1_judgeAgain_1 1 rfl rfl ?_
  refine j_callV_V hC hR (ctX1_judge hC.l hC.cn F κ v1) kc_RX1_59 (Nat.le_of_ble_eq_true rfl) (Nat.le_of_ble_eq_true rfl) lX_41 (Nat.le_of_ble_eq_true rfl) rfl (As := [.int v1]) (rest := []) rfl rfl (Nat.le_of_ble_eq_true rfl) hm (pc := 2) dX1_judgeAgain_2 (fun t1 => ?_)
  refine j_aload_n hC (pc := 5) dX1_judgeAgain_5 0 rfl rfl ?_
  refine j_callV_V hC hR (ctX1_tally hC.l hC.cn F t1) kc_RX1_63 (Nat.le_of_ble_eq_true rfl) (Nat.le_of_ble_eq_true rfl) lX_41 (Nat.le_of_ble_eq_true rfl) rfl (As := []) (rest := []) rfl rfl (Nat.le_of_ble_eq_true rfl) hm (pc := 6) dX1_judgeAgain_6 (fun t2 => ?_)
  exact j_vret hC (pc := 9) dX1_judgeAgain_9 rfl rfl
theorem ctX1_judgeAgain {Δ : DCtx} {l : Launch} (hl : dlay Δ = layX) (hN : dN Δ = 147) (F : Nat) (κ : Mem) (v1 : Int32) : ∀ r, pX1_judgeAgain F κ v1 = some r → CT Δ l yX1_judgeAgain cX1_judgeAgain 2 none (rmH 2) [.ref (dad Δ 41), .int v1] κ none r :=
  ct_of (nL := 2) (ret := none) (lay := layX) (N := 147) (by decide +kernel) (fun Δ => [.ref (dad Δ 41), .int v1]) (fun _ => oV) (fun _ => (Nat.le_of_ble_eq_true rfl)) (fun Γ hR hm hC => wX1_judgeAgain hC hR hm F κ v1) Δ l hl hN
set_option maxRecDepth 20000 in
theorem wX1_takeBest_60 {Γ : JCtx} (hC : jC Γ cX1_takeBest 5 RX1 (some .int) layX 147) (hR : gR Γ = rmH 3) (hm : gcells Γ ≤ (gR Γ).cells ∧ gslots Γ ≤ (gR Γ).slots) (F : Nat) (κ : Mem) (v1 : Int32) (v2 : Int32) (v3 : Int32) (v4 : Int32) (k14 : Mem → Int32 → Int32 → Option (Int32 × Mem)) (hk14 : ∀ (κ : Mem) (v2 : Int32) (v4 : Int32), JP Γ (qf Γ oE) (k14 κ v2 v4) κ 14 [(0, .ref (gad Γ 41)), (1, .int v1), (2, .int v2), (3, .int v3), (4, .int v4)] []) : JP Γ (qf Γ oE) (pX1_takeBest_60 F k14 κ v1 v2 v3 v4) κ 60 [(0, .ref (gad Γ 41)), (1, .int v1), (2, .int v2), (3, .int v3), (4, .int v4)] [] := by
  unfold pX1_takeBest_60
  refine j_iinc hC (pc := 60) dX1_takeBest_60 4 rfl ki_1 (Nat.le_of_ble_eq_true rfl) (loc' := [(4, .int (v4 + 1)), (0, .ref (gad Γ 41)), (1, .int v1), (2, .int v2), (3, .int v3)]) rfl ?_
  refine j_goto hC (pc := 63) dX1_takeBest_63 (tgt := 14) rfl ?_
  refine j_sub [1, 2, 3, 4, 0] (loc' := [(0, .ref (gad Γ 41)), (1, .int v1), (2, .int v2), (3, .int v3), (4, .int (v4 + 1))]) rfl ?_
  exact hk14 κ v2 (v4 + 1)
set_option maxRecDepth 20000 in
theorem wX1_takeBest_75 {Γ : JCtx} (hC : jC Γ cX1_takeBest 5 RX1 (some .int) layX 147) (hR : gR Γ = rmH 3) (hm : gcells Γ ≤ (gR Γ).cells ∧ gslots Γ ≤ (gR Γ).slots) (F : Nat) (κ : Mem) (v2 : Int32) : JP Γ (qf Γ oE) (pX1_takeBest_75 F κ v2) κ 75 [(2, .int v2)] [] := by
  unfold pX1_takeBest_75
  refine j_iload_n hC (pc := 75) dX1_takeBest_75 0 rfl rfl ?_
  exact j_iret hC (pc := 76) dX1_takeBest_76 rfl rfl rfl
set_option maxRecDepth 20000 in
theorem wX1_takeBest_14 {Γ : JCtx} (hC : jC Γ cX1_takeBest 5 RX1 (some .int) layX 147) (hR : gR Γ = rmH 3) (hm : gcells Γ ≤ (gR Γ).cells ∧ gslots Γ ≤ (gR Γ).slots) (F : Nat) (v1 : Int32) (v3 : Int32) : ∀ (n : Nat) (κ : Mem) (v2 : Int32) (v4 : Int32), JP Γ (qf Γ oE) (pX1_takeBest_14 F v1 v3 n κ v2 v4) κ 14 [(0, .ref (gad Γ 41)), (1, .int v1), (2, .int v2), (3, .int v3), (4, .int v4)] [] := by
  intro n
  induction n with
  | zero =>
    intro κ v2 v4
    rw [pX1_takeBest_14]
    exact j_none
  | succ fu ih =>
    intro κ v2 v4
    rw [pX1_takeBest_14]
    refine j_iload hC (pc := 14) dX1_takeBest_14 4 rfl ?_
    refine j_iload_n hC (pc := 16) dX1_takeBest_16 3 rfl rfl ?_
    refine j_icmp_ge hC (pc := 17) dX1_takeBest_17 (tgt := 66) rfl ?_ ?_
    · refine j_aload_n hC (pc := 20) dX1_takeBest_20 0 rfl rfl ?_
      refine j_getR hC (pc := 21) dX1_takeBest_21 kf_RX1_36 lX_41 (Nat.le_of_ble_eq_true rfl) rfl ?_
      refine j_iload_n hC (pc := 24) dX1_takeBest_24 1 rfl rfl ?_
      refine j_iload hC (pc := 25) dX1_takeBest_25 4 rfl ?_
      refine j_callV_I hC hR (ctX2_told hC.l hC.cn 1 isG_1 κ v1 v4) kc_RX1_66 (Nat.le_of_ble_eq_true rfl) (Nat.le_of_ble_eq_true rfl) lX_1 (Nat.le_of_ble_eq_true rfl) rfl (As := [.int v1, .int v4]) (rest := []) rfl rfl (Nat.le_of_ble_eq_true rfl) hm (pc := 27) dX1_takeBest_27 (fun t2 => ?_)
      refine j_aload_n hC (pc := 30) dX1_takeBest_30 0 rfl rfl ?_
      refine j_getR hC (pc := 31) dX1_takeBest_31 kf_RX1_30 lX_41 (Nat.le_of_ble_eq_true rfl) rfl ?_
      refine j_iload hC (pc := 34) dX1_takeBest_34 4 rfl ?_
      refine j_iald hC (pc := 36) dX1_takeBest_36 lX_52 (Nat.le_of_ble_eq_true rfl) ?_
      refine j_icmp_eq hC (pc := 37) dX1_takeBest_37 (tgt := 60) rfl ?_ ?_
      · exact wX1_takeBest_60 hC hR hm F κ v1 v2 v3 v4 (pX1_takeBest_14 F v1 v3 fu) ih
      · refine j_aload_n hC (pc := 40) dX1_takeBest_40 0 rfl rfl ?_
        refine j_getR hC (pc := 41) dX1_takeBest_41 kf_RX1_36 lX_41 (Nat.le_of_ble_eq_true rfl) rfl ?_
        refine j_iload_n hC (pc := 44) dX1_takeBest_44 1 rfl rfl ?_
        refine j_iload hC (pc := 45) dX1_takeBest_45 4 rfl ?_
        refine j_aload_n hC (pc := 47) dX1_takeBest_47 0 rfl rfl ?_
        refine j_getR hC (pc := 48) dX1_takeBest_48 kf_RX1_30 lX_41 (Nat.le_of_ble_eq_true rfl) rfl ?_
        refine j_iload hC (pc := 51) dX1_takeBest_51 4 rfl ?_
        refine j_iald hC (pc := 53) dX1_takeBest_53 lX_52 (Nat.le_of_ble_eq_true rfl) ?_
        refine j_callV_V hC hR (ctX2_tell hC.l hC.cn 1 isG_1 κ v1 v4 (mi κ 52 v4.toNatClampNeg)) kc_RX1_103 (Nat.le_of_ble_eq_true rfl) (Nat.le_of_ble_eq_true rfl) lX_1 (Nat.le_of_ble_eq_true rfl) rfl (As := [.int v1, .int v4, .int (mi κ 52 v4.toNatClampNeg)]) (rest := []) rfl rfl (Nat.le_of_ble_eq_true rfl) hm (pc := 54) dX1_takeBest_54 (fun t3 => ?_)
        refine j_iinc hC (pc := 57) dX1_takeBest_57 2 rfl ki_1 (Nat.le_of_ble_eq_true rfl) (loc' := [(2, .int (v2 + 1)), (0, .ref (gad Γ 41)), (1, .int v1), (3, .int v3), (4, .int v4)]) rfl ?_
        refine j_sub [1, 2, 0, 3, 4] (loc' := [(0, .ref (gad Γ 41)), (1, .int v1), (2, .int (v2 + 1)), (3, .int v3), (4, .int v4)]) rfl ?_
        exact wX1_takeBest_60 hC hR hm F t3 v1 (v2 + 1) v3 v4 (pX1_takeBest_14 F v1 v3 fu) ih
    · refine j_iload_n hC (pc := 66) dX1_takeBest_66 2 rfl rfl ?_
      refine j_if_le hC (pc := 67) dX1_takeBest_67 (tgt := 75) rfl ?_ ?_
      · refine j_sub [2] (loc' := [(2, .int v2)]) rfl ?_
        exact wX1_takeBest_75 hC hR hm F κ v2
      · refine j_aload_n hC (pc := 70) dX1_takeBest_70 0 rfl rfl ?_
        refine j_iload_n hC (pc := 71) dX1_takeBest_71 1 rfl rfl ?_
        refine j_callV_V hC hR (ctX1_judgeAgain hC.l hC.cn F κ v1) kc_RX1_107 (Nat.le_of_ble_eq_true rfl) (Nat.le_of_ble_eq_true rfl) lX_41 (Nat.le_of_ble_eq_true rfl) rfl (As := [.int v1]) (rest := []) rfl rfl (Nat.le_of_ble_eq_true rfl) hm (pc := 72) dX1_takeBest_72 (fun t4 => ?_)
        refine j_sub [2] (loc' := [(2, .int v2)]) rfl ?_
        exact wX1_takeBest_75 hC hR hm F t4 v2
set_option maxRecDepth 20000 in
theorem wX1_takeBest {Γ : JCtx} (hC : jC Γ cX1_takeBest 5 RX1 (some .int) layX 147) (hR : gR Γ = rmH 3) (hm : gcells Γ ≤ (gR Γ).cells ∧ gslots Γ ≤ (gR Γ).slots) (F : Nat) (κ : Mem) (v1 : Int32) : JP Γ (qf Γ oE) (pX1_takeBest F κ v1) κ 0 [(0, .ref (gad Γ 41)), (1, .int v1)] [] := by
  unfold pX1_takeBest
  refine j_iconst hC (pc := 0) dX1_takeBest_0 ki_0 ?_
  refine j_istore_n hC (pc := 1) dX1_takeBest_1 rfl (Nat.le_of_ble_eq_true rfl) (loc' := [(2, .int 0), (0, .ref (gad Γ 41)), (1, .int v1)]) rfl ?_
  refine j_aload_n hC (pc := 2) dX1_takeBest_2 1 rfl rfl ?_
  refine j_getR hC (pc := 3) dX1_takeBest_3 kf_RX1_36 lX_41 (Nat.le_of_ble_eq_true rfl) rfl ?_
  refine j_iload_n hC (pc := 6) dX1_takeBest_6 2 rfl rfl ?_
  refine j_callV_I hC hR (ctX2_situations hC.l hC.cn 1 isG_1 F κ v1) kc_RX1_72 (Nat.le_of_ble_eq_true rfl) (Nat.le_of_ble_eq_true rfl) lX_1 (Nat.le_of_ble_eq_true rfl) rfl (As := [.int v1]) (rest := []) rfl rfl (Nat.le_of_ble_eq_true rfl) hm (pc := 7) dX1_takeBest_7 (fun t1 => ?_)
  refine j_istore_n hC (pc := 10) dX1_takeBest_10 rfl (Nat.le_of_ble_eq_true rfl) (loc' := [(3, .int t1), (2, .int 0), (0, .ref (gad Γ 41)), (1, .int v1)]) rfl ?_
  refine j_iconst hC (pc := 11) dX1_takeBest_11 ki_0 ?_
  refine j_istore hC (pc := 12) dX1_takeBest_12 (Nat.le_of_ble_eq_true rfl) (loc' := [(4, .int 0), (3, .int t1), (2, .int 0), (0, .ref (gad Γ 41)), (1, .int v1)]) rfl ?_
  refine j_sub [3, 4, 2, 1, 0] (loc' := [(0, .ref (gad Γ 41)), (1, .int v1), (2, .int 0), (3, .int t1), (4, .int 0)]) rfl ?_
  exact wX1_takeBest_14 hC hR hm F v1 t1 F κ 0 0
theorem ctX1_takeBest {Δ : DCtx} {l : Launch} (hl : dlay Δ = layX) (hN : dN Δ = 147) (F : Nat) (κ : Mem) (v1 : Int32) : ∀ r, pX1_takeBest F κ v1 = some r → CT Δ l yX1_takeBest cX1_takeBest 5 (some .int) (rmH 3) [.ref (dad Δ 41), .int v1] κ (some (.int r.1)) r.2 :=
  ct_of (nL := 5) (ret := (some .int)) (lay := layX) (N := 147) (by decide +kernel) (fun Δ => [.ref (dad Δ 41), .int v1]) (fun _ => oE) (fun _ => (Nat.le_of_ble_eq_true rfl)) (fun Γ hR hm hC => wX1_takeBest hC hR hm F κ v1) Δ l hl hN
set_option maxRecDepth 20000 in
theorem wX1_improve_76 {Γ : JCtx} (hC : jC Γ cX1_improve 5 RX1 (some .int) layX 147) (hR : gR Γ = rmH 4) (hm : gcells Γ ≤ (gR Γ).cells ∧ gslots Γ ≤ (gR Γ).slots) (F : Nat) (κ : Mem) (v1 : Int32) (v2 : Int32) (v4 : Int32) (y0 : Int32) (k9 : Mem → Int32 → Int32 → Int32 → Int32 → Option (Int32 × Mem)) (hk9 : ∀ (κ : Mem) (v1 : Int32) (v2 : Int32) (v3 : Int32) (v4 : Int32), JP Γ (qf Γ oE) (k9 κ v1 v2 v3 v4) κ 9 [(0, .ref (gad Γ 41)), (1, .int v1), (2, .int v2), (3, .int v3), (4, .int v4)] []) : JP Γ (qf Γ oE) (pX1_improve_76 F k9 κ v1 v2 v4 y0) κ 76 [(0, .ref (gad Γ 41)), (1, .int v1), (2, .int v2), (4, .int v4)] [.int y0] := by
  unfold pX1_improve_76
  refine j_istore_n hC (pc := 76) dX1_improve_76 rfl (Nat.le_of_ble_eq_true rfl) (loc' := [(3, .int y0), (0, .ref (gad Γ 41)), (1, .int v1), (2, .int v2), (4, .int v4)]) rfl ?_
  refine j_iinc hC (pc := 77) dX1_improve_77 4 rfl ki_1 (Nat.le_of_ble_eq_true rfl) (loc' := [(4, .int (v4 + 1)), (3, .int y0), (0, .ref (gad Γ 41)), (1, .int v1), (2, .int v2)]) rfl ?_
  refine j_goto hC (pc := 80) dX1_improve_80 (tgt := 9) rfl ?_
  refine j_sub [2, 3, 4, 1, 0] (loc' := [(0, .ref (gad Γ 41)), (1, .int v1), (2, .int v2), (3, .int y0), (4, .int (v4 + 1))]) rfl ?_
  exact hk9 κ v1 v2 y0 (v4 + 1)
set_option maxRecDepth 20000 in
theorem wX1_improve_56 {Γ : JCtx} (hC : jC Γ cX1_improve 5 RX1 (some .int) layX 147) (hR : gR Γ = rmH 4) (hm : gcells Γ ≤ (gR Γ).cells ∧ gslots Γ ≤ (gR Γ).slots) (F : Nat) (κ : Mem) (v1 : Int32) (v2 : Int32) (v3 : Int32) (v4 : Int32) (k9 : Mem → Int32 → Int32 → Int32 → Int32 → Option (Int32 × Mem)) (hk9 : ∀ (κ : Mem) (v1 : Int32) (v2 : Int32) (v3 : Int32) (v4 : Int32), JP Γ (qf Γ oE) (k9 κ v1 v2 v3 v4) κ 9 [(0, .ref (gad Γ 41)), (1, .int v1), (2, .int v2), (3, .int v3), (4, .int v4)] []) : JP Γ (qf Γ oE) (pX1_improve_56 F k9 κ v1 v2 v3 v4) κ 56 [(0, .ref (gad Γ 41)), (1, .int v1), (2, .int v2), (3, .int v3), (4, .int v4)] [] := by
  unfold pX1_improve_56
  refine j_iload_n hC (pc := 56) dX1_improve_56 3 rfl rfl ?_
  refine j_iconst hC (pc := 57) dX1_improve_57 ki_1 ?_
  refine j_iadd hC (pc := 58) dX1_improve_58 ?_
  refine j_aload_n hC (pc := 59) dX1_improve_59 0 rfl rfl ?_
  refine j_getR hC (pc := 60) dX1_improve_60 kf_RX1_36 lX_41 (Nat.le_of_ble_eq_true rfl) rfl ?_
  refine j_getI hC (pc := 63) dX1_improve_63 kf_RX1_40 lX_1 (Nat.le_of_ble_eq_true rfl) rfl ?_
  refine j_icmp_ge hC (pc := 66) dX1_improve_66 (tgt := 75) rfl ?_ ?_
  · refine j_iload_n hC (pc := 69) dX1_improve_69 3 rfl rfl ?_
    refine j_iconst hC (pc := 70) dX1_improve_70 ki_1 ?_
    refine j_iadd hC (pc := 71) dX1_improve_71 ?_
    refine j_goto hC (pc := 72) dX1_improve_72 (tgt := 76) rfl ?_
    refine j_sub [0, 1, 2, 4] (loc' := [(0, .ref (gad Γ 41)), (1, .int v1), (2, .int v2), (4, .int v4)]) rfl ?_
    exact wX1_improve_76 hC hR hm F κ v1 v2 v4 (v3 + 1) k9 hk9
  · refine j_iconst hC (pc := 75) dX1_improve_75 ki_0 ?_
    refine j_sub [0, 1, 2, 4] (loc' := [(0, .ref (gad Γ 41)), (1, .int v1), (2, .int v2), (4, .int v4)]) rfl ?_
    exact wX1_improve_76 hC hR hm F κ v1 v2 v4 0 k9 hk9
set_option maxRecDepth 20000 in
theorem wX1_improve_83 {Γ : JCtx} (hC : jC Γ cX1_improve 5 RX1 (some .int) layX 147) (hR : gR Γ = rmH 4) (hm : gcells Γ ≤ (gR Γ).cells ∧ gslots Γ ≤ (gR Γ).slots) (F : Nat) (κ : Mem) (v1 : Int32) : JP Γ (qf Γ oE) (pX1_improve_83 F κ v1) κ 83 [(1, .int v1)] [] := by
  unfold pX1_improve_83
  refine j_iload_n hC (pc := 83) dX1_improve_83 0 rfl rfl ?_
  exact j_iret hC (pc := 84) dX1_improve_84 rfl rfl rfl
set_option maxRecDepth 20000 in
theorem wX1_improve_9 {Γ : JCtx} (hC : jC Γ cX1_improve 5 RX1 (some .int) layX 147) (hR : gR Γ = rmH 4) (hm : gcells Γ ≤ (gR Γ).cells ∧ gslots Γ ≤ (gR Γ).slots) (F : Nat) : ∀ (n : Nat) (κ : Mem) (v1 : Int32) (v2 : Int32) (v3 : Int32) (v4 : Int32), JP Γ (qf Γ oE) (pX1_improve_9 F n κ v1 v2 v3 v4) κ 9 [(0, .ref (gad Γ 41)), (1, .int v1), (2, .int v2), (3, .int v3), (4, .int v4)] [] := by
  intro n
  induction n with
  | zero =>
    intro κ v1 v2 v3 v4
    rw [pX1_improve_9]
    exact j_none
  | succ fu ih =>
    intro κ v1 v2 v3 v4
    rw [pX1_improve_9]
    refine j_iload hC (pc := 9) dX1_improve_9 4 rfl ?_
    refine j_ldc hC (pc := 11) dX1_improve_11 w_536 ?_
    refine j_icmp_ge hC (pc := 13) dX1_improve_13 (tgt := 83) rfl ?_ ?_
    · refine j_iload_n hC (pc := 16) dX1_improve_16 2 rfl rfl ?_
      refine j_aload_n hC (pc := 17) dX1_improve_17 0 rfl rfl ?_
      refine j_getR hC (pc := 18) dX1_improve_18 kf_RX1_36 lX_41 (Nat.le_of_ble_eq_true rfl) rfl ?_
      refine j_getI hC (pc := 21) dX1_improve_21 kf_RX1_40 lX_1 (Nat.le_of_ble_eq_true rfl) rfl ?_
      refine j_icmp_ge hC (pc := 24) dX1_improve_24 (tgt := 83) rfl ?_ ?_
      · refine j_aload_n hC (pc := 27) dX1_improve_27 0 rfl rfl ?_
        refine j_iload_n hC (pc := 28) dX1_improve_28 3 rfl rfl ?_
        refine j_callV_E hC hR (ctX1_weighBest hC.l hC.cn F κ v3) kc_RX1_111 (Nat.le_of_ble_eq_true rfl) (Nat.le_of_ble_eq_true rfl) lX_41 (Nat.le_of_ble_eq_true rfl) rfl (As := [.int v3]) (rest := []) rfl rfl (Nat.le_of_ble_eq_true rfl) hm (pc := 29) dX1_improve_29 (fun t1 => ?_)
        refine j_aload_n hC (pc := 32) dX1_improve_32 0 rfl rfl ?_
        refine j_callV_I hC hR (ctX1_lostInAll hC.l hC.cn t1.2) kc_RX1_93 (Nat.le_of_ble_eq_true rfl) (Nat.le_of_ble_eq_true rfl) lX_41 (Nat.le_of_ble_eq_true rfl) rfl (As := []) (rest := [.int (t1.1)]) rfl rfl (Nat.le_of_ble_eq_true rfl) hm (pc := 33) dX1_improve_33 (fun t2 => ?_)
        refine j_icmp_ge hC (pc := 36) dX1_improve_36 (tgt := 53) rfl ?_ ?_
        · refine j_aload_n hC (pc := 39) dX1_improve_39 0 rfl rfl ?_
          refine j_iload_n hC (pc := 40) dX1_improve_40 3 rfl rfl ?_
          refine j_callV_E hC hR (ctX1_takeBest hC.l hC.cn F t1.2 v3) kc_RX1_114 (Nat.le_of_ble_eq_true rfl) (Nat.le_of_ble_eq_true rfl) lX_41 (Nat.le_of_ble_eq_true rfl) rfl (As := [.int v3]) (rest := []) rfl rfl (Nat.le_of_ble_eq_true rfl) hm (pc := 41) dX1_improve_41 (fun t3 => ?_)
          refine j_pop hC (pc := 44) dX1_improve_44 rfl ?_
          refine j_iinc hC (pc := 45) dX1_improve_45 1 rfl ki_1 (Nat.le_of_ble_eq_true rfl) (loc' := [(1, .int (v1 + 1)), (0, .ref (gad Γ 41)), (2, .int v2), (3, .int v3), (4, .int v4)]) rfl ?_
          refine j_iconst hC (pc := 48) dX1_improve_48 ki_0 ?_
          refine j_istore_n hC (pc := 49) dX1_improve_49 rfl (Nat.le_of_ble_eq_true rfl) (loc' := [(2, .int 0), (1, .int (v1 + 1)), (0, .ref (gad Γ 41)), (3, .int v3), (4, .int v4)]) rfl ?_
          refine j_goto hC (pc := 50) dX1_improve_50 (tgt := 56) rfl ?_
          refine j_sub [2, 1, 0, 3, 4] (loc' := [(0, .ref (gad Γ 41)), (1, .int (v1 + 1)), (2, .int 0), (3, .int v3), (4, .int v4)]) rfl ?_
          exact wX1_improve_56 hC hR hm F t3.2 (v1 + 1) 0 v3 v4 (pX1_improve_9 F fu) ih
        · refine j_iinc hC (pc := 53) dX1_improve_53 2 rfl ki_1 (Nat.le_of_ble_eq_true rfl) (loc' := [(2, .int (v2 + 1)), (0, .ref (gad Γ 41)), (1, .int v1), (3, .int v3), (4, .int v4)]) rfl ?_
          refine j_sub [1, 2, 0, 3, 4] (loc' := [(0, .ref (gad Γ 41)), (1, .int v1), (2, .int (v2 + 1)), (3, .int v3), (4, .int v4)]) rfl ?_
          exact wX1_improve_56 hC hR hm F t1.2 v1 (v2 + 1) v3 v4 (pX1_improve_9 F fu) ih
      · refine j_sub [1] (loc' := [(1, .int v1)]) rfl ?_
        exact wX1_improve_83 hC hR hm F κ v1
    · refine j_sub [1] (loc' := [(1, .int v1)]) rfl ?_
      exact wX1_improve_83 hC hR hm F κ v1
set_option maxRecDepth 20000 in
theorem wX1_improve {Γ : JCtx} (hC : jC Γ cX1_improve 5 RX1 (some .int) layX 147) (hR : gR Γ = rmH 4) (hm : gcells Γ ≤ (gR Γ).cells ∧ gslots Γ ≤ (gR Γ).slots) (F : Nat) (κ : Mem) : JP Γ (qf Γ oE) (pX1_improve F κ) κ 0 [(0, .ref (gad Γ 41))] [] := by
  unfold pX1_improve
  refine j_iconst hC (pc := 0) dX1_improve_0 ki_0 ?_
  refine j_istore_n hC (pc := 1) dX1_improve_1 rfl (Nat.le_of_ble_eq_true rfl) (loc' := [(1, .int 0), (0, .ref (gad Γ 41))]) rfl ?_
  refine j_iconst hC (pc := 2) dX1_improve_2 ki_0 ?_
  refine j_istore_n hC (pc := 3) dX1_improve_3 rfl (Nat.le_of_ble_eq_true rfl) (loc' := [(2, .int 0), (1, .int 0), (0, .ref (gad Γ 41))]) rfl ?_
  refine j_iconst hC (pc := 4) dX1_improve_4 ki_0 ?_
  refine j_istore_n hC (pc := 5) dX1_improve_5 rfl (Nat.le_of_ble_eq_true rfl) (loc' := [(3, .int 0), (2, .int 0), (1, .int 0), (0, .ref (gad Γ 41))]) rfl ?_
  refine j_iconst hC (pc := 6) dX1_improve_6 ki_0 ?_
  refine j_istore hC (pc := 7) dX1_improve_7 (Nat.le_of_ble_eq_true rfl) (loc' := [(4, .int 0), (3, .int 0), (2, .int 0), (1, .int 0), (0, .ref (gad Γ 41))]) rfl ?_
  refine j_sub [4, 3, 2, 1, 0] (loc' := [(0, .ref (gad Γ 41)), (1, .int 0), (2, .int 0), (3, .int 0), (4, .int 0)]) rfl ?_
  exact wX1_improve_9 hC hR hm F F κ 0 0 0 0
theorem ctX1_improve {Δ : DCtx} {l : Launch} (hl : dlay Δ = layX) (hN : dN Δ = 147) (F : Nat) (κ : Mem) : ∀ r, pX1_improve F κ = some r → CT Δ l yX1_improve cX1_improve 5 (some .int) (rmH 4) [.ref (dad Δ 41)] κ (some (.int r.1)) r.2 :=
  ct_of (nL := 5) (ret := (some .int)) (lay := layX) (N := 147) (by decide +kernel) (fun Δ => [.ref (dad Δ 41)]) (fun _ => oE) (fun _ => (Nat.le_of_ble_eq_true rfl)) (fun Γ hR hm hC => wX1_improve hC hR hm F κ) Δ l hl hN
set_option maxRecDepth 20000 in
theorem wX7_stay_2 {Γ : JCtx} (hC : jC Γ cX7_stay 2 RX7 none layX 147) (hR : gR Γ = rmH 0) (hm : gcells Γ ≤ (gR Γ).cells ∧ gslots Γ ≤ (gR Γ).slots) (F : Nat) : ∀ (n : Nat) (κ : Mem) (v1 : Int32), JP Γ (qf Γ oV) (pX7_stay_2 F n κ v1) κ 2 [(0, .ref (gad Γ 55)), (1, .int v1)] [] := by
  intro n
  induction n with
  | zero =>
    intro κ v1
    rw [pX7_stay_2]
    exact j_none
  | succ fu ih =>
    intro κ v1
    rw [pX7_stay_2]
    refine j_iload_n hC (pc := 2) dX7_stay_2 1 rfl rfl ?_
    refine j_bipush hC (pc := 3) dX7_stay_3 kb_6 ?_
    refine j_icmp_ge hC (pc := 5) dX7_stay_5 (tgt := 21) rfl ?_ ?_
    · refine j_aload_n hC (pc := 8) dX7_stay_8 0 rfl rfl ?_
      refine j_getR hC (pc := 9) dX7_stay_9 kf_RX7_9 lX_55 (Nat.le_of_ble_eq_true rfl) rfl ?_
      refine j_iload_n hC (pc := 12) dX7_stay_12 1 rfl rfl ?_
      refine j_iload_n hC (pc := 13) dX7_stay_13 1 rfl rfl ?_
      refine j_iast hC (pc := 14) dX7_stay_14 lX_56 (Nat.le_of_ble_eq_true rfl) (fun κ1 => ?_)
      refine j_iinc hC (pc := 15) dX7_stay_15 1 rfl ki_1 (Nat.le_of_ble_eq_true rfl) (loc' := [(1, .int (v1 + 1)), (0, .ref (gad Γ 55))]) rfl ?_
      refine j_goto hC (pc := 18) dX7_stay_18 (tgt := 2) rfl ?_
      refine j_sub [1, 0] (loc' := [(0, .ref (gad Γ 55)), (1, .int (v1 + 1))]) rfl ?_
      exact ih κ1 (v1 + 1)
    · exact j_vret hC (pc := 21) dX7_stay_21 rfl rfl
set_option maxRecDepth 20000 in
theorem wX7_stay {Γ : JCtx} (hC : jC Γ cX7_stay 2 RX7 none layX 147) (hR : gR Γ = rmH 0) (hm : gcells Γ ≤ (gR Γ).cells ∧ gslots Γ ≤ (gR Γ).slots) (F : Nat) (κ : Mem) : JP Γ (qf Γ oV) (pX7_stay F κ) κ 0 [(0, .ref (gad Γ 55))] [] := by
  unfold pX7_stay
  refine j_iconst hC (pc := 0) dX7_stay_0 ki_0 ?_
  refine j_istore_n hC (pc := 1) dX7_stay_1 rfl (Nat.le_of_ble_eq_true rfl) (loc' := [(1, .int 0), (0, .ref (gad Γ 55))]) rfl ?_
  refine j_sub [1, 0] (loc' := [(0, .ref (gad Γ 55)), (1, .int 0)]) rfl ?_
  exact wX7_stay_2 hC hR hm F F κ 0
theorem ctX7_stay {Δ : DCtx} {l : Launch} (hl : dlay Δ = layX) (hN : dN Δ = 147) (F : Nat) (κ : Mem) : ∀ r, pX7_stay F κ = some r → CT Δ l yX7_stay cX7_stay 2 none (rmH 0) [.ref (dad Δ 55)] κ none r :=
  ct_of (nL := 2) (ret := none) (lay := layX) (N := 147) (by decide +kernel) (fun Δ => [.ref (dad Δ 55)]) (fun _ => oV) (fun _ => (Nat.le_of_ble_eq_true rfl)) (fun Γ hR hm hC => wX7_stay hC hR hm F κ) Δ l hl hN
set_option maxRecDepth 20000 in
theorem wX7_bringForward_10 {Γ : JCtx} (hC : jC Γ cX7_bringForward 5 RX7 none layX 147) (hR : gR Γ = rmH 0) (hm : gcells Γ ≤ (gR Γ).cells ∧ gslots Γ ≤ (gR Γ).slots) (F : Nat) (v1 : Int32) (v3 : Int32) : ∀ (n : Nat) (κ : Mem) (v4 : Int32), JP Γ (qf Γ oV) (pX7_bringForward_10 F v1 v3 n κ v4) κ 10 [(0, .ref (gad Γ 55)), (1, .int v1), (3, .int v3), (4, .int v4)] [] := by
  intro n
  induction n with
  | zero =>
    intro κ v4
    rw [pX7_bringForward_10]
    exact j_none
  | succ fu ih =>
    intro κ v4
    rw [pX7_bringForward_10]
    refine j_iload hC (pc := 10) dX7_bringForward_10 3 rfl ?_
    refine j_iload_n hC (pc := 12) dX7_bringForward_12 1 rfl rfl ?_
    refine j_icmp_le hC (pc := 13) dX7_bringForward_13 (tgt := 38) rfl ?_ ?_
    · refine j_aload_n hC (pc := 38) dX7_bringForward_38 0 rfl rfl ?_
      refine j_getR hC (pc := 39) dX7_bringForward_39 kf_RX7_9 lX_55 (Nat.le_of_ble_eq_true rfl) rfl ?_
      refine j_iload_n hC (pc := 42) dX7_bringForward_42 1 rfl rfl ?_
      refine j_iload_n hC (pc := 43) dX7_bringForward_43 2 rfl rfl ?_
      refine j_iast hC (pc := 44) dX7_bringForward_44 lX_56 (Nat.le_of_ble_eq_true rfl) (fun κ2 => ?_)
      exact j_vret hC (pc := 45) dX7_bringForward_45 rfl rfl
    · refine j_aload_n hC (pc := 16) dX7_bringForward_16 0 rfl rfl ?_
      refine j_getR hC (pc := 17) dX7_bringForward_17 kf_RX7_9 lX_55 (Nat.le_of_ble_eq_true rfl) rfl ?_
      refine j_iload hC (pc := 20) dX7_bringForward_20 3 rfl ?_
      refine j_aload_n hC (pc := 22) dX7_bringForward_22 0 rfl rfl ?_
      refine j_getR hC (pc := 23) dX7_bringForward_23 kf_RX7_9 lX_55 (Nat.le_of_ble_eq_true rfl) rfl ?_
      refine j_iload hC (pc := 26) dX7_bringForward_26 3 rfl ?_
      refine j_iconst hC (pc := 28) dX7_bringForward_28 ki_1 ?_
      refine j_isub hC (pc := 29) dX7_bringForward_29 ?_
      refine j_iald hC (pc := 30) dX7_bringForward_30 lX_56 (Nat.le_of_ble_eq_true rfl) ?_
      refine j_iast hC (pc := 31) dX7_bringForward_31 lX_56 (Nat.le_of_ble_eq_true rfl) (fun κ3 => ?_)
      refine j_iinc hC (pc := 32) dX7_bringForward_32 3 rfl ki_m1 (Nat.le_of_ble_eq_true rfl) (loc' := [(4, .int (v4 + (-1))), (0, .ref (gad Γ 55)), (1, .int v1), (3, .int v3)]) rfl ?_
      refine j_goto hC (pc := 35) dX7_bringForward_35 (tgt := 10) rfl ?_
      refine j_sub [1, 2, 3, 0] (loc' := [(0, .ref (gad Γ 55)), (1, .int v1), (3, .int v3), (4, .int (v4 + (-1)))]) rfl ?_
      exact ih κ3 (v4 + (-1))
set_option maxRecDepth 20000 in
theorem wX7_bringForward {Γ : JCtx} (hC : jC Γ cX7_bringForward 5 RX7 none layX 147) (hR : gR Γ = rmH 0) (hm : gcells Γ ≤ (gR Γ).cells ∧ gslots Γ ≤ (gR Γ).slots) (F : Nat) (κ : Mem) (v1 : Int32) (v2 : Int32) : JP Γ (qf Γ oV) (pX7_bringForward F κ v1 v2) κ 0 [(0, .ref (gad Γ 55)), (1, .int v1), (2, .int v2)] [] := by
  unfold pX7_bringForward
  refine j_aload_n hC (pc := 0) dX7_bringForward_0 0 rfl rfl ?_
  refine j_getR hC (pc := 1) dX7_bringForward_1 kf_RX7_9 lX_55 (Nat.le_of_ble_eq_true rfl) rfl ?_
  refine j_iload_n hC (pc := 4) dX7_bringForward_4 2 rfl rfl ?_
  refine j_iald hC (pc := 5) dX7_bringForward_5 lX_56 (Nat.le_of_ble_eq_true rfl) ?_
  refine j_nmi (fun x1 => ?_)
  refine j_istore_n hC (pc := 6) dX7_bringForward_6 rfl (Nat.le_of_ble_eq_true rfl) (loc' := [(3, .int x1), (0, .ref (gad Γ 55)), (1, .int v1), (2, .int v2)]) rfl ?_
  refine j_iload_n hC (pc := 7) dX7_bringForward_7 3 rfl rfl ?_
  refine j_istore hC (pc := 8) dX7_bringForward_8 (Nat.le_of_ble_eq_true rfl) (loc' := [(4, .int v2), (3, .int x1), (0, .ref (gad Γ 55)), (1, .int v1), (2, .int v2)]) rfl ?_
  refine j_sub [2, 3, 1, 0] (loc' := [(0, .ref (gad Γ 55)), (1, .int v1), (3, .int x1), (4, .int v2)]) rfl ?_
  exact wX7_bringForward_10 hC hR hm F v1 x1 F κ v2
theorem ctX7_bringForward {Δ : DCtx} {l : Launch} (hl : dlay Δ = layX) (hN : dN Δ = 147) (F : Nat) (κ : Mem) (v1 : Int32) (v2 : Int32) : ∀ r, pX7_bringForward F κ v1 v2 = some r → CT Δ l yX7_bringForward cX7_bringForward 5 none (rmH 0) [.ref (dad Δ 55), .int v1, .int v2] κ none r :=
  ct_of (nL := 5) (ret := none) (lay := layX) (N := 147) (by decide +kernel) (fun Δ => [.ref (dad Δ 55), .int v1, .int v2]) (fun _ => oV) (fun _ => (Nat.le_of_ble_eq_true rfl)) (fun Γ hR hm hC => wX7_bringForward hC hR hm F κ v1 v2) Δ l hl hN
set_option maxRecDepth 20000 in
theorem wX7_orderBehind_7 {Γ : JCtx} (hC : jC Γ cX7_orderBehind 6 RX7 none layX 147) (hR : gR Γ = rmH 1) (hm : gcells Γ ≤ (gR Γ).cells ∧ gslots Γ ≤ (gR Γ).slots) (F : Nat) : ∀ (n : Nat) (κ : Mem) (v3 : Int32) (v4 : Int32), JP Γ (qf Γ oV) (pX7_orderBehind_7 F n κ v3 v4) κ 7 [(0, .ref (gad Γ 55)), (3, .int v3), (4, .int v4)] [] := by
  intro n
  induction n with
  | zero =>
    intro κ v3 v4
    rw [pX7_orderBehind_7]
    exact j_none
  | succ fu ih =>
    intro κ v3 v4
    rw [pX7_orderBehind_7]
    refine j_iload hC (pc := 7) dX7_orderBehind_7 2 rfl ?_
    refine j_aload_n hC (pc := 9) dX7_orderBehind_9 0 rfl rfl ?_
    refine j_getR hC (pc := 10) dX7_orderBehind_10 kf_RX7_18 lX_55 (Nat.le_of_ble_eq_true rfl) rfl ?_
    refine j_getI hC (pc := 13) dX7_orderBehind_13 kf_RX7_22 lX_1 (Nat.le_of_ble_eq_true rfl) rfl ?_
    refine j_icmp_ge hC (pc := 16) dX7_orderBehind_16 (tgt := 55) rfl ?_ ?_
    · refine j_aload_n hC (pc := 19) dX7_orderBehind_19 0 rfl rfl ?_
      refine j_getR hC (pc := 20) dX7_orderBehind_20 kf_RX7_18 lX_55 (Nat.le_of_ble_eq_true rfl) rfl ?_
      refine j_getI hC (pc := 23) dX7_orderBehind_23 kf_RX7_22 lX_1 (Nat.le_of_ble_eq_true rfl) rfl ?_
      refine j_iload hC (pc := 26) dX7_orderBehind_26 2 rfl ?_
      refine j_isub hC (pc := 28) dX7_orderBehind_28 ?_
      refine j_nmi (fun x2 => ?_)
      refine j_istore hC (pc := 29) dX7_orderBehind_29 (Nat.le_of_ble_eq_true rfl) (loc' := [(5, .int x2), (0, .ref (gad Γ 55)), (3, .int v3), (4, .int v4)]) rfl ?_
      refine j_aload_n hC (pc := 31) dX7_orderBehind_31 1 rfl rfl ?_
      refine j_iload hC (pc := 32) dX7_orderBehind_32 3 rfl ?_
      refine j_iload hC (pc := 34) dX7_orderBehind_34 3 rfl ?_
      refine j_iload_n hC (pc := 36) dX7_orderBehind_36 2 rfl rfl ?_
      refine j_iload hC (pc := 37) dX7_orderBehind_37 0 rfl ?_
      refine j_irem hC (pc := 39) dX7_orderBehind_39 ?_
      refine j_iadd hC (pc := 40) dX7_orderBehind_40 ?_
      refine j_callV_V hC hR (ctX7_bringForward hC.l hC.cn F κ v4 (v4 + (v3 - v3 / x2 * x2))) kc_RX7_42 (Nat.le_of_ble_eq_true rfl) (Nat.le_of_ble_eq_true rfl) lX_55 (Nat.le_of_ble_eq_true rfl) rfl (As := [.int v4, .int (v4 + (v3 - v3 / x2 * x2))]) (rest := []) rfl rfl (Nat.le_of_ble_eq_true rfl) hm (pc := 41) dX7_orderBehind_41 (fun t3 => ?_)
      refine j_iload_n hC (pc := 44) dX7_orderBehind_44 2 rfl rfl ?_
      refine j_iload hC (pc := 45) dX7_orderBehind_45 0 rfl ?_
      refine j_idiv hC (pc := 47) dX7_orderBehind_47 ?_
      refine j_nmi (fun x4 => ?_)
      refine j_istore_n hC (pc := 48) dX7_orderBehind_48 rfl (Nat.le_of_ble_eq_true rfl) (loc' := [(3, .int x4), (5, .int x2), (0, .ref (gad Γ 55)), (4, .int v4)]) rfl ?_
      refine j_iinc hC (pc := 49) dX7_orderBehind_49 3 rfl ki_1 (Nat.le_of_ble_eq_true rfl) (loc' := [(4, .int (v4 + 1)), (3, .int x4), (5, .int x2), (0, .ref (gad Γ 55))]) rfl ?_
      refine j_goto hC (pc := 52) dX7_orderBehind_52 (tgt := 7) rfl ?_
      refine j_sub [3, 1, 0] (loc' := [(0, .ref (gad Γ 55)), (3, .int x4), (4, .int (v4 + 1))]) rfl ?_
      exact ih t3 x4 (v4 + 1)
    · exact j_vret hC (pc := 55) dX7_orderBehind_55 rfl rfl
set_option maxRecDepth 20000 in
theorem wX7_orderBehind {Γ : JCtx} (hC : jC Γ cX7_orderBehind 6 RX7 none layX 147) (hR : gR Γ = rmH 1) (hm : gcells Γ ≤ (gR Γ).cells ∧ gslots Γ ≤ (gR Γ).slots) (F : Nat) (κ : Mem) (v1 : Int32) (v2 : Int32) : JP Γ (qf Γ oV) (pX7_orderBehind F κ v1 v2) κ 0 [(0, .ref (gad Γ 55)), (1, .int v1), (2, .int v2)] [] := by
  unfold pX7_orderBehind
  refine j_iload_n hC (pc := 0) dX7_orderBehind_0 2 rfl rfl ?_
  refine j_istore_n hC (pc := 1) dX7_orderBehind_1 rfl (Nat.le_of_ble_eq_true rfl) (loc' := [(3, .int v2), (0, .ref (gad Γ 55)), (1, .int v1), (2, .int v2)]) rfl ?_
  refine j_iload_n hC (pc := 2) dX7_orderBehind_2 2 rfl rfl ?_
  refine j_iconst hC (pc := 3) dX7_orderBehind_3 ki_1 ?_
  refine j_iadd hC (pc := 4) dX7_orderBehind_4 ?_
  refine j_nmi (fun x1 => ?_)
  refine j_istore hC (pc := 5) dX7_orderBehind_5 (Nat.le_of_ble_eq_true rfl) (loc' := [(4, .int x1), (3, .int v2), (0, .ref (gad Γ 55)), (1, .int v1), (2, .int v2)]) rfl ?_
  refine j_sub [2, 1, 0] (loc' := [(0, .ref (gad Γ 55)), (3, .int v2), (4, .int x1)]) rfl ?_
  exact wX7_orderBehind_7 hC hR hm F F κ v2 x1
theorem ctX7_orderBehind {Δ : DCtx} {l : Launch} (hl : dlay Δ = layX) (hN : dN Δ = 147) (F : Nat) (κ : Mem) (v1 : Int32) (v2 : Int32) : ∀ r, pX7_orderBehind F κ v1 v2 = some r → CT Δ l yX7_orderBehind cX7_orderBehind 6 none (rmH 1) [.ref (dad Δ 55), .int v1, .int v2] κ none r :=
  ct_of (nL := 6) (ret := none) (lay := layX) (N := 147) (by decide +kernel) (fun Δ => [.ref (dad Δ 55), .int v1, .int v2]) (fun _ => oV) (fun _ => (Nat.le_of_ble_eq_true rfl)) (fun Γ hR hm hC => wX7_orderBehind hC hR hm F κ v1 v2) Δ l hl hN
set_option maxRecDepth 20000 in
theorem wX7_fits_43 {Γ : JCtx} (hC : jC Γ cX7_fits 3 RX7 (some .boolean) layX 147) (hR : gR Γ = rmH 1) (hm : gcells Γ ≤ (gR Γ).cells ∧ gslots Γ ≤ (gR Γ).slots) (F : Nat) (κ : Mem) (v1 : Int32) (k2 : Int32 → Option Int32) (hk2 : ∀ (v1 : Int32), JP Γ (qf Γ (oI κ)) (k2 v1) κ 2 [(0, .ref (gad Γ 55)), (1, .int v1)] []) : ∀ (n : Nat) (v2 : Int32), JP Γ (qf Γ (oI κ)) (pX7_fits_43 F κ k2 v1 n v2) κ 43 [(0, .ref (gad Γ 55)), (1, .int v1), (2, .int v2)] [] := by
  intro n
  induction n with
  | zero =>
    intro v2
    rw [pX7_fits_43]
    exact j_none
  | succ fu ih =>
    intro v2
    rw [pX7_fits_43]
    refine j_iload_n hC (pc := 43) dX7_fits_43 2 rfl rfl ?_
    refine j_aload_n hC (pc := 44) dX7_fits_44 0 rfl rfl ?_
    refine j_getR hC (pc := 45) dX7_fits_45 kf_RX7_18 lX_55 (Nat.le_of_ble_eq_true rfl) rfl ?_
    refine j_getI hC (pc := 48) dX7_fits_48 kf_RX7_22 lX_1 (Nat.le_of_ble_eq_true rfl) rfl ?_
    refine j_icmp_ge hC (pc := 51) dX7_fits_51 (tgt := 93) rfl ?_ ?_
    · refine j_aload_n hC (pc := 54) dX7_fits_54 0 rfl rfl ?_
      refine j_getR hC (pc := 55) dX7_fits_55 kf_RX7_18 lX_55 (Nat.le_of_ble_eq_true rfl) rfl ?_
      refine j_iload_n hC (pc := 58) dX7_fits_58 1 rfl rfl ?_
      refine j_iload_n hC (pc := 59) dX7_fits_59 2 rfl rfl ?_
      refine j_callV_I hC hR (ctX2_watches hC.l hC.cn 1 isG_1 κ v1 v2) kc_RX7_52 (Nat.le_of_ble_eq_true rfl) (Nat.le_of_ble_eq_true rfl) lX_1 (Nat.le_of_ble_eq_true rfl) rfl (As := [.int v1, .int v2]) (rest := []) rfl rfl (Nat.le_of_ble_eq_true rfl) hm (pc := 60) dX7_fits_60 (fun t1 => ?_)
      refine j_aload_n hC (pc := 63) dX7_fits_63 0 rfl rfl ?_
      refine j_getR hC (pc := 64) dX7_fits_64 kf_RX7_18 lX_55 (Nat.le_of_ble_eq_true rfl) rfl ?_
      refine j_aload_n hC (pc := 67) dX7_fits_67 0 rfl rfl ?_
      refine j_getR hC (pc := 68) dX7_fits_68 kf_RX7_9 lX_55 (Nat.le_of_ble_eq_true rfl) rfl ?_
      refine j_iload_n hC (pc := 71) dX7_fits_71 1 rfl rfl ?_
      refine j_iald hC (pc := 72) dX7_fits_72 lX_56 (Nat.le_of_ble_eq_true rfl) ?_
      refine j_aload_n hC (pc := 73) dX7_fits_73 0 rfl rfl ?_
      refine j_getR hC (pc := 74) dX7_fits_74 kf_RX7_9 lX_55 (Nat.le_of_ble_eq_true rfl) rfl ?_
      refine j_iload_n hC (pc := 77) dX7_fits_77 2 rfl rfl ?_
      refine j_iald hC (pc := 78) dX7_fits_78 lX_56 (Nat.le_of_ble_eq_true rfl) ?_
      refine j_callV_I hC hR (ctX2_watches hC.l hC.cn 1 isG_1 κ (mi κ 56 v1.toNatClampNeg) (mi κ 56 v2.toNatClampNeg)) kc_RX7_52 (Nat.le_of_ble_eq_true rfl) (Nat.le_of_ble_eq_true rfl) lX_1 (Nat.le_of_ble_eq_true rfl) rfl (As := [.int (mi κ 56 v1.toNatClampNeg), .int (mi κ 56 v2.toNatClampNeg)]) (rest := [.int t1]) rfl rfl (Nat.le_of_ble_eq_true rfl) hm (pc := 79) dX7_fits_79 (fun t2 => ?_)
      refine j_icmp_eq hC (pc := 82) dX7_fits_82 (tgt := 87) rfl ?_ ?_
      · refine j_iinc hC (pc := 87) dX7_fits_87 2 rfl ki_1 (Nat.le_of_ble_eq_true rfl) (loc' := [(2, .int (v2 + 1)), (0, .ref (gad Γ 55)), (1, .int v1)]) rfl ?_
        refine j_goto hC (pc := 90) dX7_fits_90 (tgt := 43) rfl ?_
        refine j_sub [1, 2, 0] (loc' := [(0, .ref (gad Γ 55)), (1, .int v1), (2, .int (v2 + 1))]) rfl ?_
        exact ih (v2 + 1)
      · refine j_iconst hC (pc := 85) dX7_fits_85 ki_0 ?_
        exact j_iret hC (pc := 86) dX7_fits_86 rfl rfl rfl
    · refine j_iinc hC (pc := 93) dX7_fits_93 1 rfl ki_1 (Nat.le_of_ble_eq_true rfl) (loc' := [(1, .int (v1 + 1)), (0, .ref (gad Γ 55)), (2, .int v2)]) rfl ?_
      refine j_goto hC (pc := 96) dX7_fits_96 (tgt := 2) rfl ?_
      refine j_sub [1, 0] (loc' := [(0, .ref (gad Γ 55)), (1, .int (v1 + 1))]) rfl ?_
      exact hk2 (v1 + 1)
set_option maxRecDepth 20000 in
theorem wX7_fits_2 {Γ : JCtx} (hC : jC Γ cX7_fits 3 RX7 (some .boolean) layX 147) (hR : gR Γ = rmH 1) (hm : gcells Γ ≤ (gR Γ).cells ∧ gslots Γ ≤ (gR Γ).slots) (F : Nat) (κ : Mem) : ∀ (n : Nat) (v1 : Int32), JP Γ (qf Γ (oI κ)) (pX7_fits_2 F κ n v1) κ 2 [(0, .ref (gad Γ 55)), (1, .int v1)] [] := by
  intro n
  induction n with
  | zero =>
    intro v1
    rw [pX7_fits_2]
    exact j_none
  | succ fu ih =>
    intro v1
    rw [pX7_fits_2]
    refine j_iload_n hC (pc := 2) dX7_fits_2 1 rfl rfl ?_
    refine j_aload_n hC (pc := 3) dX7_fits_3 0 rfl rfl ?_
    refine j_getR hC (pc := 4) dX7_fits_4 kf_RX7_18 lX_55 (Nat.le_of_ble_eq_true rfl) rfl ?_
    refine j_getI hC (pc := 7) dX7_fits_7 kf_RX7_22 lX_1 (Nat.le_of_ble_eq_true rfl) rfl ?_
    refine j_icmp_ge hC (pc := 10) dX7_fits_10 (tgt := 99) rfl ?_ ?_
    · refine j_aload_n hC (pc := 13) dX7_fits_13 0 rfl rfl ?_
      refine j_getR hC (pc := 14) dX7_fits_14 kf_RX7_18 lX_55 (Nat.le_of_ble_eq_true rfl) rfl ?_
      refine j_getR hC (pc := 17) dX7_fits_17 kf_RX7_49 lX_1 (Nat.le_of_ble_eq_true rfl) rfl ?_
      refine j_iload_n hC (pc := 20) dX7_fits_20 1 rfl rfl ?_
      refine j_iald hC (pc := 21) dX7_fits_21 lX_2 (Nat.le_of_ble_eq_true rfl) ?_
      refine j_aload_n hC (pc := 22) dX7_fits_22 0 rfl rfl ?_
      refine j_getR hC (pc := 23) dX7_fits_23 kf_RX7_18 lX_55 (Nat.le_of_ble_eq_true rfl) rfl ?_
      refine j_getR hC (pc := 26) dX7_fits_26 kf_RX7_49 lX_1 (Nat.le_of_ble_eq_true rfl) rfl ?_
      refine j_aload_n hC (pc := 29) dX7_fits_29 0 rfl rfl ?_
      refine j_getR hC (pc := 30) dX7_fits_30 kf_RX7_9 lX_55 (Nat.le_of_ble_eq_true rfl) rfl ?_
      refine j_iload_n hC (pc := 33) dX7_fits_33 1 rfl rfl ?_
      refine j_iald hC (pc := 34) dX7_fits_34 lX_56 (Nat.le_of_ble_eq_true rfl) ?_
      refine j_iald hC (pc := 35) dX7_fits_35 lX_2 (Nat.le_of_ble_eq_true rfl) ?_
      refine j_icmp_eq hC (pc := 36) dX7_fits_36 (tgt := 41) rfl ?_ ?_
      · refine j_iconst hC (pc := 41) dX7_fits_41 ki_0 ?_
        refine j_istore_n hC (pc := 42) dX7_fits_42 rfl (Nat.le_of_ble_eq_true rfl) (loc' := [(2, .int 0), (0, .ref (gad Γ 55)), (1, .int v1)]) rfl ?_
        refine j_sub [1, 2, 0] (loc' := [(0, .ref (gad Γ 55)), (1, .int v1), (2, .int 0)]) rfl ?_
        exact wX7_fits_43 hC hR hm F κ v1 (pX7_fits_2 F κ fu) ih F 0
      · refine j_iconst hC (pc := 39) dX7_fits_39 ki_0 ?_
        exact j_iret hC (pc := 40) dX7_fits_40 rfl rfl rfl
    · refine j_iconst hC (pc := 99) dX7_fits_99 ki_1 ?_
      exact j_iret hC (pc := 100) dX7_fits_100 rfl rfl rfl
set_option maxRecDepth 20000 in
theorem wX7_fits {Γ : JCtx} (hC : jC Γ cX7_fits 3 RX7 (some .boolean) layX 147) (hR : gR Γ = rmH 1) (hm : gcells Γ ≤ (gR Γ).cells ∧ gslots Γ ≤ (gR Γ).slots) (F : Nat) (κ : Mem) : JP Γ (qf Γ (oI κ)) (pX7_fits F κ) κ 0 [(0, .ref (gad Γ 55))] [] := by
  unfold pX7_fits
  refine j_iconst hC (pc := 0) dX7_fits_0 ki_0 ?_
  refine j_istore_n hC (pc := 1) dX7_fits_1 rfl (Nat.le_of_ble_eq_true rfl) (loc' := [(1, .int 0), (0, .ref (gad Γ 55))]) rfl ?_
  refine j_sub [1, 0] (loc' := [(0, .ref (gad Γ 55)), (1, .int 0)]) rfl ?_
  exact wX7_fits_2 hC hR hm F κ F 0
theorem ctX7_fits {Δ : DCtx} {l : Launch} (hl : dlay Δ = layX) (hN : dN Δ = 147) (F : Nat) (κ : Mem) : ∀ r, pX7_fits F κ = some r → CT Δ l yX7_fits cX7_fits 3 (some .boolean) (rmH 1) [.ref (dad Δ 55)] κ (some (.int r)) κ :=
  ct_of (nL := 3) (ret := (some .boolean)) (lay := layX) (N := 147) (by decide +kernel) (fun Δ => [.ref (dad Δ 55)]) (fun _ => oI κ) (fun _ => (Nat.le_of_ble_eq_true rfl)) (fun Γ hR hm hC => wX7_fits hC hR hm F κ) Δ l hl hN
set_option maxRecDepth 20000 in
theorem wX7_keeps_71 {Γ : JCtx} (hC : jC Γ cX7_keeps 4 RX7 (some .boolean) layX 147) (hR : gR Γ = rmH 2) (hm : gcells Γ ≤ (gR Γ).cells ∧ gslots Γ ≤ (gR Γ).slots) (F : Nat) (κ : Mem) (v1 : Int32) (v2 : Int32) (v3 : Int32) (k11 : Mem → Int32 → Int32 → Option (Int32 × Mem)) (hk11 : ∀ (κ : Mem) (v2 : Int32) (v3 : Int32), JP Γ (qf Γ oE) (k11 κ v2 v3) κ 11 [(0, .ref (gad Γ 55)), (1, .int v1), (2, .int v2), (3, .int v3)] []) : JP Γ (qf Γ oE) (pX7_keeps_71 F k11 κ v1 v2 v3) κ 71 [(0, .ref (gad Γ 55)), (1, .int v1), (2, .int v2), (3, .int v3)] [] := by
  unfold pX7_keeps_71
  refine j_iinc hC (pc := 71) dX7_keeps_71 3 rfl ki_1 (Nat.le_of_ble_eq_true rfl) (loc' := [(3, .int (v3 + 1)), (0, .ref (gad Γ 55)), (1, .int v1), (2, .int v2)]) rfl ?_
  refine j_goto hC (pc := 74) dX7_keeps_74 (tgt := 11) rfl ?_
  refine j_sub [1, 2, 3, 0] (loc' := [(0, .ref (gad Γ 55)), (1, .int v1), (2, .int v2), (3, .int (v3 + 1))]) rfl ?_
  exact hk11 κ v2 (v3 + 1)
set_option maxRecDepth 20000 in
theorem wX7_keeps_79 {Γ : JCtx} (hC : jC Γ cX7_keeps 4 RX7 (some .boolean) layX 147) (hR : gR Γ = rmH 2) (hm : gcells Γ ≤ (gR Γ).cells ∧ gslots Γ ≤ (gR Γ).slots) (F : Nat) (κ : Mem) (v1 : Int32) (v2 : Int32) : ∀ (n : Nat) (v3 : Int32), JP Γ (qf Γ oE) (pX7_keeps_79 F κ v1 v2 n v3) κ 79 [(0, .ref (gad Γ 55)), (1, .int v1), (2, .int v2), (3, .int v3)] [] := by
  intro n
  induction n with
  | zero =>
    intro v3
    rw [pX7_keeps_79]
    exact j_none
  | succ fu ih =>
    intro v3
    rw [pX7_keeps_79]
    refine j_iload_n hC (pc := 79) dX7_keeps_79 3 rfl rfl ?_
    refine j_iload_n hC (pc := 80) dX7_keeps_80 2 rfl rfl ?_
    refine j_icmp_ge hC (pc := 81) dX7_keeps_81 (tgt := 123) rfl ?_ ?_
    · refine j_aload_n hC (pc := 84) dX7_keeps_84 0 rfl rfl ?_
      refine j_getR hC (pc := 85) dX7_keeps_85 kf_RX7_18 lX_55 (Nat.le_of_ble_eq_true rfl) rfl ?_
      refine j_iload_n hC (pc := 88) dX7_keeps_88 1 rfl rfl ?_
      refine j_iload_n hC (pc := 89) dX7_keeps_89 3 rfl rfl ?_
      refine j_callV_I hC hR (ctX2_told hC.l hC.cn 1 isG_1 κ v1 v3) kc_RX7_68 (Nat.le_of_ble_eq_true rfl) (Nat.le_of_ble_eq_true rfl) lX_1 (Nat.le_of_ble_eq_true rfl) rfl (As := [.int v1, .int v3]) (rest := []) rfl rfl (Nat.le_of_ble_eq_true rfl) hm (pc := 90) dX7_keeps_90 (fun t5 => ?_)
      refine j_aload_n hC (pc := 93) dX7_keeps_93 0 rfl rfl ?_
      refine j_getR hC (pc := 94) dX7_keeps_94 kf_RX7_18 lX_55 (Nat.le_of_ble_eq_true rfl) rfl ?_
      refine j_aload_n hC (pc := 97) dX7_keeps_97 0 rfl rfl ?_
      refine j_getR hC (pc := 98) dX7_keeps_98 kf_RX7_9 lX_55 (Nat.le_of_ble_eq_true rfl) rfl ?_
      refine j_iload_n hC (pc := 101) dX7_keeps_101 1 rfl rfl ?_
      refine j_iald hC (pc := 102) dX7_keeps_102 lX_56 (Nat.le_of_ble_eq_true rfl) ?_
      refine j_aload_n hC (pc := 103) dX7_keeps_103 0 rfl rfl ?_
      refine j_getR hC (pc := 104) dX7_keeps_104 kf_RX7_15 lX_55 (Nat.le_of_ble_eq_true rfl) rfl ?_
      refine j_iload_n hC (pc := 107) dX7_keeps_107 3 rfl rfl ?_
      refine j_iald hC (pc := 108) dX7_keeps_108 lX_57 (Nat.le_of_ble_eq_true rfl) ?_
      refine j_callV_I hC hR (ctX2_told hC.l hC.cn 1 isG_1 κ (mi κ 56 v1.toNatClampNeg) (mi κ 57 v3.toNatClampNeg)) kc_RX7_68 (Nat.le_of_ble_eq_true rfl) (Nat.le_of_ble_eq_true rfl) lX_1 (Nat.le_of_ble_eq_true rfl) rfl (As := [.int (mi κ 56 v1.toNatClampNeg), .int (mi κ 57 v3.toNatClampNeg)]) (rest := [.int t5]) rfl rfl (Nat.le_of_ble_eq_true rfl) hm (pc := 109) dX7_keeps_109 (fun t6 => ?_)
      refine j_icmp_eq hC (pc := 112) dX7_keeps_112 (tgt := 117) rfl ?_ ?_
      · refine j_iinc hC (pc := 117) dX7_keeps_117 3 rfl ki_1 (Nat.le_of_ble_eq_true rfl) (loc' := [(3, .int (v3 + 1)), (0, .ref (gad Γ 55)), (1, .int v1), (2, .int v2)]) rfl ?_
        refine j_goto hC (pc := 120) dX7_keeps_120 (tgt := 79) rfl ?_
        refine j_sub [1, 2, 3, 0] (loc' := [(0, .ref (gad Γ 55)), (1, .int v1), (2, .int v2), (3, .int (v3 + 1))]) rfl ?_
        exact ih (v3 + 1)
      · refine j_iconst hC (pc := 115) dX7_keeps_115 ki_0 ?_
        exact j_iret hC (pc := 116) dX7_keeps_116 rfl rfl rfl
    · refine j_iconst hC (pc := 123) dX7_keeps_123 ki_1 ?_
      exact j_iret hC (pc := 124) dX7_keeps_124 rfl rfl rfl
set_option maxRecDepth 20000 in
theorem wX7_keeps_11 {Γ : JCtx} (hC : jC Γ cX7_keeps 4 RX7 (some .boolean) layX 147) (hR : gR Γ = rmH 2) (hm : gcells Γ ≤ (gR Γ).cells ∧ gslots Γ ≤ (gR Γ).slots) (F : Nat) (v1 : Int32) : ∀ (n : Nat) (κ : Mem) (v2 : Int32) (v3 : Int32), JP Γ (qf Γ oE) (pX7_keeps_11 F v1 n κ v2 v3) κ 11 [(0, .ref (gad Γ 55)), (1, .int v1), (2, .int v2), (3, .int v3)] [] := by
  intro n
  induction n with
  | zero =>
    intro κ v2 v3
    rw [pX7_keeps_11]
    exact j_none
  | succ fu ih =>
    intro κ v2 v3
    rw [pX7_keeps_11]
    refine j_iload_n hC (pc := 11) dX7_keeps_11 3 rfl rfl ?_
    refine j_aload_n hC (pc := 12) dX7_keeps_12 0 rfl rfl ?_
    refine j_getR hC (pc := 13) dX7_keeps_13 kf_RX7_18 lX_55 (Nat.le_of_ble_eq_true rfl) rfl ?_
    refine j_getI hC (pc := 16) dX7_keeps_16 kf_RX7_22 lX_1 (Nat.le_of_ble_eq_true rfl) rfl ?_
    refine j_icmp_ge hC (pc := 19) dX7_keeps_19 (tgt := 77) rfl ?_ ?_
    · refine j_aload_n hC (pc := 22) dX7_keeps_22 0 rfl rfl ?_
      refine j_getR hC (pc := 23) dX7_keeps_23 kf_RX7_18 lX_55 (Nat.le_of_ble_eq_true rfl) rfl ?_
      refine j_iload_n hC (pc := 26) dX7_keeps_26 1 rfl rfl ?_
      refine j_iload_n hC (pc := 27) dX7_keeps_27 3 rfl rfl ?_
      refine j_callV_I hC hR (ctX2_watches hC.l hC.cn 1 isG_1 κ v1 v3) kc_RX7_52 (Nat.le_of_ble_eq_true rfl) (Nat.le_of_ble_eq_true rfl) lX_1 (Nat.le_of_ble_eq_true rfl) rfl (As := [.int v1, .int v3]) (rest := []) rfl rfl (Nat.le_of_ble_eq_true rfl) hm (pc := 28) dX7_keeps_28 (fun t2 => ?_)
      refine j_if_eq hC (pc := 31) dX7_keeps_31 (tgt := 71) rfl ?_ ?_
      · exact wX7_keeps_71 hC hR hm F κ v1 v2 v3 (pX7_keeps_11 F v1 fu) ih
      · refine j_aload_n hC (pc := 34) dX7_keeps_34 0 rfl rfl ?_
        refine j_getR hC (pc := 35) dX7_keeps_35 kf_RX7_15 lX_55 (Nat.le_of_ble_eq_true rfl) rfl ?_
        refine j_iload_n hC (pc := 38) dX7_keeps_38 2 rfl rfl ?_
        refine j_aload_n hC (pc := 39) dX7_keeps_39 0 rfl rfl ?_
        refine j_getR hC (pc := 40) dX7_keeps_40 kf_RX7_18 lX_55 (Nat.le_of_ble_eq_true rfl) rfl ?_
        refine j_getR hC (pc := 43) dX7_keeps_43 kf_RX7_49 lX_1 (Nat.le_of_ble_eq_true rfl) rfl ?_
        refine j_iload_n hC (pc := 46) dX7_keeps_46 3 rfl rfl ?_
        refine j_iald hC (pc := 47) dX7_keeps_47 lX_2 (Nat.le_of_ble_eq_true rfl) ?_
        refine j_aload_n hC (pc := 48) dX7_keeps_48 0 rfl rfl ?_
        refine j_getR hC (pc := 49) dX7_keeps_49 kf_RX7_18 lX_55 (Nat.le_of_ble_eq_true rfl) rfl ?_
        refine j_aload_n hC (pc := 52) dX7_keeps_52 0 rfl rfl ?_
        refine j_getR hC (pc := 53) dX7_keeps_53 kf_RX7_9 lX_55 (Nat.le_of_ble_eq_true rfl) rfl ?_
        refine j_iload_n hC (pc := 56) dX7_keeps_56 1 rfl rfl ?_
        refine j_iald hC (pc := 57) dX7_keeps_57 lX_56 (Nat.le_of_ble_eq_true rfl) ?_
        refine j_aload_n hC (pc := 58) dX7_keeps_58 0 rfl rfl ?_
        refine j_getR hC (pc := 59) dX7_keeps_59 kf_RX7_9 lX_55 (Nat.le_of_ble_eq_true rfl) rfl ?_
        refine j_iload_n hC (pc := 62) dX7_keeps_62 3 rfl rfl ?_
        refine j_iald hC (pc := 63) dX7_keeps_63 lX_56 (Nat.le_of_ble_eq_true rfl) ?_
        refine j_callV_I hC hR (ctX2_weight hC.l hC.cn 1 isG_1 F κ (mi κ 56 v1.toNatClampNeg) (mi κ 56 v3.toNatClampNeg)) kc_RX7_60 (Nat.le_of_ble_eq_true rfl) (Nat.le_of_ble_eq_true rfl) lX_1 (Nat.le_of_ble_eq_true rfl) rfl (As := [.int (mi κ 56 v1.toNatClampNeg), .int (mi κ 56 v3.toNatClampNeg)]) (rest := [.int (mi κ 2 v3.toNatClampNeg), .int v2, .ref (gad Γ 57)]) rfl rfl (Nat.le_of_ble_eq_true rfl) hm (pc := 64) dX7_keeps_64 (fun t3 => ?_)
        refine j_callN_E hC hR (ctX10_lengthen hC.l hC.cn 57 (lenX_ok lX_57) (Nat.le_of_ble_eq_true rfl) F κ v2 (mi κ 2 v3.toNatClampNeg) t3) kc_RX7_64 (Nat.le_of_ble_eq_true rfl) (Nat.le_of_ble_eq_true rfl) (As := [.ref (gad Γ 57), .int v2, .int (mi κ 2 v3.toNatClampNeg), .int t3]) (rest := []) rfl rfl (Nat.le_of_ble_eq_true rfl) hm (pc := 67) dX7_keeps_67 (fun t4 => ?_)
        refine j_istore_n hC (pc := 70) dX7_keeps_70 rfl (Nat.le_of_ble_eq_true rfl) (loc' := [(2, .int (t4.1)), (0, .ref (gad Γ 55)), (1, .int v1), (3, .int v3)]) rfl ?_
        refine j_sub [1, 2, 0, 3] (loc' := [(0, .ref (gad Γ 55)), (1, .int v1), (2, .int (t4.1)), (3, .int v3)]) rfl ?_
        exact wX7_keeps_71 hC hR hm F t4.2 v1 t4.1 v3 (pX7_keeps_11 F v1 fu) ih
    · refine j_iconst hC (pc := 77) dX7_keeps_77 ki_0 ?_
      refine j_istore_n hC (pc := 78) dX7_keeps_78 rfl (Nat.le_of_ble_eq_true rfl) (loc' := [(3, .int 0), (0, .ref (gad Γ 55)), (1, .int v1), (2, .int v2)]) rfl ?_
      refine j_sub [1, 2, 3, 0] (loc' := [(0, .ref (gad Γ 55)), (1, .int v1), (2, .int v2), (3, .int 0)]) rfl ?_
      exact wX7_keeps_79 hC hR hm F κ v1 v2 F 0
set_option maxRecDepth 20000 in
theorem wX7_keeps {Γ : JCtx} (hC : jC Γ cX7_keeps 4 RX7 (some .boolean) layX 147) (hR : gR Γ = rmH 2) (hm : gcells Γ ≤ (gR Γ).cells ∧ gslots Γ ≤ (gR Γ).slots) (F : Nat) (κ : Mem) (v1 : Int32) : JP Γ (qf Γ oE) (pX7_keeps F κ v1) κ 0 [(0, .ref (gad Γ 55)), (1, .int v1)] [] := by
  unfold pX7_keeps
  refine j_iconst hC (pc := 0) dX7_keeps_0 ki_1 ?_
  refine j_istore_n hC (pc := 1) dX7_keeps_1 rfl (Nat.le_of_ble_eq_true rfl) (loc' := [(2, .int 1), (0, .ref (gad Γ 55)), (1, .int v1)]) rfl ?_
  refine j_aload_n hC (pc := 2) dX7_keeps_2 1 rfl rfl ?_
  refine j_getR hC (pc := 3) dX7_keeps_3 kf_RX7_15 lX_55 (Nat.le_of_ble_eq_true rfl) rfl ?_
  refine j_iconst hC (pc := 6) dX7_keeps_6 ki_0 ?_
  refine j_iconst hC (pc := 7) dX7_keeps_7 ki_0 ?_
  refine j_iast hC (pc := 8) dX7_keeps_8 lX_57 (Nat.le_of_ble_eq_true rfl) (fun κ1 => ?_)
  refine j_iconst hC (pc := 9) dX7_keeps_9 ki_0 ?_
  refine j_istore_n hC (pc := 10) dX7_keeps_10 rfl (Nat.le_of_ble_eq_true rfl) (loc' := [(3, .int 0), (2, .int 1), (0, .ref (gad Γ 55)), (1, .int v1)]) rfl ?_
  refine j_sub [2, 3, 1, 0] (loc' := [(0, .ref (gad Γ 55)), (1, .int v1), (2, .int 1), (3, .int 0)]) rfl ?_
  exact wX7_keeps_11 hC hR hm F v1 F κ1 1 0
theorem ctX7_keeps {Δ : DCtx} {l : Launch} (hl : dlay Δ = layX) (hN : dN Δ = 147) (F : Nat) (κ : Mem) (v1 : Int32) : ∀ r, pX7_keeps F κ v1 = some r → CT Δ l yX7_keeps cX7_keeps 4 (some .boolean) (rmH 2) [.ref (dad Δ 55), .int v1] κ (some (.int r.1)) r.2 :=
  ct_of (nL := 4) (ret := (some .boolean)) (lay := layX) (N := 147) (by decide +kernel) (fun Δ => [.ref (dad Δ 55), .int v1]) (fun _ => oE) (fun _ => (Nat.le_of_ble_eq_true rfl)) (fun Γ hR hm hC => wX7_keeps hC hR hm F κ v1) Δ l hl hN
set_option maxRecDepth 20000 in
theorem wX7_keepsAll_2 {Γ : JCtx} (hC : jC Γ cX7_keepsAll 2 RX7 (some .boolean) layX 147) (hR : gR Γ = rmH 3) (hm : gcells Γ ≤ (gR Γ).cells ∧ gslots Γ ≤ (gR Γ).slots) (F : Nat) : ∀ (n : Nat) (κ : Mem) (v1 : Int32), JP Γ (qf Γ oE) (pX7_keepsAll_2 F n κ v1) κ 2 [(0, .ref (gad Γ 55)), (1, .int v1)] [] := by
  intro n
  induction n with
  | zero =>
    intro κ v1
    rw [pX7_keepsAll_2]
    exact j_none
  | succ fu ih =>
    intro κ v1
    rw [pX7_keepsAll_2]
    refine j_iload_n hC (pc := 2) dX7_keepsAll_2 1 rfl rfl ?_
    refine j_aload_n hC (pc := 3) dX7_keepsAll_3 0 rfl rfl ?_
    refine j_getR hC (pc := 4) dX7_keepsAll_4 kf_RX7_18 lX_55 (Nat.le_of_ble_eq_true rfl) rfl ?_
    refine j_getI hC (pc := 7) dX7_keepsAll_7 kf_RX7_22 lX_1 (Nat.le_of_ble_eq_true rfl) rfl ?_
    refine j_icmp_ge hC (pc := 10) dX7_keepsAll_10 (tgt := 29) rfl ?_ ?_
    · refine j_aload_n hC (pc := 13) dX7_keepsAll_13 0 rfl rfl ?_
      refine j_iload_n hC (pc := 14) dX7_keepsAll_14 1 rfl rfl ?_
      refine j_callV_E hC hR (ctX7_keeps hC.l hC.cn F κ v1) kc_RX7_56 (Nat.le_of_ble_eq_true rfl) (Nat.le_of_ble_eq_true rfl) lX_55 (Nat.le_of_ble_eq_true rfl) rfl (As := [.int v1]) (rest := []) rfl rfl (Nat.le_of_ble_eq_true rfl) hm (pc := 15) dX7_keepsAll_15 (fun t1 => ?_)
      refine j_if_ne hC (pc := 18) dX7_keepsAll_18 (tgt := 23) rfl ?_ ?_
      · refine j_iconst hC (pc := 21) dX7_keepsAll_21 ki_0 ?_
        exact j_iret hC (pc := 22) dX7_keepsAll_22 rfl rfl rfl
      · refine j_iinc hC (pc := 23) dX7_keepsAll_23 1 rfl ki_1 (Nat.le_of_ble_eq_true rfl) (loc' := [(1, .int (v1 + 1)), (0, .ref (gad Γ 55))]) rfl ?_
        refine j_goto hC (pc := 26) dX7_keepsAll_26 (tgt := 2) rfl ?_
        refine j_sub [1, 0] (loc' := [(0, .ref (gad Γ 55)), (1, .int (v1 + 1))]) rfl ?_
        exact ih t1.2 (v1 + 1)
    · refine j_iconst hC (pc := 29) dX7_keepsAll_29 ki_1 ?_
      exact j_iret hC (pc := 30) dX7_keepsAll_30 rfl rfl rfl
set_option maxRecDepth 20000 in
theorem wX7_keepsAll {Γ : JCtx} (hC : jC Γ cX7_keepsAll 2 RX7 (some .boolean) layX 147) (hR : gR Γ = rmH 3) (hm : gcells Γ ≤ (gR Γ).cells ∧ gslots Γ ≤ (gR Γ).slots) (F : Nat) (κ : Mem) : JP Γ (qf Γ oE) (pX7_keepsAll F κ) κ 0 [(0, .ref (gad Γ 55))] [] := by
  unfold pX7_keepsAll
  refine j_iconst hC (pc := 0) dX7_keepsAll_0 ki_0 ?_
  refine j_istore_n hC (pc := 1) dX7_keepsAll_1 rfl (Nat.le_of_ble_eq_true rfl) (loc' := [(1, .int 0), (0, .ref (gad Γ 55))]) rfl ?_
  refine j_sub [1, 0] (loc' := [(0, .ref (gad Γ 55)), (1, .int 0)]) rfl ?_
  exact wX7_keepsAll_2 hC hR hm F F κ 0
theorem ctX7_keepsAll {Δ : DCtx} {l : Launch} (hl : dlay Δ = layX) (hN : dN Δ = 147) (F : Nat) (κ : Mem) : ∀ r, pX7_keepsAll F κ = some r → CT Δ l yX7_keepsAll cX7_keepsAll 2 (some .boolean) (rmH 3) [.ref (dad Δ 55)] κ (some (.int r.1)) r.2 :=
  ct_of (nL := 2) (ret := (some .boolean)) (lay := layX) (N := 147) (by decide +kernel) (fun Δ => [.ref (dad Δ 55)]) (fun _ => oE) (fun _ => (Nat.le_of_ble_eq_true rfl)) (fun Γ hR hm hC => wX7_keepsAll hC hR hm F κ) Δ l hl hN
set_option maxRecDepth 20000 in
theorem wX7_someBrings_80 {Γ : JCtx} (hC : jC Γ cX7_someBrings 6 RX7 (some .boolean) layX 147) (hR : gR Γ = rmH 4) (hm : gcells Γ ≤ (gR Γ).cells ∧ gslots Γ ≤ (gR Γ).slots) (F : Nat) (κ : Mem) (v1 : Int32) (v2 : Int32) (v3 : Int32) (v4 : Int32) (v5 : Int32) (k36 : Mem → Int32 → Option (Int32 × Mem)) (hk36 : ∀ (κ : Mem) (v5 : Int32), JP Γ (qf Γ oE) (k36 κ v5) κ 36 [(0, .ref (gad Γ 55)), (1, .int v1), (2, .int v2), (3, .int v3), (4, .int v4), (5, .int v5)] []) : JP Γ (qf Γ oE) (pX7_someBrings_80 F k36 κ v1 v2 v3 v4 v5) κ 80 [(0, .ref (gad Γ 55)), (1, .int v1), (2, .int v2), (3, .int v3), (4, .int v4), (5, .int v5)] [] := by
  unfold pX7_someBrings_80
  refine j_iinc hC (pc := 80) dX7_someBrings_80 5 rfl ki_1 (Nat.le_of_ble_eq_true rfl) (loc' := [(5, .int (v5 + 1)), (0, .ref (gad Γ 55)), (1, .int v1), (2, .int v2), (3, .int v3), (4, .int v4)]) rfl ?_
  refine j_goto hC (pc := 83) dX7_someBrings_83 (tgt := 36) rfl ?_
  refine j_sub [1, 2, 3, 4, 5, 0] (loc' := [(0, .ref (gad Γ 55)), (1, .int v1), (2, .int v2), (3, .int v3), (4, .int v4), (5, .int (v5 + 1))]) rfl ?_
  exact hk36 κ (v5 + 1)
set_option maxRecDepth 20000 in
theorem wX7_someBrings_78 {Γ : JCtx} (hC : jC Γ cX7_someBrings 6 RX7 (some .boolean) layX 147) (hR : gR Γ = rmH 4) (hm : gcells Γ ≤ (gR Γ).cells ∧ gslots Γ ≤ (gR Γ).slots) (F : Nat) (κ : Mem) : JP Γ (qf Γ oE) (pX7_someBrings_78 F κ) κ 78 [] [] := by
  unfold pX7_someBrings_78
  refine j_iconst hC (pc := 78) dX7_someBrings_78 ki_1 ?_
  exact j_iret hC (pc := 79) dX7_someBrings_79 rfl rfl rfl
set_option maxRecDepth 20000 in
theorem wX7_someBrings_36 {Γ : JCtx} (hC : jC Γ cX7_someBrings 6 RX7 (some .boolean) layX 147) (hR : gR Γ = rmH 4) (hm : gcells Γ ≤ (gR Γ).cells ∧ gslots Γ ≤ (gR Γ).slots) (F : Nat) (v1 : Int32) (v2 : Int32) (v3 : Int32) (v4 : Int32) : ∀ (n : Nat) (κ : Mem) (v5 : Int32), JP Γ (qf Γ oE) (pX7_someBrings_36 F v1 v2 v3 v4 n κ v5) κ 36 [(0, .ref (gad Γ 55)), (1, .int v1), (2, .int v2), (3, .int v3), (4, .int v4), (5, .int v5)] [] := by
  intro n
  induction n with
  | zero =>
    intro κ v5
    rw [pX7_someBrings_36]
    exact j_none
  | succ fu ih =>
    intro κ v5
    rw [pX7_someBrings_36]
    refine j_iload hC (pc := 36) dX7_someBrings_36 5 rfl ?_
    refine j_iload hC (pc := 38) dX7_someBrings_38 4 rfl ?_
    refine j_icmp_ge hC (pc := 40) dX7_someBrings_40 (tgt := 86) rfl ?_ ?_
    · refine j_aload_n hC (pc := 43) dX7_someBrings_43 0 rfl rfl ?_
      refine j_callV_V hC hR (ctX7_stay hC.l hC.cn F κ) kc_RX7_32 (Nat.le_of_ble_eq_true rfl) (Nat.le_of_ble_eq_true rfl) lX_55 (Nat.le_of_ble_eq_true rfl) rfl (As := []) (rest := []) rfl rfl (Nat.le_of_ble_eq_true rfl) hm (pc := 44) dX7_someBrings_44 (fun t2 => ?_)
      refine j_aload_n hC (pc := 47) dX7_someBrings_47 0 rfl rfl ?_
      refine j_iload_n hC (pc := 48) dX7_someBrings_48 1 rfl rfl ?_
      refine j_iload_n hC (pc := 49) dX7_someBrings_49 2 rfl rfl ?_
      refine j_callV_V hC hR (ctX7_bringForward hC.l hC.cn F t2 v1 v2) kc_RX7_42 (Nat.le_of_ble_eq_true rfl) (Nat.le_of_ble_eq_true rfl) lX_55 (Nat.le_of_ble_eq_true rfl) rfl (As := [.int v1, .int v2]) (rest := []) rfl rfl (Nat.le_of_ble_eq_true rfl) hm (pc := 50) dX7_someBrings_50 (fun t3 => ?_)
      refine j_aload_n hC (pc := 53) dX7_someBrings_53 0 rfl rfl ?_
      refine j_iload_n hC (pc := 54) dX7_someBrings_54 1 rfl rfl ?_
      refine j_iload hC (pc := 55) dX7_someBrings_55 5 rfl ?_
      refine j_callV_V hC hR (ctX7_orderBehind hC.l hC.cn F t3 v1 v5) kc_RX7_46 (Nat.le_of_ble_eq_true rfl) (Nat.le_of_ble_eq_true rfl) lX_55 (Nat.le_of_ble_eq_true rfl) rfl (As := [.int v1, .int v5]) (rest := []) rfl rfl (Nat.le_of_ble_eq_true rfl) hm (pc := 57) dX7_someBrings_57 (fun t4 => ?_)
      refine j_aload_n hC (pc := 60) dX7_someBrings_60 0 rfl rfl ?_
      refine j_callV_I hC hR (ctX7_fits hC.l hC.cn F t4) kc_RX7_35 (Nat.le_of_ble_eq_true rfl) (Nat.le_of_ble_eq_true rfl) lX_55 (Nat.le_of_ble_eq_true rfl) rfl (As := []) (rest := []) rfl rfl (Nat.le_of_ble_eq_true rfl) hm (pc := 61) dX7_someBrings_61 (fun t5 => ?_)
      refine j_if_eq hC (pc := 64) dX7_someBrings_64 (tgt := 80) rfl ?_ ?_
      · exact wX7_someBrings_80 hC hR hm F t4 v1 v2 v3 v4 v5 (pX7_someBrings_36 F v1 v2 v3 v4 fu) ih
      · refine j_iload_n hC (pc := 67) dX7_someBrings_67 3 rfl rfl ?_
        refine j_if_eq hC (pc := 68) dX7_someBrings_68 (tgt := 78) rfl ?_ ?_
        · refine j_sub [] (loc' := []) rfl ?_
          exact wX7_someBrings_78 hC hR hm F t4
        · refine j_aload_n hC (pc := 71) dX7_someBrings_71 0 rfl rfl ?_
          refine j_callV_E hC hR (ctX7_keepsAll hC.l hC.cn F t4) kc_RX7_39 (Nat.le_of_ble_eq_true rfl) (Nat.le_of_ble_eq_true rfl) lX_55 (Nat.le_of_ble_eq_true rfl) rfl (As := []) (rest := []) rfl rfl (Nat.le_of_ble_eq_true rfl) hm (pc := 72) dX7_someBrings_72 (fun t6 => ?_)
          refine j_if_eq hC (pc := 75) dX7_someBrings_75 (tgt := 80) rfl ?_ ?_
          · exact wX7_someBrings_80 hC hR hm F t6.2 v1 v2 v3 v4 v5 (pX7_someBrings_36 F v1 v2 v3 v4 fu) ih
          · refine j_sub [] (loc' := []) rfl ?_
            exact wX7_someBrings_78 hC hR hm F t6.2
    · refine j_iconst hC (pc := 86) dX7_someBrings_86 ki_0 ?_
      exact j_iret hC (pc := 87) dX7_someBrings_87 rfl rfl rfl
set_option maxRecDepth 20000 in
theorem wX7_someBrings_6 {Γ : JCtx} (hC : jC Γ cX7_someBrings 6 RX7 (some .boolean) layX 147) (hR : gR Γ = rmH 4) (hm : gcells Γ ≤ (gR Γ).cells ∧ gslots Γ ≤ (gR Γ).slots) (F : Nat) (κ : Mem) (v1 : Int32) (v2 : Int32) (v3 : Int32) : ∀ (n : Nat) (v4 : Int32) (v5 : Int32), JP Γ (qf Γ oE) (pX7_someBrings_6 F κ v1 v2 v3 n v4 v5) κ 6 [(0, .ref (gad Γ 55)), (1, .int v1), (2, .int v2), (3, .int v3), (4, .int v4), (5, .int v5)] [] := by
  intro n
  induction n with
  | zero =>
    intro v4 v5
    rw [pX7_someBrings_6]
    exact j_none
  | succ fu ih =>
    intro v4 v5
    rw [pX7_someBrings_6]
    refine j_iload hC (pc := 6) dX7_someBrings_6 5 rfl ?_
    refine j_aload_n hC (pc := 8) dX7_someBrings_8 0 rfl rfl ?_
    refine j_getR hC (pc := 9) dX7_someBrings_9 kf_RX7_18 lX_55 (Nat.le_of_ble_eq_true rfl) rfl ?_
    refine j_getI hC (pc := 12) dX7_someBrings_12 kf_RX7_22 lX_1 (Nat.le_of_ble_eq_true rfl) rfl ?_
    refine j_iload_n hC (pc := 15) dX7_someBrings_15 1 rfl rfl ?_
    refine j_isub hC (pc := 16) dX7_someBrings_16 ?_
    refine j_icmp_ge hC (pc := 17) dX7_someBrings_17 (tgt := 33) rfl ?_ ?_
    · refine j_iload hC (pc := 20) dX7_someBrings_20 4 rfl ?_
      refine j_iload hC (pc := 22) dX7_someBrings_22 5 rfl ?_
      refine j_imul hC (pc := 24) dX7_someBrings_24 ?_
      refine j_nmi (fun x1 => ?_)
      refine j_istore hC (pc := 25) dX7_someBrings_25 (Nat.le_of_ble_eq_true rfl) (loc' := [(4, .int x1), (0, .ref (gad Γ 55)), (1, .int v1), (2, .int v2), (3, .int v3), (5, .int v5)]) rfl ?_
      refine j_iinc hC (pc := 27) dX7_someBrings_27 5 rfl ki_1 (Nat.le_of_ble_eq_true rfl) (loc' := [(5, .int (v5 + 1)), (4, .int x1), (0, .ref (gad Γ 55)), (1, .int v1), (2, .int v2), (3, .int v3)]) rfl ?_
      refine j_goto hC (pc := 30) dX7_someBrings_30 (tgt := 6) rfl ?_
      refine j_sub [2, 3, 4, 5, 1, 0] (loc' := [(0, .ref (gad Γ 55)), (1, .int v1), (2, .int v2), (3, .int v3), (4, .int x1), (5, .int (v5 + 1))]) rfl ?_
      exact ih x1 (v5 + 1)
    · refine j_iconst hC (pc := 33) dX7_someBrings_33 ki_0 ?_
      refine j_istore hC (pc := 34) dX7_someBrings_34 (Nat.le_of_ble_eq_true rfl) (loc' := [(5, .int 0), (0, .ref (gad Γ 55)), (1, .int v1), (2, .int v2), (3, .int v3), (4, .int v4)]) rfl ?_
      refine j_sub [1, 2, 3, 4, 5, 0] (loc' := [(0, .ref (gad Γ 55)), (1, .int v1), (2, .int v2), (3, .int v3), (4, .int v4), (5, .int 0)]) rfl ?_
      exact wX7_someBrings_36 hC hR hm F v1 v2 v3 v4 F κ 0
set_option maxRecDepth 20000 in
theorem wX7_someBrings {Γ : JCtx} (hC : jC Γ cX7_someBrings 6 RX7 (some .boolean) layX 147) (hR : gR Γ = rmH 4) (hm : gcells Γ ≤ (gR Γ).cells ∧ gslots Γ ≤ (gR Γ).slots) (F : Nat) (κ : Mem) (v1 : Int32) (v2 : Int32) (v3 : Int32) : JP Γ (qf Γ oE) (pX7_someBrings F κ v1 v2 v3) κ 0 [(0, .ref (gad Γ 55)), (1, .int v1), (2, .int v2), (3, .int v3)] [] := by
  unfold pX7_someBrings
  refine j_iconst hC (pc := 0) dX7_someBrings_0 ki_1 ?_
  refine j_istore hC (pc := 1) dX7_someBrings_1 (Nat.le_of_ble_eq_true rfl) (loc' := [(4, .int 1), (0, .ref (gad Γ 55)), (1, .int v1), (2, .int v2), (3, .int v3)]) rfl ?_
  refine j_iconst hC (pc := 3) dX7_someBrings_3 ki_2 ?_
  refine j_istore hC (pc := 4) dX7_someBrings_4 (Nat.le_of_ble_eq_true rfl) (loc' := [(5, .int 2), (4, .int 1), (0, .ref (gad Γ 55)), (1, .int v1), (2, .int v2), (3, .int v3)]) rfl ?_
  refine j_sub [2, 3, 4, 5, 1, 0] (loc' := [(0, .ref (gad Γ 55)), (1, .int v1), (2, .int v2), (3, .int v3), (4, .int 1), (5, .int 2)]) rfl ?_
  exact wX7_someBrings_6 hC hR hm F κ v1 v2 v3 F 1 2
theorem ctX7_someBrings {Δ : DCtx} {l : Launch} (hl : dlay Δ = layX) (hN : dN Δ = 147) (F : Nat) (κ : Mem) (v1 : Int32) (v2 : Int32) (v3 : Int32) : ∀ r, pX7_someBrings F κ v1 v2 v3 = some r → CT Δ l yX7_someBrings cX7_someBrings 6 (some .boolean) (rmH 4) [.ref (dad Δ 55), .int v1, .int v2, .int v3] κ (some (.int r.1)) r.2 :=
  ct_of (nL := 6) (ret := (some .boolean)) (lay := layX) (N := 147) (by decide +kernel) (fun Δ => [.ref (dad Δ 55), .int v1, .int v2, .int v3]) (fun _ => oE) (fun _ => (Nat.le_of_ble_eq_true rfl)) (fun Γ hR hm hC => wX7_someBrings hC hR hm F κ v1 v2 v3) Δ l hl hN
set_option maxRecDepth 20000 in
theorem wX7_howMany_47 {Γ : JCtx} (hC : jC Γ cX7_howMany 6 RX7 (some .int) layX 147) (hR : gR Γ = rmH 5) (hm : gcells Γ ≤ (gR Γ).cells ∧ gslots Γ ≤ (gR Γ).slots) (F : Nat) (κ : Mem) (v1 : Int32) (v2 : Int32) (v3 : Int32) (v4 : Int32) (v5 : Int32) (k21 : Mem → Int32 → Int32 → Option (Int32 × Mem)) (hk21 : ∀ (κ : Mem) (v4 : Int32) (v5 : Int32), JP Γ (qf Γ oE) (k21 κ v4 v5) κ 21 [(0, .ref (gad Γ 55)), (1, .int v1), (2, .int v2), (3, .int v3), (4, .int v4), (5, .int v5)] []) : JP Γ (qf Γ oE) (pX7_howMany_47 F k21 κ v1 v2 v3 v4 v5) κ 47 [(0, .ref (gad Γ 55)), (1, .int v1), (2, .int v2), (3, .int v3), (4, .int v4), (5, .int v5)] [] := by
  unfold pX7_howMany_47
  refine j_iinc hC (pc := 47) dX7_howMany_47 5 rfl ki_1 (Nat.le_of_ble_eq_true rfl) (loc' := [(5, .int (v5 + 1)), (0, .ref (gad Γ 55)), (1, .int v1), (2, .int v2), (3, .int v3), (4, .int v4)]) rfl ?_
  refine j_goto hC (pc := 50) dX7_howMany_50 (tgt := 21) rfl ?_
  refine j_sub [1, 2, 3, 4, 5, 0] (loc' := [(0, .ref (gad Γ 55)), (1, .int v1), (2, .int v2), (3, .int v3), (4, .int v4), (5, .int (v5 + 1))]) rfl ?_
  exact hk21 κ v4 (v5 + 1)
set_option maxRecDepth 20000 in
theorem wX7_howMany_21 {Γ : JCtx} (hC : jC Γ cX7_howMany 6 RX7 (some .int) layX 147) (hR : gR Γ = rmH 5) (hm : gcells Γ ≤ (gR Γ).cells ∧ gslots Γ ≤ (gR Γ).slots) (F : Nat) (v1 : Int32) (v2 : Int32) (v3 : Int32) (k4 : Mem → Int32 → Int32 → Option (Int32 × Mem)) (hk4 : ∀ (κ : Mem) (v2 : Int32) (v3 : Int32), JP Γ (qf Γ oE) (k4 κ v2 v3) κ 4 [(0, .ref (gad Γ 55)), (1, .int v1), (2, .int v2), (3, .int v3)] []) : ∀ (n : Nat) (κ : Mem) (v4 : Int32) (v5 : Int32), JP Γ (qf Γ oE) (pX7_howMany_21 F k4 v1 v2 v3 n κ v4 v5) κ 21 [(0, .ref (gad Γ 55)), (1, .int v1), (2, .int v2), (3, .int v3), (4, .int v4), (5, .int v5)] [] := by
  intro n
  induction n with
  | zero =>
    intro κ v4 v5
    rw [pX7_howMany_21]
    exact j_none
  | succ fu ih =>
    intro κ v4 v5
    rw [pX7_howMany_21]
    refine j_iload hC (pc := 21) dX7_howMany_21 5 rfl ?_
    refine j_aload_n hC (pc := 23) dX7_howMany_23 0 rfl rfl ?_
    refine j_getR hC (pc := 24) dX7_howMany_24 kf_RX7_18 lX_55 (Nat.le_of_ble_eq_true rfl) rfl ?_
    refine j_getI hC (pc := 27) dX7_howMany_27 kf_RX7_22 lX_1 (Nat.le_of_ble_eq_true rfl) rfl ?_
    refine j_icmp_ge hC (pc := 30) dX7_howMany_30 (tgt := 53) rfl ?_ ?_
    · refine j_aload_n hC (pc := 33) dX7_howMany_33 0 rfl rfl ?_
      refine j_iload_n hC (pc := 34) dX7_howMany_34 3 rfl rfl ?_
      refine j_iload hC (pc := 35) dX7_howMany_35 5 rfl ?_
      refine j_iload_n hC (pc := 37) dX7_howMany_37 1 rfl rfl ?_
      refine j_callV_E hC hR (ctX7_someBrings hC.l hC.cn F κ v3 v5 v1) kc_RX7_28 (Nat.le_of_ble_eq_true rfl) (Nat.le_of_ble_eq_true rfl) lX_55 (Nat.le_of_ble_eq_true rfl) rfl (As := [.int v3, .int v5, .int v1]) (rest := []) rfl rfl (Nat.le_of_ble_eq_true rfl) hm (pc := 38) dX7_howMany_38 (fun t1 => ?_)
      refine j_if_eq hC (pc := 41) dX7_howMany_41 (tgt := 47) rfl ?_ ?_
      · exact wX7_howMany_47 hC hR hm F t1.2 v1 v2 v3 v4 v5 (pX7_howMany_21 F k4 v1 v2 v3 fu) ih
      · refine j_iinc hC (pc := 44) dX7_howMany_44 4 rfl ki_1 (Nat.le_of_ble_eq_true rfl) (loc' := [(4, .int (v4 + 1)), (0, .ref (gad Γ 55)), (1, .int v1), (2, .int v2), (3, .int v3), (5, .int v5)]) rfl ?_
        refine j_sub [1, 2, 3, 4, 0, 5] (loc' := [(0, .ref (gad Γ 55)), (1, .int v1), (2, .int v2), (3, .int v3), (4, .int (v4 + 1)), (5, .int v5)]) rfl ?_
        exact wX7_howMany_47 hC hR hm F t1.2 v1 v2 v3 (v4 + 1) v5 (pX7_howMany_21 F k4 v1 v2 v3 fu) ih
    · refine j_iload_n hC (pc := 53) dX7_howMany_53 2 rfl rfl ?_
      refine j_iload hC (pc := 54) dX7_howMany_54 4 rfl ?_
      refine j_imul hC (pc := 56) dX7_howMany_56 ?_
      refine j_nmi (fun x2 => ?_)
      refine j_istore_n hC (pc := 57) dX7_howMany_57 rfl (Nat.le_of_ble_eq_true rfl) (loc' := [(2, .int x2), (0, .ref (gad Γ 55)), (1, .int v1), (3, .int v3), (4, .int v4), (5, .int v5)]) rfl ?_
      refine j_iinc hC (pc := 58) dX7_howMany_58 3 rfl ki_1 (Nat.le_of_ble_eq_true rfl) (loc' := [(3, .int (v3 + 1)), (2, .int x2), (0, .ref (gad Γ 55)), (1, .int v1), (4, .int v4), (5, .int v5)]) rfl ?_
      refine j_goto hC (pc := 61) dX7_howMany_61 (tgt := 4) rfl ?_
      refine j_sub [2, 3, 1, 0] (loc' := [(0, .ref (gad Γ 55)), (1, .int v1), (2, .int x2), (3, .int (v3 + 1))]) rfl ?_
      exact hk4 κ x2 (v3 + 1)
set_option maxRecDepth 20000 in
theorem wX7_howMany_4 {Γ : JCtx} (hC : jC Γ cX7_howMany 6 RX7 (some .int) layX 147) (hR : gR Γ = rmH 5) (hm : gcells Γ ≤ (gR Γ).cells ∧ gslots Γ ≤ (gR Γ).slots) (F : Nat) (v1 : Int32) : ∀ (n : Nat) (κ : Mem) (v2 : Int32) (v3 : Int32), JP Γ (qf Γ oE) (pX7_howMany_4 F v1 n κ v2 v3) κ 4 [(0, .ref (gad Γ 55)), (1, .int v1), (2, .int v2), (3, .int v3)] [] := by
  intro n
  induction n with
  | zero =>
    intro κ v2 v3
    rw [pX7_howMany_4]
    exact j_none
  | succ fu ih =>
    intro κ v2 v3
    rw [pX7_howMany_4]
    refine j_iload_n hC (pc := 4) dX7_howMany_4 3 rfl rfl ?_
    refine j_aload_n hC (pc := 5) dX7_howMany_5 0 rfl rfl ?_
    refine j_getR hC (pc := 6) dX7_howMany_6 kf_RX7_18 lX_55 (Nat.le_of_ble_eq_true rfl) rfl ?_
    refine j_getI hC (pc := 9) dX7_howMany_9 kf_RX7_22 lX_1 (Nat.le_of_ble_eq_true rfl) rfl ?_
    refine j_icmp_ge hC (pc := 12) dX7_howMany_12 (tgt := 64) rfl ?_ ?_
    · refine j_iconst hC (pc := 15) dX7_howMany_15 ki_0 ?_
      refine j_istore hC (pc := 16) dX7_howMany_16 (Nat.le_of_ble_eq_true rfl) (loc' := [(4, .int 0), (0, .ref (gad Γ 55)), (1, .int v1), (2, .int v2), (3, .int v3)]) rfl ?_
      refine j_iload_n hC (pc := 18) dX7_howMany_18 4 rfl rfl ?_
      refine j_istore hC (pc := 19) dX7_howMany_19 (Nat.le_of_ble_eq_true rfl) (loc' := [(5, .int v3), (4, .int 0), (0, .ref (gad Γ 55)), (1, .int v1), (2, .int v2), (3, .int v3)]) rfl ?_
      refine j_sub [2, 3, 4, 5, 1, 0] (loc' := [(0, .ref (gad Γ 55)), (1, .int v1), (2, .int v2), (3, .int v3), (4, .int 0), (5, .int v3)]) rfl ?_
      exact wX7_howMany_21 hC hR hm F v1 v2 v3 (pX7_howMany_4 F v1 fu) ih F κ 0 v3
    · refine j_iload_n hC (pc := 64) dX7_howMany_64 2 rfl rfl ?_
      exact j_iret hC (pc := 65) dX7_howMany_65 rfl rfl rfl
set_option maxRecDepth 20000 in
theorem wX7_howMany {Γ : JCtx} (hC : jC Γ cX7_howMany 6 RX7 (some .int) layX 147) (hR : gR Γ = rmH 5) (hm : gcells Γ ≤ (gR Γ).cells ∧ gslots Γ ≤ (gR Γ).slots) (F : Nat) (κ : Mem) (v1 : Int32) : JP Γ (qf Γ oE) (pX7_howMany F κ v1) κ 0 [(0, .ref (gad Γ 55)), (1, .int v1)] [] := by
  unfold pX7_howMany
  refine j_iconst hC (pc := 0) dX7_howMany_0 ki_1 ?_
  refine j_istore_n hC (pc := 1) dX7_howMany_1 rfl (Nat.le_of_ble_eq_true rfl) (loc' := [(2, .int 1), (0, .ref (gad Γ 55)), (1, .int v1)]) rfl ?_
  refine j_iconst hC (pc := 2) dX7_howMany_2 ki_0 ?_
  refine j_istore_n hC (pc := 3) dX7_howMany_3 rfl (Nat.le_of_ble_eq_true rfl) (loc' := [(3, .int 0), (2, .int 1), (0, .ref (gad Γ 55)), (1, .int v1)]) rfl ?_
  refine j_sub [2, 3, 1, 0] (loc' := [(0, .ref (gad Γ 55)), (1, .int v1), (2, .int 1), (3, .int 0)]) rfl ?_
  exact wX7_howMany_4 hC hR hm F v1 F κ 1 0
theorem ctX7_howMany {Δ : DCtx} {l : Launch} (hl : dlay Δ = layX) (hN : dN Δ = 147) (F : Nat) (κ : Mem) (v1 : Int32) : ∀ r, pX7_howMany F κ v1 = some r → CT Δ l yX7_howMany cX7_howMany 6 (some .int) (rmH 5) [.ref (dad Δ 55), .int v1] κ (some (.int r.1)) r.2 :=
  ct_of (nL := 6) (ret := (some .int)) (lay := layX) (N := 147) (by decide +kernel) (fun Δ => [.ref (dad Δ 55), .int v1]) (fun _ => oE) (fun _ => (Nat.le_of_ble_eq_true rfl)) (fun Γ hR hm hC => wX7_howMany hC hR hm F κ v1) Δ l hl hN
set_option maxRecDepth 20000 in
theorem wX7_swapKeeps_37 {Γ : JCtx} (hC : jC Γ cX7_swapKeeps 3 RX7 (some .boolean) layX 147) (hR : gR Γ = rmH 4) (hm : gcells Γ ≤ (gR Γ).cells ∧ gslots Γ ≤ (gR Γ).slots) (F : Nat) (κ : Mem) (y0 : Int32) : JP Γ (qf Γ oE) (pX7_swapKeeps_37 F κ y0) κ 37 [] [.int y0] := by
  unfold pX7_swapKeeps_37
  refine j_ckP (fun hq5 => ?_)
  exact j_iret hC (pc := 37) dX7_swapKeeps_37 rfl (isB_n hq5) rfl
set_option maxRecDepth 20000 in
theorem wX7_swapKeeps_36 {Γ : JCtx} (hC : jC Γ cX7_swapKeeps 3 RX7 (some .boolean) layX 147) (hR : gR Γ = rmH 4) (hm : gcells Γ ≤ (gR Γ).cells ∧ gslots Γ ≤ (gR Γ).slots) (F : Nat) (κ : Mem) : JP Γ (qf Γ oE) (pX7_swapKeeps_36 F κ) κ 36 [] [] := by
  unfold pX7_swapKeeps_36
  refine j_iconst hC (pc := 36) dX7_swapKeeps_36 ki_0 ?_
  exact wX7_swapKeeps_37 hC hR hm F κ 0
set_option maxRecDepth 20000 in
theorem wX7_swapKeeps {Γ : JCtx} (hC : jC Γ cX7_swapKeeps 3 RX7 (some .boolean) layX 147) (hR : gR Γ = rmH 4) (hm : gcells Γ ≤ (gR Γ).cells ∧ gslots Γ ≤ (gR Γ).slots) (F : Nat) (κ : Mem) (v1 : Int32) (v2 : Int32) : JP Γ (qf Γ oE) (pX7_swapKeeps F κ v1 v2) κ 0 [(0, .ref (gad Γ 55)), (1, .int v1), (2, .int v2)] [] := by
  unfold pX7_swapKeeps
  refine j_aload_n hC (pc := 0) dX7_swapKeeps_0 0 rfl rfl ?_
  refine j_callV_V hC hR (ctX7_stay hC.l hC.cn F κ) kc_RX7_32 (Nat.le_of_ble_eq_true rfl) (Nat.le_of_ble_eq_true rfl) lX_55 (Nat.le_of_ble_eq_true rfl) rfl (As := []) (rest := []) rfl rfl (Nat.le_of_ble_eq_true rfl) hm (pc := 1) dX7_swapKeeps_1 (fun t1 => ?_)
  refine j_aload_n hC (pc := 4) dX7_swapKeeps_4 0 rfl rfl ?_
  refine j_getR hC (pc := 5) dX7_swapKeeps_5 kf_RX7_9 lX_55 (Nat.le_of_ble_eq_true rfl) rfl ?_
  refine j_iload_n hC (pc := 8) dX7_swapKeeps_8 1 rfl rfl ?_
  refine j_iload_n hC (pc := 9) dX7_swapKeeps_9 2 rfl rfl ?_
  refine j_iast hC (pc := 10) dX7_swapKeeps_10 lX_56 (Nat.le_of_ble_eq_true rfl) (fun κ2 => ?_)
  refine j_aload_n hC (pc := 11) dX7_swapKeeps_11 0 rfl rfl ?_
  refine j_getR hC (pc := 12) dX7_swapKeeps_12 kf_RX7_9 lX_55 (Nat.le_of_ble_eq_true rfl) rfl ?_
  refine j_iload_n hC (pc := 15) dX7_swapKeeps_15 2 rfl rfl ?_
  refine j_iload_n hC (pc := 16) dX7_swapKeeps_16 1 rfl rfl ?_
  refine j_iast hC (pc := 17) dX7_swapKeeps_17 lX_56 (Nat.le_of_ble_eq_true rfl) (fun κ3 => ?_)
  refine j_aload_n hC (pc := 18) dX7_swapKeeps_18 0 rfl rfl ?_
  refine j_callV_I hC hR (ctX7_fits hC.l hC.cn F κ3) kc_RX7_35 (Nat.le_of_ble_eq_true rfl) (Nat.le_of_ble_eq_true rfl) lX_55 (Nat.le_of_ble_eq_true rfl) rfl (As := []) (rest := []) rfl rfl (Nat.le_of_ble_eq_true rfl) hm (pc := 19) dX7_swapKeeps_19 (fun t4 => ?_)
  refine j_if_eq hC (pc := 22) dX7_swapKeeps_22 (tgt := 36) rfl ?_ ?_
  · refine j_sub [] (loc' := []) rfl ?_
    exact wX7_swapKeeps_36 hC hR hm F κ3
  · refine j_aload_n hC (pc := 25) dX7_swapKeeps_25 0 rfl rfl ?_
    refine j_callV_E hC hR (ctX7_keepsAll hC.l hC.cn F κ3) kc_RX7_39 (Nat.le_of_ble_eq_true rfl) (Nat.le_of_ble_eq_true rfl) lX_55 (Nat.le_of_ble_eq_true rfl) rfl (As := []) (rest := []) rfl rfl (Nat.le_of_ble_eq_true rfl) hm (pc := 26) dX7_swapKeeps_26 (fun t6 => ?_)
    refine j_if_eq hC (pc := 29) dX7_swapKeeps_29 (tgt := 36) rfl ?_ ?_
    · refine j_sub [] (loc' := []) rfl ?_
      exact wX7_swapKeeps_36 hC hR hm F t6.2
    · refine j_iconst hC (pc := 32) dX7_swapKeeps_32 ki_1 ?_
      refine j_goto hC (pc := 33) dX7_swapKeeps_33 (tgt := 37) rfl ?_
      refine j_sub [] (loc' := []) rfl ?_
      exact wX7_swapKeeps_37 hC hR hm F t6.2 1
theorem ctX7_swapKeeps {Δ : DCtx} {l : Launch} (hl : dlay Δ = layX) (hN : dN Δ = 147) (F : Nat) (κ : Mem) (v1 : Int32) (v2 : Int32) : ∀ r, pX7_swapKeeps F κ v1 v2 = some r → CT Δ l yX7_swapKeeps cX7_swapKeeps 3 (some .boolean) (rmH 4) [.ref (dad Δ 55), .int v1, .int v2] κ (some (.int r.1)) r.2 :=
  ct_of (nL := 3) (ret := (some .boolean)) (lay := layX) (N := 147) (by decide +kernel) (fun Δ => [.ref (dad Δ 55), .int v1, .int v2]) (fun _ => oE) (fun _ => (Nat.le_of_ble_eq_true rfl)) (fun Γ hR hm hC => wX7_swapKeeps hC hR hm F κ v1 v2) Δ l hl hN
set_option maxRecDepth 20000 in
theorem wX4_stepsTo_74 {Γ : JCtx} (hC : jC Γ cX4_stepsTo 7 RX4 (some .int) layX 147) (hR : gR Γ = rmH 0) (hm : gcells Γ ≤ (gR Γ).cells ∧ gslots Γ ≤ (gR Γ).slots) (F : Nat) (κ : Mem) (v2 : Int32) (v3 : Int32) (v4 : Int32) (v5 : Int32) (v6 : Int32) (k37 : Int32 → Int32 → Option Int32) (hk37 : ∀ (v5 : Int32) (v6 : Int32), JP Γ (qf Γ (oI κ)) (k37 v5 v6) κ 37 [(0, .ref (gad Γ 54)), (2, .int v2), (3, .int v3), (4, .int v4), (5, .int v5), (6, .int v6)] []) : JP Γ (qf Γ (oI κ)) (pX4_stepsTo_74 F κ k37 v2 v3 v4 v5 v6) κ 74 [(0, .ref (gad Γ 54)), (2, .int v2), (3, .int v3), (4, .int v4), (5, .int v5), (6, .int v6)] [] := by
  unfold pX4_stepsTo_74
  refine j_iinc hC (pc := 74) dX4_stepsTo_74 5 rfl ki_1 (Nat.le_of_ble_eq_true rfl) (loc' := [(6, .int (v6 + 1)), (0, .ref (gad Γ 54)), (2, .int v2), (3, .int v3), (4, .int v4), (5, .int v5)]) rfl ?_
  refine j_goto hC (pc := 77) dX4_stepsTo_77 (tgt := 37) rfl ?_
  refine j_sub [1, 2, 3, 4, 5, 0] (loc' := [(0, .ref (gad Γ 54)), (2, .int v2), (3, .int v3), (4, .int v4), (5, .int v5), (6, .int (v6 + 1))]) rfl ?_
  exact hk37 v5 (v6 + 1)
set_option maxRecDepth 20000 in
theorem wX4_stepsTo_37 {Γ : JCtx} (hC : jC Γ cX4_stepsTo 7 RX4 (some .int) layX 147) (hR : gR Γ = rmH 0) (hm : gcells Γ ≤ (gR Γ).cells ∧ gslots Γ ≤ (gR Γ).slots) (F : Nat) (κ : Mem) (v2 : Int32) (v3 : Int32) (v4 : Int32) (k7 : Int32 → Int32 → Option Int32) (hk7 : ∀ (v3 : Int32) (v4 : Int32), JP Γ (qf Γ (oI κ)) (k7 v3 v4) κ 7 [(0, .ref (gad Γ 54)), (2, .int v2), (3, .int v3), (4, .int v4)] []) : ∀ (n : Nat) (v5 : Int32) (v6 : Int32), JP Γ (qf Γ (oI κ)) (pX4_stepsTo_37 F κ k7 v2 v3 v4 n v5 v6) κ 37 [(0, .ref (gad Γ 54)), (2, .int v2), (3, .int v3), (4, .int v4), (5, .int v5), (6, .int v6)] [] := by
  intro n
  induction n with
  | zero =>
    intro v5 v6
    rw [pX4_stepsTo_37]
    exact j_none
  | succ fu ih =>
    intro v5 v6
    rw [pX4_stepsTo_37]
    refine j_iload hC (pc := 37) dX4_stepsTo_37 5 rfl ?_
    refine j_aload_n hC (pc := 39) dX4_stepsTo_39 0 rfl rfl ?_
    refine j_getR hC (pc := 40) dX4_stepsTo_40 kf_RX4_9 lX_54 (Nat.le_of_ble_eq_true rfl) rfl ?_
    refine j_getI hC (pc := 43) dX4_stepsTo_43 kf_RX4_15 lX_1 (Nat.le_of_ble_eq_true rfl) rfl ?_
    refine j_icmp_ge hC (pc := 46) dX4_stepsTo_46 (tgt := 80) rfl ?_ ?_
    · refine j_iload_n hC (pc := 49) dX4_stepsTo_49 2 rfl rfl ?_
      refine j_iload hC (pc := 50) dX4_stepsTo_50 5 rfl ?_
      refine j_ishr hC (pc := 52) dX4_stepsTo_52 ?_
      refine j_iconst hC (pc := 53) dX4_stepsTo_53 ki_1 ?_
      refine j_iand hC (pc := 54) dX4_stepsTo_54 ?_
      refine j_iconst hC (pc := 55) dX4_stepsTo_55 ki_1 ?_
      refine j_icmp_ne hC (pc := 56) dX4_stepsTo_56 (tgt := 74) rfl ?_ ?_
      · refine j_iload hC (pc := 59) dX4_stepsTo_59 4 rfl ?_
        refine j_aload_n hC (pc := 61) dX4_stepsTo_61 0 rfl rfl ?_
        refine j_getR hC (pc := 62) dX4_stepsTo_62 kf_RX4_9 lX_54 (Nat.le_of_ble_eq_true rfl) rfl ?_
        refine j_getR hC (pc := 65) dX4_stepsTo_65 kf_RX4_21 lX_1 (Nat.le_of_ble_eq_true rfl) rfl ?_
        refine j_iload hC (pc := 68) dX4_stepsTo_68 5 rfl ?_
        refine j_iald hC (pc := 70) dX4_stepsTo_70 lX_3 (Nat.le_of_ble_eq_true rfl) ?_
        refine j_ior hC (pc := 71) dX4_stepsTo_71 ?_
        refine j_nmi (fun x2 => ?_)
        refine j_istore hC (pc := 72) dX4_stepsTo_72 (Nat.le_of_ble_eq_true rfl) (loc' := [(5, .int x2), (0, .ref (gad Γ 54)), (2, .int v2), (3, .int v3), (4, .int v4), (6, .int v6)]) rfl ?_
        refine j_sub [1, 2, 3, 4, 0, 5] (loc' := [(0, .ref (gad Γ 54)), (2, .int v2), (3, .int v3), (4, .int v4), (5, .int x2), (6, .int v6)]) rfl ?_
        exact wX4_stepsTo_74 hC hR hm F κ v2 v3 v4 x2 v6 (pX4_stepsTo_37 F κ k7 v2 v3 v4 fu) ih
      · exact wX4_stepsTo_74 hC hR hm F κ v2 v3 v4 v5 v6 (pX4_stepsTo_37 F κ k7 v2 v3 v4 fu) ih
    · refine j_iload hC (pc := 80) dX4_stepsTo_80 4 rfl ?_
      refine j_istore_n hC (pc := 82) dX4_stepsTo_82 rfl (Nat.le_of_ble_eq_true rfl) (loc' := [(3, .int v5), (0, .ref (gad Γ 54)), (2, .int v2), (4, .int v4), (5, .int v5), (6, .int v6)]) rfl ?_
      refine j_iinc hC (pc := 83) dX4_stepsTo_83 3 rfl ki_1 (Nat.le_of_ble_eq_true rfl) (loc' := [(4, .int (v4 + 1)), (3, .int v5), (0, .ref (gad Γ 54)), (2, .int v2), (5, .int v5), (6, .int v6)]) rfl ?_
      refine j_goto hC (pc := 86) dX4_stepsTo_86 (tgt := 7) rfl ?_
      refine j_sub [2, 3, 1, 0] (loc' := [(0, .ref (gad Γ 54)), (2, .int v2), (3, .int v5), (4, .int (v4 + 1))]) rfl ?_
      exact hk7 v5 (v4 + 1)
set_option maxRecDepth 20000 in
theorem wX4_stepsTo_7 {Γ : JCtx} (hC : jC Γ cX4_stepsTo 7 RX4 (some .int) layX 147) (hR : gR Γ = rmH 0) (hm : gcells Γ ≤ (gR Γ).cells ∧ gslots Γ ≤ (gR Γ).slots) (F : Nat) (κ : Mem) (v2 : Int32) : ∀ (n : Nat) (v3 : Int32) (v4 : Int32), JP Γ (qf Γ (oI κ)) (pX4_stepsTo_7 F κ v2 n v3 v4) κ 7 [(0, .ref (gad Γ 54)), (2, .int v2), (3, .int v3), (4, .int v4)] [] := by
  intro n
  induction n with
  | zero =>
    intro v3 v4
    rw [pX4_stepsTo_7]
    exact j_none
  | succ fu ih =>
    intro v3 v4
    rw [pX4_stepsTo_7]
    refine j_iload hC (pc := 7) dX4_stepsTo_7 3 rfl ?_
    refine j_aload_n hC (pc := 9) dX4_stepsTo_9 0 rfl rfl ?_
    refine j_getR hC (pc := 10) dX4_stepsTo_10 kf_RX4_9 lX_54 (Nat.le_of_ble_eq_true rfl) rfl ?_
    refine j_getI hC (pc := 13) dX4_stepsTo_13 kf_RX4_15 lX_1 (Nat.le_of_ble_eq_true rfl) rfl ?_
    refine j_icmp_ge hC (pc := 16) dX4_stepsTo_16 (tgt := 89) rfl ?_ ?_
    · refine j_iload_n hC (pc := 19) dX4_stepsTo_19 2 rfl rfl ?_
      refine j_iload_n hC (pc := 20) dX4_stepsTo_20 1 rfl rfl ?_
      refine j_ishr hC (pc := 21) dX4_stepsTo_21 ?_
      refine j_iconst hC (pc := 22) dX4_stepsTo_22 ki_1 ?_
      refine j_iand hC (pc := 23) dX4_stepsTo_23 ?_
      refine j_iconst hC (pc := 24) dX4_stepsTo_24 ki_1 ?_
      refine j_icmp_ne hC (pc := 25) dX4_stepsTo_25 (tgt := 31) rfl ?_ ?_
      · refine j_iload hC (pc := 28) dX4_stepsTo_28 3 rfl ?_
        exact j_iret hC (pc := 30) dX4_stepsTo_30 rfl rfl rfl
      · refine j_iload_n hC (pc := 31) dX4_stepsTo_31 2 rfl rfl ?_
        refine j_istore hC (pc := 32) dX4_stepsTo_32 (Nat.le_of_ble_eq_true rfl) (loc' := [(5, .int v3), (0, .ref (gad Γ 54)), (2, .int v2), (3, .int v3), (4, .int v4)]) rfl ?_
        refine j_iconst hC (pc := 34) dX4_stepsTo_34 ki_0 ?_
        refine j_istore hC (pc := 35) dX4_stepsTo_35 (Nat.le_of_ble_eq_true rfl) (loc' := [(6, .int 0), (5, .int v3), (0, .ref (gad Γ 54)), (2, .int v2), (3, .int v3), (4, .int v4)]) rfl ?_
        refine j_sub [2, 3, 4, 5, 1, 0] (loc' := [(0, .ref (gad Γ 54)), (2, .int v2), (3, .int v3), (4, .int v4), (5, .int v3), (6, .int 0)]) rfl ?_
        exact wX4_stepsTo_37 hC hR hm F κ v2 v3 v4 (pX4_stepsTo_7 F κ v2 fu) ih F v3 0
    · refine j_iconst hC (pc := 89) dX4_stepsTo_89 ki_m1 ?_
      exact j_iret hC (pc := 90) dX4_stepsTo_90 rfl rfl rfl
set_option maxRecDepth 20000 in
theorem wX4_stepsTo {Γ : JCtx} (hC : jC Γ cX4_stepsTo 7 RX4 (some .int) layX 147) (hR : gR Γ = rmH 0) (hm : gcells Γ ≤ (gR Γ).cells ∧ gslots Γ ≤ (gR Γ).slots) (F : Nat) (κ : Mem) (v1 : Int32) (v2 : Int32) : JP Γ (qf Γ (oI κ)) (pX4_stepsTo F κ v1 v2) κ 0 [(0, .ref (gad Γ 54)), (1, .int v1), (2, .int v2)] [] := by
  unfold pX4_stepsTo
  refine j_iconst hC (pc := 0) dX4_stepsTo_0 ki_1 ?_
  refine j_iload_n hC (pc := 1) dX4_stepsTo_1 1 rfl rfl ?_
  refine j_ishl hC (pc := 2) dX4_stepsTo_2 ?_
  refine j_nmi (fun x1 => ?_)
  refine j_istore_n hC (pc := 3) dX4_stepsTo_3 rfl (Nat.le_of_ble_eq_true rfl) (loc' := [(3, .int x1), (0, .ref (gad Γ 54)), (1, .int v1), (2, .int v2)]) rfl ?_
  refine j_iconst hC (pc := 4) dX4_stepsTo_4 ki_0 ?_
  refine j_istore hC (pc := 5) dX4_stepsTo_5 (Nat.le_of_ble_eq_true rfl) (loc' := [(4, .int 0), (3, .int x1), (0, .ref (gad Γ 54)), (1, .int v1), (2, .int v2)]) rfl ?_
  refine j_sub [2, 4, 1, 0] (loc' := [(0, .ref (gad Γ 54)), (2, .int v2), (3, .int x1), (4, .int 0)]) rfl ?_
  exact wX4_stepsTo_7 hC hR hm F κ v2 F x1 0
theorem ctX4_stepsTo {Δ : DCtx} {l : Launch} (hl : dlay Δ = layX) (hN : dN Δ = 147) (F : Nat) (κ : Mem) (v1 : Int32) (v2 : Int32) : ∀ r, pX4_stepsTo F κ v1 v2 = some r → CT Δ l yX4_stepsTo cX4_stepsTo 7 (some .int) (rmH 0) [.ref (dad Δ 54), .int v1, .int v2] κ (some (.int r)) κ :=
  ct_of (nL := 7) (ret := (some .int)) (lay := layX) (N := 147) (by decide +kernel) (fun Δ => [.ref (dad Δ 54), .int v1, .int v2]) (fun _ => oI κ) (fun _ => (Nat.le_of_ble_eq_true rfl)) (fun Γ hR hm hC => wX4_stepsTo hC hR hm F κ v1 v2) Δ l hl hN
set_option maxRecDepth 20000 in
theorem wX4_linkedWith_55 {Γ : JCtx} (hC : jC Γ cX4_linkedWith 6 RX4 (some .int) layX 147) (hR : gR Γ = rmH 2) (hm : gcells Γ ≤ (gR Γ).cells ∧ gslots Γ ≤ (gR Γ).slots) (F : Nat) (κ : Mem) (v2 : Int32) (v3 : Int32) (v4 : Int32) (v5 : Int32) (k22 : Int32 → Int32 → Option Int32) (hk22 : ∀ (v3 : Int32) (v5 : Int32), JP Γ (qf Γ (oI κ)) (k22 v3 v5) κ 22 [(0, .ref (gad Γ 54)), (2, .int v2), (3, .int v3), (4, .int v4), (5, .int v5)] []) : JP Γ (qf Γ (oI κ)) (pX4_linkedWith_55 F κ k22 v2 v3 v4 v5) κ 55 [(0, .ref (gad Γ 54)), (2, .int v2), (3, .int v3), (4, .int v4), (5, .int v5)] [] := by
  unfold pX4_linkedWith_55
  refine j_iinc hC (pc := 55) dX4_linkedWith_55 4 rfl ki_1 (Nat.le_of_ble_eq_true rfl) (loc' := [(5, .int (v5 + 1)), (0, .ref (gad Γ 54)), (2, .int v2), (3, .int v3), (4, .int v4)]) rfl ?_
  refine j_goto hC (pc := 58) dX4_linkedWith_58 (tgt := 22) rfl ?_
  refine j_sub [1, 2, 3, 4, 0] (loc' := [(0, .ref (gad Γ 54)), (2, .int v2), (3, .int v3), (4, .int v4), (5, .int (v5 + 1))]) rfl ?_
  exact hk22 v3 (v5 + 1)
set_option maxRecDepth 20000 in
theorem wX4_linkedWith_22 {Γ : JCtx} (hC : jC Γ cX4_linkedWith 6 RX4 (some .int) layX 147) (hR : gR Γ = rmH 2) (hm : gcells Γ ≤ (gR Γ).cells ∧ gslots Γ ≤ (gR Γ).slots) (F : Nat) (κ : Mem) (v2 : Int32) (v4 : Int32) (k7 : Int32 → Int32 → Option Int32) (hk7 : ∀ (v3 : Int32) (v4 : Int32), JP Γ (qf Γ (oI κ)) (k7 v3 v4) κ 7 [(0, .ref (gad Γ 54)), (2, .int v2), (3, .int v3), (4, .int v4)] []) : ∀ (n : Nat) (v3 : Int32) (v5 : Int32), JP Γ (qf Γ (oI κ)) (pX4_linkedWith_22 F κ k7 v2 v4 n v3 v5) κ 22 [(0, .ref (gad Γ 54)), (2, .int v2), (3, .int v3), (4, .int v4), (5, .int v5)] [] := by
  intro n
  induction n with
  | zero =>
    intro v3 v5
    rw [pX4_linkedWith_22]
    exact j_none
  | succ fu ih =>
    intro v3 v5
    rw [pX4_linkedWith_22]
    refine j_iload hC (pc := 22) dX4_linkedWith_22 4 rfl ?_
    refine j_aload_n hC (pc := 24) dX4_linkedWith_24 0 rfl rfl ?_
    refine j_getR hC (pc := 25) dX4_linkedWith_25 kf_RX4_9 lX_54 (Nat.le_of_ble_eq_true rfl) rfl ?_
    refine j_getI hC (pc := 28) dX4_linkedWith_28 kf_RX4_15 lX_1 (Nat.le_of_ble_eq_true rfl) rfl ?_
    refine j_icmp_ge hC (pc := 31) dX4_linkedWith_31 (tgt := 61) rfl ?_ ?_
    · refine j_iload_n hC (pc := 34) dX4_linkedWith_34 2 rfl rfl ?_
      refine j_iload hC (pc := 35) dX4_linkedWith_35 4 rfl ?_
      refine j_ishr hC (pc := 37) dX4_linkedWith_37 ?_
      refine j_iconst hC (pc := 38) dX4_linkedWith_38 ki_1 ?_
      refine j_iand hC (pc := 39) dX4_linkedWith_39 ?_
      refine j_iconst hC (pc := 40) dX4_linkedWith_40 ki_1 ?_
      refine j_icmp_ne hC (pc := 41) dX4_linkedWith_41 (tgt := 55) rfl ?_ ?_
      · refine j_iload_n hC (pc := 44) dX4_linkedWith_44 2 rfl rfl ?_
        refine j_aload_n hC (pc := 45) dX4_linkedWith_45 0 rfl rfl ?_
        refine j_iload hC (pc := 46) dX4_linkedWith_46 4 rfl ?_
        refine j_callV_I hC hR (ctX4_linked hC.l hC.cn F κ v5) kc_RX4_34 (Nat.le_of_ble_eq_true rfl) (Nat.le_of_ble_eq_true rfl) lX_54 (Nat.le_of_ble_eq_true rfl) rfl (As := [.int v5]) (rest := [.int v3]) rfl rfl (Nat.le_of_ble_eq_true rfl) hm (pc := 48) dX4_linkedWith_48 (fun t2 => ?_)
        refine j_iload_n hC (pc := 51) dX4_linkedWith_51 1 rfl rfl ?_
        refine j_iand hC (pc := 52) dX4_linkedWith_52 ?_
        refine j_ior hC (pc := 53) dX4_linkedWith_53 ?_
        refine j_nmi (fun x3 => ?_)
        refine j_istore_n hC (pc := 54) dX4_linkedWith_54 rfl (Nat.le_of_ble_eq_true rfl) (loc' := [(3, .int x3), (0, .ref (gad Γ 54)), (2, .int v2), (4, .int v4), (5, .int v5)]) rfl ?_
        refine j_sub [1, 2, 0, 3, 4] (loc' := [(0, .ref (gad Γ 54)), (2, .int v2), (3, .int x3), (4, .int v4), (5, .int v5)]) rfl ?_
        exact wX4_linkedWith_55 hC hR hm F κ v2 x3 v4 v5 (pX4_linkedWith_22 F κ k7 v2 v4 fu) ih
      · exact wX4_linkedWith_55 hC hR hm F κ v2 v3 v4 v5 (pX4_linkedWith_22 F κ k7 v2 v4 fu) ih
    · refine j_iinc hC (pc := 61) dX4_linkedWith_61 3 rfl ki_1 (Nat.le_of_ble_eq_true rfl) (loc' := [(4, .int (v4 + 1)), (0, .ref (gad Γ 54)), (2, .int v2), (3, .int v3), (5, .int v5)]) rfl ?_
      refine j_goto hC (pc := 64) dX4_linkedWith_64 (tgt := 7) rfl ?_
      refine j_sub [1, 2, 3, 0] (loc' := [(0, .ref (gad Γ 54)), (2, .int v2), (3, .int v3), (4, .int (v4 + 1))]) rfl ?_
      exact hk7 v3 (v4 + 1)
set_option maxRecDepth 20000 in
theorem wX4_linkedWith_7 {Γ : JCtx} (hC : jC Γ cX4_linkedWith 6 RX4 (some .int) layX 147) (hR : gR Γ = rmH 2) (hm : gcells Γ ≤ (gR Γ).cells ∧ gslots Γ ≤ (gR Γ).slots) (F : Nat) (κ : Mem) (v2 : Int32) : ∀ (n : Nat) (v3 : Int32) (v4 : Int32), JP Γ (qf Γ (oI κ)) (pX4_linkedWith_7 F κ v2 n v3 v4) κ 7 [(0, .ref (gad Γ 54)), (2, .int v2), (3, .int v3), (4, .int v4)] [] := by
  intro n
  induction n with
  | zero =>
    intro v3 v4
    rw [pX4_linkedWith_7]
    exact j_none
  | succ fu ih =>
    intro v3 v4
    rw [pX4_linkedWith_7]
    refine j_iload hC (pc := 7) dX4_linkedWith_7 3 rfl ?_
    refine j_aload_n hC (pc := 9) dX4_linkedWith_9 0 rfl rfl ?_
    refine j_getR hC (pc := 10) dX4_linkedWith_10 kf_RX4_9 lX_54 (Nat.le_of_ble_eq_true rfl) rfl ?_
    refine j_getI hC (pc := 13) dX4_linkedWith_13 kf_RX4_15 lX_1 (Nat.le_of_ble_eq_true rfl) rfl ?_
    refine j_icmp_ge hC (pc := 16) dX4_linkedWith_16 (tgt := 67) rfl ?_ ?_
    · refine j_iconst hC (pc := 19) dX4_linkedWith_19 ki_0 ?_
      refine j_istore hC (pc := 20) dX4_linkedWith_20 (Nat.le_of_ble_eq_true rfl) (loc' := [(5, .int 0), (0, .ref (gad Γ 54)), (2, .int v2), (3, .int v3), (4, .int v4)]) rfl ?_
      refine j_sub [1, 2, 3, 4, 0] (loc' := [(0, .ref (gad Γ 54)), (2, .int v2), (3, .int v3), (4, .int v4), (5, .int 0)]) rfl ?_
      exact wX4_linkedWith_22 hC hR hm F κ v2 v4 (pX4_linkedWith_7 F κ v2 fu) ih F v3 0
    · refine j_iload_n hC (pc := 67) dX4_linkedWith_67 2 rfl rfl ?_
      exact j_iret hC (pc := 68) dX4_linkedWith_68 rfl rfl rfl
set_option maxRecDepth 20000 in
theorem wX4_linkedWith {Γ : JCtx} (hC : jC Γ cX4_linkedWith 6 RX4 (some .int) layX 147) (hR : gR Γ = rmH 2) (hm : gcells Γ ≤ (gR Γ).cells ∧ gslots Γ ≤ (gR Γ).slots) (F : Nat) (κ : Mem) (v1 : Int32) (v2 : Int32) : JP Γ (qf Γ (oI κ)) (pX4_linkedWith F κ v1 v2) κ 0 [(0, .ref (gad Γ 54)), (1, .int v1), (2, .int v2)] [] := by
  unfold pX4_linkedWith
  refine j_iconst hC (pc := 0) dX4_linkedWith_0 ki_1 ?_
  refine j_iload_n hC (pc := 1) dX4_linkedWith_1 1 rfl rfl ?_
  refine j_ishl hC (pc := 2) dX4_linkedWith_2 ?_
  refine j_nmi (fun x1 => ?_)
  refine j_istore_n hC (pc := 3) dX4_linkedWith_3 rfl (Nat.le_of_ble_eq_true rfl) (loc' := [(3, .int x1), (0, .ref (gad Γ 54)), (1, .int v1), (2, .int v2)]) rfl ?_
  refine j_iconst hC (pc := 4) dX4_linkedWith_4 ki_0 ?_
  refine j_istore hC (pc := 5) dX4_linkedWith_5 (Nat.le_of_ble_eq_true rfl) (loc' := [(4, .int 0), (3, .int x1), (0, .ref (gad Γ 54)), (1, .int v1), (2, .int v2)]) rfl ?_
  refine j_sub [2, 4, 1, 0] (loc' := [(0, .ref (gad Γ 54)), (2, .int v2), (3, .int x1), (4, .int 0)]) rfl ?_
  exact wX4_linkedWith_7 hC hR hm F κ v2 F x1 0
theorem ctX4_linkedWith {Δ : DCtx} {l : Launch} (hl : dlay Δ = layX) (hN : dN Δ = 147) (F : Nat) (κ : Mem) (v1 : Int32) (v2 : Int32) : ∀ r, pX4_linkedWith F κ v1 v2 = some r → CT Δ l yX4_linkedWith cX4_linkedWith 6 (some .int) (rmH 2) [.ref (dad Δ 54), .int v1, .int v2] κ (some (.int r)) κ :=
  ct_of (nL := 6) (ret := (some .int)) (lay := layX) (N := 147) (by decide +kernel) (fun Δ => [.ref (dad Δ 54), .int v1, .int v2]) (fun _ => oI κ) (fun _ => (Nat.le_of_ble_eq_true rfl)) (fun Γ hR hm hC => wX4_linkedWith hC hR hm F κ v1 v2) Δ l hl hN
set_option maxRecDepth 20000 in
theorem wX4_isRing_58 {Γ : JCtx} (hC : jC Γ cX4_isRing 4 RX4 (some .boolean) layX 147) (hR : gR Γ = rmH 3) (hm : gcells Γ ≤ (gR Γ).cells ∧ gslots Γ ≤ (gR Γ).slots) (F : Nat) (κ : Mem) (v1 : Int32) (v2 : Int32) (k12 : Int32 → Option Int32) (hk12 : ∀ (v2 : Int32), JP Γ (qf Γ (oI κ)) (k12 v2) κ 12 [(0, .ref (gad Γ 54)), (1, .int v1), (2, .int v2)] []) : JP Γ (qf Γ (oI κ)) (pX4_isRing_58 F κ k12 v1 v2) κ 58 [(0, .ref (gad Γ 54)), (1, .int v1), (2, .int v2)] [] := by
  unfold pX4_isRing_58
  refine j_iinc hC (pc := 58) dX4_isRing_58 2 rfl ki_1 (Nat.le_of_ble_eq_true rfl) (loc' := [(2, .int (v2 + 1)), (0, .ref (gad Γ 54)), (1, .int v1)]) rfl ?_
  refine j_goto hC (pc := 61) dX4_isRing_61 (tgt := 12) rfl ?_
  refine j_sub [1, 2, 0] (loc' := [(0, .ref (gad Γ 54)), (1, .int v1), (2, .int (v2 + 1))]) rfl ?_
  exact hk12 (v2 + 1)
set_option maxRecDepth 20000 in
theorem wX4_isRing_37 {Γ : JCtx} (hC : jC Γ cX4_isRing 4 RX4 (some .boolean) layX 147) (hR : gR Γ = rmH 3) (hm : gcells Γ ≤ (gR Γ).cells ∧ gslots Γ ≤ (gR Γ).slots) (F : Nat) (κ : Mem) (v1 : Int32) (v2 : Int32) (y0 : Int32) (k12 : Int32 → Option Int32) (hk12 : ∀ (v2 : Int32), JP Γ (qf Γ (oI κ)) (k12 v2) κ 12 [(0, .ref (gad Γ 54)), (1, .int v1), (2, .int v2)] []) : JP Γ (qf Γ (oI κ)) (pX4_isRing_37 F κ k12 v1 v2 y0) κ 37 [(0, .ref (gad Γ 54)), (1, .int v1), (2, .int v2)] [.int y0] := by
  unfold pX4_isRing_37
  refine j_istore_n hC (pc := 37) dX4_isRing_37 rfl (Nat.le_of_ble_eq_true rfl) (loc' := [(3, .int y0), (0, .ref (gad Γ 54)), (1, .int v1), (2, .int v2)]) rfl ?_
  refine j_iload_n hC (pc := 38) dX4_isRing_38 0 rfl rfl ?_
  refine j_if_eq hC (pc := 39) dX4_isRing_39 (tgt := 58) rfl ?_ ?_
  · refine j_sub [1, 2, 3] (loc' := [(0, .ref (gad Γ 54)), (1, .int v1), (2, .int v2)]) rfl ?_
    exact wX4_isRing_58 hC hR hm F κ v1 v2 k12 hk12
  · refine j_aload_n hC (pc := 42) dX4_isRing_42 1 rfl rfl ?_
    refine j_iload_n hC (pc := 43) dX4_isRing_43 3 rfl rfl ?_
    refine j_callV_I hC hR (ctX4_linked hC.l hC.cn F κ v2) kc_RX4_34 (Nat.le_of_ble_eq_true rfl) (Nat.le_of_ble_eq_true rfl) lX_54 (Nat.le_of_ble_eq_true rfl) rfl (As := [.int v2]) (rest := []) rfl rfl (Nat.le_of_ble_eq_true rfl) hm (pc := 44) dX4_isRing_44 (fun t2 => ?_)
    refine j_iload_n hC (pc := 47) dX4_isRing_47 2 rfl rfl ?_
    refine j_iand hC (pc := 48) dX4_isRing_48 ?_
    refine j_callS_I hC hR (ctJ6_bitCount_0f7a4 hC.l hC.cn κ (t2 &&& v1)) kc_RX4_25 (Nat.le_of_ble_eq_true rfl) (Nat.le_of_ble_eq_true rfl) (As := [.int (t2 &&& v1)]) (rest := []) rfl rfl (Nat.le_of_ble_eq_true rfl) hm (pc := 49) dX4_isRing_49 (fun t3 => ?_)
    refine j_iconst hC (pc := 52) dX4_isRing_52 ki_2 ?_
    refine j_icmp_eq hC (pc := 53) dX4_isRing_53 (tgt := 58) rfl ?_ ?_
    · refine j_sub [1, 2, 3] (loc' := [(0, .ref (gad Γ 54)), (1, .int v1), (2, .int v2)]) rfl ?_
      exact wX4_isRing_58 hC hR hm F κ v1 v2 k12 hk12
    · refine j_iconst hC (pc := 56) dX4_isRing_56 ki_0 ?_
      exact j_iret hC (pc := 57) dX4_isRing_57 rfl rfl rfl
set_option maxRecDepth 20000 in
theorem wX4_isRing_82 {Γ : JCtx} (hC : jC Γ cX4_isRing 4 RX4 (some .boolean) layX 147) (hR : gR Γ = rmH 3) (hm : gcells Γ ≤ (gR Γ).cells ∧ gslots Γ ≤ (gR Γ).slots) (F : Nat) (κ : Mem) (y0 : Int32) : JP Γ (qf Γ (oI κ)) (pX4_isRing_82 F κ y0) κ 82 [] [.int y0] := by
  unfold pX4_isRing_82
  refine j_ckP (fun hq6 => ?_)
  exact j_iret hC (pc := 82) dX4_isRing_82 rfl (isB_n hq6) rfl
set_option maxRecDepth 20000 in
theorem wX4_isRing_12 {Γ : JCtx} (hC : jC Γ cX4_isRing 4 RX4 (some .boolean) layX 147) (hR : gR Γ = rmH 3) (hm : gcells Γ ≤ (gR Γ).cells ∧ gslots Γ ≤ (gR Γ).slots) (F : Nat) (κ : Mem) (v1 : Int32) : ∀ (n : Nat) (v2 : Int32), JP Γ (qf Γ (oI κ)) (pX4_isRing_12 F κ v1 n v2) κ 12 [(0, .ref (gad Γ 54)), (1, .int v1), (2, .int v2)] [] := by
  intro n
  induction n with
  | zero =>
    intro v2
    rw [pX4_isRing_12]
    exact j_none
  | succ fu ih =>
    intro v2
    rw [pX4_isRing_12]
    refine j_iload_n hC (pc := 12) dX4_isRing_12 2 rfl rfl ?_
    refine j_aload_n hC (pc := 13) dX4_isRing_13 0 rfl rfl ?_
    refine j_getR hC (pc := 14) dX4_isRing_14 kf_RX4_9 lX_54 (Nat.le_of_ble_eq_true rfl) rfl ?_
    refine j_getI hC (pc := 17) dX4_isRing_17 kf_RX4_15 lX_1 (Nat.le_of_ble_eq_true rfl) rfl ?_
    refine j_icmp_ge hC (pc := 20) dX4_isRing_20 (tgt := 64) rfl ?_ ?_
    · refine j_iload_n hC (pc := 23) dX4_isRing_23 1 rfl rfl ?_
      refine j_iload_n hC (pc := 24) dX4_isRing_24 2 rfl rfl ?_
      refine j_ishr hC (pc := 25) dX4_isRing_25 ?_
      refine j_iconst hC (pc := 26) dX4_isRing_26 ki_1 ?_
      refine j_iand hC (pc := 27) dX4_isRing_27 ?_
      refine j_iconst hC (pc := 28) dX4_isRing_28 ki_1 ?_
      refine j_icmp_ne hC (pc := 29) dX4_isRing_29 (tgt := 36) rfl ?_ ?_
      · refine j_iconst hC (pc := 32) dX4_isRing_32 ki_1 ?_
        refine j_goto hC (pc := 33) dX4_isRing_33 (tgt := 37) rfl ?_
        exact wX4_isRing_37 hC hR hm F κ v1 v2 1 (pX4_isRing_12 F κ v1 fu) ih
      · refine j_iconst hC (pc := 36) dX4_isRing_36 ki_0 ?_
        exact wX4_isRing_37 hC hR hm F κ v1 v2 0 (pX4_isRing_12 F κ v1 fu) ih
    · refine j_aload_n hC (pc := 64) dX4_isRing_64 0 rfl rfl ?_
      refine j_iload_n hC (pc := 65) dX4_isRing_65 1 rfl rfl ?_
      refine j_callS_I hC hR (ctJ6_numberOfTrailingZeros_0f7a4 hC.l hC.cn κ v1) kc_RX4_77 (Nat.le_of_ble_eq_true rfl) (Nat.le_of_ble_eq_true rfl) (As := [.int v1]) (rest := [.ref (gad Γ 54)]) rfl rfl (Nat.le_of_ble_eq_true rfl) hm (pc := 66) dX4_isRing_66 (fun t4 => ?_)
      refine j_iload_n hC (pc := 69) dX4_isRing_69 1 rfl rfl ?_
      refine j_callV_I hC hR (ctX4_linkedWith hC.l hC.cn F κ t4 v1) kc_RX4_73 (Nat.le_of_ble_eq_true rfl) (Nat.le_of_ble_eq_true rfl) lX_54 (Nat.le_of_ble_eq_true rfl) rfl (As := [.int t4, .int v1]) (rest := []) rfl rfl (Nat.le_of_ble_eq_true rfl) hm (pc := 70) dX4_isRing_70 (fun t5 => ?_)
      refine j_iload_n hC (pc := 73) dX4_isRing_73 1 rfl rfl ?_
      refine j_icmp_ne hC (pc := 74) dX4_isRing_74 (tgt := 81) rfl ?_ ?_
      · refine j_iconst hC (pc := 77) dX4_isRing_77 ki_1 ?_
        refine j_goto hC (pc := 78) dX4_isRing_78 (tgt := 82) rfl ?_
        refine j_sub [] (loc' := []) rfl ?_
        exact wX4_isRing_82 hC hR hm F κ 1
      · refine j_iconst hC (pc := 81) dX4_isRing_81 ki_0 ?_
        refine j_sub [] (loc' := []) rfl ?_
        exact wX4_isRing_82 hC hR hm F κ 0
set_option maxRecDepth 20000 in
theorem wX4_isRing {Γ : JCtx} (hC : jC Γ cX4_isRing 4 RX4 (some .boolean) layX 147) (hR : gR Γ = rmH 3) (hm : gcells Γ ≤ (gR Γ).cells ∧ gslots Γ ≤ (gR Γ).slots) (F : Nat) (κ : Mem) (v1 : Int32) : JP Γ (qf Γ (oI κ)) (pX4_isRing F κ v1) κ 0 [(0, .ref (gad Γ 54)), (1, .int v1)] [] := by
  unfold pX4_isRing
  refine j_iload_n hC (pc := 0) dX4_isRing_0 1 rfl rfl ?_
  refine j_callS_I hC hR (ctJ6_bitCount_0f7a4 hC.l hC.cn κ v1) kc_RX4_25 (Nat.le_of_ble_eq_true rfl) (Nat.le_of_ble_eq_true rfl) (As := [.int v1]) (rest := []) rfl rfl (Nat.le_of_ble_eq_true rfl) hm (pc := 1) dX4_isRing_1 (fun t1 => ?_)
  refine j_iconst hC (pc := 4) dX4_isRing_4 ki_3 ?_
  refine j_icmp_ge hC (pc := 5) dX4_isRing_5 (tgt := 10) rfl ?_ ?_
  · refine j_iconst hC (pc := 8) dX4_isRing_8 ki_0 ?_
    exact j_iret hC (pc := 9) dX4_isRing_9 rfl rfl rfl
  · refine j_iconst hC (pc := 10) dX4_isRing_10 ki_0 ?_
    refine j_istore_n hC (pc := 11) dX4_isRing_11 rfl (Nat.le_of_ble_eq_true rfl) (loc' := [(2, .int 0), (0, .ref (gad Γ 54)), (1, .int v1)]) rfl ?_
    refine j_sub [1, 2, 0] (loc' := [(0, .ref (gad Γ 54)), (1, .int v1), (2, .int 0)]) rfl ?_
    exact wX4_isRing_12 hC hR hm F κ v1 F 0
theorem ctX4_isRing {Δ : DCtx} {l : Launch} (hl : dlay Δ = layX) (hN : dN Δ = 147) (F : Nat) (κ : Mem) (v1 : Int32) : ∀ r, pX4_isRing F κ v1 = some r → CT Δ l yX4_isRing cX4_isRing 4 (some .boolean) (rmH 3) [.ref (dad Δ 54), .int v1] κ (some (.int r)) κ :=
  ct_of (nL := 4) (ret := (some .boolean)) (lay := layX) (N := 147) (by decide +kernel) (fun Δ => [.ref (dad Δ 54), .int v1]) (fun _ => oI κ) (fun _ => (Nat.le_of_ble_eq_true rfl)) (fun Γ hR hm hC => wX4_isRing hC hR hm F κ v1) Δ l hl hN
set_option maxRecDepth 20000 in
theorem wX4_firstHub_52 {Γ : JCtx} (hC : jC Γ cX4_firstHub 3 RX4 (some .int) layX 147) (hR : gR Γ = rmH 4) (hm : gcells Γ ≤ (gR Γ).cells ∧ gslots Γ ≤ (gR Γ).slots) (F : Nat) (κ : Mem) (v1 : Int32) (k11 : Int32 → Option Int32) (hk11 : ∀ (v1 : Int32), JP Γ (qf Γ (oI κ)) (k11 v1) κ 11 [(0, .ref (gad Γ 54)), (1, .int v1)] []) : JP Γ (qf Γ (oI κ)) (pX4_firstHub_52 F κ k11 v1) κ 52 [(0, .ref (gad Γ 54)), (1, .int v1)] [] := by
  unfold pX4_firstHub_52
  refine j_iinc hC (pc := 52) dX4_firstHub_52 1 rfl ki_1 (Nat.le_of_ble_eq_true rfl) (loc' := [(1, .int (v1 + 1)), (0, .ref (gad Γ 54))]) rfl ?_
  refine j_goto hC (pc := 55) dX4_firstHub_55 (tgt := 11) rfl ?_
  refine j_sub [1, 0] (loc' := [(0, .ref (gad Γ 54)), (1, .int (v1 + 1))]) rfl ?_
  exact hk11 (v1 + 1)
set_option maxRecDepth 20000 in
theorem wX4_firstHub_11 {Γ : JCtx} (hC : jC Γ cX4_firstHub 3 RX4 (some .int) layX 147) (hR : gR Γ = rmH 4) (hm : gcells Γ ≤ (gR Γ).cells ∧ gslots Γ ≤ (gR Γ).slots) (F : Nat) (κ : Mem) : ∀ (n : Nat) (v1 : Int32), JP Γ (qf Γ (oI κ)) (pX4_firstHub_11 F κ n v1) κ 11 [(0, .ref (gad Γ 54)), (1, .int v1)] [] := by
  intro n
  induction n with
  | zero =>
    intro v1
    rw [pX4_firstHub_11]
    exact j_none
  | succ fu ih =>
    intro v1
    rw [pX4_firstHub_11]
    refine j_iload_n hC (pc := 11) dX4_firstHub_11 1 rfl rfl ?_
    refine j_aload_n hC (pc := 12) dX4_firstHub_12 0 rfl rfl ?_
    refine j_getR hC (pc := 13) dX4_firstHub_13 kf_RX4_9 lX_54 (Nat.le_of_ble_eq_true rfl) rfl ?_
    refine j_getI hC (pc := 16) dX4_firstHub_16 kf_RX4_15 lX_1 (Nat.le_of_ble_eq_true rfl) rfl ?_
    refine j_icmp_ge hC (pc := 19) dX4_firstHub_19 (tgt := 58) rfl ?_ ?_
    · refine j_aload_n hC (pc := 22) dX4_firstHub_22 0 rfl rfl ?_
      refine j_callV_I hC hR (ctX4_everybody hC.l hC.cn κ) kc_RX4_44 (Nat.le_of_ble_eq_true rfl) (Nat.le_of_ble_eq_true rfl) lX_54 (Nat.le_of_ble_eq_true rfl) rfl (As := []) (rest := []) rfl rfl (Nat.le_of_ble_eq_true rfl) hm (pc := 23) dX4_firstHub_23 (fun t2 => ?_)
      refine j_iconst hC (pc := 26) dX4_firstHub_26 ki_1 ?_
      refine j_iload_n hC (pc := 27) dX4_firstHub_27 1 rfl rfl ?_
      refine j_ishl hC (pc := 28) dX4_firstHub_28 ?_
      refine j_iconst hC (pc := 29) dX4_firstHub_29 ki_m1 ?_
      refine j_ixor hC (pc := 30) dX4_firstHub_30 ?_
      refine j_iand hC (pc := 31) dX4_firstHub_31 ?_
      refine j_nmi (fun x3 => ?_)
      refine j_istore_n hC (pc := 32) dX4_firstHub_32 rfl (Nat.le_of_ble_eq_true rfl) (loc' := [(2, .int x3), (0, .ref (gad Γ 54)), (1, .int v1)]) rfl ?_
      refine j_aload_n hC (pc := 33) dX4_firstHub_33 1 rfl rfl ?_
      refine j_iload_n hC (pc := 34) dX4_firstHub_34 2 rfl rfl ?_
      refine j_callV_I hC hR (ctX4_linked hC.l hC.cn F κ v1) kc_RX4_34 (Nat.le_of_ble_eq_true rfl) (Nat.le_of_ble_eq_true rfl) lX_54 (Nat.le_of_ble_eq_true rfl) rfl (As := [.int v1]) (rest := []) rfl rfl (Nat.le_of_ble_eq_true rfl) hm (pc := 35) dX4_firstHub_35 (fun t4 => ?_)
      refine j_iload_n hC (pc := 38) dX4_firstHub_38 0 rfl rfl ?_
      refine j_icmp_ne hC (pc := 39) dX4_firstHub_39 (tgt := 52) rfl ?_ ?_
      · refine j_aload_n hC (pc := 42) dX4_firstHub_42 1 rfl rfl ?_
        refine j_iload_n hC (pc := 43) dX4_firstHub_43 0 rfl rfl ?_
        refine j_callV_I hC hR (ctX4_isRing hC.l hC.cn F κ x3) kc_RX4_67 (Nat.le_of_ble_eq_true rfl) (Nat.le_of_ble_eq_true rfl) lX_54 (Nat.le_of_ble_eq_true rfl) rfl (As := [.int x3]) (rest := []) rfl rfl (Nat.le_of_ble_eq_true rfl) hm (pc := 44) dX4_firstHub_44 (fun t5 => ?_)
        refine j_if_eq hC (pc := 47) dX4_firstHub_47 (tgt := 52) rfl ?_ ?_
        · refine j_sub [1, 2] (loc' := [(0, .ref (gad Γ 54)), (1, .int v1)]) rfl ?_
          exact wX4_firstHub_52 hC hR hm F κ v1 (pX4_firstHub_11 F κ fu) ih
        · refine j_iload_n hC (pc := 50) dX4_firstHub_50 2 rfl rfl ?_
          exact j_iret hC (pc := 51) dX4_firstHub_51 rfl rfl rfl
      · refine j_sub [1, 2] (loc' := [(0, .ref (gad Γ 54)), (1, .int v1)]) rfl ?_
        exact wX4_firstHub_52 hC hR hm F κ v1 (pX4_firstHub_11 F κ fu) ih
    · refine j_iconst hC (pc := 58) dX4_firstHub_58 ki_m1 ?_
      exact j_iret hC (pc := 59) dX4_firstHub_59 rfl rfl rfl
set_option maxRecDepth 20000 in
theorem wX4_firstHub {Γ : JCtx} (hC : jC Γ cX4_firstHub 3 RX4 (some .int) layX 147) (hR : gR Γ = rmH 4) (hm : gcells Γ ≤ (gR Γ).cells ∧ gslots Γ ≤ (gR Γ).slots) (F : Nat) (κ : Mem) : JP Γ (qf Γ (oI κ)) (pX4_firstHub F κ) κ 0 [(0, .ref (gad Γ 54))] [] := by
  unfold pX4_firstHub
  refine j_aload_n hC (pc := 0) dX4_firstHub_0 0 rfl rfl ?_
  refine j_callV_I hC hR (ctX4_isMutual hC.l hC.cn F κ) kc_RX4_63 (Nat.le_of_ble_eq_true rfl) (Nat.le_of_ble_eq_true rfl) lX_54 (Nat.le_of_ble_eq_true rfl) rfl (As := []) (rest := []) rfl rfl (Nat.le_of_ble_eq_true rfl) hm (pc := 1) dX4_firstHub_1 (fun t1 => ?_)
  refine j_if_ne hC (pc := 4) dX4_firstHub_4 (tgt := 9) rfl ?_ ?_
  · refine j_iconst hC (pc := 7) dX4_firstHub_7 ki_m1 ?_
    exact j_iret hC (pc := 8) dX4_firstHub_8 rfl rfl rfl
  · refine j_iconst hC (pc := 9) dX4_firstHub_9 ki_0 ?_
    refine j_istore_n hC (pc := 10) dX4_firstHub_10 rfl (Nat.le_of_ble_eq_true rfl) (loc' := [(1, .int 0), (0, .ref (gad Γ 54))]) rfl ?_
    refine j_sub [1, 0] (loc' := [(0, .ref (gad Γ 54)), (1, .int 0)]) rfl ?_
    exact wX4_firstHub_11 hC hR hm F κ F 0
theorem ctX4_firstHub {Δ : DCtx} {l : Launch} (hl : dlay Δ = layX) (hN : dN Δ = 147) (F : Nat) (κ : Mem) : ∀ r, pX4_firstHub F κ = some r → CT Δ l yX4_firstHub cX4_firstHub 3 (some .int) (rmH 4) [.ref (dad Δ 54)] κ (some (.int r)) κ :=
  ct_of (nL := 3) (ret := (some .int)) (lay := layX) (N := 147) (by decide +kernel) (fun Δ => [.ref (dad Δ 54)]) (fun _ => oI κ) (fun _ => (Nat.le_of_ble_eq_true rfl)) (fun Γ hR hm hC => wX4_firstHub hC hR hm F κ) Δ l hl hN
set_option maxRecDepth 20000 in
theorem wX4_isTree_54 {Γ : JCtx} (hC : jC Γ cX4_isTree 2 RX4 (some .boolean) layX 147) (hR : gR Γ = rmH 4) (hm : gcells Γ ≤ (gR Γ).cells ∧ gslots Γ ≤ (gR Γ).slots) (F : Nat) (κ : Mem) (y0 : Int32) : JP Γ (qf Γ (oI κ)) (pX4_isTree_54 F κ y0) κ 54 [] [.int y0] := by
  unfold pX4_isTree_54
  refine j_ckP (fun hq5 => ?_)
  exact j_iret hC (pc := 54) dX4_isTree_54 rfl (isB_n hq5) rfl
set_option maxRecDepth 20000 in
theorem wX4_isTree_53 {Γ : JCtx} (hC : jC Γ cX4_isTree 2 RX4 (some .boolean) layX 147) (hR : gR Γ = rmH 4) (hm : gcells Γ ≤ (gR Γ).cells ∧ gslots Γ ≤ (gR Γ).slots) (F : Nat) (κ : Mem) : JP Γ (qf Γ (oI κ)) (pX4_isTree_53 F κ) κ 53 [] [] := by
  unfold pX4_isTree_53
  refine j_iconst hC (pc := 53) dX4_isTree_53 ki_0 ?_
  exact wX4_isTree_54 hC hR hm F κ 0
set_option maxRecDepth 20000 in
theorem wX4_isTree_21 {Γ : JCtx} (hC : jC Γ cX4_isTree 2 RX4 (some .boolean) layX 147) (hR : gR Γ = rmH 4) (hm : gcells Γ ≤ (gR Γ).cells ∧ gslots Γ ≤ (gR Γ).slots) (F : Nat) (κ : Mem) (y0 : Int32) : JP Γ (qf Γ (oI κ)) (pX4_isTree_21 F κ y0) κ 21 [(0, .ref (gad Γ 54))] [.int y0] := by
  unfold pX4_isTree_21
  refine j_istore_n hC (pc := 21) dX4_isTree_21 rfl (Nat.le_of_ble_eq_true rfl) (loc' := [(1, .int y0), (0, .ref (gad Γ 54))]) rfl ?_
  refine j_aload_n hC (pc := 22) dX4_isTree_22 1 rfl rfl ?_
  refine j_callV_I hC hR (ctX4_isMutual hC.l hC.cn F κ) kc_RX4_63 (Nat.le_of_ble_eq_true rfl) (Nat.le_of_ble_eq_true rfl) lX_54 (Nat.le_of_ble_eq_true rfl) rfl (As := []) (rest := []) rfl rfl (Nat.le_of_ble_eq_true rfl) hm (pc := 23) dX4_isTree_23 (fun t4 => ?_)
  refine j_if_eq hC (pc := 26) dX4_isTree_26 (tgt := 53) rfl ?_ ?_
  · refine j_sub [] (loc' := []) rfl ?_
    exact wX4_isTree_53 hC hR hm F κ
  · refine j_iload_n hC (pc := 29) dX4_isTree_29 0 rfl rfl ?_
    refine j_if_eq hC (pc := 30) dX4_isTree_30 (tgt := 53) rfl ?_ ?_
    · refine j_sub [] (loc' := []) rfl ?_
      exact wX4_isTree_53 hC hR hm F κ
    · refine j_aload_n hC (pc := 33) dX4_isTree_33 1 rfl rfl ?_
      refine j_callV_I hC hR (ctX4_links hC.l hC.cn F κ) kc_RX4_41 (Nat.le_of_ble_eq_true rfl) (Nat.le_of_ble_eq_true rfl) lX_54 (Nat.le_of_ble_eq_true rfl) rfl (As := []) (rest := []) rfl rfl (Nat.le_of_ble_eq_true rfl) hm (pc := 34) dX4_isTree_34 (fun t6 => ?_)
      refine j_aload_n hC (pc := 37) dX4_isTree_37 1 rfl rfl ?_
      refine j_getR hC (pc := 38) dX4_isTree_38 kf_RX4_9 lX_54 (Nat.le_of_ble_eq_true rfl) rfl ?_
      refine j_getI hC (pc := 41) dX4_isTree_41 kf_RX4_15 lX_1 (Nat.le_of_ble_eq_true rfl) rfl ?_
      refine j_iconst hC (pc := 44) dX4_isTree_44 ki_1 ?_
      refine j_isub hC (pc := 45) dX4_isTree_45 ?_
      refine j_icmp_ne hC (pc := 46) dX4_isTree_46 (tgt := 53) rfl ?_ ?_
      · refine j_iconst hC (pc := 49) dX4_isTree_49 ki_1 ?_
        refine j_goto hC (pc := 50) dX4_isTree_50 (tgt := 54) rfl ?_
        refine j_sub [] (loc' := []) rfl ?_
        exact wX4_isTree_54 hC hR hm F κ 1
      · refine j_sub [] (loc' := []) rfl ?_
        exact wX4_isTree_53 hC hR hm F κ
set_option maxRecDepth 20000 in
theorem wX4_isTree {Γ : JCtx} (hC : jC Γ cX4_isTree 2 RX4 (some .boolean) layX 147) (hR : gR Γ = rmH 4) (hm : gcells Γ ≤ (gR Γ).cells ∧ gslots Γ ≤ (gR Γ).slots) (F : Nat) (κ : Mem) : JP Γ (qf Γ (oI κ)) (pX4_isTree F κ) κ 0 [(0, .ref (gad Γ 54))] [] := by
  unfold pX4_isTree
  refine j_aload_n hC (pc := 0) dX4_isTree_0 0 rfl rfl ?_
  refine j_iconst hC (pc := 1) dX4_isTree_1 ki_0 ?_
  refine j_aload_n hC (pc := 2) dX4_isTree_2 0 rfl rfl ?_
  refine j_callV_I hC hR (ctX4_everybody hC.l hC.cn κ) kc_RX4_44 (Nat.le_of_ble_eq_true rfl) (Nat.le_of_ble_eq_true rfl) lX_54 (Nat.le_of_ble_eq_true rfl) rfl (As := []) (rest := [.int 0, .ref (gad Γ 54)]) rfl rfl (Nat.le_of_ble_eq_true rfl) hm (pc := 3) dX4_isTree_3 (fun t1 => ?_)
  refine j_callV_I hC hR (ctX4_linkedWith hC.l hC.cn F κ 0 t1) kc_RX4_73 (Nat.le_of_ble_eq_true rfl) (Nat.le_of_ble_eq_true rfl) lX_54 (Nat.le_of_ble_eq_true rfl) rfl (As := [.int 0, .int t1]) (rest := []) rfl rfl (Nat.le_of_ble_eq_true rfl) hm (pc := 6) dX4_isTree_6 (fun t2 => ?_)
  refine j_aload_n hC (pc := 9) dX4_isTree_9 0 rfl rfl ?_
  refine j_callV_I hC hR (ctX4_everybody hC.l hC.cn κ) kc_RX4_44 (Nat.le_of_ble_eq_true rfl) (Nat.le_of_ble_eq_true rfl) lX_54 (Nat.le_of_ble_eq_true rfl) rfl (As := []) (rest := [.int t2]) rfl rfl (Nat.le_of_ble_eq_true rfl) hm (pc := 10) dX4_isTree_10 (fun t3 => ?_)
  refine j_icmp_ne hC (pc := 13) dX4_isTree_13 (tgt := 20) rfl ?_ ?_
  · refine j_iconst hC (pc := 16) dX4_isTree_16 ki_1 ?_
    refine j_goto hC (pc := 17) dX4_isTree_17 (tgt := 21) rfl ?_
    exact wX4_isTree_21 hC hR hm F κ 1
  · refine j_iconst hC (pc := 20) dX4_isTree_20 ki_0 ?_
    exact wX4_isTree_21 hC hR hm F κ 0
theorem ctX4_isTree {Δ : DCtx} {l : Launch} (hl : dlay Δ = layX) (hN : dN Δ = 147) (F : Nat) (κ : Mem) : ∀ r, pX4_isTree F κ = some r → CT Δ l yX4_isTree cX4_isTree 2 (some .boolean) (rmH 4) [.ref (dad Δ 54)] κ (some (.int r)) κ :=
  ct_of (nL := 2) (ret := (some .boolean)) (lay := layX) (N := 147) (by decide +kernel) (fun Δ => [.ref (dad Δ 54)]) (fun _ => oI κ) (fun _ => (Nat.le_of_ble_eq_true rfl)) (fun Γ hR hm hC => wX4_isTree hC hR hm F κ) Δ l hl hN
set_option maxRecDepth 20000 in
theorem wX4_kind_66 {Γ : JCtx} (hC : jC Γ cX4_kind 1 RX4 (some .int) layX 147) (hR : gR Γ = rmH 5) (hm : gcells Γ ≤ (gR Γ).cells ∧ gslots Γ ≤ (gR Γ).slots) (F : Nat) (κ : Mem) (y0 : Int32) : JP Γ (qf Γ (oI κ)) (pX4_kind_66 F κ y0) κ 66 [] [.int y0] := by
  unfold pX4_kind_66
  exact j_iret hC (pc := 66) dX4_kind_66 rfl rfl rfl
set_option maxRecDepth 20000 in
theorem wX4_kind_54 {Γ : JCtx} (hC : jC Γ cX4_kind 1 RX4 (some .int) layX 147) (hR : gR Γ = rmH 5) (hm : gcells Γ ≤ (gR Γ).cells ∧ gslots Γ ≤ (gR Γ).slots) (F : Nat) (κ : Mem) : JP Γ (qf Γ (oI κ)) (pX4_kind_54 F κ) κ 54 [(0, .ref (gad Γ 54))] [] := by
  unfold pX4_kind_54
  refine j_aload_n hC (pc := 54) dX4_kind_54 0 rfl rfl ?_
  refine j_callV_I hC hR (ctX4_isTree hC.l hC.cn F κ) kc_RX4_70 (Nat.le_of_ble_eq_true rfl) (Nat.le_of_ble_eq_true rfl) lX_54 (Nat.le_of_ble_eq_true rfl) rfl (As := []) (rest := []) rfl rfl (Nat.le_of_ble_eq_true rfl) hm (pc := 55) dX4_kind_55 (fun t3 => ?_)
  refine j_if_eq hC (pc := 58) dX4_kind_58 (tgt := 65) rfl ?_ ?_
  · refine j_iconst hC (pc := 65) dX4_kind_65 ki_0 ?_
    refine j_sub [] (loc' := []) rfl ?_
    exact wX4_kind_66 hC hR hm F κ 0
  · refine j_iconst hC (pc := 61) dX4_kind_61 ki_1 ?_
    refine j_goto hC (pc := 62) dX4_kind_62 (tgt := 66) rfl ?_
    refine j_sub [] (loc' := []) rfl ?_
    exact wX4_kind_66 hC hR hm F κ 1
set_option maxRecDepth 20000 in
theorem wX4_kind_24 {Γ : JCtx} (hC : jC Γ cX4_kind 1 RX4 (some .int) layX 147) (hR : gR Γ = rmH 5) (hm : gcells Γ ≤ (gR Γ).cells ∧ gslots Γ ≤ (gR Γ).slots) (F : Nat) (κ : Mem) : JP Γ (qf Γ (oI κ)) (pX4_kind_24 F κ) κ 24 [(0, .ref (gad Γ 54))] [] := by
  unfold pX4_kind_24
  refine j_aload_n hC (pc := 24) dX4_kind_24 0 rfl rfl ?_
  refine j_callV_I hC hR (ctX4_firstHub hC.l hC.cn F κ) kc_RX4_60 (Nat.le_of_ble_eq_true rfl) (Nat.le_of_ble_eq_true rfl) lX_54 (Nat.le_of_ble_eq_true rfl) rfl (As := []) (rest := []) rfl rfl (Nat.le_of_ble_eq_true rfl) hm (pc := 25) dX4_kind_25 (fun t1 => ?_)
  refine j_iconst hC (pc := 28) dX4_kind_28 ki_m1 ?_
  refine j_icmp_eq hC (pc := 29) dX4_kind_29 (tgt := 34) rfl ?_ ?_
  · refine j_aload_n hC (pc := 34) dX4_kind_34 0 rfl rfl ?_
    refine j_callV_I hC hR (ctX4_isMutual hC.l hC.cn F κ) kc_RX4_63 (Nat.le_of_ble_eq_true rfl) (Nat.le_of_ble_eq_true rfl) lX_54 (Nat.le_of_ble_eq_true rfl) rfl (As := []) (rest := []) rfl rfl (Nat.le_of_ble_eq_true rfl) hm (pc := 35) dX4_kind_35 (fun t2 => ?_)
    refine j_if_eq hC (pc := 38) dX4_kind_38 (tgt := 54) rfl ?_ ?_
    · exact wX4_kind_54 hC hR hm F κ
    · refine j_aload_n hC (pc := 41) dX4_kind_41 0 rfl rfl ?_
      refine j_aload_n hC (pc := 42) dX4_kind_42 0 rfl rfl ?_
      refine j_callV_I hC hR (ctX4_everybody hC.l hC.cn κ) kc_RX4_44 (Nat.le_of_ble_eq_true rfl) (Nat.le_of_ble_eq_true rfl) lX_54 (Nat.le_of_ble_eq_true rfl) rfl (As := []) (rest := [.ref (gad Γ 54)]) rfl rfl (Nat.le_of_ble_eq_true rfl) hm (pc := 43) dX4_kind_43 (fun t4 => ?_)
      refine j_callV_I hC hR (ctX4_isRing hC.l hC.cn F κ t4) kc_RX4_67 (Nat.le_of_ble_eq_true rfl) (Nat.le_of_ble_eq_true rfl) lX_54 (Nat.le_of_ble_eq_true rfl) rfl (As := [.int t4]) (rest := []) rfl rfl (Nat.le_of_ble_eq_true rfl) hm (pc := 46) dX4_kind_46 (fun t5 => ?_)
      refine j_if_eq hC (pc := 49) dX4_kind_49 (tgt := 54) rfl ?_ ?_
      · exact wX4_kind_54 hC hR hm F κ
      · refine j_iconst hC (pc := 52) dX4_kind_52 ki_2 ?_
        exact j_iret hC (pc := 53) dX4_kind_53 rfl rfl rfl
  · refine j_iconst hC (pc := 32) dX4_kind_32 ki_3 ?_
    exact j_iret hC (pc := 33) dX4_kind_33 rfl rfl rfl
set_option maxRecDepth 20000 in
theorem wX4_kind {Γ : JCtx} (hC : jC Γ cX4_kind 1 RX4 (some .int) layX 147) (hR : gR Γ = rmH 5) (hm : gcells Γ ≤ (gR Γ).cells ∧ gslots Γ ≤ (gR Γ).slots) (F : Nat) (κ : Mem) : JP Γ (qf Γ (oI κ)) (pX4_kind F κ) κ 0 [(0, .ref (gad Γ 54))] [] := by
  unfold pX4_kind
  refine j_aload_n hC (pc := 0) dX4_kind_0 0 rfl rfl ?_
  refine j_getR hC (pc := 1) dX4_kind_1 kf_RX4_9 lX_54 (Nat.le_of_ble_eq_true rfl) rfl ?_
  refine j_getI hC (pc := 4) dX4_kind_4 kf_RX4_15 lX_1 (Nat.le_of_ble_eq_true rfl) rfl ?_
  refine j_iconst hC (pc := 7) dX4_kind_7 ki_4 ?_
  refine j_icmp_lt hC (pc := 8) dX4_kind_8 (tgt := 24) rfl ?_ ?_
  · exact wX4_kind_24 hC hR hm F κ
  · refine j_aload_n hC (pc := 11) dX4_kind_11 0 rfl rfl ?_
    refine j_aload_n hC (pc := 12) dX4_kind_12 0 rfl rfl ?_
    refine j_callV_I hC hR (ctX4_everybody hC.l hC.cn κ) kc_RX4_44 (Nat.le_of_ble_eq_true rfl) (Nat.le_of_ble_eq_true rfl) lX_54 (Nat.le_of_ble_eq_true rfl) rfl (As := []) (rest := [.ref (gad Γ 54)]) rfl rfl (Nat.le_of_ble_eq_true rfl) hm (pc := 13) dX4_kind_13 (fun t6 => ?_)
    refine j_callV_I hC hR (ctX4_isClique hC.l hC.cn F κ t6) kc_RX4_54 (Nat.le_of_ble_eq_true rfl) (Nat.le_of_ble_eq_true rfl) lX_54 (Nat.le_of_ble_eq_true rfl) rfl (As := [.int t6]) (rest := []) rfl rfl (Nat.le_of_ble_eq_true rfl) hm (pc := 16) dX4_kind_16 (fun t7 => ?_)
    refine j_if_eq hC (pc := 19) dX4_kind_19 (tgt := 24) rfl ?_ ?_
    · exact wX4_kind_24 hC hR hm F κ
    · refine j_iconst hC (pc := 22) dX4_kind_22 ki_4 ?_
      exact j_iret hC (pc := 23) dX4_kind_23 rfl rfl rfl
theorem ctX4_kind {Δ : DCtx} {l : Launch} (hl : dlay Δ = layX) (hN : dN Δ = 147) (F : Nat) (κ : Mem) : ∀ r, pX4_kind F κ = some r → CT Δ l yX4_kind cX4_kind 1 (some .int) (rmH 5) [.ref (dad Δ 54)] κ (some (.int r)) κ :=
  ct_of (nL := 1) (ret := (some .int)) (lay := layX) (N := 147) (by decide +kernel) (fun Δ => [.ref (dad Δ 54)]) (fun _ => oI κ) (fun _ => (Nat.le_of_ble_eq_true rfl)) (fun Γ hR hm hC => wX4_kind hC hR hm F κ) Δ l hl hN
set_option maxRecDepth 20000 in
theorem wX3_note {Γ : JCtx} (hC : jC Γ cX3_note 2 RX3 none layX 147) (hR : gR Γ = rmH 2) (hm : gcells Γ ≤ (gR Γ).cells ∧ gslots Γ ≤ (gR Γ).slots) (g1 : Nat) (hg1 : isG g1) (κ : Mem) : JP Γ (qf Γ oV) (pX3_note g1 κ) κ 0 [(0, .ref (gad Γ 135)), (1, .ref (gad Γ g1))] [] := by
  unfold pX3_note
  refine j_aload_n hC (pc := 0) dX3_note_0 0 rfl rfl ?_
  refine j_getR hC (pc := 1) dX3_note_1 kf_RX3_13 lX_135 (Nat.le_of_ble_eq_true rfl) rfl ?_
  refine j_aload_n hC (pc := 4) dX3_note_4 0 rfl rfl ?_
  refine j_getI hC (pc := 5) dX3_note_5 kf_RX3_17 lX_135 (Nat.le_of_ble_eq_true rfl) rfl ?_
  refine j_aald hC (pc := 8) dX3_note_8 lX_136 (Nat.le_of_ble_eq_true rfl) (kRt_5 _) (fun hq1 => ?_)
  refine j_aload_n hC (pc := 9) dX3_note_9 1 rfl rfl ?_
  refine j_callV_V hC hR (ctX2_copy hC.l hC.cn (13 + (mi κ 135 1).toNatClampNeg * 4) (isG_r hq1) g1 hg1 κ) kc_RX3_25 (Nat.le_of_ble_eq_true rfl) (Nat.le_of_ble_eq_true rfl) (isG_o (isG_r hq1)) (isG_N (isG_r hq1)) rfl (As := [.ref (gad Γ g1)]) (rest := []) rfl rfl (Nat.le_of_ble_eq_true rfl) hm (pc := 10) dX3_note_10 (fun t2 => ?_)
  exact j_vret hC (pc := 13) dX3_note_13 rfl rfl
theorem ctX3_note {Δ : DCtx} {l : Launch} (hl : dlay Δ = layX) (hN : dN Δ = 147) (g1 : Nat) (hg1 : isG g1) (κ : Mem) : ∀ r, pX3_note g1 κ = some r → CT Δ l yX3_note cX3_note 2 none (rmH 2) [.ref (dad Δ 135), .ref (dad Δ g1)] κ none r :=
  ct_of (nL := 2) (ret := none) (lay := layX) (N := 147) (by decide +kernel) (fun Δ => [.ref (dad Δ 135), .ref (dad Δ g1)]) (fun _ => oV) (fun _ => (Nat.le_of_ble_eq_true rfl)) (fun Γ hR hm hC => wX3_note hC hR hm g1 hg1 κ) Δ l hl hN
set_option maxRecDepth 20000 in
theorem wX3_keep {Γ : JCtx} (hC : jC Γ cX3_keep 1 RX3 none layX 147) (hR : gR Γ = rmH 1) (hm : gcells Γ ≤ (gR Γ).cells ∧ gslots Γ ≤ (gR Γ).slots) (κ : Mem) : JP Γ (qf Γ oV) (pX3_keep κ) κ 0 [(0, .ref (gad Γ 135))] [] := by
  unfold pX3_keep
  refine j_aload_n hC (pc := 0) dX3_keep_0 0 rfl rfl ?_
  refine j_aload_n hC (pc := 1) dX3_keep_1 0 rfl rfl ?_
  refine j_getI hC (pc := 2) dX3_keep_2 kf_RX3_17 lX_135 (Nat.le_of_ble_eq_true rfl) rfl ?_
  refine j_iconst hC (pc := 5) dX3_keep_5 ki_1 ?_
  refine j_iadd hC (pc := 6) dX3_keep_6 ?_
  refine j_bipush hC (pc := 7) dX3_keep_7 kb_7 ?_
  refine j_irem hC (pc := 9) dX3_keep_9 ?_
  refine j_putI hC (pc := 10) dX3_keep_10 kp_RX3_17 lX_135 (Nat.le_of_ble_eq_true rfl) rfl rfl rfl (fun κ1 => ?_)
  refine j_aload_n hC (pc := 13) dX3_keep_13 0 rfl rfl ?_
  refine j_aload_n hC (pc := 14) dX3_keep_14 0 rfl rfl ?_
  refine j_getI hC (pc := 15) dX3_keep_15 kf_RX3_21 lX_135 (Nat.le_of_ble_eq_true rfl) rfl ?_
  refine j_iconst hC (pc := 18) dX3_keep_18 ki_1 ?_
  refine j_iadd hC (pc := 19) dX3_keep_19 ?_
  refine j_bipush hC (pc := 20) dX3_keep_20 kb_6 ?_
  refine j_mmin hC hR kc_RX3_29 (Nat.le_of_ble_eq_true rfl) (rest := [.ref (gad Γ 135)]) (Nat.le_of_ble_eq_true rfl) hm (pc := 22) dX3_keep_22 ?_
  refine j_putI hC (pc := 25) dX3_keep_25 kp_RX3_21 lX_135 (Nat.le_of_ble_eq_true rfl) rfl rfl rfl (fun κ2 => ?_)
  exact j_vret hC (pc := 28) dX3_keep_28 rfl rfl
theorem ctX3_keep {Δ : DCtx} {l : Launch} (hl : dlay Δ = layX) (hN : dN Δ = 147) (κ : Mem) : ∀ r, pX3_keep κ = some r → CT Δ l yX3_keep cX3_keep 1 none (rmH 1) [.ref (dad Δ 135)] κ none r :=
  ct_of (nL := 1) (ret := none) (lay := layX) (N := 147) (by decide +kernel) (fun Δ => [.ref (dad Δ 135)]) (fun _ => oV) (fun _ => (Nat.le_of_ble_eq_true rfl)) (fun Γ hR hm hC => wX3_keep hC hR hm κ) Δ l hl hN
set_option maxRecDepth 20000 in
theorem wX0_sumSeen_64 {Γ : JCtx} (hC : jC Γ cX0_sumSeen 6 RX0 (some .int) layX 147) (hR : gR Γ = rmH 2) (hm : gcells Γ ≤ (gR Γ).cells ∧ gslots Γ ≤ (gR Γ).slots) (F : Nat) (κ : Mem) (v1 : Int32) (v2 : Int32) (v3 : Int32) (v4 : Int32) (v5 : Int32) (k6 : Int32 → Int32 → Option Int32) (hk6 : ∀ (v4 : Int32) (v5 : Int32), JP Γ (qf Γ (oI κ)) (k6 v4 v5) κ 6 [(0, .ref (gad Γ 58)), (1, .int v1), (2, .int v2), (3, .int v3), (4, .int v4), (5, .int v5)] []) : JP Γ (qf Γ (oI κ)) (pX0_sumSeen_64 F κ k6 v1 v2 v3 v4 v5) κ 64 [(0, .ref (gad Γ 58)), (1, .int v1), (2, .int v2), (3, .int v3), (4, .int v4), (5, .int v5)] [] := by
  unfold pX0_sumSeen_64
  refine j_iinc hC (pc := 64) dX0_sumSeen_64 5 rfl ki_1 (Nat.le_of_ble_eq_true rfl) (loc' := [(5, .int (v5 + 1)), (0, .ref (gad Γ 58)), (1, .int v1), (2, .int v2), (3, .int v3), (4, .int v4)]) rfl ?_
  refine j_goto hC (pc := 67) dX0_sumSeen_67 (tgt := 6) rfl ?_
  refine j_sub [1, 2, 3, 4, 5, 0] (loc' := [(0, .ref (gad Γ 58)), (1, .int v1), (2, .int v2), (3, .int v3), (4, .int v4), (5, .int (v5 + 1))]) rfl ?_
  exact hk6 v4 (v5 + 1)
set_option maxRecDepth 20000 in
theorem wX0_sumSeen_6 {Γ : JCtx} (hC : jC Γ cX0_sumSeen 6 RX0 (some .int) layX 147) (hR : gR Γ = rmH 2) (hm : gcells Γ ≤ (gR Γ).cells ∧ gslots Γ ≤ (gR Γ).slots) (F : Nat) (κ : Mem) (v1 : Int32) (v2 : Int32) (v3 : Int32) : ∀ (n : Nat) (v4 : Int32) (v5 : Int32), JP Γ (qf Γ (oI κ)) (pX0_sumSeen_6 F κ v1 v2 v3 n v4 v5) κ 6 [(0, .ref (gad Γ 58)), (1, .int v1), (2, .int v2), (3, .int v3), (4, .int v4), (5, .int v5)] [] := by
  intro n
  induction n with
  | zero =>
    intro v4 v5
    rw [pX0_sumSeen_6]
    exact j_none
  | succ fu ih =>
    intro v4 v5
    rw [pX0_sumSeen_6]
    refine j_iload hC (pc := 6) dX0_sumSeen_6 5 rfl ?_
    refine j_aload_n hC (pc := 8) dX0_sumSeen_8 0 rfl rfl ?_
    refine j_getR hC (pc := 9) dX0_sumSeen_9 kf_RX0_7 lX_58 (Nat.le_of_ble_eq_true rfl) rfl ?_
    refine j_getI hC (pc := 12) dX0_sumSeen_12 kf_RX0_13 lX_1 (Nat.le_of_ble_eq_true rfl) rfl ?_
    refine j_icmp_ge hC (pc := 15) dX0_sumSeen_15 (tgt := 70) rfl ?_ ?_
    · refine j_iload hC (pc := 18) dX0_sumSeen_18 5 rfl ?_
      refine j_iload_n hC (pc := 20) dX0_sumSeen_20 1 rfl rfl ?_
      refine j_icmp_eq hC (pc := 21) dX0_sumSeen_21 (tgt := 64) rfl ?_ ?_
      · exact wX0_sumSeen_64 hC hR hm F κ v1 v2 v3 v4 v5 (pX0_sumSeen_6 F κ v1 v2 v3 fu) ih
      · refine j_iload_n hC (pc := 24) dX0_sumSeen_24 3 rfl rfl ?_
        refine j_iload hC (pc := 25) dX0_sumSeen_25 5 rfl ?_
        refine j_ishr hC (pc := 27) dX0_sumSeen_27 ?_
        refine j_iconst hC (pc := 28) dX0_sumSeen_28 ki_1 ?_
        refine j_iand hC (pc := 29) dX0_sumSeen_29 ?_
        refine j_iconst hC (pc := 30) dX0_sumSeen_30 ki_1 ?_
        refine j_icmp_ne hC (pc := 31) dX0_sumSeen_31 (tgt := 64) rfl ?_ ?_
        · refine j_iload hC (pc := 34) dX0_sumSeen_34 4 rfl ?_
          refine j_aload_n hC (pc := 36) dX0_sumSeen_36 0 rfl rfl ?_
          refine j_getR hC (pc := 37) dX0_sumSeen_37 kf_RX0_7 lX_58 (Nat.le_of_ble_eq_true rfl) rfl ?_
          refine j_iload_n hC (pc := 40) dX0_sumSeen_40 1 rfl rfl ?_
          refine j_iload_n hC (pc := 41) dX0_sumSeen_41 2 rfl rfl ?_
          refine j_iload hC (pc := 42) dX0_sumSeen_42 5 rfl ?_
          refine j_callV_I hC hR (ctX2_colourIn hC.l hC.cn 1 isG_1 F κ v1 v2 v5) kc_RX0_47 (Nat.le_of_ble_eq_true rfl) (Nat.le_of_ble_eq_true rfl) lX_1 (Nat.le_of_ble_eq_true rfl) rfl (As := [.int v1, .int v2, .int v5]) (rest := [.int v4]) rfl rfl (Nat.le_of_ble_eq_true rfl) hm (pc := 44) dX0_sumSeen_44 (fun t1 => ?_)
          refine j_bipush hC (pc := 47) dX0_sumSeen_47 kb_12 ?_
          refine j_aload_n hC (pc := 49) dX0_sumSeen_49 0 rfl rfl ?_
          refine j_getR hC (pc := 50) dX0_sumSeen_50 kf_RX0_7 lX_58 (Nat.le_of_ble_eq_true rfl) rfl ?_
          refine j_getR hC (pc := 53) dX0_sumSeen_53 kf_RX0_23 lX_1 (Nat.le_of_ble_eq_true rfl) rfl ?_
          refine j_iload hC (pc := 56) dX0_sumSeen_56 5 rfl ?_
          refine j_iald hC (pc := 58) dX0_sumSeen_58 lX_2 (Nat.le_of_ble_eq_true rfl) ?_
          refine j_idiv hC (pc := 59) dX0_sumSeen_59 ?_
          refine j_imul hC (pc := 60) dX0_sumSeen_60 ?_
          refine j_iadd hC (pc := 61) dX0_sumSeen_61 ?_
          refine j_nmi (fun x2 => ?_)
          refine j_istore hC (pc := 62) dX0_sumSeen_62 (Nat.le_of_ble_eq_true rfl) (loc' := [(4, .int x2), (0, .ref (gad Γ 58)), (1, .int v1), (2, .int v2), (3, .int v3), (5, .int v5)]) rfl ?_
          refine j_sub [1, 2, 3, 4, 0, 5] (loc' := [(0, .ref (gad Γ 58)), (1, .int v1), (2, .int v2), (3, .int v3), (4, .int x2), (5, .int v5)]) rfl ?_
          exact wX0_sumSeen_64 hC hR hm F κ v1 v2 v3 x2 v5 (pX0_sumSeen_6 F κ v1 v2 v3 fu) ih
        · exact wX0_sumSeen_64 hC hR hm F κ v1 v2 v3 v4 v5 (pX0_sumSeen_6 F κ v1 v2 v3 fu) ih
    · refine j_iload hC (pc := 70) dX0_sumSeen_70 4 rfl ?_
      exact j_iret hC (pc := 72) dX0_sumSeen_72 rfl rfl rfl
set_option maxRecDepth 20000 in
theorem wX0_sumSeen {Γ : JCtx} (hC : jC Γ cX0_sumSeen 6 RX0 (some .int) layX 147) (hR : gR Γ = rmH 2) (hm : gcells Γ ≤ (gR Γ).cells ∧ gslots Γ ≤ (gR Γ).slots) (F : Nat) (κ : Mem) (v1 : Int32) (v2 : Int32) (v3 : Int32) : JP Γ (qf Γ (oI κ)) (pX0_sumSeen F κ v1 v2 v3) κ 0 [(0, .ref (gad Γ 58)), (1, .int v1), (2, .int v2), (3, .int v3)] [] := by
  unfold pX0_sumSeen
  refine j_iconst hC (pc := 0) dX0_sumSeen_0 ki_0 ?_
  refine j_istore hC (pc := 1) dX0_sumSeen_1 (Nat.le_of_ble_eq_true rfl) (loc' := [(4, .int 0), (0, .ref (gad Γ 58)), (1, .int v1), (2, .int v2), (3, .int v3)]) rfl ?_
  refine j_iconst hC (pc := 3) dX0_sumSeen_3 ki_0 ?_
  refine j_istore hC (pc := 4) dX0_sumSeen_4 (Nat.le_of_ble_eq_true rfl) (loc' := [(5, .int 0), (4, .int 0), (0, .ref (gad Γ 58)), (1, .int v1), (2, .int v2), (3, .int v3)]) rfl ?_
  refine j_sub [2, 3, 4, 5, 1, 0] (loc' := [(0, .ref (gad Γ 58)), (1, .int v1), (2, .int v2), (3, .int v3), (4, .int 0), (5, .int 0)]) rfl ?_
  exact wX0_sumSeen_6 hC hR hm F κ v1 v2 v3 F 0 0
theorem ctX0_sumSeen {Δ : DCtx} {l : Launch} (hl : dlay Δ = layX) (hN : dN Δ = 147) (F : Nat) (κ : Mem) (v1 : Int32) (v2 : Int32) (v3 : Int32) : ∀ r, pX0_sumSeen F κ v1 v2 v3 = some r → CT Δ l yX0_sumSeen cX0_sumSeen 6 (some .int) (rmH 2) [.ref (dad Δ 58), .int v1, .int v2, .int v3] κ (some (.int r)) κ :=
  ct_of (nL := 6) (ret := (some .int)) (lay := layX) (N := 147) (by decide +kernel) (fun Δ => [.ref (dad Δ 58), .int v1, .int v2, .int v3]) (fun _ => oI κ) (fun _ => (Nat.le_of_ble_eq_true rfl)) (fun Γ hR hm hC => wX0_sumSeen hC hR hm F κ v1 v2 v3) Δ l hl hN
set_option maxRecDepth 20000 in
theorem wX0_tellMember_91 {Γ : JCtx} (hC : jC Γ cX0_tellMember 11 RX0 (some .int) layX 147) (hR : gR Γ = rmH 3) (hm : gcells Γ ≤ (gR Γ).cells ∧ gslots Γ ≤ (gR Γ).slots) (F : Nat) (κ : Mem) (v1 : Int32) (v2 : Int32) (v3 : Int32) (v4 : Int32) (v5 : Int32) (v6 : Int32) (v7 : Int32) (v8 : Int32) (v9 : Int32) (v10 : Int32) (k53 : Int32 → Int32 → Option (Int32 × Mem)) (hk53 : ∀ (v9 : Int32) (v10 : Int32), JP Γ (qf Γ oE) (k53 v9 v10) κ 53 [(0, .ref (gad Γ 58)), (1, .int v1), (2, .int v2), (3, .int v3), (4, .int v4), (5, .int v5), (6, .int v6), (7, .int v7), (8, .int v8), (9, .int v9), (10, .int v10)] []) : JP Γ (qf Γ oE) (pX0_tellMember_91 F k53 κ v1 v2 v3 v4 v5 v6 v7 v8 v9 v10) κ 91 [(0, .ref (gad Γ 58)), (1, .int v1), (2, .int v2), (3, .int v3), (4, .int v4), (5, .int v5), (6, .int v6), (7, .int v7), (8, .int v8), (9, .int v9), (10, .int v10)] [] := by
  unfold pX0_tellMember_91
  refine j_iinc hC (pc := 91) dX0_tellMember_91 10 rfl ki_1 (Nat.le_of_ble_eq_true rfl) (loc' := [(10, .int (v10 + 1)), (0, .ref (gad Γ 58)), (1, .int v1), (2, .int v2), (3, .int v3), (4, .int v4), (5, .int v5), (6, .int v6), (7, .int v7), (8, .int v8), (9, .int v9)]) rfl ?_
  refine j_goto hC (pc := 94) dX0_tellMember_94 (tgt := 53) rfl ?_
  refine j_sub [1, 2, 3, 4, 5, 6, 7, 8, 9, 10, 0] (loc' := [(0, .ref (gad Γ 58)), (1, .int v1), (2, .int v2), (3, .int v3), (4, .int v4), (5, .int v5), (6, .int v6), (7, .int v7), (8, .int v8), (9, .int v9), (10, .int (v10 + 1))]) rfl ?_
  exact hk53 v9 (v10 + 1)
set_option maxRecDepth 20000 in
theorem wX0_tellMember_127 {Γ : JCtx} (hC : jC Γ cX0_tellMember 11 RX0 (some .int) layX 147) (hR : gR Γ = rmH 3) (hm : gcells Γ ≤ (gR Γ).cells ∧ gslots Γ ≤ (gR Γ).slots) (F : Nat) (κ : Mem) (v1 : Int32) (v2 : Int32) (v3 : Int32) (v4 : Int32) (v5 : Int32) (v6 : Int32) (v7 : Int32) (k30 : Mem → Int32 → Int32 → Option (Int32 × Mem)) (hk30 : ∀ (κ : Mem) (v5 : Int32) (v7 : Int32), JP Γ (qf Γ oE) (k30 κ v5 v7) κ 30 [(0, .ref (gad Γ 58)), (1, .int v1), (2, .int v2), (3, .int v3), (4, .int v4), (5, .int v5), (6, .int v6), (7, .int v7)] []) : JP Γ (qf Γ oE) (pX0_tellMember_127 F k30 κ v1 v2 v3 v4 v5 v6 v7) κ 127 [(0, .ref (gad Γ 58)), (1, .int v1), (2, .int v2), (3, .int v3), (4, .int v4), (5, .int v5), (6, .int v6), (7, .int v7)] [] := by
  unfold pX0_tellMember_127
  refine j_iinc hC (pc := 127) dX0_tellMember_127 7 rfl ki_1 (Nat.le_of_ble_eq_true rfl) (loc' := [(7, .int (v7 + 1)), (0, .ref (gad Γ 58)), (1, .int v1), (2, .int v2), (3, .int v3), (4, .int v4), (5, .int v5), (6, .int v6)]) rfl ?_
  refine j_goto hC (pc := 130) dX0_tellMember_130 (tgt := 30) rfl ?_
  refine j_sub [1, 2, 3, 4, 5, 6, 7, 0] (loc' := [(0, .ref (gad Γ 58)), (1, .int v1), (2, .int v2), (3, .int v3), (4, .int v4), (5, .int v5), (6, .int v6), (7, .int (v7 + 1))]) rfl ?_
  exact hk30 κ v5 (v7 + 1)
set_option maxRecDepth 20000 in
theorem wX0_tellMember_53 {Γ : JCtx} (hC : jC Γ cX0_tellMember 11 RX0 (some .int) layX 147) (hR : gR Γ = rmH 3) (hm : gcells Γ ≤ (gR Γ).cells ∧ gslots Γ ≤ (gR Γ).slots) (F : Nat) (κ : Mem) (v1 : Int32) (v2 : Int32) (v3 : Int32) (v4 : Int32) (v5 : Int32) (v6 : Int32) (v7 : Int32) (v8 : Int32) (k30 : Mem → Int32 → Int32 → Option (Int32 × Mem)) (hk30 : ∀ (κ : Mem) (v5 : Int32) (v7 : Int32), JP Γ (qf Γ oE) (k30 κ v5 v7) κ 30 [(0, .ref (gad Γ 58)), (1, .int v1), (2, .int v2), (3, .int v3), (4, .int v4), (5, .int v5), (6, .int v6), (7, .int v7)] []) : ∀ (n : Nat) (v9 : Int32) (v10 : Int32), JP Γ (qf Γ oE) (pX0_tellMember_53 F k30 κ v1 v2 v3 v4 v5 v6 v7 v8 n v9 v10) κ 53 [(0, .ref (gad Γ 58)), (1, .int v1), (2, .int v2), (3, .int v3), (4, .int v4), (5, .int v5), (6, .int v6), (7, .int v7), (8, .int v8), (9, .int v9), (10, .int v10)] [] := by
  intro n
  induction n with
  | zero =>
    intro v9 v10
    rw [pX0_tellMember_53]
    exact j_none
  | succ fu ih =>
    intro v9 v10
    rw [pX0_tellMember_53]
    refine j_iload hC (pc := 53) dX0_tellMember_53 10 rfl ?_
    refine j_aload_n hC (pc := 55) dX0_tellMember_55 0 rfl rfl ?_
    refine j_getR hC (pc := 56) dX0_tellMember_56 kf_RX0_7 lX_58 (Nat.le_of_ble_eq_true rfl) rfl ?_
    refine j_getR hC (pc := 59) dX0_tellMember_59 kf_RX0_23 lX_1 (Nat.le_of_ble_eq_true rfl) rfl ?_
    refine j_iload_n hC (pc := 62) dX0_tellMember_62 1 rfl rfl ?_
    refine j_iald hC (pc := 63) dX0_tellMember_63 lX_2 (Nat.le_of_ble_eq_true rfl) ?_
    refine j_icmp_ge hC (pc := 64) dX0_tellMember_64 (tgt := 97) rfl ?_ ?_
    · refine j_iload hC (pc := 67) dX0_tellMember_67 8 rfl ?_
      refine j_iload hC (pc := 69) dX0_tellMember_69 10 rfl ?_
      refine j_iload hC (pc := 71) dX0_tellMember_71 4 rfl ?_
      refine j_imul hC (pc := 73) dX0_tellMember_73 ?_
      refine j_iadd hC (pc := 74) dX0_tellMember_74 ?_
      refine j_iload_n hC (pc := 75) dX0_tellMember_75 3 rfl rfl ?_
      refine j_isub hC (pc := 76) dX0_tellMember_76 ?_
      refine j_bipush hC (pc := 77) dX0_tellMember_77 kb_12 ?_
      refine j_callS_I hC hR (ctJ9_floorMod_7cf53 hC.l hC.cn κ ((v8 + (v10 * v4)) - v3) 12) kc_RX0_34 (Nat.le_of_ble_eq_true rfl) (Nat.le_of_ble_eq_true rfl) (As := [.int ((v8 + (v10 * v4)) - v3), .int 12]) (rest := []) rfl rfl (Nat.le_of_ble_eq_true rfl) hm (pc := 79) dX0_tellMember_79 (fun t4 => ?_)
      refine j_iload hC (pc := 82) dX0_tellMember_82 4 rfl ?_
      refine j_icmp_ge hC (pc := 84) dX0_tellMember_84 (tgt := 91) rfl ?_ ?_
      · refine j_iload hC (pc := 87) dX0_tellMember_87 10 rfl ?_
        refine j_istore hC (pc := 89) dX0_tellMember_89 (Nat.le_of_ble_eq_true rfl) (loc' := [(9, .int v10), (0, .ref (gad Γ 58)), (1, .int v1), (2, .int v2), (3, .int v3), (4, .int v4), (5, .int v5), (6, .int v6), (7, .int v7), (8, .int v8), (10, .int v10)]) rfl ?_
        refine j_sub [1, 2, 3, 4, 5, 6, 7, 8, 9, 0, 10] (loc' := [(0, .ref (gad Γ 58)), (1, .int v1), (2, .int v2), (3, .int v3), (4, .int v4), (5, .int v5), (6, .int v6), (7, .int v7), (8, .int v8), (9, .int v10), (10, .int v10)]) rfl ?_
        exact wX0_tellMember_91 hC hR hm F κ v1 v2 v3 v4 v5 v6 v7 v8 v10 v10 (pX0_tellMember_53 F k30 κ v1 v2 v3 v4 v5 v6 v7 v8 fu) ih
      · exact wX0_tellMember_91 hC hR hm F κ v1 v2 v3 v4 v5 v6 v7 v8 v9 v10 (pX0_tellMember_53 F k30 κ v1 v2 v3 v4 v5 v6 v7 v8 fu) ih
    · refine j_aload_n hC (pc := 97) dX0_tellMember_97 0 rfl rfl ?_
      refine j_getR hC (pc := 98) dX0_tellMember_98 kf_RX0_7 lX_58 (Nat.le_of_ble_eq_true rfl) rfl ?_
      refine j_iload_n hC (pc := 101) dX0_tellMember_101 1 rfl rfl ?_
      refine j_iload hC (pc := 102) dX0_tellMember_102 7 rfl ?_
      refine j_callV_I hC hR (ctX2_told hC.l hC.cn 1 isG_1 κ v1 v7) kc_RX0_40 (Nat.le_of_ble_eq_true rfl) (Nat.le_of_ble_eq_true rfl) lX_1 (Nat.le_of_ble_eq_true rfl) rfl (As := [.int v1, .int v7]) (rest := []) rfl rfl (Nat.le_of_ble_eq_true rfl) hm (pc := 104) dX0_tellMember_104 (fun t5 => ?_)
      refine j_iload hC (pc := 107) dX0_tellMember_107 9 rfl ?_
      refine j_icmp_eq hC (pc := 109) dX0_tellMember_109 (tgt := 127) rfl ?_ ?_
      · refine j_sub [0, 1, 2, 3, 4, 5, 6, 7] (loc' := [(0, .ref (gad Γ 58)), (1, .int v1), (2, .int v2), (3, .int v3), (4, .int v4), (5, .int v5), (6, .int v6), (7, .int v7)]) rfl ?_
        exact wX0_tellMember_127 hC hR hm F κ v1 v2 v3 v4 v5 v6 v7 k30 hk30
      · refine j_aload_n hC (pc := 112) dX0_tellMember_112 0 rfl rfl ?_
        refine j_getR hC (pc := 113) dX0_tellMember_113 kf_RX0_7 lX_58 (Nat.le_of_ble_eq_true rfl) rfl ?_
        refine j_iload_n hC (pc := 116) dX0_tellMember_116 1 rfl rfl ?_
        refine j_iload hC (pc := 117) dX0_tellMember_117 7 rfl ?_
        refine j_iload hC (pc := 119) dX0_tellMember_119 9 rfl ?_
        refine j_callV_V hC hR (ctX2_tell hC.l hC.cn 1 isG_1 κ v1 v7 v9) kc_RX0_43 (Nat.le_of_ble_eq_true rfl) (Nat.le_of_ble_eq_true rfl) lX_1 (Nat.le_of_ble_eq_true rfl) rfl (As := [.int v1, .int v7, .int v9]) (rest := []) rfl rfl (Nat.le_of_ble_eq_true rfl) hm (pc := 121) dX0_tellMember_121 (fun t6 => ?_)
        refine j_iinc hC (pc := 124) dX0_tellMember_124 5 rfl ki_1 (Nat.le_of_ble_eq_true rfl) (loc' := [(5, .int (v5 + 1)), (0, .ref (gad Γ 58)), (1, .int v1), (2, .int v2), (3, .int v3), (4, .int v4), (6, .int v6), (7, .int v7), (8, .int v8), (9, .int v9), (10, .int v10)]) rfl ?_
        refine j_sub [1, 2, 3, 4, 5, 0, 6, 7] (loc' := [(0, .ref (gad Γ 58)), (1, .int v1), (2, .int v2), (3, .int v3), (4, .int v4), (5, .int (v5 + 1)), (6, .int v6), (7, .int v7)]) rfl ?_
        exact wX0_tellMember_127 hC hR hm F t6 v1 v2 v3 v4 (v5 + 1) v6 v7 k30 hk30
set_option maxRecDepth 20000 in
theorem wX0_tellMember_30 {Γ : JCtx} (hC : jC Γ cX0_tellMember 11 RX0 (some .int) layX 147) (hR : gR Γ = rmH 3) (hm : gcells Γ ≤ (gR Γ).cells ∧ gslots Γ ≤ (gR Γ).slots) (F : Nat) (v1 : Int32) (v2 : Int32) (v3 : Int32) (v4 : Int32) (v6 : Int32) : ∀ (n : Nat) (κ : Mem) (v5 : Int32) (v7 : Int32), JP Γ (qf Γ oE) (pX0_tellMember_30 F v1 v2 v3 v4 v6 n κ v5 v7) κ 30 [(0, .ref (gad Γ 58)), (1, .int v1), (2, .int v2), (3, .int v3), (4, .int v4), (5, .int v5), (6, .int v6), (7, .int v7)] [] := by
  intro n
  induction n with
  | zero =>
    intro κ v5 v7
    rw [pX0_tellMember_30]
    exact j_none
  | succ fu ih =>
    intro κ v5 v7
    rw [pX0_tellMember_30]
    refine j_iload hC (pc := 30) dX0_tellMember_30 7 rfl ?_
    refine j_iload hC (pc := 32) dX0_tellMember_32 6 rfl ?_
    refine j_icmp_ge hC (pc := 34) dX0_tellMember_34 (tgt := 133) rfl ?_ ?_
    · refine j_aload_n hC (pc := 37) dX0_tellMember_37 0 rfl rfl ?_
      refine j_iload_n hC (pc := 38) dX0_tellMember_38 1 rfl rfl ?_
      refine j_iload hC (pc := 39) dX0_tellMember_39 7 rfl ?_
      refine j_iload_n hC (pc := 41) dX0_tellMember_41 2 rfl rfl ?_
      refine j_callV_I hC hR (ctX0_sumSeen hC.l hC.cn F κ v1 v7 v2) kc_RX0_31 (Nat.le_of_ble_eq_true rfl) (Nat.le_of_ble_eq_true rfl) lX_58 (Nat.le_of_ble_eq_true rfl) rfl (As := [.int v1, .int v7, .int v2]) (rest := []) rfl rfl (Nat.le_of_ble_eq_true rfl) hm (pc := 42) dX0_tellMember_42 (fun t3 => ?_)
      refine j_istore hC (pc := 45) dX0_tellMember_45 (Nat.le_of_ble_eq_true rfl) (loc' := [(8, .int t3), (0, .ref (gad Γ 58)), (1, .int v1), (2, .int v2), (3, .int v3), (4, .int v4), (5, .int v5), (6, .int v6), (7, .int v7)]) rfl ?_
      refine j_iconst hC (pc := 47) dX0_tellMember_47 ki_0 ?_
      refine j_istore hC (pc := 48) dX0_tellMember_48 (Nat.le_of_ble_eq_true rfl) (loc' := [(9, .int 0), (8, .int t3), (0, .ref (gad Γ 58)), (1, .int v1), (2, .int v2), (3, .int v3), (4, .int v4), (5, .int v5), (6, .int v6), (7, .int v7)]) rfl ?_
      refine j_iconst hC (pc := 50) dX0_tellMember_50 ki_0 ?_
      refine j_istore hC (pc := 51) dX0_tellMember_51 (Nat.le_of_ble_eq_true rfl) (loc' := [(10, .int 0), (9, .int 0), (8, .int t3), (0, .ref (gad Γ 58)), (1, .int v1), (2, .int v2), (3, .int v3), (4, .int v4), (5, .int v5), (6, .int v6), (7, .int v7)]) rfl ?_
      refine j_sub [3, 4, 5, 6, 7, 8, 9, 10, 2, 1, 0] (loc' := [(0, .ref (gad Γ 58)), (1, .int v1), (2, .int v2), (3, .int v3), (4, .int v4), (5, .int v5), (6, .int v6), (7, .int v7), (8, .int t3), (9, .int 0), (10, .int 0)]) rfl ?_
      exact wX0_tellMember_53 hC hR hm F κ v1 v2 v3 v4 v5 v6 v7 t3 (pX0_tellMember_30 F v1 v2 v3 v4 v6 fu) ih F 0 0
    · refine j_iload hC (pc := 133) dX0_tellMember_133 5 rfl ?_
      exact j_iret hC (pc := 135) dX0_tellMember_135 rfl rfl rfl
set_option maxRecDepth 20000 in
theorem wX0_tellMember {Γ : JCtx} (hC : jC Γ cX0_tellMember 11 RX0 (some .int) layX 147) (hR : gR Γ = rmH 3) (hm : gcells Γ ≤ (gR Γ).cells ∧ gslots Γ ≤ (gR Γ).slots) (F : Nat) (κ : Mem) (v1 : Int32) (v2 : Int32) (v3 : Int32) : JP Γ (qf Γ oE) (pX0_tellMember F κ v1 v2 v3) κ 0 [(0, .ref (gad Γ 58)), (1, .int v1), (2, .int v2), (3, .int v3)] [] := by
  unfold pX0_tellMember
  refine j_bipush hC (pc := 0) dX0_tellMember_0 kb_12 ?_
  refine j_aload_n hC (pc := 2) dX0_tellMember_2 0 rfl rfl ?_
  refine j_getR hC (pc := 3) dX0_tellMember_3 kf_RX0_7 lX_58 (Nat.le_of_ble_eq_true rfl) rfl ?_
  refine j_getR hC (pc := 6) dX0_tellMember_6 kf_RX0_23 lX_1 (Nat.le_of_ble_eq_true rfl) rfl ?_
  refine j_iload_n hC (pc := 9) dX0_tellMember_9 1 rfl rfl ?_
  refine j_iald hC (pc := 10) dX0_tellMember_10 lX_2 (Nat.le_of_ble_eq_true rfl) ?_
  refine j_idiv hC (pc := 11) dX0_tellMember_11 ?_
  refine j_nmi (fun x1 => ?_)
  refine j_istore hC (pc := 12) dX0_tellMember_12 (Nat.le_of_ble_eq_true rfl) (loc' := [(4, .int x1), (0, .ref (gad Γ 58)), (1, .int v1), (2, .int v2), (3, .int v3)]) rfl ?_
  refine j_iconst hC (pc := 14) dX0_tellMember_14 ki_0 ?_
  refine j_istore hC (pc := 15) dX0_tellMember_15 (Nat.le_of_ble_eq_true rfl) (loc' := [(5, .int 0), (4, .int x1), (0, .ref (gad Γ 58)), (1, .int v1), (2, .int v2), (3, .int v3)]) rfl ?_
  refine j_aload_n hC (pc := 17) dX0_tellMember_17 2 rfl rfl ?_
  refine j_getR hC (pc := 18) dX0_tellMember_18 kf_RX0_7 lX_58 (Nat.le_of_ble_eq_true rfl) rfl ?_
  refine j_iload_n hC (pc := 21) dX0_tellMember_21 3 rfl rfl ?_
  refine j_callV_I hC hR (ctX2_situations hC.l hC.cn 1 isG_1 F κ v1) kc_RX0_27 (Nat.le_of_ble_eq_true rfl) (Nat.le_of_ble_eq_true rfl) lX_1 (Nat.le_of_ble_eq_true rfl) rfl (As := [.int v1]) (rest := []) rfl rfl (Nat.le_of_ble_eq_true rfl) hm (pc := 22) dX0_tellMember_22 (fun t2 => ?_)
  refine j_istore hC (pc := 25) dX0_tellMember_25 (Nat.le_of_ble_eq_true rfl) (loc' := [(6, .int t2), (5, .int 0), (4, .int x1), (0, .ref (gad Γ 58)), (1, .int v1), (2, .int v2), (3, .int v3)]) rfl ?_
  refine j_iconst hC (pc := 27) dX0_tellMember_27 ki_0 ?_
  refine j_istore hC (pc := 28) dX0_tellMember_28 (Nat.le_of_ble_eq_true rfl) (loc' := [(7, .int 0), (6, .int t2), (5, .int 0), (4, .int x1), (0, .ref (gad Γ 58)), (1, .int v1), (2, .int v2), (3, .int v3)]) rfl ?_
  refine j_sub [4, 5, 6, 7, 3, 2, 1, 0] (loc' := [(0, .ref (gad Γ 58)), (1, .int v1), (2, .int v2), (3, .int v3), (4, .int x1), (5, .int 0), (6, .int t2), (7, .int 0)]) rfl ?_
  exact wX0_tellMember_30 hC hR hm F v1 v2 v3 x1 t2 F κ 0 0
theorem ctX0_tellMember {Δ : DCtx} {l : Launch} (hl : dlay Δ = layX) (hN : dN Δ = 147) (F : Nat) (κ : Mem) (v1 : Int32) (v2 : Int32) (v3 : Int32) : ∀ r, pX0_tellMember F κ v1 v2 v3 = some r → CT Δ l yX0_tellMember cX0_tellMember 11 (some .int) (rmH 3) [.ref (dad Δ 58), .int v1, .int v2, .int v3] κ (some (.int r.1)) r.2 :=
  ct_of (nL := 11) (ret := (some .int)) (lay := layX) (N := 147) (by decide +kernel) (fun Δ => [.ref (dad Δ 58), .int v1, .int v2, .int v3]) (fun _ => oE) (fun _ => (Nat.le_of_ble_eq_true rfl)) (fun Γ hR hm hC => wX0_tellMember hC hR hm F κ v1 v2 v3) Δ l hl hN
set_option maxRecDepth 20000 in
theorem wX0_tellClique_56 {Γ : JCtx} (hC : jC Γ cX0_tellClique 5 RX0 (some .int) layX 147) (hR : gR Γ = rmH 4) (hm : gcells Γ ≤ (gR Γ).cells ∧ gslots Γ ≤ (gR Γ).slots) (F : Nat) (κ : Mem) (v1 : Int32) (v2 : Int32) (v3 : Int32) (v4 : Int32) (k7 : Mem → Int32 → Int32 → Int32 → Option (Int32 × Mem)) (hk7 : ∀ (κ : Mem) (v2 : Int32) (v3 : Int32) (v4 : Int32), JP Γ (qf Γ oE) (k7 κ v2 v3 v4) κ 7 [(0, .ref (gad Γ 58)), (1, .int v1), (2, .int v2), (3, .int v3), (4, .int v4)] []) : JP Γ (qf Γ oE) (pX0_tellClique_56 F k7 κ v1 v2 v3 v4) κ 56 [(0, .ref (gad Γ 58)), (1, .int v1), (2, .int v2), (3, .int v3), (4, .int v4)] [] := by
  unfold pX0_tellClique_56
  refine j_iinc hC (pc := 56) dX0_tellClique_56 4 rfl ki_1 (Nat.le_of_ble_eq_true rfl) (loc' := [(4, .int (v4 + 1)), (0, .ref (gad Γ 58)), (1, .int v1), (2, .int v2), (3, .int v3)]) rfl ?_
  refine j_goto hC (pc := 59) dX0_tellClique_59 (tgt := 7) rfl ?_
  refine j_sub [1, 2, 3, 4, 0] (loc' := [(0, .ref (gad Γ 58)), (1, .int v1), (2, .int v2), (3, .int v3), (4, .int (v4 + 1))]) rfl ?_
  exact hk7 κ v2 v3 (v4 + 1)
set_option maxRecDepth 20000 in
theorem wX0_tellClique_7 {Γ : JCtx} (hC : jC Γ cX0_tellClique 5 RX0 (some .int) layX 147) (hR : gR Γ = rmH 4) (hm : gcells Γ ≤ (gR Γ).cells ∧ gslots Γ ≤ (gR Γ).slots) (F : Nat) (v1 : Int32) : ∀ (n : Nat) (κ : Mem) (v2 : Int32) (v3 : Int32) (v4 : Int32), JP Γ (qf Γ oE) (pX0_tellClique_7 F v1 n κ v2 v3 v4) κ 7 [(0, .ref (gad Γ 58)), (1, .int v1), (2, .int v2), (3, .int v3), (4, .int v4)] [] := by
  intro n
  induction n with
  | zero =>
    intro κ v2 v3 v4
    rw [pX0_tellClique_7]
    exact j_none
  | succ fu ih =>
    intro κ v2 v3 v4
    rw [pX0_tellClique_7]
    refine j_iload hC (pc := 7) dX0_tellClique_7 4 rfl ?_
    refine j_aload_n hC (pc := 9) dX0_tellClique_9 0 rfl rfl ?_
    refine j_getR hC (pc := 10) dX0_tellClique_10 kf_RX0_7 lX_58 (Nat.le_of_ble_eq_true rfl) rfl ?_
    refine j_getI hC (pc := 13) dX0_tellClique_13 kf_RX0_13 lX_1 (Nat.le_of_ble_eq_true rfl) rfl ?_
    refine j_icmp_ge hC (pc := 16) dX0_tellClique_16 (tgt := 62) rfl ?_ ?_
    · refine j_iload_n hC (pc := 19) dX0_tellClique_19 1 rfl rfl ?_
      refine j_iload hC (pc := 20) dX0_tellClique_20 4 rfl ?_
      refine j_ishr hC (pc := 22) dX0_tellClique_22 ?_
      refine j_iconst hC (pc := 23) dX0_tellClique_23 ki_1 ?_
      refine j_iand hC (pc := 24) dX0_tellClique_24 ?_
      refine j_iconst hC (pc := 25) dX0_tellClique_25 ki_1 ?_
      refine j_icmp_ne hC (pc := 26) dX0_tellClique_26 (tgt := 56) rfl ?_ ?_
      · refine j_iload_n hC (pc := 29) dX0_tellClique_29 3 rfl rfl ?_
        refine j_aload_n hC (pc := 30) dX0_tellClique_30 0 rfl rfl ?_
        refine j_iload hC (pc := 31) dX0_tellClique_31 4 rfl ?_
        refine j_iload_n hC (pc := 33) dX0_tellClique_33 1 rfl rfl ?_
        refine j_iload_n hC (pc := 34) dX0_tellClique_34 2 rfl rfl ?_
        refine j_callV_E hC hR (ctX0_tellMember hC.l hC.cn F κ v4 v1 v2) kc_RX0_19 (Nat.le_of_ble_eq_true rfl) (Nat.le_of_ble_eq_true rfl) lX_58 (Nat.le_of_ble_eq_true rfl) rfl (As := [.int v4, .int v1, .int v2]) (rest := [.int v3]) rfl rfl (Nat.le_of_ble_eq_true rfl) hm (pc := 35) dX0_tellClique_35 (fun t1 => ?_)
        refine j_iadd hC (pc := 38) dX0_tellClique_38 ?_
        refine j_nmi (fun x2 => ?_)
        refine j_istore_n hC (pc := 39) dX0_tellClique_39 rfl (Nat.le_of_ble_eq_true rfl) (loc' := [(3, .int x2), (0, .ref (gad Γ 58)), (1, .int v1), (2, .int v2), (4, .int v4)]) rfl ?_
        refine j_iload_n hC (pc := 40) dX0_tellClique_40 3 rfl rfl ?_
        refine j_bipush hC (pc := 41) dX0_tellClique_41 kb_12 ?_
        refine j_aload_n hC (pc := 43) dX0_tellClique_43 1 rfl rfl ?_
        refine j_getR hC (pc := 44) dX0_tellClique_44 kf_RX0_7 lX_58 (Nat.le_of_ble_eq_true rfl) rfl ?_
        refine j_getR hC (pc := 47) dX0_tellClique_47 kf_RX0_23 lX_1 (Nat.le_of_ble_eq_true rfl) rfl ?_
        refine j_iload hC (pc := 50) dX0_tellClique_50 4 rfl ?_
        refine j_iald hC (pc := 52) dX0_tellClique_52 lX_2 (Nat.le_of_ble_eq_true rfl) ?_
        refine j_idiv hC (pc := 53) dX0_tellClique_53 ?_
        refine j_iadd hC (pc := 54) dX0_tellClique_54 ?_
        refine j_nmi (fun x3 => ?_)
        refine j_istore_n hC (pc := 55) dX0_tellClique_55 rfl (Nat.le_of_ble_eq_true rfl) (loc' := [(2, .int x3), (3, .int x2), (0, .ref (gad Γ 58)), (1, .int v1), (4, .int v4)]) rfl ?_
        refine j_sub [2, 3, 0, 1, 4] (loc' := [(0, .ref (gad Γ 58)), (1, .int v1), (2, .int x3), (3, .int x2), (4, .int v4)]) rfl ?_
        exact wX0_tellClique_56 hC hR hm F t1.2 v1 x3 x2 v4 (pX0_tellClique_7 F v1 fu) ih
      · exact wX0_tellClique_56 hC hR hm F κ v1 v2 v3 v4 (pX0_tellClique_7 F v1 fu) ih
    · refine j_iload_n hC (pc := 62) dX0_tellClique_62 3 rfl rfl ?_
      exact j_iret hC (pc := 63) dX0_tellClique_63 rfl rfl rfl
set_option maxRecDepth 20000 in
theorem wX0_tellClique {Γ : JCtx} (hC : jC Γ cX0_tellClique 5 RX0 (some .int) layX 147) (hR : gR Γ = rmH 4) (hm : gcells Γ ≤ (gR Γ).cells ∧ gslots Γ ≤ (gR Γ).slots) (F : Nat) (κ : Mem) (v1 : Int32) : JP Γ (qf Γ oE) (pX0_tellClique F κ v1) κ 0 [(0, .ref (gad Γ 58)), (1, .int v1)] [] := by
  unfold pX0_tellClique
  refine j_iconst hC (pc := 0) dX0_tellClique_0 ki_0 ?_
  refine j_istore_n hC (pc := 1) dX0_tellClique_1 rfl (Nat.le_of_ble_eq_true rfl) (loc' := [(2, .int 0), (0, .ref (gad Γ 58)), (1, .int v1)]) rfl ?_
  refine j_iconst hC (pc := 2) dX0_tellClique_2 ki_0 ?_
  refine j_istore_n hC (pc := 3) dX0_tellClique_3 rfl (Nat.le_of_ble_eq_true rfl) (loc' := [(3, .int 0), (2, .int 0), (0, .ref (gad Γ 58)), (1, .int v1)]) rfl ?_
  refine j_iconst hC (pc := 4) dX0_tellClique_4 ki_0 ?_
  refine j_istore hC (pc := 5) dX0_tellClique_5 (Nat.le_of_ble_eq_true rfl) (loc' := [(4, .int 0), (3, .int 0), (2, .int 0), (0, .ref (gad Γ 58)), (1, .int v1)]) rfl ?_
  refine j_sub [3, 4, 2, 1, 0] (loc' := [(0, .ref (gad Γ 58)), (1, .int v1), (2, .int 0), (3, .int 0), (4, .int 0)]) rfl ?_
  exact wX0_tellClique_7 hC hR hm F v1 F κ 0 0 0
theorem ctX0_tellClique {Δ : DCtx} {l : Launch} (hl : dlay Δ = layX) (hN : dN Δ = 147) (F : Nat) (κ : Mem) (v1 : Int32) : ∀ r, pX0_tellClique F κ v1 = some r → CT Δ l yX0_tellClique cX0_tellClique 5 (some .int) (rmH 4) [.ref (dad Δ 58), .int v1] κ (some (.int r.1)) r.2 :=
  ct_of (nL := 5) (ret := (some .int)) (lay := layX) (N := 147) (by decide +kernel) (fun Δ => [.ref (dad Δ 58), .int v1]) (fun _ => oE) (fun _ => (Nat.le_of_ble_eq_true rfl)) (fun Γ hR hm hC => wX0_tellClique hC hR hm F κ v1) Δ l hl hN
set_option maxRecDepth 20000 in
theorem wX0_swapSeen_133 {Γ : JCtx} (hC : jC Γ cX0_swapSeen 10 RX0 (some .int) layX 147) (hR : gR Γ = rmH 2) (hm : gcells Γ ≤ (gR Γ).cells ∧ gslots Γ ≤ (gR Γ).slots) (F : Nat) (κ : Mem) (v1 : Int32) (v2 : Int32) (v3 : Int32) (v5 : Int32) (v6 : Int32) (v7 : Int32) (v8 : Int32) (k32 : Mem → Int32 → Int32 → Option (Int32 × Mem)) (hk32 : ∀ (κ : Mem) (v6 : Int32) (v8 : Int32), JP Γ (qf Γ oE) (k32 κ v6 v8) κ 32 [(0, .ref (gad Γ 58)), (1, .int v1), (2, .int v2), (3, .int v3), (5, .int v5), (6, .int v6), (7, .int v7), (8, .int v8)] []) : JP Γ (qf Γ oE) (pX0_swapSeen_133 F k32 κ v1 v2 v3 v5 v6 v7 v8) κ 133 [(0, .ref (gad Γ 58)), (1, .int v1), (2, .int v2), (3, .int v3), (5, .int v5), (6, .int v6), (7, .int v7), (8, .int v8)] [] := by
  unfold pX0_swapSeen_133
  refine j_iinc hC (pc := 133) dX0_swapSeen_133 7 rfl ki_1 (Nat.le_of_ble_eq_true rfl) (loc' := [(8, .int (v8 + 1)), (0, .ref (gad Γ 58)), (1, .int v1), (2, .int v2), (3, .int v3), (5, .int v5), (6, .int v6), (7, .int v7)]) rfl ?_
  refine j_goto hC (pc := 136) dX0_swapSeen_136 (tgt := 32) rfl ?_
  refine j_sub [1, 2, 3, 4, 5, 6, 7, 0] (loc' := [(0, .ref (gad Γ 58)), (1, .int v1), (2, .int v2), (3, .int v3), (5, .int v5), (6, .int v6), (7, .int v7), (8, .int (v8 + 1))]) rfl ?_
  exact hk32 κ v6 (v8 + 1)
set_option maxRecDepth 20000 in
theorem wX0_swapSeen_32 {Γ : JCtx} (hC : jC Γ cX0_swapSeen 10 RX0 (some .int) layX 147) (hR : gR Γ = rmH 2) (hm : gcells Γ ≤ (gR Γ).cells ∧ gslots Γ ≤ (gR Γ).slots) (F : Nat) (v1 : Int32) (v2 : Int32) (v3 : Int32) (v5 : Int32) (v7 : Int32) : ∀ (n : Nat) (κ : Mem) (v6 : Int32) (v8 : Int32), JP Γ (qf Γ oE) (pX0_swapSeen_32 F v1 v2 v3 v5 v7 n κ v6 v8) κ 32 [(0, .ref (gad Γ 58)), (1, .int v1), (2, .int v2), (3, .int v3), (5, .int v5), (6, .int v6), (7, .int v7), (8, .int v8)] [] := by
  intro n
  induction n with
  | zero =>
    intro κ v6 v8
    rw [pX0_swapSeen_32]
    exact j_none
  | succ fu ih =>
    intro κ v6 v8
    rw [pX0_swapSeen_32]
    refine j_iload hC (pc := 32) dX0_swapSeen_32 7 rfl ?_
    refine j_iload hC (pc := 34) dX0_swapSeen_34 6 rfl ?_
    refine j_icmp_ge hC (pc := 36) dX0_swapSeen_36 (tgt := 139) rfl ?_ ?_
    · refine j_aload_n hC (pc := 39) dX0_swapSeen_39 0 rfl rfl ?_
      refine j_getR hC (pc := 40) dX0_swapSeen_40 kf_RX0_7 lX_58 (Nat.le_of_ble_eq_true rfl) rfl ?_
      refine j_iload_n hC (pc := 43) dX0_swapSeen_43 1 rfl rfl ?_
      refine j_iload hC (pc := 44) dX0_swapSeen_44 7 rfl ?_
      refine j_iload_n hC (pc := 46) dX0_swapSeen_46 2 rfl rfl ?_
      refine j_callV_I hC hR (ctX2_colourIn hC.l hC.cn 1 isG_1 F κ v1 v8 v2) kc_RX0_47 (Nat.le_of_ble_eq_true rfl) (Nat.le_of_ble_eq_true rfl) lX_1 (Nat.le_of_ble_eq_true rfl) rfl (As := [.int v1, .int v8, .int v2]) (rest := []) rfl rfl (Nat.le_of_ble_eq_true rfl) hm (pc := 47) dX0_swapSeen_47 (fun t4 => ?_)
      refine j_iload_n hC (pc := 50) dX0_swapSeen_50 3 rfl rfl ?_
      refine j_icmp_ne hC (pc := 51) dX0_swapSeen_51 (tgt := 133) rfl ?_ ?_
      · refine j_aload_n hC (pc := 54) dX0_swapSeen_54 0 rfl rfl ?_
        refine j_getR hC (pc := 55) dX0_swapSeen_55 kf_RX0_7 lX_58 (Nat.le_of_ble_eq_true rfl) rfl ?_
        refine j_iload_n hC (pc := 58) dX0_swapSeen_58 1 rfl rfl ?_
        refine j_iload hC (pc := 59) dX0_swapSeen_59 7 rfl ?_
        refine j_callV_I hC hR (ctX2_told hC.l hC.cn 1 isG_1 κ v1 v8) kc_RX0_40 (Nat.le_of_ble_eq_true rfl) (Nat.le_of_ble_eq_true rfl) lX_1 (Nat.le_of_ble_eq_true rfl) rfl (As := [.int v1, .int v8]) (rest := []) rfl rfl (Nat.le_of_ble_eq_true rfl) hm (pc := 61) dX0_swapSeen_61 (fun t5 => ?_)
        refine j_aload_n hC (pc := 64) dX0_swapSeen_64 0 rfl rfl ?_
        refine j_getR hC (pc := 65) dX0_swapSeen_65 kf_RX0_7 lX_58 (Nat.le_of_ble_eq_true rfl) rfl ?_
        refine j_iload_n hC (pc := 68) dX0_swapSeen_68 1 rfl rfl ?_
        refine j_iload hC (pc := 69) dX0_swapSeen_69 7 rfl ?_
        refine j_iload hC (pc := 71) dX0_swapSeen_71 4 rfl ?_
        refine j_iadd hC (pc := 73) dX0_swapSeen_73 ?_
        refine j_callV_I hC hR (ctX2_told hC.l hC.cn 1 isG_1 κ v1 (v8 + v5)) kc_RX0_40 (Nat.le_of_ble_eq_true rfl) (Nat.le_of_ble_eq_true rfl) lX_1 (Nat.le_of_ble_eq_true rfl) rfl (As := [.int v1, .int (v8 + v5)]) (rest := [.int t5]) rfl rfl (Nat.le_of_ble_eq_true rfl) hm (pc := 74) dX0_swapSeen_74 (fun t6 => ?_)
        refine j_icmp_eq hC (pc := 77) dX0_swapSeen_77 (tgt := 133) rfl ?_ ?_
        · exact wX0_swapSeen_133 hC hR hm F κ v1 v2 v3 v5 v6 v7 v8 (pX0_swapSeen_32 F v1 v2 v3 v5 v7 fu) ih
        · refine j_aload_n hC (pc := 80) dX0_swapSeen_80 0 rfl rfl ?_
          refine j_getR hC (pc := 81) dX0_swapSeen_81 kf_RX0_7 lX_58 (Nat.le_of_ble_eq_true rfl) rfl ?_
          refine j_iload_n hC (pc := 84) dX0_swapSeen_84 1 rfl rfl ?_
          refine j_iload hC (pc := 85) dX0_swapSeen_85 7 rfl ?_
          refine j_callV_I hC hR (ctX2_told hC.l hC.cn 1 isG_1 κ v1 v8) kc_RX0_40 (Nat.le_of_ble_eq_true rfl) (Nat.le_of_ble_eq_true rfl) lX_1 (Nat.le_of_ble_eq_true rfl) rfl (As := [.int v1, .int v8]) (rest := []) rfl rfl (Nat.le_of_ble_eq_true rfl) hm (pc := 87) dX0_swapSeen_87 (fun t7 => ?_)
          refine j_istore hC (pc := 90) dX0_swapSeen_90 (Nat.le_of_ble_eq_true rfl) (loc' := [(9, .int t7), (0, .ref (gad Γ 58)), (1, .int v1), (2, .int v2), (3, .int v3), (5, .int v5), (6, .int v6), (7, .int v7), (8, .int v8)]) rfl ?_
          refine j_aload_n hC (pc := 92) dX0_swapSeen_92 1 rfl rfl ?_
          refine j_getR hC (pc := 93) dX0_swapSeen_93 kf_RX0_7 lX_58 (Nat.le_of_ble_eq_true rfl) rfl ?_
          refine j_iload_n hC (pc := 96) dX0_swapSeen_96 2 rfl rfl ?_
          refine j_iload hC (pc := 97) dX0_swapSeen_97 8 rfl ?_
          refine j_aload_n hC (pc := 99) dX0_swapSeen_99 1 rfl rfl ?_
          refine j_getR hC (pc := 100) dX0_swapSeen_100 kf_RX0_7 lX_58 (Nat.le_of_ble_eq_true rfl) rfl ?_
          refine j_iload_n hC (pc := 103) dX0_swapSeen_103 2 rfl rfl ?_
          refine j_iload hC (pc := 104) dX0_swapSeen_104 8 rfl ?_
          refine j_iload hC (pc := 106) dX0_swapSeen_106 5 rfl ?_
          refine j_iadd hC (pc := 108) dX0_swapSeen_108 ?_
          refine j_callV_I hC hR (ctX2_told hC.l hC.cn 1 isG_1 κ v1 (v8 + v5)) kc_RX0_40 (Nat.le_of_ble_eq_true rfl) (Nat.le_of_ble_eq_true rfl) lX_1 (Nat.le_of_ble_eq_true rfl) rfl (As := [.int v1, .int (v8 + v5)]) (rest := [.int v8, .int v1, .ref (gad Γ 1)]) rfl rfl (Nat.le_of_ble_eq_true rfl) hm (pc := 109) dX0_swapSeen_109 (fun t8 => ?_)
          refine j_callV_V hC hR (ctX2_tell hC.l hC.cn 1 isG_1 κ v1 v8 t8) kc_RX0_43 (Nat.le_of_ble_eq_true rfl) (Nat.le_of_ble_eq_true rfl) lX_1 (Nat.le_of_ble_eq_true rfl) rfl (As := [.int v1, .int v8, .int t8]) (rest := []) rfl rfl (Nat.le_of_ble_eq_true rfl) hm (pc := 112) dX0_swapSeen_112 (fun t9 => ?_)
          refine j_aload_n hC (pc := 115) dX0_swapSeen_115 1 rfl rfl ?_
          refine j_getR hC (pc := 116) dX0_swapSeen_116 kf_RX0_7 lX_58 (Nat.le_of_ble_eq_true rfl) rfl ?_
          refine j_iload_n hC (pc := 119) dX0_swapSeen_119 2 rfl rfl ?_
          refine j_iload hC (pc := 120) dX0_swapSeen_120 8 rfl ?_
          refine j_iload hC (pc := 122) dX0_swapSeen_122 5 rfl ?_
          refine j_iadd hC (pc := 124) dX0_swapSeen_124 ?_
          refine j_iload hC (pc := 125) dX0_swapSeen_125 0 rfl ?_
          refine j_callV_V hC hR (ctX2_tell hC.l hC.cn 1 isG_1 t9 v1 (v8 + v5) t7) kc_RX0_43 (Nat.le_of_ble_eq_true rfl) (Nat.le_of_ble_eq_true rfl) lX_1 (Nat.le_of_ble_eq_true rfl) rfl (As := [.int v1, .int (v8 + v5), .int t7]) (rest := []) rfl rfl (Nat.le_of_ble_eq_true rfl) hm (pc := 127) dX0_swapSeen_127 (fun t10 => ?_)
          refine j_iinc hC (pc := 130) dX0_swapSeen_130 6 rfl ki_2 (Nat.le_of_ble_eq_true rfl) (loc' := [(6, .int (v6 + 2)), (9, .int t7), (0, .ref (gad Γ 58)), (1, .int v1), (2, .int v2), (3, .int v3), (5, .int v5), (7, .int v7), (8, .int v8)]) rfl ?_
          refine j_sub [2, 3, 4, 5, 6, 0, 7, 8] (loc' := [(0, .ref (gad Γ 58)), (1, .int v1), (2, .int v2), (3, .int v3), (5, .int v5), (6, .int (v6 + 2)), (7, .int v7), (8, .int v8)]) rfl ?_
          exact wX0_swapSeen_133 hC hR hm F t10 v1 v2 v3 v5 (v6 + 2) v7 v8 (pX0_swapSeen_32 F v1 v2 v3 v5 v7 fu) ih
      · exact wX0_swapSeen_133 hC hR hm F κ v1 v2 v3 v5 v6 v7 v8 (pX0_swapSeen_32 F v1 v2 v3 v5 v7 fu) ih
    · refine j_iload hC (pc := 139) dX0_swapSeen_139 5 rfl ?_
      exact j_iret hC (pc := 141) dX0_swapSeen_141 rfl rfl rfl
set_option maxRecDepth 20000 in
theorem wX0_swapSeen {Γ : JCtx} (hC : jC Γ cX0_swapSeen 10 RX0 (some .int) layX 147) (hR : gR Γ = rmH 2) (hm : gcells Γ ≤ (gR Γ).cells ∧ gslots Γ ≤ (gR Γ).slots) (F : Nat) (κ : Mem) (v1 : Int32) (v2 : Int32) (v3 : Int32) (v4 : Int32) : JP Γ (qf Γ oE) (pX0_swapSeen F κ v1 v2 v3 v4) κ 0 [(0, .ref (gad Γ 58)), (1, .int v1), (2, .int v2), (3, .int v3), (4, .int v4)] [] := by
  unfold pX0_swapSeen
  refine j_iload hC (pc := 0) dX0_swapSeen_0 4 rfl ?_
  refine j_iload_n hC (pc := 2) dX0_swapSeen_2 3 rfl rfl ?_
  refine j_isub hC (pc := 3) dX0_swapSeen_3 ?_
  refine j_aload_n hC (pc := 4) dX0_swapSeen_4 0 rfl rfl ?_
  refine j_getR hC (pc := 5) dX0_swapSeen_5 kf_RX0_7 lX_58 (Nat.le_of_ble_eq_true rfl) rfl ?_
  refine j_iload_n hC (pc := 8) dX0_swapSeen_8 1 rfl rfl ?_
  refine j_iload_n hC (pc := 9) dX0_swapSeen_9 2 rfl rfl ?_
  refine j_callV_I hC hR (ctX2_weight hC.l hC.cn 1 isG_1 F κ v1 v2) kc_RX0_58 (Nat.le_of_ble_eq_true rfl) (Nat.le_of_ble_eq_true rfl) lX_1 (Nat.le_of_ble_eq_true rfl) rfl (As := [.int v1, .int v2]) (rest := [.int (v4 - v3)]) rfl rfl (Nat.le_of_ble_eq_true rfl) hm (pc := 10) dX0_swapSeen_10 (fun t1 => ?_)
  refine j_imul hC (pc := 13) dX0_swapSeen_13 ?_
  refine j_nmi (fun x2 => ?_)
  refine j_istore hC (pc := 14) dX0_swapSeen_14 (Nat.le_of_ble_eq_true rfl) (loc' := [(5, .int x2), (0, .ref (gad Γ 58)), (1, .int v1), (2, .int v2), (3, .int v3), (4, .int v4)]) rfl ?_
  refine j_iconst hC (pc := 16) dX0_swapSeen_16 ki_0 ?_
  refine j_istore hC (pc := 17) dX0_swapSeen_17 (Nat.le_of_ble_eq_true rfl) (loc' := [(6, .int 0), (5, .int x2), (0, .ref (gad Γ 58)), (1, .int v1), (2, .int v2), (3, .int v3), (4, .int v4)]) rfl ?_
  refine j_aload_n hC (pc := 19) dX0_swapSeen_19 2 rfl rfl ?_
  refine j_getR hC (pc := 20) dX0_swapSeen_20 kf_RX0_7 lX_58 (Nat.le_of_ble_eq_true rfl) rfl ?_
  refine j_iload_n hC (pc := 23) dX0_swapSeen_23 3 rfl rfl ?_
  refine j_callV_I hC hR (ctX2_situations hC.l hC.cn 1 isG_1 F κ v1) kc_RX0_27 (Nat.le_of_ble_eq_true rfl) (Nat.le_of_ble_eq_true rfl) lX_1 (Nat.le_of_ble_eq_true rfl) rfl (As := [.int v1]) (rest := []) rfl rfl (Nat.le_of_ble_eq_true rfl) hm (pc := 24) dX0_swapSeen_24 (fun t3 => ?_)
  refine j_istore hC (pc := 27) dX0_swapSeen_27 (Nat.le_of_ble_eq_true rfl) (loc' := [(7, .int t3), (6, .int 0), (5, .int x2), (0, .ref (gad Γ 58)), (1, .int v1), (2, .int v2), (3, .int v3), (4, .int v4)]) rfl ?_
  refine j_iconst hC (pc := 29) dX0_swapSeen_29 ki_0 ?_
  refine j_istore hC (pc := 30) dX0_swapSeen_30 (Nat.le_of_ble_eq_true rfl) (loc' := [(8, .int 0), (7, .int t3), (6, .int 0), (5, .int x2), (0, .ref (gad Γ 58)), (1, .int v1), (2, .int v2), (3, .int v3), (4, .int v4)]) rfl ?_
  refine j_sub [4, 5, 6, 7, 3, 2, 1, 0] (loc' := [(0, .ref (gad Γ 58)), (1, .int v1), (2, .int v2), (3, .int v3), (5, .int x2), (6, .int 0), (7, .int t3), (8, .int 0)]) rfl ?_
  exact wX0_swapSeen_32 hC hR hm F v1 v2 v3 x2 t3 F κ 0 0
theorem ctX0_swapSeen {Δ : DCtx} {l : Launch} (hl : dlay Δ = layX) (hN : dN Δ = 147) (F : Nat) (κ : Mem) (v1 : Int32) (v2 : Int32) (v3 : Int32) (v4 : Int32) : ∀ r, pX0_swapSeen F κ v1 v2 v3 v4 = some r → CT Δ l yX0_swapSeen cX0_swapSeen 10 (some .int) (rmH 2) [.ref (dad Δ 58), .int v1, .int v2, .int v3, .int v4] κ (some (.int r.1)) r.2 :=
  ct_of (nL := 10) (ret := (some .int)) (lay := layX) (N := 147) (by decide +kernel) (fun Δ => [.ref (dad Δ 58), .int v1, .int v2, .int v3, .int v4]) (fun _ => oE) (fun _ => (Nat.le_of_ble_eq_true rfl)) (fun Γ hR hm hC => wX0_swapSeen hC hR hm F κ v1 v2 v3 v4) Δ l hl hN
set_option maxRecDepth 20000 in
theorem wX0_swapNames_71 {Γ : JCtx} (hC : jC Γ cX0_swapNames 8 RX0 (some .int) layX 147) (hR : gR Γ = rmH 3) (hm : gcells Γ ≤ (gR Γ).cells ∧ gslots Γ ≤ (gR Γ).slots) (F : Nat) (κ : Mem) (v1 : Int32) (v2 : Int32) (v3 : Int32) (v4 : Int32) (v5 : Int32) (v6 : Int32) (k16 : Mem → Int32 → Int32 → Option (Int32 × Mem)) (hk16 : ∀ (κ : Mem) (v4 : Int32) (v6 : Int32), JP Γ (qf Γ oE) (k16 κ v4 v6) κ 16 [(0, .ref (gad Γ 58)), (1, .int v1), (2, .int v2), (3, .int v3), (4, .int v4), (5, .int v5), (6, .int v6)] []) : JP Γ (qf Γ oE) (pX0_swapNames_71 F k16 κ v1 v2 v3 v4 v5 v6) κ 71 [(0, .ref (gad Γ 58)), (1, .int v1), (2, .int v2), (3, .int v3), (4, .int v4), (5, .int v5), (6, .int v6)] [] := by
  unfold pX0_swapNames_71
  refine j_iinc hC (pc := 71) dX0_swapNames_71 6 rfl ki_1 (Nat.le_of_ble_eq_true rfl) (loc' := [(6, .int (v6 + 1)), (0, .ref (gad Γ 58)), (1, .int v1), (2, .int v2), (3, .int v3), (4, .int v4), (5, .int v5)]) rfl ?_
  refine j_goto hC (pc := 74) dX0_swapNames_74 (tgt := 16) rfl ?_
  refine j_sub [1, 2, 3, 4, 5, 6, 0] (loc' := [(0, .ref (gad Γ 58)), (1, .int v1), (2, .int v2), (3, .int v3), (4, .int v4), (5, .int v5), (6, .int (v6 + 1))]) rfl ?_
  exact hk16 κ v4 (v6 + 1)
set_option maxRecDepth 20000 in
theorem wX0_swapNames_65 {Γ : JCtx} (hC : jC Γ cX0_swapNames 8 RX0 (some .int) layX 147) (hR : gR Γ = rmH 3) (hm : gcells Γ ≤ (gR Γ).cells ∧ gslots Γ ≤ (gR Γ).slots) (F : Nat) (κ : Mem) (v1 : Int32) (v2 : Int32) (v3 : Int32) (v4 : Int32) (v5 : Int32) (v6 : Int32) (y0 : Int32) (y1 : Int32) (y2 : Int32) (k16 : Mem → Int32 → Int32 → Option (Int32 × Mem)) (hk16 : ∀ (κ : Mem) (v4 : Int32) (v6 : Int32), JP Γ (qf Γ oE) (k16 κ v4 v6) κ 16 [(0, .ref (gad Γ 58)), (1, .int v1), (2, .int v2), (3, .int v3), (4, .int v4), (5, .int v5), (6, .int v6)] []) : JP Γ (qf Γ oE) (pX0_swapNames_65 F k16 κ v1 v2 v3 v4 v5 v6 y0 y1 y2) κ 65 [(0, .ref (gad Γ 58)), (1, .int v1), (2, .int v2), (3, .int v3), (4, .int v4), (5, .int v5), (6, .int v6)] [.int y0, .int y1, .int y2, .ref (gad Γ 1)] := by
  unfold pX0_swapNames_65
  refine j_callV_V hC hR (ctX2_tell hC.l hC.cn 1 isG_1 κ y2 y1 y0) kc_RX0_43 (Nat.le_of_ble_eq_true rfl) (Nat.le_of_ble_eq_true rfl) lX_1 (Nat.le_of_ble_eq_true rfl) rfl (As := [.int y2, .int y1, .int y0]) (rest := []) rfl rfl (Nat.le_of_ble_eq_true rfl) hm (pc := 65) dX0_swapNames_65 (fun t3 => ?_)
  refine j_iinc hC (pc := 68) dX0_swapNames_68 4 rfl ki_1 (Nat.le_of_ble_eq_true rfl) (loc' := [(4, .int (v4 + 1)), (0, .ref (gad Γ 58)), (1, .int v1), (2, .int v2), (3, .int v3), (5, .int v5), (6, .int v6)]) rfl ?_
  refine j_sub [1, 2, 3, 4, 0, 5, 6] (loc' := [(0, .ref (gad Γ 58)), (1, .int v1), (2, .int v2), (3, .int v3), (4, .int (v4 + 1)), (5, .int v5), (6, .int v6)]) rfl ?_
  exact wX0_swapNames_71 hC hR hm F t3 v1 v2 v3 (v4 + 1) v5 v6 k16 hk16
set_option maxRecDepth 20000 in
theorem wX0_swapNames_47 {Γ : JCtx} (hC : jC Γ cX0_swapNames 8 RX0 (some .int) layX 147) (hR : gR Γ = rmH 3) (hm : gcells Γ ≤ (gR Γ).cells ∧ gslots Γ ≤ (gR Γ).slots) (F : Nat) (κ : Mem) (v1 : Int32) (v2 : Int32) (v3 : Int32) (v4 : Int32) (v5 : Int32) (v6 : Int32) (v7 : Int32) (k16 : Mem → Int32 → Int32 → Option (Int32 × Mem)) (hk16 : ∀ (κ : Mem) (v4 : Int32) (v6 : Int32), JP Γ (qf Γ oE) (k16 κ v4 v6) κ 16 [(0, .ref (gad Γ 58)), (1, .int v1), (2, .int v2), (3, .int v3), (4, .int v4), (5, .int v5), (6, .int v6)] []) : JP Γ (qf Γ oE) (pX0_swapNames_47 F k16 κ v1 v2 v3 v4 v5 v6 v7) κ 47 [(0, .ref (gad Γ 58)), (1, .int v1), (2, .int v2), (3, .int v3), (4, .int v4), (5, .int v5), (6, .int v6), (7, .int v7)] [] := by
  unfold pX0_swapNames_47
  refine j_aload_n hC (pc := 47) dX0_swapNames_47 0 rfl rfl ?_
  refine j_getR hC (pc := 48) dX0_swapNames_48 kf_RX0_7 lX_58 (Nat.le_of_ble_eq_true rfl) rfl ?_
  refine j_iload_n hC (pc := 51) dX0_swapNames_51 1 rfl rfl ?_
  refine j_iload hC (pc := 52) dX0_swapNames_52 6 rfl ?_
  refine j_iload hC (pc := 54) dX0_swapNames_54 7 rfl ?_
  refine j_iload_n hC (pc := 56) dX0_swapNames_56 2 rfl rfl ?_
  refine j_icmp_ne hC (pc := 57) dX0_swapNames_57 (tgt := 64) rfl ?_ ?_
  · refine j_iload_n hC (pc := 60) dX0_swapNames_60 3 rfl rfl ?_
    refine j_goto hC (pc := 61) dX0_swapNames_61 (tgt := 65) rfl ?_
    refine j_sub [0, 1, 2, 3, 4, 5, 6] (loc' := [(0, .ref (gad Γ 58)), (1, .int v1), (2, .int v2), (3, .int v3), (4, .int v4), (5, .int v5), (6, .int v6)]) rfl ?_
    exact wX0_swapNames_65 hC hR hm F κ v1 v2 v3 v4 v5 v6 v3 v6 v1 k16 hk16
  · refine j_iload_n hC (pc := 64) dX0_swapNames_64 2 rfl rfl ?_
    refine j_sub [0, 1, 2, 3, 4, 5, 6] (loc' := [(0, .ref (gad Γ 58)), (1, .int v1), (2, .int v2), (3, .int v3), (4, .int v4), (5, .int v5), (6, .int v6)]) rfl ?_
    exact wX0_swapNames_65 hC hR hm F κ v1 v2 v3 v4 v5 v6 v2 v6 v1 k16 hk16
set_option maxRecDepth 20000 in
theorem wX0_swapNames_119 {Γ : JCtx} (hC : jC Γ cX0_swapNames 8 RX0 (some .int) layX 147) (hR : gR Γ = rmH 3) (hm : gcells Γ ≤ (gR Γ).cells ∧ gslots Γ ≤ (gR Γ).slots) (F : Nat) (κ : Mem) (v1 : Int32) (v2 : Int32) (v3 : Int32) (v4 : Int32) (v6 : Int32) (k80 : Mem → Int32 → Int32 → Option (Int32 × Mem)) (hk80 : ∀ (κ : Mem) (v4 : Int32) (v6 : Int32), JP Γ (qf Γ oE) (k80 κ v4 v6) κ 80 [(0, .ref (gad Γ 58)), (1, .int v1), (2, .int v2), (3, .int v3), (4, .int v4), (6, .int v6)] []) : JP Γ (qf Γ oE) (pX0_swapNames_119 F k80 κ v1 v2 v3 v4 v6) κ 119 [(0, .ref (gad Γ 58)), (1, .int v1), (2, .int v2), (3, .int v3), (4, .int v4), (6, .int v6)] [] := by
  unfold pX0_swapNames_119
  refine j_iinc hC (pc := 119) dX0_swapNames_119 5 rfl ki_1 (Nat.le_of_ble_eq_true rfl) (loc' := [(6, .int (v6 + 1)), (0, .ref (gad Γ 58)), (1, .int v1), (2, .int v2), (3, .int v3), (4, .int v4)]) rfl ?_
  refine j_goto hC (pc := 122) dX0_swapNames_122 (tgt := 80) rfl ?_
  refine j_sub [1, 2, 3, 4, 5, 0] (loc' := [(0, .ref (gad Γ 58)), (1, .int v1), (2, .int v2), (3, .int v3), (4, .int v4), (6, .int (v6 + 1))]) rfl ?_
  exact hk80 κ v4 (v6 + 1)
set_option maxRecDepth 20000 in
theorem wX0_swapNames_80 {Γ : JCtx} (hC : jC Γ cX0_swapNames 8 RX0 (some .int) layX 147) (hR : gR Γ = rmH 3) (hm : gcells Γ ≤ (gR Γ).cells ∧ gslots Γ ≤ (gR Γ).slots) (F : Nat) (v1 : Int32) (v2 : Int32) (v3 : Int32) : ∀ (n : Nat) (κ : Mem) (v4 : Int32) (v6 : Int32), JP Γ (qf Γ oE) (pX0_swapNames_80 F v1 v2 v3 n κ v4 v6) κ 80 [(0, .ref (gad Γ 58)), (1, .int v1), (2, .int v2), (3, .int v3), (4, .int v4), (6, .int v6)] [] := by
  intro n
  induction n with
  | zero =>
    intro κ v4 v6
    rw [pX0_swapNames_80]
    exact j_none
  | succ fu ih =>
    intro κ v4 v6
    rw [pX0_swapNames_80]
    refine j_iload hC (pc := 80) dX0_swapNames_80 5 rfl ?_
    refine j_aload_n hC (pc := 82) dX0_swapNames_82 0 rfl rfl ?_
    refine j_getR hC (pc := 83) dX0_swapNames_83 kf_RX0_7 lX_58 (Nat.le_of_ble_eq_true rfl) rfl ?_
    refine j_getI hC (pc := 86) dX0_swapNames_86 kf_RX0_13 lX_1 (Nat.le_of_ble_eq_true rfl) rfl ?_
    refine j_icmp_ge hC (pc := 89) dX0_swapNames_89 (tgt := 125) rfl ?_ ?_
    · refine j_aload_n hC (pc := 92) dX0_swapNames_92 0 rfl rfl ?_
      refine j_getR hC (pc := 93) dX0_swapNames_93 kf_RX0_7 lX_58 (Nat.le_of_ble_eq_true rfl) rfl ?_
      refine j_iload hC (pc := 96) dX0_swapNames_96 5 rfl ?_
      refine j_iload_n hC (pc := 98) dX0_swapNames_98 1 rfl rfl ?_
      refine j_callV_I hC hR (ctX2_watches hC.l hC.cn 1 isG_1 κ v6 v1) kc_RX0_50 (Nat.le_of_ble_eq_true rfl) (Nat.le_of_ble_eq_true rfl) lX_1 (Nat.le_of_ble_eq_true rfl) rfl (As := [.int v6, .int v1]) (rest := []) rfl rfl (Nat.le_of_ble_eq_true rfl) hm (pc := 99) dX0_swapNames_99 (fun t4 => ?_)
      refine j_if_eq hC (pc := 102) dX0_swapNames_102 (tgt := 119) rfl ?_ ?_
      · exact wX0_swapNames_119 hC hR hm F κ v1 v2 v3 v4 v6 (pX0_swapNames_80 F v1 v2 v3 fu) ih
      · refine j_iload hC (pc := 105) dX0_swapNames_105 4 rfl ?_
        refine j_aload_n hC (pc := 107) dX0_swapNames_107 0 rfl rfl ?_
        refine j_iload hC (pc := 108) dX0_swapNames_108 5 rfl ?_
        refine j_iload_n hC (pc := 110) dX0_swapNames_110 1 rfl rfl ?_
        refine j_iload_n hC (pc := 111) dX0_swapNames_111 2 rfl rfl ?_
        refine j_iload_n hC (pc := 112) dX0_swapNames_112 3 rfl rfl ?_
        refine j_callV_E hC hR (ctX0_swapSeen hC.l hC.cn F κ v6 v1 v2 v3) kc_RX0_54 (Nat.le_of_ble_eq_true rfl) (Nat.le_of_ble_eq_true rfl) lX_58 (Nat.le_of_ble_eq_true rfl) rfl (As := [.int v6, .int v1, .int v2, .int v3]) (rest := [.int v4]) rfl rfl (Nat.le_of_ble_eq_true rfl) hm (pc := 113) dX0_swapNames_113 (fun t5 => ?_)
        refine j_iadd hC (pc := 116) dX0_swapNames_116 ?_
        refine j_nmi (fun x6 => ?_)
        refine j_istore hC (pc := 117) dX0_swapNames_117 (Nat.le_of_ble_eq_true rfl) (loc' := [(4, .int x6), (0, .ref (gad Γ 58)), (1, .int v1), (2, .int v2), (3, .int v3), (6, .int v6)]) rfl ?_
        refine j_sub [1, 2, 3, 4, 0, 5] (loc' := [(0, .ref (gad Γ 58)), (1, .int v1), (2, .int v2), (3, .int v3), (4, .int x6), (6, .int v6)]) rfl ?_
        exact wX0_swapNames_119 hC hR hm F t5.2 v1 v2 v3 x6 v6 (pX0_swapNames_80 F v1 v2 v3 fu) ih
    · refine j_iload hC (pc := 125) dX0_swapNames_125 4 rfl ?_
      exact j_iret hC (pc := 127) dX0_swapNames_127 rfl rfl rfl
set_option maxRecDepth 20000 in
theorem wX0_swapNames_16 {Γ : JCtx} (hC : jC Γ cX0_swapNames 8 RX0 (some .int) layX 147) (hR : gR Γ = rmH 3) (hm : gcells Γ ≤ (gR Γ).cells ∧ gslots Γ ≤ (gR Γ).slots) (F : Nat) (v1 : Int32) (v2 : Int32) (v3 : Int32) (v5 : Int32) : ∀ (n : Nat) (κ : Mem) (v4 : Int32) (v6 : Int32), JP Γ (qf Γ oE) (pX0_swapNames_16 F v1 v2 v3 v5 n κ v4 v6) κ 16 [(0, .ref (gad Γ 58)), (1, .int v1), (2, .int v2), (3, .int v3), (4, .int v4), (5, .int v5), (6, .int v6)] [] := by
  intro n
  induction n with
  | zero =>
    intro κ v4 v6
    rw [pX0_swapNames_16]
    exact j_none
  | succ fu ih =>
    intro κ v4 v6
    rw [pX0_swapNames_16]
    refine j_iload hC (pc := 16) dX0_swapNames_16 6 rfl ?_
    refine j_iload hC (pc := 18) dX0_swapNames_18 5 rfl ?_
    refine j_icmp_ge hC (pc := 20) dX0_swapNames_20 (tgt := 77) rfl ?_ ?_
    · refine j_aload_n hC (pc := 23) dX0_swapNames_23 0 rfl rfl ?_
      refine j_getR hC (pc := 24) dX0_swapNames_24 kf_RX0_7 lX_58 (Nat.le_of_ble_eq_true rfl) rfl ?_
      refine j_iload_n hC (pc := 27) dX0_swapNames_27 1 rfl rfl ?_
      refine j_iload hC (pc := 28) dX0_swapNames_28 6 rfl ?_
      refine j_callV_I hC hR (ctX2_told hC.l hC.cn 1 isG_1 κ v1 v6) kc_RX0_40 (Nat.le_of_ble_eq_true rfl) (Nat.le_of_ble_eq_true rfl) lX_1 (Nat.le_of_ble_eq_true rfl) rfl (As := [.int v1, .int v6]) (rest := []) rfl rfl (Nat.le_of_ble_eq_true rfl) hm (pc := 30) dX0_swapNames_30 (fun t2 => ?_)
      refine j_istore hC (pc := 33) dX0_swapNames_33 (Nat.le_of_ble_eq_true rfl) (loc' := [(7, .int t2), (0, .ref (gad Γ 58)), (1, .int v1), (2, .int v2), (3, .int v3), (4, .int v4), (5, .int v5), (6, .int v6)]) rfl ?_
      refine j_iload hC (pc := 35) dX0_swapNames_35 0 rfl ?_
      refine j_iload_n hC (pc := 37) dX0_swapNames_37 3 rfl rfl ?_
      refine j_icmp_eq hC (pc := 38) dX0_swapNames_38 (tgt := 47) rfl ?_ ?_
      · refine j_sub [1, 2, 3, 4, 5, 6, 7, 0] (loc' := [(0, .ref (gad Γ 58)), (1, .int v1), (2, .int v2), (3, .int v3), (4, .int v4), (5, .int v5), (6, .int v6), (7, .int t2)]) rfl ?_
        exact wX0_swapNames_47 hC hR hm F κ v1 v2 v3 v4 v5 v6 t2 (pX0_swapNames_16 F v1 v2 v3 v5 fu) ih
      · refine j_iload hC (pc := 41) dX0_swapNames_41 0 rfl ?_
        refine j_iload_n hC (pc := 43) dX0_swapNames_43 4 rfl rfl ?_
        refine j_icmp_ne hC (pc := 44) dX0_swapNames_44 (tgt := 71) rfl ?_ ?_
        · refine j_sub [1, 2, 3, 4, 5, 6, 7, 0] (loc' := [(0, .ref (gad Γ 58)), (1, .int v1), (2, .int v2), (3, .int v3), (4, .int v4), (5, .int v5), (6, .int v6), (7, .int t2)]) rfl ?_
          exact wX0_swapNames_47 hC hR hm F κ v1 v2 v3 v4 v5 v6 t2 (pX0_swapNames_16 F v1 v2 v3 v5 fu) ih
        · refine j_sub [1, 2, 3, 4, 5, 6, 7] (loc' := [(0, .ref (gad Γ 58)), (1, .int v1), (2, .int v2), (3, .int v3), (4, .int v4), (5, .int v5), (6, .int v6)]) rfl ?_
          exact wX0_swapNames_71 hC hR hm F κ v1 v2 v3 v4 v5 v6 (pX0_swapNames_16 F v1 v2 v3 v5 fu) ih
    · refine j_iconst hC (pc := 77) dX0_swapNames_77 ki_0 ?_
      refine j_istore hC (pc := 78) dX0_swapNames_78 (Nat.le_of_ble_eq_true rfl) (loc' := [(6, .int 0), (0, .ref (gad Γ 58)), (1, .int v1), (2, .int v2), (3, .int v3), (4, .int v4), (5, .int v5)]) rfl ?_
      refine j_sub [1, 2, 3, 4, 5, 0] (loc' := [(0, .ref (gad Γ 58)), (1, .int v1), (2, .int v2), (3, .int v3), (4, .int v4), (6, .int 0)]) rfl ?_
      exact wX0_swapNames_80 hC hR hm F v1 v2 v3 F κ v4 0
set_option maxRecDepth 20000 in
theorem wX0_swapNames {Γ : JCtx} (hC : jC Γ cX0_swapNames 8 RX0 (some .int) layX 147) (hR : gR Γ = rmH 3) (hm : gcells Γ ≤ (gR Γ).cells ∧ gslots Γ ≤ (gR Γ).slots) (F : Nat) (κ : Mem) (v1 : Int32) (v2 : Int32) (v3 : Int32) : JP Γ (qf Γ oE) (pX0_swapNames F κ v1 v2 v3) κ 0 [(0, .ref (gad Γ 58)), (1, .int v1), (2, .int v2), (3, .int v3)] [] := by
  unfold pX0_swapNames
  refine j_iconst hC (pc := 0) dX0_swapNames_0 ki_0 ?_
  refine j_istore hC (pc := 1) dX0_swapNames_1 (Nat.le_of_ble_eq_true rfl) (loc' := [(4, .int 0), (0, .ref (gad Γ 58)), (1, .int v1), (2, .int v2), (3, .int v3)]) rfl ?_
  refine j_aload_n hC (pc := 3) dX0_swapNames_3 1 rfl rfl ?_
  refine j_getR hC (pc := 4) dX0_swapNames_4 kf_RX0_7 lX_58 (Nat.le_of_ble_eq_true rfl) rfl ?_
  refine j_iload_n hC (pc := 7) dX0_swapNames_7 2 rfl rfl ?_
  refine j_callV_I hC hR (ctX2_situations hC.l hC.cn 1 isG_1 F κ v1) kc_RX0_27 (Nat.le_of_ble_eq_true rfl) (Nat.le_of_ble_eq_true rfl) lX_1 (Nat.le_of_ble_eq_true rfl) rfl (As := [.int v1]) (rest := []) rfl rfl (Nat.le_of_ble_eq_true rfl) hm (pc := 8) dX0_swapNames_8 (fun t1 => ?_)
  refine j_istore hC (pc := 11) dX0_swapNames_11 (Nat.le_of_ble_eq_true rfl) (loc' := [(5, .int t1), (4, .int 0), (0, .ref (gad Γ 58)), (1, .int v1), (2, .int v2), (3, .int v3)]) rfl ?_
  refine j_iconst hC (pc := 13) dX0_swapNames_13 ki_0 ?_
  refine j_istore hC (pc := 14) dX0_swapNames_14 (Nat.le_of_ble_eq_true rfl) (loc' := [(6, .int 0), (5, .int t1), (4, .int 0), (0, .ref (gad Γ 58)), (1, .int v1), (2, .int v2), (3, .int v3)]) rfl ?_
  refine j_sub [3, 4, 5, 6, 2, 1, 0] (loc' := [(0, .ref (gad Γ 58)), (1, .int v1), (2, .int v2), (3, .int v3), (4, .int 0), (5, .int t1), (6, .int 0)]) rfl ?_
  exact wX0_swapNames_16 hC hR hm F v1 v2 v3 t1 F κ 0 0
theorem ctX0_swapNames {Δ : DCtx} {l : Launch} (hl : dlay Δ = layX) (hN : dN Δ = 147) (F : Nat) (κ : Mem) (v1 : Int32) (v2 : Int32) (v3 : Int32) : ∀ r, pX0_swapNames F κ v1 v2 v3 = some r → CT Δ l yX0_swapNames cX0_swapNames 8 (some .int) (rmH 3) [.ref (dad Δ 58), .int v1, .int v2, .int v3] κ (some (.int r.1)) r.2 :=
  ct_of (nL := 8) (ret := (some .int)) (lay := layX) (N := 147) (by decide +kernel) (fun Δ => [.ref (dad Δ 58), .int v1, .int v2, .int v3]) (fun _ => oE) (fun _ => (Nat.le_of_ble_eq_true rfl)) (fun Γ hR hm hC => wX0_swapNames hC hR hm F κ v1 v2 v3) Δ l hl hN
set_option maxRecDepth 20000 in
theorem wX0_openEyes_50 {Γ : JCtx} (hC : jC Γ cX0_openEyes 6 RX0 none layX 147) (hR : gR Γ = rmH 2) (hm : gcells Γ ≤ (gR Γ).cells ∧ gslots Γ ≤ (gR Γ).slots) (F : Nat) (v1 : Int32) (v3 : Int32) (v4 : Int32) : ∀ (n : Nat) (κ : Mem) (v5 : Int32), JP Γ (qf Γ oV) (pX0_openEyes_50 F v1 v3 v4 n κ v5) κ 50 [(0, .ref (gad Γ 58)), (1, .int v1), (3, .int v3), (4, .int v4), (5, .int v5)] [] := by
  intro n
  induction n with
  | zero =>
    intro κ v5
    rw [pX0_openEyes_50]
    exact j_none
  | succ fu ih =>
    intro κ v5
    rw [pX0_openEyes_50]
    refine j_iload hC (pc := 50) dX0_openEyes_50 4 rfl ?_
    refine j_if_lt hC (pc := 52) dX0_openEyes_52 (tgt := 91) rfl ?_ ?_
    · exact j_vret hC (pc := 91) dX0_openEyes_91 rfl rfl
    · refine j_aload_n hC (pc := 55) dX0_openEyes_55 0 rfl rfl ?_
      refine j_getR hC (pc := 56) dX0_openEyes_56 kf_RX0_7 lX_58 (Nat.le_of_ble_eq_true rfl) rfl ?_
      refine j_iload_n hC (pc := 59) dX0_openEyes_59 1 rfl rfl ?_
      refine j_iload hC (pc := 60) dX0_openEyes_60 4 rfl ?_
      refine j_aload_n hC (pc := 62) dX0_openEyes_62 0 rfl rfl ?_
      refine j_getR hC (pc := 63) dX0_openEyes_63 kf_RX0_7 lX_58 (Nat.le_of_ble_eq_true rfl) rfl ?_
      refine j_iload_n hC (pc := 66) dX0_openEyes_66 1 rfl rfl ?_
      refine j_iload hC (pc := 67) dX0_openEyes_67 4 rfl ?_
      refine j_iload hC (pc := 69) dX0_openEyes_69 3 rfl ?_
      refine j_idiv hC (pc := 71) dX0_openEyes_71 ?_
      refine j_iload_n hC (pc := 72) dX0_openEyes_72 2 rfl rfl ?_
      refine j_imul hC (pc := 73) dX0_openEyes_73 ?_
      refine j_iload hC (pc := 74) dX0_openEyes_74 4 rfl ?_
      refine j_iload_n hC (pc := 76) dX0_openEyes_76 2 rfl rfl ?_
      refine j_irem hC (pc := 77) dX0_openEyes_77 ?_
      refine j_iadd hC (pc := 78) dX0_openEyes_78 ?_
      refine j_callV_I hC hR (ctX2_told hC.l hC.cn 1 isG_1 κ v1 (((v5 / v4) * v3) + (v5 - v5 / v3 * v3))) kc_RX0_40 (Nat.le_of_ble_eq_true rfl) (Nat.le_of_ble_eq_true rfl) lX_1 (Nat.le_of_ble_eq_true rfl) rfl (As := [.int v1, .int (((v5 / v4) * v3) + (v5 - v5 / v3 * v3))]) (rest := [.int v5, .int v1, .ref (gad Γ 1)]) rfl rfl (Nat.le_of_ble_eq_true rfl) hm (pc := 79) dX0_openEyes_79 (fun t6 => ?_)
      refine j_callV_V hC hR (ctX2_tell hC.l hC.cn 1 isG_1 κ v1 v5 t6) kc_RX0_43 (Nat.le_of_ble_eq_true rfl) (Nat.le_of_ble_eq_true rfl) lX_1 (Nat.le_of_ble_eq_true rfl) rfl (As := [.int v1, .int v5, .int t6]) (rest := []) rfl rfl (Nat.le_of_ble_eq_true rfl) hm (pc := 82) dX0_openEyes_82 (fun t7 => ?_)
      refine j_iinc hC (pc := 85) dX0_openEyes_85 4 rfl ki_m1 (Nat.le_of_ble_eq_true rfl) (loc' := [(5, .int (v5 + (-1))), (0, .ref (gad Γ 58)), (1, .int v1), (3, .int v3), (4, .int v4)]) rfl ?_
      refine j_goto hC (pc := 88) dX0_openEyes_88 (tgt := 50) rfl ?_
      refine j_sub [1, 2, 3, 4, 0] (loc' := [(0, .ref (gad Γ 58)), (1, .int v1), (3, .int v3), (4, .int v4), (5, .int (v5 + (-1)))]) rfl ?_
      exact ih t7 (v5 + (-1))
set_option maxRecDepth 20000 in
theorem wX0_openEyes {Γ : JCtx} (hC : jC Γ cX0_openEyes 6 RX0 none layX 147) (hR : gR Γ = rmH 2) (hm : gcells Γ ≤ (gR Γ).cells ∧ gslots Γ ≤ (gR Γ).slots) (F : Nat) (κ : Mem) (v1 : Int32) (v2 : Int32) : JP Γ (qf Γ oV) (pX0_openEyes F κ v1 v2) κ 0 [(0, .ref (gad Γ 58)), (1, .int v1), (2, .int v2)] [] := by
  unfold pX0_openEyes
  refine j_aload_n hC (pc := 0) dX0_openEyes_0 0 rfl rfl ?_
  refine j_getR hC (pc := 1) dX0_openEyes_1 kf_RX0_7 lX_58 (Nat.le_of_ble_eq_true rfl) rfl ?_
  refine j_getR hC (pc := 4) dX0_openEyes_4 kf_RX0_61 lX_1 (Nat.le_of_ble_eq_true rfl) rfl ?_
  refine j_iload_n hC (pc := 7) dX0_openEyes_7 1 rfl rfl ?_
  refine j_dup2 hC (pc := 8) dX0_openEyes_8 rfl rfl ?_
  refine j_iald hC (pc := 9) dX0_openEyes_9 lX_3 (Nat.le_of_ble_eq_true rfl) ?_
  refine j_iconst hC (pc := 10) dX0_openEyes_10 ki_1 ?_
  refine j_iload_n hC (pc := 11) dX0_openEyes_11 2 rfl rfl ?_
  refine j_ishl hC (pc := 12) dX0_openEyes_12 ?_
  refine j_ior hC (pc := 13) dX0_openEyes_13 ?_
  refine j_iast hC (pc := 14) dX0_openEyes_14 lX_3 (Nat.le_of_ble_eq_true rfl) (fun κ1 => ?_)
  refine j_aload_n hC (pc := 15) dX0_openEyes_15 0 rfl rfl ?_
  refine j_getR hC (pc := 16) dX0_openEyes_16 kf_RX0_7 lX_58 (Nat.le_of_ble_eq_true rfl) rfl ?_
  refine j_iload_n hC (pc := 19) dX0_openEyes_19 1 rfl rfl ?_
  refine j_iload_n hC (pc := 20) dX0_openEyes_20 2 rfl rfl ?_
  refine j_callV_I hC hR (ctX2_weightBehind hC.l hC.cn 1 isG_1 F κ1 v1 v2) kc_RX0_64 (Nat.le_of_ble_eq_true rfl) (Nat.le_of_ble_eq_true rfl) lX_1 (Nat.le_of_ble_eq_true rfl) rfl (As := [.int v1, .int v2]) (rest := []) rfl rfl (Nat.le_of_ble_eq_true rfl) hm (pc := 21) dX0_openEyes_21 (fun t2 => ?_)
  refine j_istore_n hC (pc := 24) dX0_openEyes_24 rfl (Nat.le_of_ble_eq_true rfl) (loc' := [(3, .int t2), (0, .ref (gad Γ 58)), (1, .int v1), (2, .int v2)]) rfl ?_
  refine j_iload_n hC (pc := 25) dX0_openEyes_25 0 rfl rfl ?_
  refine j_aload_n hC (pc := 26) dX0_openEyes_26 1 rfl rfl ?_
  refine j_getR hC (pc := 27) dX0_openEyes_27 kf_RX0_7 lX_58 (Nat.le_of_ble_eq_true rfl) rfl ?_
  refine j_getR hC (pc := 30) dX0_openEyes_30 kf_RX0_23 lX_1 (Nat.le_of_ble_eq_true rfl) rfl ?_
  refine j_iload_n hC (pc := 33) dX0_openEyes_33 3 rfl rfl ?_
  refine j_iald hC (pc := 34) dX0_openEyes_34 lX_2 (Nat.le_of_ble_eq_true rfl) ?_
  refine j_imul hC (pc := 35) dX0_openEyes_35 ?_
  refine j_nmi (fun x3 => ?_)
  refine j_istore hC (pc := 36) dX0_openEyes_36 (Nat.le_of_ble_eq_true rfl) (loc' := [(4, .int x3), (3, .int t2), (0, .ref (gad Γ 58)), (1, .int v1), (2, .int v2)]) rfl ?_
  refine j_aload_n hC (pc := 38) dX0_openEyes_38 2 rfl rfl ?_
  refine j_getR hC (pc := 39) dX0_openEyes_39 kf_RX0_7 lX_58 (Nat.le_of_ble_eq_true rfl) rfl ?_
  refine j_iload_n hC (pc := 42) dX0_openEyes_42 3 rfl rfl ?_
  refine j_callV_I hC hR (ctX2_situations hC.l hC.cn 1 isG_1 F κ1 v1) kc_RX0_27 (Nat.le_of_ble_eq_true rfl) (Nat.le_of_ble_eq_true rfl) lX_1 (Nat.le_of_ble_eq_true rfl) rfl (As := [.int v1]) (rest := []) rfl rfl (Nat.le_of_ble_eq_true rfl) hm (pc := 43) dX0_openEyes_43 (fun t4 => ?_)
  refine j_iconst hC (pc := 46) dX0_openEyes_46 ki_1 ?_
  refine j_isub hC (pc := 47) dX0_openEyes_47 ?_
  refine j_nmi (fun x5 => ?_)
  refine j_istore hC (pc := 48) dX0_openEyes_48 (Nat.le_of_ble_eq_true rfl) (loc' := [(5, .int x5), (4, .int x3), (3, .int t2), (0, .ref (gad Γ 58)), (1, .int v1), (2, .int v2)]) rfl ?_
  refine j_sub [3, 4, 2, 1, 0] (loc' := [(0, .ref (gad Γ 58)), (1, .int v1), (3, .int t2), (4, .int x3), (5, .int x5)]) rfl ?_
  exact wX0_openEyes_50 hC hR hm F v1 t2 x3 F κ1 x5
theorem ctX0_openEyes {Δ : DCtx} {l : Launch} (hl : dlay Δ = layX) (hN : dN Δ = 147) (F : Nat) (κ : Mem) (v1 : Int32) (v2 : Int32) : ∀ r, pX0_openEyes F κ v1 v2 = some r → CT Δ l yX0_openEyes cX0_openEyes 6 none (rmH 2) [.ref (dad Δ 58), .int v1, .int v2] κ none r :=
  ct_of (nL := 6) (ret := none) (lay := layX) (N := 147) (by decide +kernel) (fun Δ => [.ref (dad Δ 58), .int v1, .int v2]) (fun _ => oV) (fun _ => (Nat.le_of_ble_eq_true rfl)) (fun Γ hR hm hC => wX0_openEyes hC hR hm F κ v1 v2) Δ l hl hN
set_option maxRecDepth 20000 in
theorem wX0_closeEyes_53 {Γ : JCtx} (hC : jC Γ cX0_closeEyes 7 RX0 none layX 147) (hR : gR Γ = rmH 2) (hm : gcells Γ ≤ (gR Γ).cells ∧ gslots Γ ≤ (gR Γ).slots) (F : Nat) (v1 : Int32) (v3 : Int32) (v4 : Int32) (v5 : Int32) : ∀ (n : Nat) (κ : Mem) (v6 : Int32), JP Γ (qf Γ oV) (pX0_closeEyes_53 F v1 v3 v4 v5 n κ v6) κ 53 [(0, .ref (gad Γ 58)), (1, .int v1), (3, .int v3), (4, .int v4), (5, .int v5), (6, .int v6)] [] := by
  intro n
  induction n with
  | zero =>
    intro κ v6
    rw [pX0_closeEyes_53]
    exact j_none
  | succ fu ih =>
    intro κ v6
    rw [pX0_closeEyes_53]
    refine j_iload hC (pc := 53) dX0_closeEyes_53 5 rfl ?_
    refine j_iload hC (pc := 55) dX0_closeEyes_55 4 rfl ?_
    refine j_icmp_ge hC (pc := 57) dX0_closeEyes_57 (tgt := 96) rfl ?_ ?_
    · refine j_aload_n hC (pc := 60) dX0_closeEyes_60 0 rfl rfl ?_
      refine j_getR hC (pc := 61) dX0_closeEyes_61 kf_RX0_7 lX_58 (Nat.le_of_ble_eq_true rfl) rfl ?_
      refine j_iload_n hC (pc := 64) dX0_closeEyes_64 1 rfl rfl ?_
      refine j_iload hC (pc := 65) dX0_closeEyes_65 5 rfl ?_
      refine j_aload_n hC (pc := 67) dX0_closeEyes_67 0 rfl rfl ?_
      refine j_getR hC (pc := 68) dX0_closeEyes_68 kf_RX0_7 lX_58 (Nat.le_of_ble_eq_true rfl) rfl ?_
      refine j_iload_n hC (pc := 71) dX0_closeEyes_71 1 rfl rfl ?_
      refine j_iload hC (pc := 72) dX0_closeEyes_72 5 rfl ?_
      refine j_iload_n hC (pc := 74) dX0_closeEyes_74 2 rfl rfl ?_
      refine j_idiv hC (pc := 75) dX0_closeEyes_75 ?_
      refine j_iload hC (pc := 76) dX0_closeEyes_76 3 rfl ?_
      refine j_imul hC (pc := 78) dX0_closeEyes_78 ?_
      refine j_iload hC (pc := 79) dX0_closeEyes_79 5 rfl ?_
      refine j_iload_n hC (pc := 81) dX0_closeEyes_81 2 rfl rfl ?_
      refine j_irem hC (pc := 82) dX0_closeEyes_82 ?_
      refine j_iadd hC (pc := 83) dX0_closeEyes_83 ?_
      refine j_callV_I hC hR (ctX2_told hC.l hC.cn 1 isG_1 κ v1 (((v6 / v3) * v4) + (v6 - v6 / v3 * v3))) kc_RX0_40 (Nat.le_of_ble_eq_true rfl) (Nat.le_of_ble_eq_true rfl) lX_1 (Nat.le_of_ble_eq_true rfl) rfl (As := [.int v1, .int (((v6 / v3) * v4) + (v6 - v6 / v3 * v3))]) (rest := [.int v6, .int v1, .ref (gad Γ 1)]) rfl rfl (Nat.le_of_ble_eq_true rfl) hm (pc := 84) dX0_closeEyes_84 (fun t5 => ?_)
      refine j_callV_V hC hR (ctX2_tell hC.l hC.cn 1 isG_1 κ v1 v6 t5) kc_RX0_43 (Nat.le_of_ble_eq_true rfl) (Nat.le_of_ble_eq_true rfl) lX_1 (Nat.le_of_ble_eq_true rfl) rfl (As := [.int v1, .int v6, .int t5]) (rest := []) rfl rfl (Nat.le_of_ble_eq_true rfl) hm (pc := 87) dX0_closeEyes_87 (fun t6 => ?_)
      refine j_iinc hC (pc := 90) dX0_closeEyes_90 5 rfl ki_1 (Nat.le_of_ble_eq_true rfl) (loc' := [(6, .int (v6 + 1)), (0, .ref (gad Γ 58)), (1, .int v1), (3, .int v3), (4, .int v4), (5, .int v5)]) rfl ?_
      refine j_goto hC (pc := 93) dX0_closeEyes_93 (tgt := 53) rfl ?_
      refine j_sub [1, 2, 3, 4, 5, 0] (loc' := [(0, .ref (gad Γ 58)), (1, .int v1), (3, .int v3), (4, .int v4), (5, .int v5), (6, .int (v6 + 1))]) rfl ?_
      exact ih t6 (v6 + 1)
    · exact j_vret hC (pc := 96) dX0_closeEyes_96 rfl rfl
set_option maxRecDepth 20000 in
theorem wX0_closeEyes {Γ : JCtx} (hC : jC Γ cX0_closeEyes 7 RX0 none layX 147) (hR : gR Γ = rmH 2) (hm : gcells Γ ≤ (gR Γ).cells ∧ gslots Γ ≤ (gR Γ).slots) (F : Nat) (κ : Mem) (v1 : Int32) (v2 : Int32) : JP Γ (qf Γ oV) (pX0_closeEyes F κ v1 v2) κ 0 [(0, .ref (gad Γ 58)), (1, .int v1), (2, .int v2)] [] := by
  unfold pX0_closeEyes
  refine j_aload_n hC (pc := 0) dX0_closeEyes_0 0 rfl rfl ?_
  refine j_getR hC (pc := 1) dX0_closeEyes_1 kf_RX0_7 lX_58 (Nat.le_of_ble_eq_true rfl) rfl ?_
  refine j_getR hC (pc := 4) dX0_closeEyes_4 kf_RX0_61 lX_1 (Nat.le_of_ble_eq_true rfl) rfl ?_
  refine j_iload_n hC (pc := 7) dX0_closeEyes_7 1 rfl rfl ?_
  refine j_dup2 hC (pc := 8) dX0_closeEyes_8 rfl rfl ?_
  refine j_iald hC (pc := 9) dX0_closeEyes_9 lX_3 (Nat.le_of_ble_eq_true rfl) ?_
  refine j_iconst hC (pc := 10) dX0_closeEyes_10 ki_1 ?_
  refine j_iload_n hC (pc := 11) dX0_closeEyes_11 2 rfl rfl ?_
  refine j_ishl hC (pc := 12) dX0_closeEyes_12 ?_
  refine j_iconst hC (pc := 13) dX0_closeEyes_13 ki_m1 ?_
  refine j_ixor hC (pc := 14) dX0_closeEyes_14 ?_
  refine j_iand hC (pc := 15) dX0_closeEyes_15 ?_
  refine j_iast hC (pc := 16) dX0_closeEyes_16 lX_3 (Nat.le_of_ble_eq_true rfl) (fun κ1 => ?_)
  refine j_aload_n hC (pc := 17) dX0_closeEyes_17 0 rfl rfl ?_
  refine j_getR hC (pc := 18) dX0_closeEyes_18 kf_RX0_7 lX_58 (Nat.le_of_ble_eq_true rfl) rfl ?_
  refine j_iload_n hC (pc := 21) dX0_closeEyes_21 1 rfl rfl ?_
  refine j_iload_n hC (pc := 22) dX0_closeEyes_22 2 rfl rfl ?_
  refine j_callV_I hC hR (ctX2_weightBehind hC.l hC.cn 1 isG_1 F κ1 v1 v2) kc_RX0_64 (Nat.le_of_ble_eq_true rfl) (Nat.le_of_ble_eq_true rfl) lX_1 (Nat.le_of_ble_eq_true rfl) rfl (As := [.int v1, .int v2]) (rest := []) rfl rfl (Nat.le_of_ble_eq_true rfl) hm (pc := 23) dX0_closeEyes_23 (fun t2 => ?_)
  refine j_istore_n hC (pc := 26) dX0_closeEyes_26 rfl (Nat.le_of_ble_eq_true rfl) (loc' := [(3, .int t2), (0, .ref (gad Γ 58)), (1, .int v1), (2, .int v2)]) rfl ?_
  refine j_iload_n hC (pc := 27) dX0_closeEyes_27 0 rfl rfl ?_
  refine j_aload_n hC (pc := 28) dX0_closeEyes_28 1 rfl rfl ?_
  refine j_getR hC (pc := 29) dX0_closeEyes_29 kf_RX0_7 lX_58 (Nat.le_of_ble_eq_true rfl) rfl ?_
  refine j_getR hC (pc := 32) dX0_closeEyes_32 kf_RX0_23 lX_1 (Nat.le_of_ble_eq_true rfl) rfl ?_
  refine j_iload_n hC (pc := 35) dX0_closeEyes_35 3 rfl rfl ?_
  refine j_iald hC (pc := 36) dX0_closeEyes_36 lX_2 (Nat.le_of_ble_eq_true rfl) ?_
  refine j_imul hC (pc := 37) dX0_closeEyes_37 ?_
  refine j_nmi (fun x3 => ?_)
  refine j_istore hC (pc := 38) dX0_closeEyes_38 (Nat.le_of_ble_eq_true rfl) (loc' := [(4, .int x3), (3, .int t2), (0, .ref (gad Γ 58)), (1, .int v1), (2, .int v2)]) rfl ?_
  refine j_aload_n hC (pc := 40) dX0_closeEyes_40 2 rfl rfl ?_
  refine j_getR hC (pc := 41) dX0_closeEyes_41 kf_RX0_7 lX_58 (Nat.le_of_ble_eq_true rfl) rfl ?_
  refine j_iload_n hC (pc := 44) dX0_closeEyes_44 3 rfl rfl ?_
  refine j_callV_I hC hR (ctX2_situations hC.l hC.cn 1 isG_1 F κ1 v1) kc_RX0_27 (Nat.le_of_ble_eq_true rfl) (Nat.le_of_ble_eq_true rfl) lX_1 (Nat.le_of_ble_eq_true rfl) rfl (As := [.int v1]) (rest := []) rfl rfl (Nat.le_of_ble_eq_true rfl) hm (pc := 45) dX0_closeEyes_45 (fun t4 => ?_)
  refine j_istore hC (pc := 48) dX0_closeEyes_48 (Nat.le_of_ble_eq_true rfl) (loc' := [(5, .int t4), (4, .int x3), (3, .int t2), (0, .ref (gad Γ 58)), (1, .int v1), (2, .int v2)]) rfl ?_
  refine j_iconst hC (pc := 50) dX0_closeEyes_50 ki_0 ?_
  refine j_istore hC (pc := 51) dX0_closeEyes_51 (Nat.le_of_ble_eq_true rfl) (loc' := [(6, .int 0), (5, .int t4), (4, .int x3), (3, .int t2), (0, .ref (gad Γ 58)), (1, .int v1), (2, .int v2)]) rfl ?_
  refine j_sub [4, 5, 3, 2, 1, 0] (loc' := [(0, .ref (gad Γ 58)), (1, .int v1), (3, .int t2), (4, .int x3), (5, .int t4), (6, .int 0)]) rfl ?_
  exact wX0_closeEyes_53 hC hR hm F v1 t2 x3 t4 F κ1 0
theorem ctX0_closeEyes {Δ : DCtx} {l : Launch} (hl : dlay Δ = layX) (hN : dN Δ = 147) (F : Nat) (κ : Mem) (v1 : Int32) (v2 : Int32) : ∀ r, pX0_closeEyes F κ v1 v2 = some r → CT Δ l yX0_closeEyes cX0_closeEyes 7 none (rmH 2) [.ref (dad Δ 58), .int v1, .int v2] κ none r :=
  ct_of (nL := 7) (ret := none) (lay := layX) (N := 147) (by decide +kernel) (fun Δ => [.ref (dad Δ 58), .int v1, .int v2]) (fun _ => oV) (fun _ => (Nat.le_of_ble_eq_true rfl)) (fun Γ hR hm hC => wX0_closeEyes hC hR hm F κ v1 v2) Δ l hl hN
set_option maxRecDepth 20000 in
theorem wX3_goBack_46 {Γ : JCtx} (hC : jC Γ cX3_goBack 2 RX3 none layX 147) (hR : gR Γ = rmH 2) (hm : gcells Γ ≤ (gR Γ).cells ∧ gslots Γ ≤ (gR Γ).slots) (g1 : Nat) (hg1 : isG g1) (κ : Mem) : JP Γ (qf Γ oV) (pX3_goBack_46 g1 κ) κ 46 [] [] := by
  unfold pX3_goBack_46
  exact j_vret hC (pc := 46) dX3_goBack_46 rfl rfl
set_option maxRecDepth 20000 in
theorem wX3_goBack {Γ : JCtx} (hC : jC Γ cX3_goBack 2 RX3 none layX 147) (hR : gR Γ = rmH 2) (hm : gcells Γ ≤ (gR Γ).cells ∧ gslots Γ ≤ (gR Γ).slots) (g1 : Nat) (hg1 : isG g1) (κ : Mem) : JP Γ (qf Γ oV) (pX3_goBack g1 κ) κ 0 [(0, .ref (gad Γ 135)), (1, .ref (gad Γ g1))] [] := by
  unfold pX3_goBack
  refine j_aload_n hC (pc := 0) dX3_goBack_0 0 rfl rfl ?_
  refine j_getI hC (pc := 1) dX3_goBack_1 kf_RX3_21 lX_135 (Nat.le_of_ble_eq_true rfl) rfl ?_
  refine j_if_le hC (pc := 4) dX3_goBack_4 (tgt := 46) rfl ?_ ?_
  · refine j_sub [] (loc' := []) rfl ?_
    exact wX3_goBack_46 hC hR hm g1 hg1 κ
  · refine j_aload_n hC (pc := 7) dX3_goBack_7 0 rfl rfl ?_
    refine j_aload_n hC (pc := 8) dX3_goBack_8 0 rfl rfl ?_
    refine j_getI hC (pc := 9) dX3_goBack_9 kf_RX3_17 lX_135 (Nat.le_of_ble_eq_true rfl) rfl ?_
    refine j_bipush hC (pc := 12) dX3_goBack_12 kb_7 ?_
    refine j_iadd hC (pc := 14) dX3_goBack_14 ?_
    refine j_iconst hC (pc := 15) dX3_goBack_15 ki_1 ?_
    refine j_isub hC (pc := 16) dX3_goBack_16 ?_
    refine j_bipush hC (pc := 17) dX3_goBack_17 kb_7 ?_
    refine j_irem hC (pc := 19) dX3_goBack_19 ?_
    refine j_putI hC (pc := 20) dX3_goBack_20 kp_RX3_17 lX_135 (Nat.le_of_ble_eq_true rfl) rfl rfl rfl (fun κ1 => ?_)
    refine j_aload_n hC (pc := 23) dX3_goBack_23 0 rfl rfl ?_
    refine j_dup hC (pc := 24) dX3_goBack_24 rfl ?_
    refine j_getI hC (pc := 25) dX3_goBack_25 kf_RX3_21 lX_135 (Nat.le_of_ble_eq_true rfl) rfl ?_
    refine j_iconst hC (pc := 28) dX3_goBack_28 ki_1 ?_
    refine j_isub hC (pc := 29) dX3_goBack_29 ?_
    refine j_putI hC (pc := 30) dX3_goBack_30 kp_RX3_21 lX_135 (Nat.le_of_ble_eq_true rfl) rfl rfl rfl (fun κ2 => ?_)
    refine j_aload_n hC (pc := 33) dX3_goBack_33 1 rfl rfl ?_
    refine j_aload_n hC (pc := 34) dX3_goBack_34 0 rfl rfl ?_
    refine j_getR hC (pc := 35) dX3_goBack_35 kf_RX3_13 lX_135 (Nat.le_of_ble_eq_true rfl) rfl ?_
    refine j_aload_n hC (pc := 38) dX3_goBack_38 0 rfl rfl ?_
    refine j_getI hC (pc := 39) dX3_goBack_39 kf_RX3_17 lX_135 (Nat.le_of_ble_eq_true rfl) rfl ?_
    refine j_aald hC (pc := 42) dX3_goBack_42 lX_136 (Nat.le_of_ble_eq_true rfl) (kRt_5 _) (fun hq3 => ?_)
    refine j_callV_V hC hR (ctX2_copy hC.l hC.cn g1 hg1 (13 + (mi κ2 135 1).toNatClampNeg * 4) (isG_r hq3) κ2) kc_RX3_25 (Nat.le_of_ble_eq_true rfl) (Nat.le_of_ble_eq_true rfl) (isG_o hg1) (isG_N hg1) rfl (As := [.ref (gad Γ (13 + (mi κ2 135 1).toNatClampNeg * 4))]) (rest := []) rfl rfl (Nat.le_of_ble_eq_true rfl) hm (pc := 43) dX3_goBack_43 (fun t4 => ?_)
    refine j_sub [] (loc' := []) rfl ?_
    exact wX3_goBack_46 hC hR hm g1 hg1 t4
theorem ctX3_goBack {Δ : DCtx} {l : Launch} (hl : dlay Δ = layX) (hN : dN Δ = 147) (g1 : Nat) (hg1 : isG g1) (κ : Mem) : ∀ r, pX3_goBack g1 κ = some r → CT Δ l yX3_goBack cX3_goBack 2 none (rmH 2) [.ref (dad Δ 135), .ref (dad Δ g1)] κ none r :=
  ct_of (nL := 2) (ret := none) (lay := layX) (N := 147) (by decide +kernel) (fun Δ => [.ref (dad Δ 135), .ref (dad Δ g1)]) (fun _ => oV) (fun _ => (Nat.le_of_ble_eq_true rfl)) (fun Γ hR hm hC => wX3_goBack hC hR hm g1 hg1 κ) Δ l hl hN
