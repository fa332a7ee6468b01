set_option maxRecDepth 20000 in
theorem wX10_status {Γ : JCtx} (hC : jC Γ cX10_status 1 RX10 (some .int) layX 147) (hR : gR Γ = rmH 0) (hm : gcells Γ ≤ (gR Γ).cells ∧ gslots Γ ≤ (gR Γ).slots) (κ : Mem) : JP Γ (qf Γ (oI κ)) (pX10_status κ) κ 0 [(0, .ref (gad Γ 0))] [] := by
  unfold pX10_status
  refine j_aload_n hC (pc := 0) dX10_status_0 0 rfl rfl ?_
  refine j_getI hC (pc := 1) dX10_status_1 kf_RX10_89 lX_0 (Nat.le_of_ble_eq_true rfl) rfl ?_
  exact j_iret hC (pc := 4) dX10_status_4 rfl rfl rfl
theorem ctX10_status {Δ : DCtx} {l : Launch} (hl : dlay Δ = layX) (hN : dN Δ = 147) (κ : Mem) : ∀ r, pX10_status κ = some r → CT Δ l yX10_status cX10_status 1 (some .int) (rmH 0) [.ref (dad Δ 0)] κ (some (.int r)) κ :=
  ct_of (nL := 1) (ret := (some .int)) (lay := layX) (N := 147) (by decide +kernel) (fun Δ => [.ref (dad Δ 0)]) (fun _ => oI κ) (fun _ => (Nat.le_of_ble_eq_true rfl)) (fun Γ hR hm hC => wX10_status hC hR hm κ) Δ l hl hN
set_option maxRecDepth 20000 in
theorem wX10_tapeInt_46 {Γ : JCtx} (hC : jC Γ cX10_tapeInt 3 RX10 none layX 147) (hR : gR Γ = rmH 0) (hm : gcells Γ ≤ (gR Γ).cells ∧ gslots Γ ≤ (gR Γ).slots) (F : Nat) (κ : Mem) : JP Γ (qf Γ oV) (pX10_tapeInt_46 F κ) κ 46 [] [] := by
  unfold pX10_tapeInt_46
  exact j_vret hC (pc := 46) dX10_tapeInt_46 rfl rfl
set_option maxRecDepth 20000 in
theorem wX10_tapeInt_3 {Γ : JCtx} (hC : jC Γ cX10_tapeInt 3 RX10 none layX 147) (hR : gR Γ = rmH 0) (hm : gcells Γ ≤ (gR Γ).cells ∧ gslots Γ ≤ (gR Γ).slots) (F : Nat) (v1 : Int32) : ∀ (n : Nat) (κ : Mem) (v2 : Int32), JP Γ (qf Γ oV) (pX10_tapeInt_3 F v1 n κ v2) κ 3 [(0, .ref (gad Γ 0)), (1, .int v1), (2, .int v2)] [] := by
  intro n
  induction n with
  | zero =>
    intro κ v2
    rw [pX10_tapeInt_3]
    exact j_none
  | succ fu ih =>
    intro κ v2
    rw [pX10_tapeInt_3]
    refine j_iload_n hC (pc := 3) dX10_tapeInt_3 2 rfl rfl ?_
    refine j_if_lt hC (pc := 4) dX10_tapeInt_4 (tgt := 46) rfl ?_ ?_
    · refine j_sub [] (loc' := []) rfl ?_
      exact wX10_tapeInt_46 hC hR hm F κ
    · refine j_aload_n hC (pc := 7) dX10_tapeInt_7 0 rfl rfl ?_
      refine j_getI hC (pc := 8) dX10_tapeInt_8 kf_RX10_85 lX_0 (Nat.le_of_ble_eq_true rfl) rfl ?_
      refine j_sipush hC (pc := 11) dX10_tapeInt_11 ks_600 ?_
      refine j_icmp_ge hC (pc := 14) dX10_tapeInt_14 (tgt := 46) rfl ?_ ?_
      · refine j_aload_n hC (pc := 17) dX10_tapeInt_17 0 rfl rfl ?_
        refine j_getR hC (pc := 18) dX10_tapeInt_18 kf_RX10_62 lX_0 (Nat.le_of_ble_eq_true rfl) rfl ?_
        refine j_aload_n hC (pc := 21) dX10_tapeInt_21 0 rfl rfl ?_
        refine j_getI hC (pc := 22) dX10_tapeInt_22 kf_RX10_85 lX_0 (Nat.le_of_ble_eq_true rfl) rfl ?_
        refine j_iload_n hC (pc := 25) dX10_tapeInt_25 1 rfl rfl ?_
        refine j_iload_n hC (pc := 26) dX10_tapeInt_26 2 rfl rfl ?_
        refine j_ishr hC (pc := 27) dX10_tapeInt_27 ?_
        refine j_i2b hC (pc := 28) dX10_tapeInt_28 ?_
        refine j_bast hC (pc := 29) dX10_tapeInt_29 lX_137 (Nat.le_of_ble_eq_true rfl) (fun κ1 => ?_)
        refine j_aload_n hC (pc := 30) dX10_tapeInt_30 0 rfl rfl ?_
        refine j_dup hC (pc := 31) dX10_tapeInt_31 rfl ?_
        refine j_getI hC (pc := 32) dX10_tapeInt_32 kf_RX10_85 lX_0 (Nat.le_of_ble_eq_true rfl) rfl ?_
        refine j_iconst hC (pc := 35) dX10_tapeInt_35 ki_1 ?_
        refine j_iadd hC (pc := 36) dX10_tapeInt_36 ?_
        refine j_putI hC (pc := 37) dX10_tapeInt_37 kp_RX10_85 lX_0 (Nat.le_of_ble_eq_true rfl) rfl rfl rfl (fun κ2 => ?_)
        refine j_iinc hC (pc := 40) dX10_tapeInt_40 2 rfl ki_m8 (Nat.le_of_ble_eq_true rfl) (loc' := [(2, .int (v2 + (-8))), (0, .ref (gad Γ 0)), (1, .int v1)]) rfl ?_
        refine j_goto hC (pc := 43) dX10_tapeInt_43 (tgt := 3) rfl ?_
        refine j_sub [1, 2, 0] (loc' := [(0, .ref (gad Γ 0)), (1, .int v1), (2, .int (v2 + (-8)))]) rfl ?_
        exact ih κ2 (v2 + (-8))
      · refine j_sub [] (loc' := []) rfl ?_
        exact wX10_tapeInt_46 hC hR hm F κ
set_option maxRecDepth 20000 in
theorem wX10_tapeInt {Γ : JCtx} (hC : jC Γ cX10_tapeInt 3 RX10 none layX 147) (hR : gR Γ = rmH 0) (hm : gcells Γ ≤ (gR Γ).cells ∧ gslots Γ ≤ (gR Γ).slots) (F : Nat) (κ : Mem) (v1 : Int32) : JP Γ (qf Γ oV) (pX10_tapeInt F κ v1) κ 0 [(0, .ref (gad Γ 0)), (1, .int v1)] [] := by
  unfold pX10_tapeInt
  refine j_bipush hC (pc := 0) dX10_tapeInt_0 kb_24 ?_
  refine j_istore_n hC (pc := 2) dX10_tapeInt_2 rfl (Nat.le_of_ble_eq_true rfl) (loc' := [(2, .int 24), (0, .ref (gad Γ 0)), (1, .int v1)]) rfl ?_
  refine j_sub [1, 2, 0] (loc' := [(0, .ref (gad Γ 0)), (1, .int v1), (2, .int 24)]) rfl ?_
  exact wX10_tapeInt_3 hC hR hm F v1 F κ 24
theorem ctX10_tapeInt {Δ : DCtx} {l : Launch} (hl : dlay Δ = layX) (hN : dN Δ = 147) (F : Nat) (κ : Mem) (v1 : Int32) : ∀ r, pX10_tapeInt F κ v1 = some r → CT Δ l yX10_tapeInt cX10_tapeInt 3 none (rmH 0) [.ref (dad Δ 0), .int v1] κ none r :=
  ct_of (nL := 3) (ret := none) (lay := layX) (N := 147) (by decide +kernel) (fun Δ => [.ref (dad Δ 0), .int v1]) (fun _ => oV) (fun _ => (Nat.le_of_ble_eq_true rfl)) (fun Γ hR hm hC => wX10_tapeInt hC hR hm F κ v1) Δ l hl hN
set_option maxRecDepth 20000 in
theorem wX10_feed {Γ : JCtx} (hC : jC Γ cX10_feed 6 RX10 (some .int) layX 147) (hR : gR Γ = rmH 1) (hm : gcells Γ ≤ (gR Γ).cells ∧ gslots Γ ≤ (gR Γ).slots) (F : Nat) (κ : Mem) (v1 : Int32) (v2 : Int32) (v3 : Int32) (v4 : Int32) (v5 : Int32) : JP Γ (qf Γ oE) (pX10_feed F κ v1 v2 v3 v4 v5) κ 0 [(0, .ref (gad Γ 0)), (1, .int v1), (2, .int v2), (3, .int v3), (4, .int v4), (5, .int v5)] [] := by
  unfold pX10_feed
  refine j_aload_n hC (pc := 0) dX10_feed_0 0 rfl rfl ?_
  refine j_getI hC (pc := 1) dX10_feed_1 kf_RX10_85 lX_0 (Nat.le_of_ble_eq_true rfl) rfl ?_
  refine j_bipush hC (pc := 4) dX10_feed_4 kb_20 ?_
  refine j_iadd hC (pc := 6) dX10_feed_6 ?_
  refine j_sipush hC (pc := 7) dX10_feed_7 ks_600 ?_
  refine j_icmp_le hC (pc := 10) dX10_feed_10 (tgt := 15) rfl ?_ ?_
  · refine j_aload_n hC (pc := 15) dX10_feed_15 0 rfl rfl ?_
    refine j_iload_n hC (pc := 16) dX10_feed_16 1 rfl rfl ?_
    refine j_callV_V hC hR (ctX10_tapeInt hC.l hC.cn F κ v1) kc_RX10_102 (Nat.le_of_ble_eq_true rfl) (Nat.le_of_ble_eq_true rfl) lX_0 (Nat.le_of_ble_eq_true rfl) rfl (As := [.int v1]) (rest := []) rfl rfl (Nat.le_of_ble_eq_true rfl) hm (pc := 17) dX10_feed_17 (fun t1 => ?_)
    refine j_aload_n hC (pc := 20) dX10_feed_20 0 rfl rfl ?_
    refine j_iload_n hC (pc := 21) dX10_feed_21 2 rfl rfl ?_
    refine j_callV_V hC hR (ctX10_tapeInt hC.l hC.cn F t1 v2) kc_RX10_102 (Nat.le_of_ble_eq_true rfl) (Nat.le_of_ble_eq_true rfl) lX_0 (Nat.le_of_ble_eq_true rfl) rfl (As := [.int v2]) (rest := []) rfl rfl (Nat.le_of_ble_eq_true rfl) hm (pc := 22) dX10_feed_22 (fun t2 => ?_)
    refine j_aload_n hC (pc := 25) dX10_feed_25 0 rfl rfl ?_
    refine j_iload_n hC (pc := 26) dX10_feed_26 3 rfl rfl ?_
    refine j_callV_V hC hR (ctX10_tapeInt hC.l hC.cn F t2 v3) kc_RX10_102 (Nat.le_of_ble_eq_true rfl) (Nat.le_of_ble_eq_true rfl) lX_0 (Nat.le_of_ble_eq_true rfl) rfl (As := [.int v3]) (rest := []) rfl rfl (Nat.le_of_ble_eq_true rfl) hm (pc := 27) dX10_feed_27 (fun t3 => ?_)
    refine j_aload_n hC (pc := 30) dX10_feed_30 0 rfl rfl ?_
    refine j_iload hC (pc := 31) dX10_feed_31 4 rfl ?_
    refine j_callV_V hC hR (ctX10_tapeInt hC.l hC.cn F t3 v4) kc_RX10_102 (Nat.le_of_ble_eq_true rfl) (Nat.le_of_ble_eq_true rfl) lX_0 (Nat.le_of_ble_eq_true rfl) rfl (As := [.int v4]) (rest := []) rfl rfl (Nat.le_of_ble_eq_true rfl) hm (pc := 33) dX10_feed_33 (fun t4 => ?_)
    refine j_aload_n hC (pc := 36) dX10_feed_36 0 rfl rfl ?_
    refine j_iload hC (pc := 37) dX10_feed_37 5 rfl ?_
    refine j_callV_V hC hR (ctX10_tapeInt hC.l hC.cn F t4 v5) kc_RX10_102 (Nat.le_of_ble_eq_true rfl) (Nat.le_of_ble_eq_true rfl) lX_0 (Nat.le_of_ble_eq_true rfl) rfl (As := [.int v5]) (rest := []) rfl rfl (Nat.le_of_ble_eq_true rfl) hm (pc := 39) dX10_feed_39 (fun t5 => ?_)
    refine j_aload_n hC (pc := 42) dX10_feed_42 0 rfl rfl ?_
    refine j_getI hC (pc := 43) dX10_feed_43 kf_RX10_85 lX_0 (Nat.le_of_ble_eq_true rfl) rfl ?_
    exact j_iret hC (pc := 46) dX10_feed_46 rfl rfl rfl
  · refine j_iconst hC (pc := 13) dX10_feed_13 ki_m1 ?_
    exact j_iret hC (pc := 14) dX10_feed_14 rfl rfl rfl
theorem ctX10_feed {Δ : DCtx} {l : Launch} (hl : dlay Δ = layX) (hN : dN Δ = 147) (F : Nat) (κ : Mem) (v1 : Int32) (v2 : Int32) (v3 : Int32) (v4 : Int32) (v5 : Int32) : ∀ r, pX10_feed F κ v1 v2 v3 v4 v5 = some r → CT Δ l yX10_feed cX10_feed 6 (some .int) (rmH 1) [.ref (dad Δ 0), .int v1, .int v2, .int v3, .int v4, .int v5] κ (some (.int r.1)) r.2 :=
  ct_of (nL := 6) (ret := (some .int)) (lay := layX) (N := 147) (by decide +kernel) (fun Δ => [.ref (dad Δ 0), .int v1, .int v2, .int v3, .int v4, .int v5]) (fun _ => oE) (fun _ => (Nat.le_of_ble_eq_true rfl)) (fun Γ hR hm hC => wX10_feed hC hR hm F κ v1 v2 v3 v4 v5) Δ l hl hN
set_option maxRecDepth 20000 in
theorem wX10_refuse {Γ : JCtx} (hC : jC Γ cX10_refuse 2 RX10 (some .int) layX 147) (hR : gR Γ = rmH 0) (hm : gcells Γ ≤ (gR Γ).cells ∧ gslots Γ ≤ (gR Γ).slots) (κ : Mem) (v1 : Int32) : JP Γ (qf Γ oE) (pX10_refuse κ v1) κ 0 [(0, .ref (gad Γ 0)), (1, .int v1)] [] := by
  unfold pX10_refuse
  refine j_aload_n hC (pc := 0) dX10_refuse_0 0 rfl rfl ?_
  refine j_iload_n hC (pc := 1) dX10_refuse_1 1 rfl rfl ?_
  refine j_putI hC (pc := 2) dX10_refuse_2 kp_RX10_89 lX_0 (Nat.le_of_ble_eq_true rfl) rfl rfl rfl (fun κ1 => ?_)
  refine j_iconst hC (pc := 5) dX10_refuse_5 ki_m1 ?_
  exact j_iret hC (pc := 6) dX10_refuse_6 rfl rfl rfl
theorem ctX10_refuse {Δ : DCtx} {l : Launch} (hl : dlay Δ = layX) (hN : dN Δ = 147) (κ : Mem) (v1 : Int32) : ∀ r, pX10_refuse κ v1 = some r → CT Δ l yX10_refuse cX10_refuse 2 (some .int) (rmH 0) [.ref (dad Δ 0), .int v1] κ (some (.int r.1)) r.2 :=
  ct_of (nL := 2) (ret := (some .int)) (lay := layX) (N := 147) (by decide +kernel) (fun Δ => [.ref (dad Δ 0), .int v1]) (fun _ => oE) (fun _ => (Nat.le_of_ble_eq_true rfl)) (fun Γ hR hm hC => wX10_refuse hC hR hm κ v1) Δ l hl hN
set_option maxRecDepth 20000 in
theorem wX10_give {Γ : JCtx} (hC : jC Γ cX10_give 2 RX10 (some .int) layX 147) (hR : gR Γ = rmH 0) (hm : gcells Γ ≤ (gR Γ).cells ∧ gslots Γ ≤ (gR Γ).slots) (κ : Mem) (v1 : Int32) : JP Γ (qf Γ oE) (pX10_give κ v1) κ 0 [(0, .ref (gad Γ 0)), (1, .int v1)] [] := by
  unfold pX10_give
  refine j_aload_n hC (pc := 0) dX10_give_0 0 rfl rfl ?_
  refine j_iconst hC (pc := 1) dX10_give_1 ki_0 ?_
  refine j_putI hC (pc := 2) dX10_give_2 kp_RX10_89 lX_0 (Nat.le_of_ble_eq_true rfl) rfl rfl rfl (fun κ1 => ?_)
  refine j_iload_n hC (pc := 5) dX10_give_5 1 rfl rfl ?_
  exact j_iret hC (pc := 6) dX10_give_6 rfl rfl rfl
theorem ctX10_give {Δ : DCtx} {l : Launch} (hl : dlay Δ = layX) (hN : dN Δ = 147) (κ : Mem) (v1 : Int32) : ∀ r, pX10_give κ v1 = some r → CT Δ l yX10_give cX10_give 2 (some .int) (rmH 0) [.ref (dad Δ 0), .int v1] κ (some (.int r.1)) r.2 :=
  ct_of (nL := 2) (ret := (some .int)) (lay := layX) (N := 147) (by decide +kernel) (fun Δ => [.ref (dad Δ 0), .int v1]) (fun _ => oE) (fun _ => (Nat.le_of_ble_eq_true rfl)) (fun Γ hR hm hC => wX10_give hC hR hm κ v1) Δ l hl hN
set_option maxRecDepth 20000 in
theorem wX10_load_12 {Γ : JCtx} (hC : jC Γ cX10_load 3 RX10 (some .int) layX 147) (hR : gR Γ = rmH 10) (hm : gcells Γ ≤ (gR Γ).cells ∧ gslots Γ ≤ (gR Γ).slots) (F : Nat) (κ : Mem) : JP Γ (qf Γ oE) (pX10_load_12 F κ) κ 12 [(0, .ref (gad Γ 0))] [] := by
  unfold pX10_load_12
  refine j_aload_n hC (pc := 12) dX10_load_12 0 rfl rfl ?_
  refine j_iconst hC (pc := 13) dX10_load_13 ki_1 ?_
  refine j_callV_E hC hR (ctX10_refuse hC.l hC.cn κ 1) kc_RX10_105 (Nat.le_of_ble_eq_true rfl) (Nat.le_of_ble_eq_true rfl) lX_0 (Nat.le_of_ble_eq_true rfl) rfl (As := [.int 1]) (rest := []) rfl rfl (Nat.le_of_ble_eq_true rfl) hm (pc := 14) dX10_load_14 (fun t1 => ?_)
  exact j_iret hC (pc := 17) dX10_load_17 rfl rfl rfl
set_option maxRecDepth 20000 in
theorem wX10_load {Γ : JCtx} (hC : jC Γ cX10_load 3 RX10 (some .int) layX 147) (hR : gR Γ = rmH 10) (hm : gcells Γ ≤ (gR Γ).cells ∧ gslots Γ ≤ (gR Γ).slots) (F : Nat) (κ : Mem) (v1 : Int32) : JP Γ (qf Γ oE) (pX10_load F κ v1) κ 0 [(0, .ref (gad Γ 0)), (1, .int v1)] [] := by
  unfold pX10_load
  refine j_iload_n hC (pc := 0) dX10_load_0 1 rfl rfl ?_
  refine j_if_lt hC (pc := 1) dX10_load_1 (tgt := 12) rfl ?_ ?_
  · refine j_sub [0] (loc' := [(0, .ref (gad Γ 0))]) rfl ?_
    exact wX10_load_12 hC hR hm F κ
  · refine j_iload_n hC (pc := 4) dX10_load_4 1 rfl rfl ?_
    refine j_aload_n hC (pc := 5) dX10_load_5 0 rfl rfl ?_
    refine j_getI hC (pc := 6) dX10_load_6 kf_RX10_85 lX_0 (Nat.le_of_ble_eq_true rfl) rfl ?_
    refine j_icmp_le hC (pc := 9) dX10_load_9 (tgt := 18) rfl ?_ ?_
    · refine j_aload_n hC (pc := 18) dX10_load_18 0 rfl rfl ?_
      refine j_iconst hC (pc := 19) dX10_load_19 ki_0 ?_
      refine j_putI hC (pc := 20) dX10_load_20 kp_RX10_85 lX_0 (Nat.le_of_ble_eq_true rfl) rfl rfl rfl (fun κ2 => ?_)
      refine j_aload_n hC (pc := 23) dX10_load_23 0 rfl rfl ?_
      refine j_getR hC (pc := 24) dX10_load_24 kf_RX10_71 lX_0 (Nat.le_of_ble_eq_true rfl) rfl ?_
      refine j_iload_n hC (pc := 27) dX10_load_27 1 rfl rfl ?_
      refine j_callV_E hC hR (ctX6_read hC.l hC.cn F κ2 v1) kc_RX10_109 (Nat.le_of_ble_eq_true rfl) (Nat.le_of_ble_eq_true rfl) lX_138 (Nat.le_of_ble_eq_true rfl) rfl (As := [.int v1]) (rest := []) rfl rfl (Nat.le_of_ble_eq_true rfl) hm (pc := 28) dX10_load_28 (fun t3 => ?_)
      refine j_istore_n hC (pc := 31) dX10_load_31 rfl (Nat.le_of_ble_eq_true rfl) (loc' := [(2, .int (t3.1)), (0, .ref (gad Γ 0)), (1, .int v1)]) rfl ?_
      refine j_aload_n hC (pc := 32) dX10_load_32 1 rfl rfl ?_
      refine j_aload_n hC (pc := 33) dX10_load_33 1 rfl rfl ?_
      refine j_getR hC (pc := 34) dX10_load_34 kf_RX10_71 lX_0 (Nat.le_of_ble_eq_true rfl) rfl ?_
      refine j_getI hC (pc := 37) dX10_load_37 kf_RX10_113 lX_138 (Nat.le_of_ble_eq_true rfl) rfl ?_
      refine j_putI hC (pc := 40) dX10_load_40 kp_RX10_92 lX_0 (Nat.le_of_ble_eq_true rfl) rfl rfl rfl (fun κ4 => ?_)
      refine j_aload_n hC (pc := 43) dX10_load_43 1 rfl rfl ?_
      refine j_aload_n hC (pc := 44) dX10_load_44 1 rfl rfl ?_
      refine j_getR hC (pc := 45) dX10_load_45 kf_RX10_71 lX_0 (Nat.le_of_ble_eq_true rfl) rfl ?_
      refine j_getI hC (pc := 48) dX10_load_48 kf_RX10_116 lX_138 (Nat.le_of_ble_eq_true rfl) rfl ?_
      refine j_putI hC (pc := 51) dX10_load_51 kp_RX10_95 lX_0 (Nat.le_of_ble_eq_true rfl) rfl rfl rfl (fun κ5 => ?_)
      refine j_iload_n hC (pc := 54) dX10_load_54 0 rfl rfl ?_
      refine j_if_ne hC (pc := 55) dX10_load_55 (tgt := 65) rfl ?_ ?_
      · refine j_aload_n hC (pc := 58) dX10_load_58 1 rfl rfl ?_
        refine j_bipush hC (pc := 59) dX10_load_59 kb_9 ?_
        refine j_callV_E hC hR (ctX10_refuse hC.l hC.cn κ5 9) kc_RX10_105 (Nat.le_of_ble_eq_true rfl) (Nat.le_of_ble_eq_true rfl) lX_0 (Nat.le_of_ble_eq_true rfl) rfl (As := [.int 9]) (rest := []) rfl rfl (Nat.le_of_ble_eq_true rfl) hm (pc := 61) dX10_load_61 (fun t6 => ?_)
        exact j_iret hC (pc := 64) dX10_load_64 rfl rfl rfl
      · refine j_aload_n hC (pc := 65) dX10_load_65 1 rfl rfl ?_
        refine j_getR hC (pc := 66) dX10_load_66 kf_RX10_10 lX_0 (Nat.le_of_ble_eq_true rfl) rfl ?_
        refine j_aload_n hC (pc := 69) dX10_load_69 1 rfl rfl ?_
        refine j_getR hC (pc := 70) dX10_load_70 kf_RX10_71 lX_0 (Nat.le_of_ble_eq_true rfl) rfl ?_
        refine j_getR hC (pc := 73) dX10_load_73 kf_RX10_119 lX_138 (Nat.le_of_ble_eq_true rfl) rfl ?_
        refine j_callV_V hC hR (ctX2_copy hC.l hC.cn 1 isG_1 9 isG_9 κ5) kc_RX10_120 (Nat.le_of_ble_eq_true rfl) (Nat.le_of_ble_eq_true rfl) lX_1 (Nat.le_of_ble_eq_true rfl) rfl (As := [.ref (gad Γ 9)]) (rest := []) rfl rfl (Nat.le_of_ble_eq_true rfl) hm (pc := 76) dX10_load_76 (fun t7 => ?_)
        refine j_aload_n hC (pc := 79) dX10_load_79 1 rfl rfl ?_
        refine j_getR hC (pc := 80) dX10_load_80 kf_RX10_58 lX_0 (Nat.le_of_ble_eq_true rfl) rfl ?_
        refine j_callV_V hC hR (ctX3_forget hC.l hC.cn t7) kc_RX10_123 (Nat.le_of_ble_eq_true rfl) (Nat.le_of_ble_eq_true rfl) lX_135 (Nat.le_of_ble_eq_true rfl) rfl (As := []) (rest := []) rfl rfl (Nat.le_of_ble_eq_true rfl) hm (pc := 83) dX10_load_83 (fun t8 => ?_)
        refine j_aload_n hC (pc := 86) dX10_load_86 1 rfl rfl ?_
        refine j_getR hC (pc := 87) dX10_load_87 kf_RX10_21 lX_0 (Nat.le_of_ble_eq_true rfl) rfl ?_
        refine j_callV_V hC hR (ctX1_arrange hC.l hC.cn F t8) kc_RX10_126 (Nat.le_of_ble_eq_true rfl) (Nat.le_of_ble_eq_true rfl) lX_41 (Nat.le_of_ble_eq_true rfl) rfl (As := []) (rest := []) rfl rfl (Nat.le_of_ble_eq_true rfl) hm (pc := 90) dX10_load_90 (fun t9 => ?_)
        refine j_aload_n hC (pc := 93) dX10_load_93 1 rfl rfl ?_
        refine j_aload_n hC (pc := 94) dX10_load_94 1 rfl rfl ?_
        refine j_getR hC (pc := 95) dX10_load_95 kf_RX10_10 lX_0 (Nat.le_of_ble_eq_true rfl) rfl ?_
        refine j_getI hC (pc := 98) dX10_load_98 kf_RX10_129 lX_1 (Nat.le_of_ble_eq_true rfl) rfl ?_
        refine j_callV_E hC hR (ctX10_give hC.l hC.cn t9 (mi t9 1 0)) kc_RX10_132 (Nat.le_of_ble_eq_true rfl) (Nat.le_of_ble_eq_true rfl) lX_0 (Nat.le_of_ble_eq_true rfl) rfl (As := [.int (mi t9 1 0)]) (rest := []) rfl rfl (Nat.le_of_ble_eq_true rfl) hm (pc := 101) dX10_load_101 (fun t10 => ?_)
        exact j_iret hC (pc := 104) dX10_load_104 rfl rfl rfl
    · refine j_sub [0] (loc' := [(0, .ref (gad Γ 0))]) rfl ?_
      exact wX10_load_12 hC hR hm F κ
theorem ctX10_load {Δ : DCtx} {l : Launch} (hl : dlay Δ = layX) (hN : dN Δ = 147) (F : Nat) (κ : Mem) (v1 : Int32) : ∀ r, pX10_load F κ v1 = some r → CT Δ l yX10_load cX10_load 3 (some .int) (rmH 10) [.ref (dad Δ 0), .int v1] κ (some (.int r.1)) r.2 :=
  ct_of (nL := 3) (ret := (some .int)) (lay := layX) (N := 147) (by decide +kernel) (fun Δ => [.ref (dad Δ 0), .int v1]) (fun _ => oE) (fun _ => (Nat.le_of_ble_eq_true rfl)) (fun Γ hR hm hC => wX10_load hC hR hm F κ v1) Δ l hl hN
set_option maxRecDepth 20000 in
theorem wX10_fault_22 {Γ : JCtx} (hC : jC Γ cX10_fault 2 RX10 (some .int) layX 147) (hR : gR Γ = rmH 0) (hm : gcells Γ ≤ (gR Γ).cells ∧ gslots Γ ≤ (gR Γ).slots) (κ : Mem) (y0 : Int32) : JP Γ (qf Γ (oI κ)) (pX10_fault_22 κ y0) κ 22 [] [.int y0] := by
  unfold pX10_fault_22
  exact j_iret hC (pc := 22) dX10_fault_22 rfl rfl rfl
set_option maxRecDepth 20000 in
theorem wX10_fault {Γ : JCtx} (hC : jC Γ cX10_fault 2 RX10 (some .int) layX 147) (hR : gR Γ = rmH 0) (hm : gcells Γ ≤ (gR Γ).cells ∧ gslots Γ ≤ (gR Γ).slots) (κ : Mem) (v1 : Int32) : JP Γ (qf Γ (oI κ)) (pX10_fault κ v1) κ 0 [(0, .ref (gad Γ 0)), (1, .int v1)] [] := by
  unfold pX10_fault
  refine j_iload_n hC (pc := 0) dX10_fault_0 1 rfl rfl ?_
  refine j_if_ne hC (pc := 1) dX10_fault_1 (tgt := 9) rfl ?_ ?_
  · refine j_aload_n hC (pc := 4) dX10_fault_4 0 rfl rfl ?_
    refine j_getI hC (pc := 5) dX10_fault_5 kf_RX10_92 lX_0 (Nat.le_of_ble_eq_true rfl) rfl ?_
    exact j_iret hC (pc := 8) dX10_fault_8 rfl rfl rfl
  · refine j_iload_n hC (pc := 9) dX10_fault_9 1 rfl rfl ?_
    refine j_iconst hC (pc := 10) dX10_fault_10 ki_1 ?_
    refine j_icmp_ne hC (pc := 11) dX10_fault_11 (tgt := 21) rfl ?_ ?_
    · refine j_aload_n hC (pc := 14) dX10_fault_14 0 rfl rfl ?_
      refine j_getI hC (pc := 15) dX10_fault_15 kf_RX10_95 lX_0 (Nat.le_of_ble_eq_true rfl) rfl ?_
      refine j_goto hC (pc := 18) dX10_fault_18 (tgt := 22) rfl ?_
      refine j_sub [] (loc' := []) rfl ?_
      exact wX10_fault_22 hC hR hm κ (mi κ 0 14)
    · refine j_iconst hC (pc := 21) dX10_fault_21 ki_m1 ?_
      refine j_sub [] (loc' := []) rfl ?_
      exact wX10_fault_22 hC hR hm κ (-1)
theorem ctX10_fault {Δ : DCtx} {l : Launch} (hl : dlay Δ = layX) (hN : dN Δ = 147) (κ : Mem) (v1 : Int32) : ∀ r, pX10_fault κ v1 = some r → CT Δ l yX10_fault cX10_fault 2 (some .int) (rmH 0) [.ref (dad Δ 0), .int v1] κ (some (.int r)) κ :=
  ct_of (nL := 2) (ret := (some .int)) (lay := layX) (N := 147) (by decide +kernel) (fun Δ => [.ref (dad Δ 0), .int v1]) (fun _ => oI κ) (fun _ => (Nat.le_of_ble_eq_true rfl)) (fun Γ hR hm hC => wX10_fault hC hR hm κ v1) Δ l hl hN
set_option maxRecDepth 20000 in
theorem wX10_many_116 {Γ : JCtx} (hC : jC Γ cX10_many 2 RX10 (some .int) layX 147) (hR : gR Γ = rmH 4) (hm : gcells Γ ≤ (gR Γ).cells ∧ gslots Γ ≤ (gR Γ).slots) (F : Nat) (κ : Mem) (y0 : Int32) : JP Γ (qf Γ oE) (pX10_many_116 F κ y0) κ 116 [] [.int y0, .ref (gad Γ 0)] := by
  unfold pX10_many_116
  refine j_callV_E hC hR (ctX10_give hC.l hC.cn κ y0) kc_RX10_132 (Nat.le_of_ble_eq_true rfl) (Nat.le_of_ble_eq_true rfl) lX_0 (Nat.le_of_ble_eq_true rfl) rfl (As := [.int y0]) (rest := []) rfl rfl (Nat.le_of_ble_eq_true rfl) hm (pc := 116) dX10_many_116 (fun t9 => ?_)
  exact j_iret hC (pc := 119) dX10_many_119 rfl rfl rfl
set_option maxRecDepth 20000 in
theorem wX10_many {Γ : JCtx} (hC : jC Γ cX10_many 2 RX10 (some .int) layX 147) (hR : gR Γ = rmH 4) (hm : gcells Γ ≤ (gR Γ).cells ∧ gslots Γ ≤ (gR Γ).slots) (F : Nat) (κ : Mem) (v1 : Int32) : JP Γ (qf Γ oE) (pX10_many F κ v1) κ 0 [(0, .ref (gad Γ 0)), (1, .int v1)] [] := by
  unfold pX10_many
  refine j_iload_n hC (pc := 0) dX10_many_0 1 rfl rfl ?_
  refine j_ite (fun hs11 => ?_) (fun hs11 => ?_)
  · refine j_tin hC (pc := 1) dX10_many_1 0 (by rw [hs11]; rfl) (by decide) (by decide) (off := 39) (tgt := 40) rfl rfl ?_
    refine j_aload_n hC (pc := 40) dX10_many_40 0 rfl rfl ?_
    refine j_aload_n hC (pc := 41) dX10_many_41 0 rfl rfl ?_
    refine j_getR hC (pc := 42) dX10_many_42 kf_RX10_10 lX_0 (Nat.le_of_ble_eq_true rfl) rfl ?_
    refine j_getI hC (pc := 45) dX10_many_45 kf_RX10_129 lX_1 (Nat.le_of_ble_eq_true rfl) rfl ?_
    refine j_callV_E hC hR (ctX10_give hC.l hC.cn κ (mi κ 1 0)) kc_RX10_132 (Nat.le_of_ble_eq_true rfl) (Nat.le_of_ble_eq_true rfl) lX_0 (Nat.le_of_ble_eq_true rfl) rfl (As := [.int (mi κ 1 0)]) (rest := []) rfl rfl (Nat.le_of_ble_eq_true rfl) hm (pc := 48) dX10_many_48 (fun t1 => ?_)
    exact j_iret hC (pc := 51) dX10_many_51 rfl rfl rfl
  refine j_ite (fun hs12 => ?_) (fun hs12 => ?_)
  · refine j_tin hC (pc := 1) dX10_many_1 1 (by rw [hs12]; rfl) (by decide) (by decide) (off := 51) (tgt := 52) rfl rfl ?_
    refine j_aload_n hC (pc := 52) dX10_many_52 0 rfl rfl ?_
    refine j_aload_n hC (pc := 53) dX10_many_53 0 rfl rfl ?_
    refine j_getR hC (pc := 54) dX10_many_54 kf_RX10_21 lX_0 (Nat.le_of_ble_eq_true rfl) rfl ?_
    refine j_getI hC (pc := 57) dX10_many_57 kf_RX10_135 lX_41 (Nat.le_of_ble_eq_true rfl) rfl ?_
    refine j_callV_E hC hR (ctX10_give hC.l hC.cn κ (mi κ 41 1)) kc_RX10_132 (Nat.le_of_ble_eq_true rfl) (Nat.le_of_ble_eq_true rfl) lX_0 (Nat.le_of_ble_eq_true rfl) rfl (As := [.int (mi κ 41 1)]) (rest := []) rfl rfl (Nat.le_of_ble_eq_true rfl) hm (pc := 60) dX10_many_60 (fun t2 => ?_)
    exact j_iret hC (pc := 63) dX10_many_63 rfl rfl rfl
  refine j_ite (fun hs13 => ?_) (fun hs13 => ?_)
  · refine j_tin hC (pc := 1) dX10_many_1 2 (by rw [hs13]; rfl) (by decide) (by decide) (off := 63) (tgt := 64) rfl rfl ?_
    refine j_aload_n hC (pc := 64) dX10_many_64 0 rfl rfl ?_
    refine j_aload_n hC (pc := 65) dX10_many_65 0 rfl rfl ?_
    refine j_getR hC (pc := 66) dX10_many_66 kf_RX10_28 lX_0 (Nat.le_of_ble_eq_true rfl) rfl ?_
    refine j_callV_I hC hR (ctX4_sights hC.l hC.cn F κ) kc_RX10_138 (Nat.le_of_ble_eq_true rfl) (Nat.le_of_ble_eq_true rfl) lX_54 (Nat.le_of_ble_eq_true rfl) rfl (As := []) (rest := [.ref (gad Γ 0)]) rfl rfl (Nat.le_of_ble_eq_true rfl) hm (pc := 69) dX10_many_69 (fun t3 => ?_)
    refine j_callV_E hC hR (ctX10_give hC.l hC.cn κ t3) kc_RX10_132 (Nat.le_of_ble_eq_true rfl) (Nat.le_of_ble_eq_true rfl) lX_0 (Nat.le_of_ble_eq_true rfl) rfl (As := [.int t3]) (rest := []) rfl rfl (Nat.le_of_ble_eq_true rfl) hm (pc := 72) dX10_many_72 (fun t4 => ?_)
    exact j_iret hC (pc := 75) dX10_many_75 rfl rfl rfl
  refine j_ite (fun hs14 => ?_) (fun hs14 => ?_)
  · refine j_tin hC (pc := 1) dX10_many_1 3 (by rw [hs14]; rfl) (by decide) (by decide) (off := 75) (tgt := 76) rfl rfl ?_
    refine j_aload_n hC (pc := 76) dX10_many_76 0 rfl rfl ?_
    refine j_aload_n hC (pc := 77) dX10_many_77 0 rfl rfl ?_
    refine j_getR hC (pc := 78) dX10_many_78 kf_RX10_28 lX_0 (Nat.le_of_ble_eq_true rfl) rfl ?_
    refine j_callV_I hC hR (ctX4_links hC.l hC.cn F κ) kc_RX10_142 (Nat.le_of_ble_eq_true rfl) (Nat.le_of_ble_eq_true rfl) lX_54 (Nat.le_of_ble_eq_true rfl) rfl (As := []) (rest := [.ref (gad Γ 0)]) rfl rfl (Nat.le_of_ble_eq_true rfl) hm (pc := 81) dX10_many_81 (fun t5 => ?_)
    refine j_callV_E hC hR (ctX10_give hC.l hC.cn κ t5) kc_RX10_132 (Nat.le_of_ble_eq_true rfl) (Nat.le_of_ble_eq_true rfl) lX_0 (Nat.le_of_ble_eq_true rfl) rfl (As := [.int t5]) (rest := []) rfl rfl (Nat.le_of_ble_eq_true rfl) hm (pc := 84) dX10_many_84 (fun t6 => ?_)
    exact j_iret hC (pc := 87) dX10_many_87 rfl rfl rfl
  refine j_ite (fun hs15 => ?_) (fun hs15 => ?_)
  · refine j_tin hC (pc := 1) dX10_many_1 4 (by rw [hs15]; rfl) (by decide) (by decide) (off := 87) (tgt := 88) rfl rfl ?_
    refine j_aload_n hC (pc := 88) dX10_many_88 0 rfl rfl ?_
    refine j_aload_n hC (pc := 89) dX10_many_89 0 rfl rfl ?_
    refine j_getR hC (pc := 90) dX10_many_90 kf_RX10_58 lX_0 (Nat.le_of_ble_eq_true rfl) rfl ?_
    refine j_getI hC (pc := 93) dX10_many_93 kf_RX10_145 lX_135 (Nat.le_of_ble_eq_true rfl) rfl ?_
    refine j_callV_E hC hR (ctX10_give hC.l hC.cn κ (mi κ 135 2)) kc_RX10_132 (Nat.le_of_ble_eq_true rfl) (Nat.le_of_ble_eq_true rfl) lX_0 (Nat.le_of_ble_eq_true rfl) rfl (As := [.int (mi κ 135 2)]) (rest := []) rfl rfl (Nat.le_of_ble_eq_true rfl) hm (pc := 96) dX10_many_96 (fun t7 => ?_)
    exact j_iret hC (pc := 99) dX10_many_99 rfl rfl rfl
  refine j_ite (fun hs16 => ?_) (fun hs16 => ?_)
  · refine j_tin hC (pc := 1) dX10_many_1 5 (by rw [hs16]; rfl) (by decide) (by decide) (off := 99) (tgt := 100) rfl rfl ?_
    refine j_aload_n hC (pc := 100) dX10_many_100 0 rfl rfl ?_
    refine j_aload_n hC (pc := 101) dX10_many_101 0 rfl rfl ?_
    refine j_getR hC (pc := 102) dX10_many_102 kf_RX10_28 lX_0 (Nat.le_of_ble_eq_true rfl) rfl ?_
    refine j_callV_I hC hR (ctX4_isMutual hC.l hC.cn F κ) kc_RX10_148 (Nat.le_of_ble_eq_true rfl) (Nat.le_of_ble_eq_true rfl) lX_54 (Nat.le_of_ble_eq_true rfl) rfl (As := []) (rest := [.ref (gad Γ 0)]) rfl rfl (Nat.le_of_ble_eq_true rfl) hm (pc := 105) dX10_many_105 (fun t8 => ?_)
    refine j_if_eq hC (pc := 108) dX10_many_108 (tgt := 115) rfl ?_ ?_
    · refine j_iconst hC (pc := 115) dX10_many_115 ki_0 ?_
      refine j_sub [] (loc' := []) rfl ?_
      exact wX10_many_116 hC hR hm F κ 0
    · refine j_iconst hC (pc := 111) dX10_many_111 ki_1 ?_
      refine j_goto hC (pc := 112) dX10_many_112 (tgt := 116) rfl ?_
      refine j_sub [] (loc' := []) rfl ?_
      exact wX10_many_116 hC hR hm F κ 1
  refine j_tout hC (pc := 1) dX10_many_1 ?_ (tgt := 120) rfl ?_
  · have e0 : ¬ Int32.toInt v1 = 0 := fun z => hs11 (Int32.toInt_inj.mp (z.trans ti_0.symm))
    have e1 : ¬ Int32.toInt v1 = 1 := fun z => hs12 (Int32.toInt_inj.mp (z.trans ti_1.symm))
    have e2 : ¬ Int32.toInt v1 = 2 := fun z => hs13 (Int32.toInt_inj.mp (z.trans ti_2.symm))
    have e3 : ¬ Int32.toInt v1 = 3 := fun z => hs14 (Int32.toInt_inj.mp (z.trans ti_3.symm))
    have e4 : ¬ Int32.toInt v1 = 4 := fun z => hs15 (Int32.toInt_inj.mp (z.trans ti_4.symm))
    have e5 : ¬ Int32.toInt v1 = 5 := fun z => hs16 (Int32.toInt_inj.mp (z.trans ti_5.symm))
    omega
  · refine j_aload_n hC (pc := 120) dX10_many_120 0 rfl rfl ?_
    refine j_iconst hC (pc := 121) dX10_many_121 ki_1 ?_
    refine j_callV_E hC hR (ctX10_refuse hC.l hC.cn κ 1) kc_RX10_105 (Nat.le_of_ble_eq_true rfl) (Nat.le_of_ble_eq_true rfl) lX_0 (Nat.le_of_ble_eq_true rfl) rfl (As := [.int 1]) (rest := []) rfl rfl (Nat.le_of_ble_eq_true rfl) hm (pc := 122) dX10_many_122 (fun t10 => ?_)
    exact j_iret hC (pc := 125) dX10_many_125 rfl rfl rfl
theorem ctX10_many {Δ : DCtx} {l : Launch} (hl : dlay Δ = layX) (hN : dN Δ = 147) (F : Nat) (κ : Mem) (v1 : Int32) : ∀ r, pX10_many F κ v1 = some r → CT Δ l yX10_many cX10_many 2 (some .int) (rmH 4) [.ref (dad Δ 0), .int v1] κ (some (.int r.1)) r.2 :=
  ct_of (nL := 2) (ret := (some .int)) (lay := layX) (N := 147) (by decide +kernel) (fun Δ => [.ref (dad Δ 0), .int v1]) (fun _ => oE) (fun _ => (Nat.le_of_ble_eq_true rfl)) (fun Γ hR hm hC => wX10_many hC hR hm F κ v1) Δ l hl hN
set_option maxRecDepth 20000 in
theorem wX10_noPlayer_20 {Γ : JCtx} (hC : jC Γ cX10_noPlayer 2 RX10 (some .boolean) layX 147) (hR : gR Γ = rmH 0) (hm : gcells Γ ≤ (gR Γ).cells ∧ gslots Γ ≤ (gR Γ).slots) (κ : Mem) (y0 : Int32) : JP Γ (qf Γ (oI κ)) (pX10_noPlayer_20 κ y0) κ 20 [] [.int y0] := by
  unfold pX10_noPlayer_20
  refine j_ckP (fun hq1 => ?_)
  exact j_iret hC (pc := 20) dX10_noPlayer_20 rfl (isB_n hq1) rfl
set_option maxRecDepth 20000 in
theorem wX10_noPlayer_15 {Γ : JCtx} (hC : jC Γ cX10_noPlayer 2 RX10 (some .boolean) layX 147) (hR : gR Γ = rmH 0) (hm : gcells Γ ≤ (gR Γ).cells ∧ gslots Γ ≤ (gR Γ).slots) (κ : Mem) : JP Γ (qf Γ (oI κ)) (pX10_noPlayer_15 κ) κ 15 [] [] := by
  unfold pX10_noPlayer_15
  refine j_iconst hC (pc := 15) dX10_noPlayer_15 ki_1 ?_
  refine j_goto hC (pc := 16) dX10_noPlayer_16 (tgt := 20) rfl ?_
  exact wX10_noPlayer_20 hC hR hm κ 1
set_option maxRecDepth 20000 in
theorem wX10_noPlayer {Γ : JCtx} (hC : jC Γ cX10_noPlayer 2 RX10 (some .boolean) layX 147) (hR : gR Γ = rmH 0) (hm : gcells Γ ≤ (gR Γ).cells ∧ gslots Γ ≤ (gR Γ).slots) (κ : Mem) (v1 : Int32) : JP Γ (qf Γ (oI κ)) (pX10_noPlayer κ v1) κ 0 [(0, .ref (gad Γ 0)), (1, .int v1)] [] := by
  unfold pX10_noPlayer
  refine j_iload_n hC (pc := 0) dX10_noPlayer_0 1 rfl rfl ?_
  refine j_if_lt hC (pc := 1) dX10_noPlayer_1 (tgt := 15) rfl ?_ ?_
  · refine j_sub [] (loc' := []) rfl ?_
    exact wX10_noPlayer_15 hC hR hm κ
  · refine j_iload_n hC (pc := 4) dX10_noPlayer_4 1 rfl rfl ?_
    refine j_aload_n hC (pc := 5) dX10_noPlayer_5 0 rfl rfl ?_
    refine j_getR hC (pc := 6) dX10_noPlayer_6 kf_RX10_10 lX_0 (Nat.le_of_ble_eq_true rfl) rfl ?_
    refine j_getI hC (pc := 9) dX10_noPlayer_9 kf_RX10_129 lX_1 (Nat.le_of_ble_eq_true rfl) rfl ?_
    refine j_icmp_lt hC (pc := 12) dX10_noPlayer_12 (tgt := 19) rfl ?_ ?_
    · refine j_iconst hC (pc := 19) dX10_noPlayer_19 ki_0 ?_
      refine j_sub [] (loc' := []) rfl ?_
      exact wX10_noPlayer_20 hC hR hm κ 0
    · refine j_sub [] (loc' := []) rfl ?_
      exact wX10_noPlayer_15 hC hR hm κ
theorem ctX10_noPlayer {Δ : DCtx} {l : Launch} (hl : dlay Δ = layX) (hN : dN Δ = 147) (κ : Mem) (v1 : Int32) : ∀ r, pX10_noPlayer κ v1 = some r → CT Δ l yX10_noPlayer cX10_noPlayer 2 (some .boolean) (rmH 0) [.ref (dad Δ 0), .int v1] κ (some (.int r)) κ :=
  ct_of (nL := 2) (ret := (some .boolean)) (lay := layX) (N := 147) (by decide +kernel) (fun Δ => [.ref (dad Δ 0), .int v1]) (fun _ => oI κ) (fun _ => (Nat.le_of_ble_eq_true rfl)) (fun Γ hR hm hC => wX10_noPlayer hC hR hm κ v1) Δ l hl hN
set_option maxRecDepth 20000 in
theorem wX10_player_9 {Γ : JCtx} (hC : jC Γ cX10_player 3 RX10 (some .int) layX 147) (hR : gR Γ = rmH 2) (hm : gcells Γ ≤ (gR Γ).cells ∧ gslots Γ ≤ (gR Γ).slots) (F : Nat) (κ : Mem) : JP Γ (qf Γ oE) (pX10_player_9 F κ) κ 9 [(0, .ref (gad Γ 0))] [] := by
  unfold pX10_player_9
  refine j_aload_n hC (pc := 9) dX10_player_9 0 rfl rfl ?_
  refine j_iconst hC (pc := 10) dX10_player_10 ki_1 ?_
  refine j_callV_E hC hR (ctX10_refuse hC.l hC.cn κ 1) kc_RX10_105 (Nat.le_of_ble_eq_true rfl) (Nat.le_of_ble_eq_true rfl) lX_0 (Nat.le_of_ble_eq_true rfl) rfl (As := [.int 1]) (rest := []) rfl rfl (Nat.le_of_ble_eq_true rfl) hm (pc := 11) dX10_player_11 (fun t1 => ?_)
  exact j_iret hC (pc := 14) dX10_player_14 rfl rfl rfl
set_option maxRecDepth 20000 in
theorem wX10_player {Γ : JCtx} (hC : jC Γ cX10_player 3 RX10 (some .int) layX 147) (hR : gR Γ = rmH 2) (hm : gcells Γ ≤ (gR Γ).cells ∧ gslots Γ ≤ (gR Γ).slots) (F : Nat) (κ : Mem) (v1 : Int32) (v2 : Int32) : JP Γ (qf Γ oE) (pX10_player F κ v1 v2) κ 0 [(0, .ref (gad Γ 0)), (1, .int v1), (2, .int v2)] [] := by
  unfold pX10_player
  refine j_iload_n hC (pc := 0) dX10_player_0 2 rfl rfl ?_
  refine j_if_lt hC (pc := 1) dX10_player_1 (tgt := 9) rfl ?_ ?_
  · refine j_sub [0] (loc' := [(0, .ref (gad Γ 0))]) rfl ?_
    exact wX10_player_9 hC hR hm F κ
  · refine j_iload_n hC (pc := 4) dX10_player_4 2 rfl rfl ?_
    refine j_iconst hC (pc := 5) dX10_player_5 ki_3 ?_
    refine j_icmp_le hC (pc := 6) dX10_player_6 (tgt := 15) rfl ?_ ?_
    · refine j_aload_n hC (pc := 15) dX10_player_15 0 rfl rfl ?_
      refine j_iload_n hC (pc := 16) dX10_player_16 1 rfl rfl ?_
      refine j_callV_I hC hR (ctX10_noPlayer hC.l hC.cn κ v1) kc_RX10_152 (Nat.le_of_ble_eq_true rfl) (Nat.le_of_ble_eq_true rfl) lX_0 (Nat.le_of_ble_eq_true rfl) rfl (As := [.int v1]) (rest := []) rfl rfl (Nat.le_of_ble_eq_true rfl) hm (pc := 17) dX10_player_17 (fun t2 => ?_)
      refine j_if_eq hC (pc := 20) dX10_player_20 (tgt := 29) rfl ?_ ?_
      · refine j_iload_n hC (pc := 29) dX10_player_29 2 rfl rfl ?_
        refine j_ite (fun hs9 => ?_) (fun hs9 => ?_)
        · refine j_tin hC (pc := 30) dX10_player_30 0 (by rw [hs9]; rfl) (by decide) (by decide) (off := 26) (tgt := 56) rfl rfl ?_
          refine j_aload_n hC (pc := 56) dX10_player_56 0 rfl rfl ?_
          refine j_aload_n hC (pc := 57) dX10_player_57 0 rfl rfl ?_
          refine j_getR hC (pc := 58) dX10_player_58 kf_RX10_10 lX_0 (Nat.le_of_ble_eq_true rfl) rfl ?_
          refine j_getR hC (pc := 61) dX10_player_61 kf_RX10_155 lX_1 (Nat.le_of_ble_eq_true rfl) rfl ?_
          refine j_iload_n hC (pc := 64) dX10_player_64 1 rfl rfl ?_
          refine j_iald hC (pc := 65) dX10_player_65 lX_2 (Nat.le_of_ble_eq_true rfl) ?_
          refine j_callV_E hC hR (ctX10_give hC.l hC.cn κ (mi κ 2 v1.toNatClampNeg)) kc_RX10_132 (Nat.le_of_ble_eq_true rfl) (Nat.le_of_ble_eq_true rfl) lX_0 (Nat.le_of_ble_eq_true rfl) rfl (As := [.int (mi κ 2 v1.toNatClampNeg)]) (rest := []) rfl rfl (Nat.le_of_ble_eq_true rfl) hm (pc := 66) dX10_player_66 (fun t3 => ?_)
          exact j_iret hC (pc := 69) dX10_player_69 rfl rfl rfl
        refine j_ite (fun hs10 => ?_) (fun hs10 => ?_)
        · refine j_tin hC (pc := 30) dX10_player_30 1 (by rw [hs10]; rfl) (by decide) (by decide) (off := 40) (tgt := 70) rfl rfl ?_
          refine j_aload_n hC (pc := 70) dX10_player_70 0 rfl rfl ?_
          refine j_aload_n hC (pc := 71) dX10_player_71 0 rfl rfl ?_
          refine j_getR hC (pc := 72) dX10_player_72 kf_RX10_10 lX_0 (Nat.le_of_ble_eq_true rfl) rfl ?_
          refine j_getR hC (pc := 75) dX10_player_75 kf_RX10_159 lX_1 (Nat.le_of_ble_eq_true rfl) rfl ?_
          refine j_iload_n hC (pc := 78) dX10_player_78 1 rfl rfl ?_
          refine j_iald hC (pc := 79) dX10_player_79 lX_3 (Nat.le_of_ble_eq_true rfl) ?_
          refine j_callV_E hC hR (ctX10_give hC.l hC.cn κ (mi κ 3 v1.toNatClampNeg)) kc_RX10_132 (Nat.le_of_ble_eq_true rfl) (Nat.le_of_ble_eq_true rfl) lX_0 (Nat.le_of_ble_eq_true rfl) rfl (As := [.int (mi κ 3 v1.toNatClampNeg)]) (rest := []) rfl rfl (Nat.le_of_ble_eq_true rfl) hm (pc := 80) dX10_player_80 (fun t4 => ?_)
          exact j_iret hC (pc := 83) dX10_player_83 rfl rfl rfl
        refine j_ite (fun hs11 => ?_) (fun hs11 => ?_)
        · refine j_tin hC (pc := 30) dX10_player_30 2 (by rw [hs11]; rfl) (by decide) (by decide) (off := 54) (tgt := 84) rfl rfl ?_
          refine j_aload_n hC (pc := 84) dX10_player_84 0 rfl rfl ?_
          refine j_aload_n hC (pc := 85) dX10_player_85 0 rfl rfl ?_
          refine j_getR hC (pc := 86) dX10_player_86 kf_RX10_10 lX_0 (Nat.le_of_ble_eq_true rfl) rfl ?_
          refine j_iload_n hC (pc := 89) dX10_player_89 1 rfl rfl ?_
          refine j_callV_I hC hR (ctX2_seenBy hC.l hC.cn 1 isG_1 F κ v1) kc_RX10_162 (Nat.le_of_ble_eq_true rfl) (Nat.le_of_ble_eq_true rfl) lX_1 (Nat.le_of_ble_eq_true rfl) rfl (As := [.int v1]) (rest := [.ref (gad Γ 0)]) rfl rfl (Nat.le_of_ble_eq_true rfl) hm (pc := 90) dX10_player_90 (fun t5 => ?_)
          refine j_callV_E hC hR (ctX10_give hC.l hC.cn κ t5) kc_RX10_132 (Nat.le_of_ble_eq_true rfl) (Nat.le_of_ble_eq_true rfl) lX_0 (Nat.le_of_ble_eq_true rfl) rfl (As := [.int t5]) (rest := []) rfl rfl (Nat.le_of_ble_eq_true rfl) hm (pc := 93) dX10_player_93 (fun t6 => ?_)
          exact j_iret hC (pc := 96) dX10_player_96 rfl rfl rfl
        refine j_tout hC (pc := 30) dX10_player_30 ?_ (tgt := 97) rfl ?_
        · have e0 : ¬ Int32.toInt v2 = 0 := fun z => hs9 (Int32.toInt_inj.mp (z.trans ti_0.symm))
          have e1 : ¬ Int32.toInt v2 = 1 := fun z => hs10 (Int32.toInt_inj.mp (z.trans ti_1.symm))
          have e2 : ¬ Int32.toInt v2 = 2 := fun z => hs11 (Int32.toInt_inj.mp (z.trans ti_2.symm))
          omega
        · refine j_aload_n hC (pc := 97) dX10_player_97 0 rfl rfl ?_
          refine j_aload_n hC (pc := 98) dX10_player_98 0 rfl rfl ?_
          refine j_getR hC (pc := 99) dX10_player_99 kf_RX10_10 lX_0 (Nat.le_of_ble_eq_true rfl) rfl ?_
          refine j_iload_n hC (pc := 102) dX10_player_102 1 rfl rfl ?_
          refine j_callV_I hC hR (ctX2_situations hC.l hC.cn 1 isG_1 F κ v1) kc_RX10_165 (Nat.le_of_ble_eq_true rfl) (Nat.le_of_ble_eq_true rfl) lX_1 (Nat.le_of_ble_eq_true rfl) rfl (As := [.int v1]) (rest := [.ref (gad Γ 0)]) rfl rfl (Nat.le_of_ble_eq_true rfl) hm (pc := 103) dX10_player_103 (fun t7 => ?_)
          refine j_callV_E hC hR (ctX10_give hC.l hC.cn κ t7) kc_RX10_132 (Nat.le_of_ble_eq_true rfl) (Nat.le_of_ble_eq_true rfl) lX_0 (Nat.le_of_ble_eq_true rfl) rfl (As := [.int t7]) (rest := []) rfl rfl (Nat.le_of_ble_eq_true rfl) hm (pc := 106) dX10_player_106 (fun t8 => ?_)
          exact j_iret hC (pc := 109) dX10_player_109 rfl rfl rfl
      · refine j_aload_n hC (pc := 23) dX10_player_23 0 rfl rfl ?_
        refine j_iconst hC (pc := 24) dX10_player_24 ki_2 ?_
        refine j_callV_E hC hR (ctX10_refuse hC.l hC.cn κ 2) kc_RX10_105 (Nat.le_of_ble_eq_true rfl) (Nat.le_of_ble_eq_true rfl) lX_0 (Nat.le_of_ble_eq_true rfl) rfl (As := [.int 2]) (rest := []) rfl rfl (Nat.le_of_ble_eq_true rfl) hm (pc := 25) dX10_player_25 (fun t12 => ?_)
        exact j_iret hC (pc := 28) dX10_player_28 rfl rfl rfl
    · refine j_sub [0] (loc' := [(0, .ref (gad Γ 0))]) rfl ?_
      exact wX10_player_9 hC hR hm F κ
theorem ctX10_player {Δ : DCtx} {l : Launch} (hl : dlay Δ = layX) (hN : dN Δ = 147) (F : Nat) (κ : Mem) (v1 : Int32) (v2 : Int32) : ∀ r, pX10_player F κ v1 v2 = some r → CT Δ l yX10_player cX10_player 3 (some .int) (rmH 2) [.ref (dad Δ 0), .int v1, .int v2] κ (some (.int r.1)) r.2 :=
  ct_of (nL := 3) (ret := (some .int)) (lay := layX) (N := 147) (by decide +kernel) (fun Δ => [.ref (dad Δ 0), .int v1, .int v2]) (fun _ => oE) (fun _ => (Nat.le_of_ble_eq_true rfl)) (fun Γ hR hm hC => wX10_player hC hR hm F κ v1 v2) Δ l hl hN
set_option maxRecDepth 20000 in
theorem wX10_noSituation_29 {Γ : JCtx} (hC : jC Γ cX10_noSituation 3 RX10 (some .boolean) layX 147) (hR : gR Γ = rmH 2) (hm : gcells Γ ≤ (gR Γ).cells ∧ gslots Γ ≤ (gR Γ).slots) (F : Nat) (κ : Mem) (y0 : Int32) : JP Γ (qf Γ (oI κ)) (pX10_noSituation_29 F κ y0) κ 29 [] [.int y0] := by
  unfold pX10_noSituation_29
  refine j_ckP (fun hq2 => ?_)
  exact j_iret hC (pc := 29) dX10_noSituation_29 rfl (isB_n hq2) rfl
set_option maxRecDepth 20000 in
theorem wX10_noSituation_24 {Γ : JCtx} (hC : jC Γ cX10_noSituation 3 RX10 (some .boolean) layX 147) (hR : gR Γ = rmH 2) (hm : gcells Γ ≤ (gR Γ).cells ∧ gslots Γ ≤ (gR Γ).slots) (F : Nat) (κ : Mem) : JP Γ (qf Γ (oI κ)) (pX10_noSituation_24 F κ) κ 24 [] [] := by
  unfold pX10_noSituation_24
  refine j_iconst hC (pc := 24) dX10_noSituation_24 ki_1 ?_
  refine j_goto hC (pc := 25) dX10_noSituation_25 (tgt := 29) rfl ?_
  exact wX10_noSituation_29 hC hR hm F κ 1
set_option maxRecDepth 20000 in
theorem wX10_noSituation {Γ : JCtx} (hC : jC Γ cX10_noSituation 3 RX10 (some .boolean) layX 147) (hR : gR Γ = rmH 2) (hm : gcells Γ ≤ (gR Γ).cells ∧ gslots Γ ≤ (gR Γ).slots) (F : Nat) (κ : Mem) (v1 : Int32) (v2 : Int32) : JP Γ (qf Γ (oI κ)) (pX10_noSituation F κ v1 v2) κ 0 [(0, .ref (gad Γ 0)), (1, .int v1), (2, .int v2)] [] := by
  unfold pX10_noSituation
  refine j_aload_n hC (pc := 0) dX10_noSituation_0 0 rfl rfl ?_
  refine j_iload_n hC (pc := 1) dX10_noSituation_1 1 rfl rfl ?_
  refine j_callV_I hC hR (ctX10_noPlayer hC.l hC.cn κ v1) kc_RX10_152 (Nat.le_of_ble_eq_true rfl) (Nat.le_of_ble_eq_true rfl) lX_0 (Nat.le_of_ble_eq_true rfl) rfl (As := [.int v1]) (rest := []) rfl rfl (Nat.le_of_ble_eq_true rfl) hm (pc := 2) dX10_noSituation_2 (fun t1 => ?_)
  refine j_if_ne hC (pc := 5) dX10_noSituation_5 (tgt := 24) rfl ?_ ?_
  · refine j_iload_n hC (pc := 8) dX10_noSituation_8 2 rfl rfl ?_
    refine j_if_lt hC (pc := 9) dX10_noSituation_9 (tgt := 24) rfl ?_ ?_
    · refine j_sub [] (loc' := []) rfl ?_
      exact wX10_noSituation_24 hC hR hm F κ
    · refine j_iload_n hC (pc := 12) dX10_noSituation_12 2 rfl rfl ?_
      refine j_aload_n hC (pc := 13) dX10_noSituation_13 0 rfl rfl ?_
      refine j_getR hC (pc := 14) dX10_noSituation_14 kf_RX10_10 lX_0 (Nat.le_of_ble_eq_true rfl) rfl ?_
      refine j_iload_n hC (pc := 17) dX10_noSituation_17 1 rfl rfl ?_
      refine j_callV_I hC hR (ctX2_situations hC.l hC.cn 1 isG_1 F κ v1) kc_RX10_165 (Nat.le_of_ble_eq_true rfl) (Nat.le_of_ble_eq_true rfl) lX_1 (Nat.le_of_ble_eq_true rfl) rfl (As := [.int v1]) (rest := [.int v2]) rfl rfl (Nat.le_of_ble_eq_true rfl) hm (pc := 18) dX10_noSituation_18 (fun t3 => ?_)
      refine j_icmp_lt hC (pc := 21) dX10_noSituation_21 (tgt := 28) rfl ?_ ?_
      · refine j_iconst hC (pc := 28) dX10_noSituation_28 ki_0 ?_
        refine j_sub [] (loc' := []) rfl ?_
        exact wX10_noSituation_29 hC hR hm F κ 0
      · refine j_sub [] (loc' := []) rfl ?_
        exact wX10_noSituation_24 hC hR hm F κ
  · refine j_sub [] (loc' := []) rfl ?_
    exact wX10_noSituation_24 hC hR hm F κ
theorem ctX10_noSituation {Δ : DCtx} {l : Launch} (hl : dlay Δ = layX) (hN : dN Δ = 147) (F : Nat) (κ : Mem) (v1 : Int32) (v2 : Int32) : ∀ r, pX10_noSituation F κ v1 v2 = some r → CT Δ l yX10_noSituation cX10_noSituation 3 (some .boolean) (rmH 2) [.ref (dad Δ 0), .int v1, .int v2] κ (some (.int r)) κ :=
  ct_of (nL := 3) (ret := (some .boolean)) (lay := layX) (N := 147) (by decide +kernel) (fun Δ => [.ref (dad Δ 0), .int v1, .int v2]) (fun _ => oI κ) (fun _ => (Nat.le_of_ble_eq_true rfl)) (fun Γ hR hm hC => wX10_noSituation hC hR hm F κ v1 v2) Δ l hl hN
set_option maxRecDepth 20000 in
theorem wX10_guess_30 {Γ : JCtx} (hC : jC Γ cX10_guess 3 RX10 (some .int) layX 147) (hR : gR Γ = rmH 3) (hm : gcells Γ ≤ (gR Γ).cells ∧ gslots Γ ≤ (gR Γ).slots) (F : Nat) (κ : Mem) (y0 : Int32) : JP Γ (qf Γ oE) (pX10_guess_30 F κ y0) κ 30 [] [.int y0] := by
  unfold pX10_guess_30
  exact j_iret hC (pc := 30) dX10_guess_30 rfl rfl rfl
set_option maxRecDepth 20000 in
theorem wX10_guess {Γ : JCtx} (hC : jC Γ cX10_guess 3 RX10 (some .int) layX 147) (hR : gR Γ = rmH 3) (hm : gcells Γ ≤ (gR Γ).cells ∧ gslots Γ ≤ (gR Γ).slots) (F : Nat) (κ : Mem) (v1 : Int32) (v2 : Int32) : JP Γ (qf Γ oE) (pX10_guess F κ v1 v2) κ 0 [(0, .ref (gad Γ 0)), (1, .int v1), (2, .int v2)] [] := by
  unfold pX10_guess
  refine j_aload_n hC (pc := 0) dX10_guess_0 0 rfl rfl ?_
  refine j_iload_n hC (pc := 1) dX10_guess_1 1 rfl rfl ?_
  refine j_iload_n hC (pc := 2) dX10_guess_2 2 rfl rfl ?_
  refine j_callV_I hC hR (ctX10_noSituation hC.l hC.cn F κ v1 v2) kc_RX10_168 (Nat.le_of_ble_eq_true rfl) (Nat.le_of_ble_eq_true rfl) lX_0 (Nat.le_of_ble_eq_true rfl) rfl (As := [.int v1, .int v2]) (rest := []) rfl rfl (Nat.le_of_ble_eq_true rfl) hm (pc := 3) dX10_guess_3 (fun t1 => ?_)
  refine j_if_eq hC (pc := 6) dX10_guess_6 (tgt := 17) rfl ?_ ?_
  · refine j_aload_n hC (pc := 17) dX10_guess_17 0 rfl rfl ?_
    refine j_aload_n hC (pc := 18) dX10_guess_18 0 rfl rfl ?_
    refine j_getR hC (pc := 19) dX10_guess_19 kf_RX10_10 lX_0 (Nat.le_of_ble_eq_true rfl) rfl ?_
    refine j_iload_n hC (pc := 22) dX10_guess_22 1 rfl rfl ?_
    refine j_iload_n hC (pc := 23) dX10_guess_23 2 rfl rfl ?_
    refine j_callV_I hC hR (ctX2_told hC.l hC.cn 1 isG_1 κ v1 v2) kc_RX10_172 (Nat.le_of_ble_eq_true rfl) (Nat.le_of_ble_eq_true rfl) lX_1 (Nat.le_of_ble_eq_true rfl) rfl (As := [.int v1, .int v2]) (rest := [.ref (gad Γ 0)]) rfl rfl (Nat.le_of_ble_eq_true rfl) hm (pc := 24) dX10_guess_24 (fun t2 => ?_)
    refine j_callV_E hC hR (ctX10_give hC.l hC.cn κ t2) kc_RX10_132 (Nat.le_of_ble_eq_true rfl) (Nat.le_of_ble_eq_true rfl) lX_0 (Nat.le_of_ble_eq_true rfl) rfl (As := [.int t2]) (rest := []) rfl rfl (Nat.le_of_ble_eq_true rfl) hm (pc := 27) dX10_guess_27 (fun t3 => ?_)
    refine j_sub [] (loc' := []) rfl ?_
    exact wX10_guess_30 hC hR hm F t3.2 t3.1
  · refine j_aload_n hC (pc := 9) dX10_guess_9 0 rfl rfl ?_
    refine j_iconst hC (pc := 10) dX10_guess_10 ki_2 ?_
    refine j_callV_E hC hR (ctX10_refuse hC.l hC.cn κ 2) kc_RX10_105 (Nat.le_of_ble_eq_true rfl) (Nat.le_of_ble_eq_true rfl) lX_0 (Nat.le_of_ble_eq_true rfl) rfl (As := [.int 2]) (rest := []) rfl rfl (Nat.le_of_ble_eq_true rfl) hm (pc := 11) dX10_guess_11 (fun t4 => ?_)
    refine j_goto hC (pc := 14) dX10_guess_14 (tgt := 30) rfl ?_
    refine j_sub [] (loc' := []) rfl ?_
    exact wX10_guess_30 hC hR hm F t4.2 t4.1
theorem ctX10_guess {Δ : DCtx} {l : Launch} (hl : dlay Δ = layX) (hN : dN Δ = 147) (F : Nat) (κ : Mem) (v1 : Int32) (v2 : Int32) : ∀ r, pX10_guess F κ v1 v2 = some r → CT Δ l yX10_guess cX10_guess 3 (some .int) (rmH 3) [.ref (dad Δ 0), .int v1, .int v2] κ (some (.int r.1)) r.2 :=
  ct_of (nL := 3) (ret := (some .int)) (lay := layX) (N := 147) (by decide +kernel) (fun Δ => [.ref (dad Δ 0), .int v1, .int v2]) (fun _ => oE) (fun _ => (Nat.le_of_ble_eq_true rfl)) (fun Γ hR hm hC => wX10_guess hC hR hm F κ v1 v2) Δ l hl hN
set_option maxRecDepth 20000 in
theorem wX10_noColouring_20 {Γ : JCtx} (hC : jC Γ cX10_noColouring 2 RX10 (some .boolean) layX 147) (hR : gR Γ = rmH 0) (hm : gcells Γ ≤ (gR Γ).cells ∧ gslots Γ ≤ (gR Γ).slots) (κ : Mem) (y0 : Int32) : JP Γ (qf Γ (oI κ)) (pX10_noColouring_20 κ y0) κ 20 [] [.int y0] := by
  unfold pX10_noColouring_20
  refine j_ckP (fun hq1 => ?_)
  exact j_iret hC (pc := 20) dX10_noColouring_20 rfl (isB_n hq1) rfl
set_option maxRecDepth 20000 in
theorem wX10_noColouring_15 {Γ : JCtx} (hC : jC Γ cX10_noColouring 2 RX10 (some .boolean) layX 147) (hR : gR Γ = rmH 0) (hm : gcells Γ ≤ (gR Γ).cells ∧ gslots Γ ≤ (gR Γ).slots) (κ : Mem) : JP Γ (qf Γ (oI κ)) (pX10_noColouring_15 κ) κ 15 [] [] := by
  unfold pX10_noColouring_15
  refine j_iconst hC (pc := 15) dX10_noColouring_15 ki_1 ?_
  refine j_goto hC (pc := 16) dX10_noColouring_16 (tgt := 20) rfl ?_
  exact wX10_noColouring_20 hC hR hm κ 1
set_option maxRecDepth 20000 in
theorem wX10_noColouring {Γ : JCtx} (hC : jC Γ cX10_noColouring 2 RX10 (some .boolean) layX 147) (hR : gR Γ = rmH 0) (hm : gcells Γ ≤ (gR Γ).cells ∧ gslots Γ ≤ (gR Γ).slots) (κ : Mem) (v1 : Int32) : JP Γ (qf Γ (oI κ)) (pX10_noColouring κ v1) κ 0 [(0, .ref (gad Γ 0)), (1, .int v1)] [] := by
  unfold pX10_noColouring
  refine j_iload_n hC (pc := 0) dX10_noColouring_0 1 rfl rfl ?_
  refine j_if_lt hC (pc := 1) dX10_noColouring_1 (tgt := 15) rfl ?_ ?_
  · refine j_sub [] (loc' := []) rfl ?_
    exact wX10_noColouring_15 hC hR hm κ
  · refine j_iload_n hC (pc := 4) dX10_noColouring_4 1 rfl rfl ?_
    refine j_aload_n hC (pc := 5) dX10_noColouring_5 0 rfl rfl ?_
    refine j_getR hC (pc := 6) dX10_noColouring_6 kf_RX10_21 lX_0 (Nat.le_of_ble_eq_true rfl) rfl ?_
    refine j_getI hC (pc := 9) dX10_noColouring_9 kf_RX10_135 lX_41 (Nat.le_of_ble_eq_true rfl) rfl ?_
    refine j_icmp_lt hC (pc := 12) dX10_noColouring_12 (tgt := 19) rfl ?_ ?_
    · refine j_iconst hC (pc := 19) dX10_noColouring_19 ki_0 ?_
      refine j_sub [] (loc' := []) rfl ?_
      exact wX10_noColouring_20 hC hR hm κ 0
    · refine j_sub [] (loc' := []) rfl ?_
      exact wX10_noColouring_15 hC hR hm κ
theorem ctX10_noColouring {Δ : DCtx} {l : Launch} (hl : dlay Δ = layX) (hN : dN Δ = 147) (κ : Mem) (v1 : Int32) : ∀ r, pX10_noColouring κ v1 = some r → CT Δ l yX10_noColouring cX10_noColouring 2 (some .boolean) (rmH 0) [.ref (dad Δ 0), .int v1] κ (some (.int r)) κ :=
  ct_of (nL := 2) (ret := (some .boolean)) (lay := layX) (N := 147) (by decide +kernel) (fun Δ => [.ref (dad Δ 0), .int v1]) (fun _ => oI κ) (fun _ => (Nat.le_of_ble_eq_true rfl)) (fun Γ hR hm hC => wX10_noColouring hC hR hm κ v1) Δ l hl hN
set_option maxRecDepth 20000 in
theorem wX10_situation_16 {Γ : JCtx} (hC : jC Γ cX10_situation 3 RX10 (some .int) layX 147) (hR : gR Γ = rmH 1) (hm : gcells Γ ≤ (gR Γ).cells ∧ gslots Γ ≤ (gR Γ).slots) (κ : Mem) : JP Γ (qf Γ oE) (pX10_situation_16 κ) κ 16 [(0, .ref (gad Γ 0))] [] := by
  unfold pX10_situation_16
  refine j_aload_n hC (pc := 16) dX10_situation_16 0 rfl rfl ?_
  refine j_iconst hC (pc := 17) dX10_situation_17 ki_2 ?_
  refine j_callV_E hC hR (ctX10_refuse hC.l hC.cn κ 2) kc_RX10_105 (Nat.le_of_ble_eq_true rfl) (Nat.le_of_ble_eq_true rfl) lX_0 (Nat.le_of_ble_eq_true rfl) rfl (As := [.int 2]) (rest := []) rfl rfl (Nat.le_of_ble_eq_true rfl) hm (pc := 18) dX10_situation_18 (fun t5 => ?_)
  exact j_iret hC (pc := 21) dX10_situation_21 rfl rfl rfl
set_option maxRecDepth 20000 in
theorem wX10_situation {Γ : JCtx} (hC : jC Γ cX10_situation 3 RX10 (some .int) layX 147) (hR : gR Γ = rmH 1) (hm : gcells Γ ≤ (gR Γ).cells ∧ gslots Γ ≤ (gR Γ).slots) (κ : Mem) (v1 : Int32) (v2 : Int32) : JP Γ (qf Γ oE) (pX10_situation κ v1 v2) κ 0 [(0, .ref (gad Γ 0)), (1, .int v1), (2, .int v2)] [] := by
  unfold pX10_situation
  refine j_aload_n hC (pc := 0) dX10_situation_0 0 rfl rfl ?_
  refine j_iload_n hC (pc := 1) dX10_situation_1 1 rfl rfl ?_
  refine j_callV_I hC hR (ctX10_noPlayer hC.l hC.cn κ v1) kc_RX10_152 (Nat.le_of_ble_eq_true rfl) (Nat.le_of_ble_eq_true rfl) lX_0 (Nat.le_of_ble_eq_true rfl) rfl (As := [.int v1]) (rest := []) rfl rfl (Nat.le_of_ble_eq_true rfl) hm (pc := 2) dX10_situation_2 (fun t1 => ?_)
  refine j_if_ne hC (pc := 5) dX10_situation_5 (tgt := 16) rfl ?_ ?_
  · refine j_aload_n hC (pc := 8) dX10_situation_8 0 rfl rfl ?_
    refine j_iload_n hC (pc := 9) dX10_situation_9 2 rfl rfl ?_
    refine j_callV_I hC hR (ctX10_noColouring hC.l hC.cn κ v2) kc_RX10_176 (Nat.le_of_ble_eq_true rfl) (Nat.le_of_ble_eq_true rfl) lX_0 (Nat.le_of_ble_eq_true rfl) rfl (As := [.int v2]) (rest := []) rfl rfl (Nat.le_of_ble_eq_true rfl) hm (pc := 10) dX10_situation_10 (fun t2 => ?_)
    refine j_if_eq hC (pc := 13) dX10_situation_13 (tgt := 22) rfl ?_ ?_
    · refine j_aload_n hC (pc := 22) dX10_situation_22 0 rfl rfl ?_
      refine j_aload_n hC (pc := 23) dX10_situation_23 0 rfl rfl ?_
      refine j_getR hC (pc := 24) dX10_situation_24 kf_RX10_21 lX_0 (Nat.le_of_ble_eq_true rfl) rfl ?_
      refine j_iload_n hC (pc := 27) dX10_situation_27 1 rfl rfl ?_
      refine j_iload_n hC (pc := 28) dX10_situation_28 2 rfl rfl ?_
      refine j_callV_I hC hR (ctX1_situationOf hC.l hC.cn κ v1 v2) kc_RX10_179 (Nat.le_of_ble_eq_true rfl) (Nat.le_of_ble_eq_true rfl) lX_41 (Nat.le_of_ble_eq_true rfl) rfl (As := [.int v1, .int v2]) (rest := [.ref (gad Γ 0)]) rfl rfl (Nat.le_of_ble_eq_true rfl) hm (pc := 29) dX10_situation_29 (fun t3 => ?_)
      refine j_callV_E hC hR (ctX10_give hC.l hC.cn κ t3) kc_RX10_132 (Nat.le_of_ble_eq_true rfl) (Nat.le_of_ble_eq_true rfl) lX_0 (Nat.le_of_ble_eq_true rfl) rfl (As := [.int t3]) (rest := []) rfl rfl (Nat.le_of_ble_eq_true rfl) hm (pc := 32) dX10_situation_32 (fun t4 => ?_)
      exact j_iret hC (pc := 35) dX10_situation_35 rfl rfl rfl
    · refine j_sub [0] (loc' := [(0, .ref (gad Γ 0))]) rfl ?_
      exact wX10_situation_16 hC hR hm κ
  · refine j_sub [0] (loc' := [(0, .ref (gad Γ 0))]) rfl ?_
    exact wX10_situation_16 hC hR hm κ
theorem ctX10_situation {Δ : DCtx} {l : Launch} (hl : dlay Δ = layX) (hN : dN Δ = 147) (κ : Mem) (v1 : Int32) (v2 : Int32) : ∀ r, pX10_situation κ v1 v2 = some r → CT Δ l yX10_situation cX10_situation 3 (some .int) (rmH 1) [.ref (dad Δ 0), .int v1, .int v2] κ (some (.int r.1)) r.2 :=
  ct_of (nL := 3) (ret := (some .int)) (lay := layX) (N := 147) (by decide +kernel) (fun Δ => [.ref (dad Δ 0), .int v1, .int v2]) (fun _ => oE) (fun _ => (Nat.le_of_ble_eq_true rfl)) (fun Γ hR hm hC => wX10_situation hC hR hm κ v1 v2) Δ l hl hN
set_option maxRecDepth 20000 in
theorem wX10_colour_16 {Γ : JCtx} (hC : jC Γ cX10_colour 3 RX10 (some .int) layX 147) (hR : gR Γ = rmH 1) (hm : gcells Γ ≤ (gR Γ).cells ∧ gslots Γ ≤ (gR Γ).slots) (κ : Mem) : JP Γ (qf Γ oE) (pX10_colour_16 κ) κ 16 [(0, .ref (gad Γ 0))] [] := by
  unfold pX10_colour_16
  refine j_aload_n hC (pc := 16) dX10_colour_16 0 rfl rfl ?_
  refine j_iconst hC (pc := 17) dX10_colour_17 ki_2 ?_
  refine j_callV_E hC hR (ctX10_refuse hC.l hC.cn κ 2) kc_RX10_105 (Nat.le_of_ble_eq_true rfl) (Nat.le_of_ble_eq_true rfl) lX_0 (Nat.le_of_ble_eq_true rfl) rfl (As := [.int 2]) (rest := []) rfl rfl (Nat.le_of_ble_eq_true rfl) hm (pc := 18) dX10_colour_18 (fun t5 => ?_)
  exact j_iret hC (pc := 21) dX10_colour_21 rfl rfl rfl
set_option maxRecDepth 20000 in
theorem wX10_colour {Γ : JCtx} (hC : jC Γ cX10_colour 3 RX10 (some .int) layX 147) (hR : gR Γ = rmH 1) (hm : gcells Γ ≤ (gR Γ).cells ∧ gslots Γ ≤ (gR Γ).slots) (κ : Mem) (v1 : Int32) (v2 : Int32) : JP Γ (qf Γ oE) (pX10_colour κ v1 v2) κ 0 [(0, .ref (gad Γ 0)), (1, .int v1), (2, .int v2)] [] := by
  unfold pX10_colour
  refine j_aload_n hC (pc := 0) dX10_colour_0 0 rfl rfl ?_
  refine j_iload_n hC (pc := 1) dX10_colour_1 1 rfl rfl ?_
  refine j_callV_I hC hR (ctX10_noPlayer hC.l hC.cn κ v1) kc_RX10_152 (Nat.le_of_ble_eq_true rfl) (Nat.le_of_ble_eq_true rfl) lX_0 (Nat.le_of_ble_eq_true rfl) rfl (As := [.int v1]) (rest := []) rfl rfl (Nat.le_of_ble_eq_true rfl) hm (pc := 2) dX10_colour_2 (fun t1 => ?_)
  refine j_if_ne hC (pc := 5) dX10_colour_5 (tgt := 16) rfl ?_ ?_
  · refine j_aload_n hC (pc := 8) dX10_colour_8 0 rfl rfl ?_
    refine j_iload_n hC (pc := 9) dX10_colour_9 2 rfl rfl ?_
    refine j_callV_I hC hR (ctX10_noColouring hC.l hC.cn κ v2) kc_RX10_176 (Nat.le_of_ble_eq_true rfl) (Nat.le_of_ble_eq_true rfl) lX_0 (Nat.le_of_ble_eq_true rfl) rfl (As := [.int v2]) (rest := []) rfl rfl (Nat.le_of_ble_eq_true rfl) hm (pc := 10) dX10_colour_10 (fun t2 => ?_)
    refine j_if_eq hC (pc := 13) dX10_colour_13 (tgt := 22) rfl ?_ ?_
    · refine j_aload_n hC (pc := 22) dX10_colour_22 0 rfl rfl ?_
      refine j_aload_n hC (pc := 23) dX10_colour_23 0 rfl rfl ?_
      refine j_getR hC (pc := 24) dX10_colour_24 kf_RX10_21 lX_0 (Nat.le_of_ble_eq_true rfl) rfl ?_
      refine j_iload_n hC (pc := 27) dX10_colour_27 1 rfl rfl ?_
      refine j_iload_n hC (pc := 28) dX10_colour_28 2 rfl rfl ?_
      refine j_callV_I hC hR (ctX1_colourOf hC.l hC.cn κ v1 v2) kc_RX10_182 (Nat.le_of_ble_eq_true rfl) (Nat.le_of_ble_eq_true rfl) lX_41 (Nat.le_of_ble_eq_true rfl) rfl (As := [.int v1, .int v2]) (rest := [.ref (gad Γ 0)]) rfl rfl (Nat.le_of_ble_eq_true rfl) hm (pc := 29) dX10_colour_29 (fun t3 => ?_)
      refine j_callV_E hC hR (ctX10_give hC.l hC.cn κ t3) kc_RX10_132 (Nat.le_of_ble_eq_true rfl) (Nat.le_of_ble_eq_true rfl) lX_0 (Nat.le_of_ble_eq_true rfl) rfl (As := [.int t3]) (rest := []) rfl rfl (Nat.le_of_ble_eq_true rfl) hm (pc := 32) dX10_colour_32 (fun t4 => ?_)
      exact j_iret hC (pc := 35) dX10_colour_35 rfl rfl rfl
    · refine j_sub [0] (loc' := [(0, .ref (gad Γ 0))]) rfl ?_
      exact wX10_colour_16 hC hR hm κ
  · refine j_sub [0] (loc' := [(0, .ref (gad Γ 0))]) rfl ?_
    exact wX10_colour_16 hC hR hm κ
theorem ctX10_colour {Δ : DCtx} {l : Launch} (hl : dlay Δ = layX) (hN : dN Δ = 147) (κ : Mem) (v1 : Int32) (v2 : Int32) : ∀ r, pX10_colour κ v1 v2 = some r → CT Δ l yX10_colour cX10_colour 3 (some .int) (rmH 1) [.ref (dad Δ 0), .int v1, .int v2] κ (some (.int r.1)) r.2 :=
  ct_of (nL := 3) (ret := (some .int)) (lay := layX) (N := 147) (by decide +kernel) (fun Δ => [.ref (dad Δ 0), .int v1, .int v2]) (fun _ => oE) (fun _ => (Nat.le_of_ble_eq_true rfl)) (fun Γ hR hm hC => wX10_colour hC hR hm κ v1 v2) Δ l hl hN
set_option maxRecDepth 20000 in
theorem wX10_noColour_30 {Γ : JCtx} (hC : jC Γ cX10_noColour 3 RX10 (some .boolean) layX 147) (hR : gR Γ = rmH 1) (hm : gcells Γ ≤ (gR Γ).cells ∧ gslots Γ ≤ (gR Γ).slots) (κ : Mem) (y0 : Int32) : JP Γ (qf Γ (oI κ)) (pX10_noColour_30 κ y0) κ 30 [] [.int y0] := by
  unfold pX10_noColour_30
  refine j_ckP (fun hq2 => ?_)
  exact j_iret hC (pc := 30) dX10_noColour_30 rfl (isB_n hq2) rfl
set_option maxRecDepth 20000 in
theorem wX10_noColour_25 {Γ : JCtx} (hC : jC Γ cX10_noColour 3 RX10 (some .boolean) layX 147) (hR : gR Γ = rmH 1) (hm : gcells Γ ≤ (gR Γ).cells ∧ gslots Γ ≤ (gR Γ).slots) (κ : Mem) : JP Γ (qf Γ (oI κ)) (pX10_noColour_25 κ) κ 25 [] [] := by
  unfold pX10_noColour_25
  refine j_iconst hC (pc := 25) dX10_noColour_25 ki_1 ?_
  refine j_goto hC (pc := 26) dX10_noColour_26 (tgt := 30) rfl ?_
  exact wX10_noColour_30 hC hR hm κ 1
set_option maxRecDepth 20000 in
theorem wX10_noColour {Γ : JCtx} (hC : jC Γ cX10_noColour 3 RX10 (some .boolean) layX 147) (hR : gR Γ = rmH 1) (hm : gcells Γ ≤ (gR Γ).cells ∧ gslots Γ ≤ (gR Γ).slots) (κ : Mem) (v1 : Int32) (v2 : Int32) : JP Γ (qf Γ (oI κ)) (pX10_noColour κ v1 v2) κ 0 [(0, .ref (gad Γ 0)), (1, .int v1), (2, .int v2)] [] := by
  unfold pX10_noColour
  refine j_aload_n hC (pc := 0) dX10_noColour_0 0 rfl rfl ?_
  refine j_iload_n hC (pc := 1) dX10_noColour_1 1 rfl rfl ?_
  refine j_callV_I hC hR (ctX10_noPlayer hC.l hC.cn κ v1) kc_RX10_152 (Nat.le_of_ble_eq_true rfl) (Nat.le_of_ble_eq_true rfl) lX_0 (Nat.le_of_ble_eq_true rfl) rfl (As := [.int v1]) (rest := []) rfl rfl (Nat.le_of_ble_eq_true rfl) hm (pc := 2) dX10_noColour_2 (fun t1 => ?_)
  refine j_if_ne hC (pc := 5) dX10_noColour_5 (tgt := 25) rfl ?_ ?_
  · refine j_iload_n hC (pc := 8) dX10_noColour_8 2 rfl rfl ?_
    refine j_if_lt hC (pc := 9) dX10_noColour_9 (tgt := 25) rfl ?_ ?_
    · refine j_sub [] (loc' := []) rfl ?_
      exact wX10_noColour_25 hC hR hm κ
    · refine j_iload_n hC (pc := 12) dX10_noColour_12 2 rfl rfl ?_
      refine j_aload_n hC (pc := 13) dX10_noColour_13 0 rfl rfl ?_
      refine j_getR hC (pc := 14) dX10_noColour_14 kf_RX10_10 lX_0 (Nat.le_of_ble_eq_true rfl) rfl ?_
      refine j_getR hC (pc := 17) dX10_noColour_17 kf_RX10_155 lX_1 (Nat.le_of_ble_eq_true rfl) rfl ?_
      refine j_iload_n hC (pc := 20) dX10_noColour_20 1 rfl rfl ?_
      refine j_iald hC (pc := 21) dX10_noColour_21 lX_2 (Nat.le_of_ble_eq_true rfl) ?_
      refine j_icmp_lt hC (pc := 22) dX10_noColour_22 (tgt := 29) rfl ?_ ?_
      · refine j_iconst hC (pc := 29) dX10_noColour_29 ki_0 ?_
        refine j_sub [] (loc' := []) rfl ?_
        exact wX10_noColour_30 hC hR hm κ 0
      · refine j_sub [] (loc' := []) rfl ?_
        exact wX10_noColour_25 hC hR hm κ
  · refine j_sub [] (loc' := []) rfl ?_
    exact wX10_noColour_25 hC hR hm κ
theorem ctX10_noColour {Δ : DCtx} {l : Launch} (hl : dlay Δ = layX) (hN : dN Δ = 147) (κ : Mem) (v1 : Int32) (v2 : Int32) : ∀ r, pX10_noColour κ v1 v2 = some r → CT Δ l yX10_noColour cX10_noColour 3 (some .boolean) (rmH 1) [.ref (dad Δ 0), .int v1, .int v2] κ (some (.int r)) κ :=
  ct_of (nL := 3) (ret := (some .boolean)) (lay := layX) (N := 147) (by decide +kernel) (fun Δ => [.ref (dad Δ 0), .int v1, .int v2]) (fun _ => oI κ) (fun _ => (Nat.le_of_ble_eq_true rfl)) (fun Γ hR hm hC => wX10_noColour hC hR hm κ v1 v2) Δ l hl hN
set_option maxRecDepth 20000 in
theorem wX10_often_30 {Γ : JCtx} (hC : jC Γ cX10_often 3 RX10 (some .int) layX 147) (hR : gR Γ = rmH 3) (hm : gcells Γ ≤ (gR Γ).cells ∧ gslots Γ ≤ (gR Γ).slots) (F : Nat) (κ : Mem) (y0 : Int32) : JP Γ (qf Γ oE) (pX10_often_30 F κ y0) κ 30 [] [.int y0] := by
  unfold pX10_often_30
  exact j_iret hC (pc := 30) dX10_often_30 rfl rfl rfl
set_option maxRecDepth 20000 in
theorem wX10_often {Γ : JCtx} (hC : jC Γ cX10_often 3 RX10 (some .int) layX 147) (hR : gR Γ = rmH 3) (hm : gcells Γ ≤ (gR Γ).cells ∧ gslots Γ ≤ (gR Γ).slots) (F : Nat) (κ : Mem) (v1 : Int32) (v2 : Int32) : JP Γ (qf Γ oE) (pX10_often F κ v1 v2) κ 0 [(0, .ref (gad Γ 0)), (1, .int v1), (2, .int v2)] [] := by
  unfold pX10_often
  refine j_aload_n hC (pc := 0) dX10_often_0 0 rfl rfl ?_
  refine j_iload_n hC (pc := 1) dX10_often_1 1 rfl rfl ?_
  refine j_iload_n hC (pc := 2) dX10_often_2 2 rfl rfl ?_
  refine j_callV_I hC hR (ctX10_noColour hC.l hC.cn κ v1 v2) kc_RX10_185 (Nat.le_of_ble_eq_true rfl) (Nat.le_of_ble_eq_true rfl) lX_0 (Nat.le_of_ble_eq_true rfl) rfl (As := [.int v1, .int v2]) (rest := []) rfl rfl (Nat.le_of_ble_eq_true rfl) hm (pc := 3) dX10_often_3 (fun t1 => ?_)
  refine j_if_eq hC (pc := 6) dX10_often_6 (tgt := 17) rfl ?_ ?_
  · refine j_aload_n hC (pc := 17) dX10_often_17 0 rfl rfl ?_
    refine j_aload_n hC (pc := 18) dX10_often_18 0 rfl rfl ?_
    refine j_getR hC (pc := 19) dX10_often_19 kf_RX10_10 lX_0 (Nat.le_of_ble_eq_true rfl) rfl ?_
    refine j_iload_n hC (pc := 22) dX10_often_22 1 rfl rfl ?_
    refine j_iload_n hC (pc := 23) dX10_often_23 2 rfl rfl ?_
    refine j_callV_I hC hR (ctX2_timesTold hC.l hC.cn 1 isG_1 F κ v1 v2) kc_RX10_188 (Nat.le_of_ble_eq_true rfl) (Nat.le_of_ble_eq_true rfl) lX_1 (Nat.le_of_ble_eq_true rfl) rfl (As := [.int v1, .int v2]) (rest := [.ref (gad Γ 0)]) rfl rfl (Nat.le_of_ble_eq_true rfl) hm (pc := 24) dX10_often_24 (fun t2 => ?_)
    refine j_callV_E hC hR (ctX10_give hC.l hC.cn κ t2) kc_RX10_132 (Nat.le_of_ble_eq_true rfl) (Nat.le_of_ble_eq_true rfl) lX_0 (Nat.le_of_ble_eq_true rfl) rfl (As := [.int t2]) (rest := []) rfl rfl (Nat.le_of_ble_eq_true rfl) hm (pc := 27) dX10_often_27 (fun t3 => ?_)
    refine j_sub [] (loc' := []) rfl ?_
    exact wX10_often_30 hC hR hm F t3.2 t3.1
  · refine j_aload_n hC (pc := 9) dX10_often_9 0 rfl rfl ?_
    refine j_iconst hC (pc := 10) dX10_often_10 ki_2 ?_
    refine j_callV_E hC hR (ctX10_refuse hC.l hC.cn κ 2) kc_RX10_105 (Nat.le_of_ble_eq_true rfl) (Nat.le_of_ble_eq_true rfl) lX_0 (Nat.le_of_ble_eq_true rfl) rfl (As := [.int 2]) (rest := []) rfl rfl (Nat.le_of_ble_eq_true rfl) hm (pc := 11) dX10_often_11 (fun t4 => ?_)
    refine j_goto hC (pc := 14) dX10_often_14 (tgt := 30) rfl ?_
    refine j_sub [] (loc' := []) rfl ?_
    exact wX10_often_30 hC hR hm F t4.2 t4.1
theorem ctX10_often {Δ : DCtx} {l : Launch} (hl : dlay Δ = layX) (hN : dN Δ = 147) (F : Nat) (κ : Mem) (v1 : Int32) (v2 : Int32) : ∀ r, pX10_often F κ v1 v2 = some r → CT Δ l yX10_often cX10_often 3 (some .int) (rmH 3) [.ref (dad Δ 0), .int v1, .int v2] κ (some (.int r.1)) r.2 :=
  ct_of (nL := 3) (ret := (some .int)) (lay := layX) (N := 147) (by decide +kernel) (fun Δ => [.ref (dad Δ 0), .int v1, .int v2]) (fun _ => oE) (fun _ => (Nat.le_of_ble_eq_true rfl)) (fun Γ hR hm hC => wX10_often hC hR hm F κ v1 v2) Δ l hl hN
set_option maxRecDepth 20000 in
theorem wX10_pairTrouble_28 {Γ : JCtx} (hC : jC Γ cX10_pairTrouble 3 RX10 (some .int) layX 147) (hR : gR Γ = rmH 1) (hm : gcells Γ ≤ (gR Γ).cells ∧ gslots Γ ≤ (gR Γ).slots) (κ : Mem) (y0 : Int32) : JP Γ (qf Γ (oI κ)) (pX10_pairTrouble_28 κ y0) κ 28 [] [.int y0] := by
  unfold pX10_pairTrouble_28
  exact j_iret hC (pc := 28) dX10_pairTrouble_28 rfl rfl rfl
set_option maxRecDepth 20000 in
theorem wX10_pairTrouble_16 {Γ : JCtx} (hC : jC Γ cX10_pairTrouble 3 RX10 (some .int) layX 147) (hR : gR Γ = rmH 1) (hm : gcells Γ ≤ (gR Γ).cells ∧ gslots Γ ≤ (gR Γ).slots) (κ : Mem) : JP Γ (qf Γ (oI κ)) (pX10_pairTrouble_16 κ) κ 16 [] [] := by
  unfold pX10_pairTrouble_16
  refine j_iconst hC (pc := 16) dX10_pairTrouble_16 ki_2 ?_
  exact j_iret hC (pc := 17) dX10_pairTrouble_17 rfl rfl rfl
set_option maxRecDepth 20000 in
theorem wX10_pairTrouble {Γ : JCtx} (hC : jC Γ cX10_pairTrouble 3 RX10 (some .int) layX 147) (hR : gR Γ = rmH 1) (hm : gcells Γ ≤ (gR Γ).cells ∧ gslots Γ ≤ (gR Γ).slots) (κ : Mem) (v1 : Int32) (v2 : Int32) : JP Γ (qf Γ (oI κ)) (pX10_pairTrouble κ v1 v2) κ 0 [(0, .ref (gad Γ 0)), (1, .int v1), (2, .int v2)] [] := by
  unfold pX10_pairTrouble
  refine j_aload_n hC (pc := 0) dX10_pairTrouble_0 0 rfl rfl ?_
  refine j_iload_n hC (pc := 1) dX10_pairTrouble_1 1 rfl rfl ?_
  refine j_callV_I hC hR (ctX10_noPlayer hC.l hC.cn κ v1) kc_RX10_152 (Nat.le_of_ble_eq_true rfl) (Nat.le_of_ble_eq_true rfl) lX_0 (Nat.le_of_ble_eq_true rfl) rfl (As := [.int v1]) (rest := []) rfl rfl (Nat.le_of_ble_eq_true rfl) hm (pc := 2) dX10_pairTrouble_2 (fun t1 => ?_)
  refine j_if_ne hC (pc := 5) dX10_pairTrouble_5 (tgt := 16) rfl ?_ ?_
  · refine j_aload_n hC (pc := 8) dX10_pairTrouble_8 0 rfl rfl ?_
    refine j_iload_n hC (pc := 9) dX10_pairTrouble_9 2 rfl rfl ?_
    refine j_callV_I hC hR (ctX10_noPlayer hC.l hC.cn κ v2) kc_RX10_152 (Nat.le_of_ble_eq_true rfl) (Nat.le_of_ble_eq_true rfl) lX_0 (Nat.le_of_ble_eq_true rfl) rfl (As := [.int v2]) (rest := []) rfl rfl (Nat.le_of_ble_eq_true rfl) hm (pc := 10) dX10_pairTrouble_10 (fun t2 => ?_)
    refine j_if_eq hC (pc := 13) dX10_pairTrouble_13 (tgt := 18) rfl ?_ ?_
    · refine j_iload_n hC (pc := 18) dX10_pairTrouble_18 1 rfl rfl ?_
      refine j_iload_n hC (pc := 19) dX10_pairTrouble_19 2 rfl rfl ?_
      refine j_icmp_ne hC (pc := 20) dX10_pairTrouble_20 (tgt := 27) rfl ?_ ?_
      · refine j_iconst hC (pc := 23) dX10_pairTrouble_23 ki_4 ?_
        refine j_goto hC (pc := 24) dX10_pairTrouble_24 (tgt := 28) rfl ?_
        refine j_sub [] (loc' := []) rfl ?_
        exact wX10_pairTrouble_28 hC hR hm κ 4
      · refine j_iconst hC (pc := 27) dX10_pairTrouble_27 ki_0 ?_
        refine j_sub [] (loc' := []) rfl ?_
        exact wX10_pairTrouble_28 hC hR hm κ 0
    · refine j_sub [] (loc' := []) rfl ?_
      exact wX10_pairTrouble_16 hC hR hm κ
  · refine j_sub [] (loc' := []) rfl ?_
    exact wX10_pairTrouble_16 hC hR hm κ
theorem ctX10_pairTrouble {Δ : DCtx} {l : Launch} (hl : dlay Δ = layX) (hN : dN Δ = 147) (κ : Mem) (v1 : Int32) (v2 : Int32) : ∀ r, pX10_pairTrouble κ v1 v2 = some r → CT Δ l yX10_pairTrouble cX10_pairTrouble 3 (some .int) (rmH 1) [.ref (dad Δ 0), .int v1, .int v2] κ (some (.int r)) κ :=
  ct_of (nL := 3) (ret := (some .int)) (lay := layX) (N := 147) (by decide +kernel) (fun Δ => [.ref (dad Δ 0), .int v1, .int v2]) (fun _ => oI κ) (fun _ => (Nat.le_of_ble_eq_true rfl)) (fun Γ hR hm hC => wX10_pairTrouble hC hR hm κ v1 v2) Δ l hl hN
set_option maxRecDepth 20000 in
theorem wX10_sightTrouble_31 {Γ : JCtx} (hC : jC Γ cX10_sightTrouble 4 RX10 (some .int) layX 147) (hR : gR Γ = rmH 2) (hm : gcells Γ ≤ (gR Γ).cells ∧ gslots Γ ≤ (gR Γ).slots) (κ : Mem) (y0 : Int32) : JP Γ (qf Γ (oI κ)) (pX10_sightTrouble_31 κ y0) κ 31 [] [.int y0] := by
  unfold pX10_sightTrouble_31
  exact j_iret hC (pc := 31) dX10_sightTrouble_31 rfl rfl rfl
set_option maxRecDepth 20000 in
theorem wX10_sightTrouble {Γ : JCtx} (hC : jC Γ cX10_sightTrouble 4 RX10 (some .int) layX 147) (hR : gR Γ = rmH 2) (hm : gcells Γ ≤ (gR Γ).cells ∧ gslots Γ ≤ (gR Γ).slots) (κ : Mem) (v1 : Int32) (v2 : Int32) : JP Γ (qf Γ (oI κ)) (pX10_sightTrouble κ v1 v2) κ 0 [(0, .ref (gad Γ 0)), (1, .int v1), (2, .int v2)] [] := by
  unfold pX10_sightTrouble
  refine j_aload_n hC (pc := 0) dX10_sightTrouble_0 0 rfl rfl ?_
  refine j_iload_n hC (pc := 1) dX10_sightTrouble_1 1 rfl rfl ?_
  refine j_iload_n hC (pc := 2) dX10_sightTrouble_2 2 rfl rfl ?_
  refine j_callV_I hC hR (ctX10_pairTrouble hC.l hC.cn κ v1 v2) kc_RX10_221 (Nat.le_of_ble_eq_true rfl) (Nat.le_of_ble_eq_true rfl) lX_0 (Nat.le_of_ble_eq_true rfl) rfl (As := [.int v1, .int v2]) (rest := []) rfl rfl (Nat.le_of_ble_eq_true rfl) hm (pc := 3) dX10_sightTrouble_3 (fun t1 => ?_)
  refine j_istore_n hC (pc := 6) dX10_sightTrouble_6 rfl (Nat.le_of_ble_eq_true rfl) (loc' := [(3, .int t1), (0, .ref (gad Γ 0)), (1, .int v1), (2, .int v2)]) rfl ?_
  refine j_iload_n hC (pc := 7) dX10_sightTrouble_7 0 rfl rfl ?_
  refine j_if_eq hC (pc := 8) dX10_sightTrouble_8 (tgt := 13) rfl ?_ ?_
  · refine j_aload_n hC (pc := 13) dX10_sightTrouble_13 1 rfl rfl ?_
    refine j_getR hC (pc := 14) dX10_sightTrouble_14 kf_RX10_10 lX_0 (Nat.le_of_ble_eq_true rfl) rfl ?_
    refine j_iload_n hC (pc := 17) dX10_sightTrouble_17 2 rfl rfl ?_
    refine j_iload_n hC (pc := 18) dX10_sightTrouble_18 3 rfl rfl ?_
    refine j_callV_I hC hR (ctX2_watches hC.l hC.cn 1 isG_1 κ v1 v2) kc_RX10_197 (Nat.le_of_ble_eq_true rfl) (Nat.le_of_ble_eq_true rfl) lX_1 (Nat.le_of_ble_eq_true rfl) rfl (As := [.int v1, .int v2]) (rest := []) rfl rfl (Nat.le_of_ble_eq_true rfl) hm (pc := 19) dX10_sightTrouble_19 (fun t2 => ?_)
    refine j_if_eq hC (pc := 22) dX10_sightTrouble_22 (tgt := 29) rfl ?_ ?_
    · refine j_bipush hC (pc := 29) dX10_sightTrouble_29 kb_7 ?_
      refine j_sub [] (loc' := []) rfl ?_
      exact wX10_sightTrouble_31 hC hR hm κ 7
    · refine j_iconst hC (pc := 25) dX10_sightTrouble_25 ki_0 ?_
      refine j_goto hC (pc := 26) dX10_sightTrouble_26 (tgt := 31) rfl ?_
      refine j_sub [] (loc' := []) rfl ?_
      exact wX10_sightTrouble_31 hC hR hm κ 0
  · refine j_iload_n hC (pc := 11) dX10_sightTrouble_11 0 rfl rfl ?_
    exact j_iret hC (pc := 12) dX10_sightTrouble_12 rfl rfl rfl
theorem ctX10_sightTrouble {Δ : DCtx} {l : Launch} (hl : dlay Δ = layX) (hN : dN Δ = 147) (κ : Mem) (v1 : Int32) (v2 : Int32) : ∀ r, pX10_sightTrouble κ v1 v2 = some r → CT Δ l yX10_sightTrouble cX10_sightTrouble 4 (some .int) (rmH 2) [.ref (dad Δ 0), .int v1, .int v2] κ (some (.int r)) κ :=
  ct_of (nL := 4) (ret := (some .int)) (lay := layX) (N := 147) (by decide +kernel) (fun Δ => [.ref (dad Δ 0), .int v1, .int v2]) (fun _ => oI κ) (fun _ => (Nat.le_of_ble_eq_true rfl)) (fun Γ hR hm hC => wX10_sightTrouble hC hR hm κ v1 v2) Δ l hl hN
set_option maxRecDepth 20000 in
theorem wX10_heeds_35 {Γ : JCtx} (hC : jC Γ cX10_heeds 4 RX10 (some .int) layX 147) (hR : gR Γ = rmH 3) (hm : gcells Γ ≤ (gR Γ).cells ∧ gslots Γ ≤ (gR Γ).slots) (F : Nat) (κ : Mem) (y0 : Int32) : JP Γ (qf Γ oE) (pX10_heeds_35 F κ y0) κ 35 [] [.int y0, .ref (gad Γ 0)] := by
  unfold pX10_heeds_35
  refine j_callV_E hC hR (ctX10_give hC.l hC.cn κ y0) kc_RX10_132 (Nat.le_of_ble_eq_true rfl) (Nat.le_of_ble_eq_true rfl) lX_0 (Nat.le_of_ble_eq_true rfl) rfl (As := [.int y0]) (rest := []) rfl rfl (Nat.le_of_ble_eq_true rfl) hm (pc := 35) dX10_heeds_35 (fun t3 => ?_)
  exact j_iret hC (pc := 38) dX10_heeds_38 rfl rfl rfl
set_option maxRecDepth 20000 in
theorem wX10_heeds {Γ : JCtx} (hC : jC Γ cX10_heeds 4 RX10 (some .int) layX 147) (hR : gR Γ = rmH 3) (hm : gcells Γ ≤ (gR Γ).cells ∧ gslots Γ ≤ (gR Γ).slots) (F : Nat) (κ : Mem) (v1 : Int32) (v2 : Int32) : JP Γ (qf Γ oE) (pX10_heeds F κ v1 v2) κ 0 [(0, .ref (gad Γ 0)), (1, .int v1), (2, .int v2)] [] := by
  unfold pX10_heeds
  refine j_aload_n hC (pc := 0) dX10_heeds_0 0 rfl rfl ?_
  refine j_iload_n hC (pc := 1) dX10_heeds_1 1 rfl rfl ?_
  refine j_iload_n hC (pc := 2) dX10_heeds_2 2 rfl rfl ?_
  refine j_callV_I hC hR (ctX10_sightTrouble hC.l hC.cn κ v1 v2) kc_RX10_191 (Nat.le_of_ble_eq_true rfl) (Nat.le_of_ble_eq_true rfl) lX_0 (Nat.le_of_ble_eq_true rfl) rfl (As := [.int v1, .int v2]) (rest := []) rfl rfl (Nat.le_of_ble_eq_true rfl) hm (pc := 3) dX10_heeds_3 (fun t1 => ?_)
  refine j_istore_n hC (pc := 6) dX10_heeds_6 rfl (Nat.le_of_ble_eq_true rfl) (loc' := [(3, .int t1), (0, .ref (gad Γ 0)), (1, .int v1), (2, .int v2)]) rfl ?_
  refine j_iload_n hC (pc := 7) dX10_heeds_7 0 rfl rfl ?_
  refine j_if_eq hC (pc := 8) dX10_heeds_8 (tgt := 17) rfl ?_ ?_
  · refine j_aload_n hC (pc := 17) dX10_heeds_17 1 rfl rfl ?_
    refine j_aload_n hC (pc := 18) dX10_heeds_18 1 rfl rfl ?_
    refine j_getR hC (pc := 19) dX10_heeds_19 kf_RX10_10 lX_0 (Nat.le_of_ble_eq_true rfl) rfl ?_
    refine j_iload_n hC (pc := 22) dX10_heeds_22 2 rfl rfl ?_
    refine j_iload_n hC (pc := 23) dX10_heeds_23 3 rfl rfl ?_
    refine j_callV_I hC hR (ctX2_swayed hC.l hC.cn 1 isG_1 F κ v1 v2) kc_RX10_194 (Nat.le_of_ble_eq_true rfl) (Nat.le_of_ble_eq_true rfl) lX_1 (Nat.le_of_ble_eq_true rfl) rfl (As := [.int v1, .int v2]) (rest := [.ref (gad Γ 0)]) rfl rfl (Nat.le_of_ble_eq_true rfl) hm (pc := 24) dX10_heeds_24 (fun t2 => ?_)
    refine j_if_le hC (pc := 27) dX10_heeds_27 (tgt := 34) rfl ?_ ?_
    · refine j_iconst hC (pc := 34) dX10_heeds_34 ki_0 ?_
      refine j_sub [] (loc' := []) rfl ?_
      exact wX10_heeds_35 hC hR hm F κ 0
    · refine j_iconst hC (pc := 30) dX10_heeds_30 ki_1 ?_
      refine j_goto hC (pc := 31) dX10_heeds_31 (tgt := 35) rfl ?_
      refine j_sub [] (loc' := []) rfl ?_
      exact wX10_heeds_35 hC hR hm F κ 1
  · refine j_aload_n hC (pc := 11) dX10_heeds_11 1 rfl rfl ?_
    refine j_iload_n hC (pc := 12) dX10_heeds_12 0 rfl rfl ?_
    refine j_callV_E hC hR (ctX10_refuse hC.l hC.cn κ t1) kc_RX10_105 (Nat.le_of_ble_eq_true rfl) (Nat.le_of_ble_eq_true rfl) lX_0 (Nat.le_of_ble_eq_true rfl) rfl (As := [.int t1]) (rest := []) rfl rfl (Nat.le_of_ble_eq_true rfl) hm (pc := 13) dX10_heeds_13 (fun t4 => ?_)
    exact j_iret hC (pc := 16) dX10_heeds_16 rfl rfl rfl
theorem ctX10_heeds {Δ : DCtx} {l : Launch} (hl : dlay Δ = layX) (hN : dN Δ = 147) (F : Nat) (κ : Mem) (v1 : Int32) (v2 : Int32) : ∀ r, pX10_heeds F κ v1 v2 = some r → CT Δ l yX10_heeds cX10_heeds 4 (some .int) (rmH 3) [.ref (dad Δ 0), .int v1, .int v2] κ (some (.int r.1)) r.2 :=
  ct_of (nL := 4) (ret := (some .int)) (lay := layX) (N := 147) (by decide +kernel) (fun Δ => [.ref (dad Δ 0), .int v1, .int v2]) (fun _ => oE) (fun _ => (Nat.le_of_ble_eq_true rfl)) (fun Γ hR hm hC => wX10_heeds hC hR hm F κ v1 v2) Δ l hl hN
set_option maxRecDepth 20000 in
theorem wX10_heeded_59 {Γ : JCtx} (hC : jC Γ cX10_heeded 4 RX10 (some .int) layX 147) (hR : gR Γ = rmH 3) (hm : gcells Γ ≤ (gR Γ).cells ∧ gslots Γ ≤ (gR Γ).slots) (F : Nat) (κ : Mem) (v1 : Int32) (v2 : Int32) (v3 : Int32) (k18 : Int32 → Int32 → Option (Int32 × Mem)) (hk18 : ∀ (v2 : Int32) (v3 : Int32), JP Γ (qf Γ oE) (k18 v2 v3) κ 18 [(0, .ref (gad Γ 0)), (1, .int v1), (2, .int v2), (3, .int v3)] []) : JP Γ (qf Γ oE) (pX10_heeded_59 F k18 κ v1 v2 v3) κ 59 [(0, .ref (gad Γ 0)), (1, .int v1), (2, .int v2), (3, .int v3)] [] := by
  unfold pX10_heeded_59
  refine j_iinc hC (pc := 59) dX10_heeded_59 3 rfl ki_1 (Nat.le_of_ble_eq_true rfl) (loc' := [(3, .int (v3 + 1)), (0, .ref (gad Γ 0)), (1, .int v1), (2, .int v2)]) rfl ?_
  refine j_goto hC (pc := 62) dX10_heeded_62 (tgt := 18) rfl ?_
  refine j_sub [1, 2, 3, 0] (loc' := [(0, .ref (gad Γ 0)), (1, .int v1), (2, .int v2), (3, .int (v3 + 1))]) rfl ?_
  exact hk18 v2 (v3 + 1)
set_option maxRecDepth 20000 in
theorem wX10_heeded_18 {Γ : JCtx} (hC : jC Γ cX10_heeded 4 RX10 (some .int) layX 147) (hR : gR Γ = rmH 3) (hm : gcells Γ ≤ (gR Γ).cells ∧ gslots Γ ≤ (gR Γ).slots) (F : Nat) (κ : Mem) (v1 : Int32) : ∀ (n : Nat) (v2 : Int32) (v3 : Int32), JP Γ (qf Γ oE) (pX10_heeded_18 F κ v1 n v2 v3) κ 18 [(0, .ref (gad Γ 0)), (1, .int v1), (2, .int v2), (3, .int v3)] [] := by
  intro n
  induction n with
  | zero =>
    intro v2 v3
    rw [pX10_heeded_18]
    exact j_none
  | succ fu ih =>
    intro v2 v3
    rw [pX10_heeded_18]
    refine j_iload_n hC (pc := 18) dX10_heeded_18 3 rfl rfl ?_
    refine j_aload_n hC (pc := 19) dX10_heeded_19 0 rfl rfl ?_
    refine j_getR hC (pc := 20) dX10_heeded_20 kf_RX10_10 lX_0 (Nat.le_of_ble_eq_true rfl) rfl ?_
    refine j_getI hC (pc := 23) dX10_heeded_23 kf_RX10_129 lX_1 (Nat.le_of_ble_eq_true rfl) rfl ?_
    refine j_icmp_ge hC (pc := 26) dX10_heeded_26 (tgt := 65) rfl ?_ ?_
    · refine j_aload_n hC (pc := 29) dX10_heeded_29 0 rfl rfl ?_
      refine j_getR hC (pc := 30) dX10_heeded_30 kf_RX10_10 lX_0 (Nat.le_of_ble_eq_true rfl) rfl ?_
      refine j_iload_n hC (pc := 33) dX10_heeded_33 1 rfl rfl ?_
      refine j_iload_n hC (pc := 34) dX10_heeded_34 3 rfl rfl ?_
      refine j_callV_I hC hR (ctX2_watches hC.l hC.cn 1 isG_1 κ v1 v3) kc_RX10_197 (Nat.le_of_ble_eq_true rfl) (Nat.le_of_ble_eq_true rfl) lX_1 (Nat.le_of_ble_eq_true rfl) rfl (As := [.int v1, .int v3]) (rest := []) rfl rfl (Nat.le_of_ble_eq_true rfl) hm (pc := 35) dX10_heeded_35 (fun t2 => ?_)
      refine j_if_eq hC (pc := 38) dX10_heeded_38 (tgt := 59) rfl ?_ ?_
      · exact wX10_heeded_59 hC hR hm F κ v1 v2 v3 (pX10_heeded_18 F κ v1 fu) ih
      · refine j_aload_n hC (pc := 41) dX10_heeded_41 0 rfl rfl ?_
        refine j_getR hC (pc := 42) dX10_heeded_42 kf_RX10_10 lX_0 (Nat.le_of_ble_eq_true rfl) rfl ?_
        refine j_iload_n hC (pc := 45) dX10_heeded_45 1 rfl rfl ?_
        refine j_iload_n hC (pc := 46) dX10_heeded_46 3 rfl rfl ?_
        refine j_callV_I hC hR (ctX2_swayed hC.l hC.cn 1 isG_1 F κ v1 v3) kc_RX10_194 (Nat.le_of_ble_eq_true rfl) (Nat.le_of_ble_eq_true rfl) lX_1 (Nat.le_of_ble_eq_true rfl) rfl (As := [.int v1, .int v3]) (rest := []) rfl rfl (Nat.le_of_ble_eq_true rfl) hm (pc := 47) dX10_heeded_47 (fun t3 => ?_)
        refine j_if_le hC (pc := 50) dX10_heeded_50 (tgt := 59) rfl ?_ ?_
        · exact wX10_heeded_59 hC hR hm F κ v1 v2 v3 (pX10_heeded_18 F κ v1 fu) ih
        · refine j_iload_n hC (pc := 53) dX10_heeded_53 2 rfl rfl ?_
          refine j_iconst hC (pc := 54) dX10_heeded_54 ki_1 ?_
          refine j_iload_n hC (pc := 55) dX10_heeded_55 3 rfl rfl ?_
          refine j_ishl hC (pc := 56) dX10_heeded_56 ?_
          refine j_ior hC (pc := 57) dX10_heeded_57 ?_
          refine j_nmi (fun x4 => ?_)
          refine j_istore_n hC (pc := 58) dX10_heeded_58 rfl (Nat.le_of_ble_eq_true rfl) (loc' := [(2, .int x4), (0, .ref (gad Γ 0)), (1, .int v1), (3, .int v3)]) rfl ?_
          refine j_sub [1, 2, 0, 3] (loc' := [(0, .ref (gad Γ 0)), (1, .int v1), (2, .int x4), (3, .int v3)]) rfl ?_
          exact wX10_heeded_59 hC hR hm F κ v1 x4 v3 (pX10_heeded_18 F κ v1 fu) ih
    · refine j_aload_n hC (pc := 65) dX10_heeded_65 0 rfl rfl ?_
      refine j_iload_n hC (pc := 66) dX10_heeded_66 2 rfl rfl ?_
      refine j_callV_E hC hR (ctX10_give hC.l hC.cn κ v2) kc_RX10_132 (Nat.le_of_ble_eq_true rfl) (Nat.le_of_ble_eq_true rfl) lX_0 (Nat.le_of_ble_eq_true rfl) rfl (As := [.int v2]) (rest := []) rfl rfl (Nat.le_of_ble_eq_true rfl) hm (pc := 67) dX10_heeded_67 (fun t5 => ?_)
      exact j_iret hC (pc := 70) dX10_heeded_70 rfl rfl rfl
set_option maxRecDepth 20000 in
theorem wX10_heeded {Γ : JCtx} (hC : jC Γ cX10_heeded 4 RX10 (some .int) layX 147) (hR : gR Γ = rmH 3) (hm : gcells Γ ≤ (gR Γ).cells ∧ gslots Γ ≤ (gR Γ).slots) (F : Nat) (κ : Mem) (v1 : Int32) : JP Γ (qf Γ oE) (pX10_heeded F κ v1) κ 0 [(0, .ref (gad Γ 0)), (1, .int v1)] [] := by
  unfold pX10_heeded
  refine j_aload_n hC (pc := 0) dX10_heeded_0 0 rfl rfl ?_
  refine j_iload_n hC (pc := 1) dX10_heeded_1 1 rfl rfl ?_
  refine j_callV_I hC hR (ctX10_noPlayer hC.l hC.cn κ v1) kc_RX10_152 (Nat.le_of_ble_eq_true rfl) (Nat.le_of_ble_eq_true rfl) lX_0 (Nat.le_of_ble_eq_true rfl) rfl (As := [.int v1]) (rest := []) rfl rfl (Nat.le_of_ble_eq_true rfl) hm (pc := 2) dX10_heeded_2 (fun t1 => ?_)
  refine j_if_eq hC (pc := 5) dX10_heeded_5 (tgt := 14) rfl ?_ ?_
  · refine j_iconst hC (pc := 14) dX10_heeded_14 ki_0 ?_
    refine j_istore_n hC (pc := 15) dX10_heeded_15 rfl (Nat.le_of_ble_eq_true rfl) (loc' := [(2, .int 0), (0, .ref (gad Γ 0)), (1, .int v1)]) rfl ?_
    refine j_iconst hC (pc := 16) dX10_heeded_16 ki_0 ?_
    refine j_istore_n hC (pc := 17) dX10_heeded_17 rfl (Nat.le_of_ble_eq_true rfl) (loc' := [(3, .int 0), (2, .int 0), (0, .ref (gad Γ 0)), (1, .int v1)]) rfl ?_
    refine j_sub [2, 3, 1, 0] (loc' := [(0, .ref (gad Γ 0)), (1, .int v1), (2, .int 0), (3, .int 0)]) rfl ?_
    exact wX10_heeded_18 hC hR hm F κ v1 F 0 0
  · refine j_aload_n hC (pc := 8) dX10_heeded_8 0 rfl rfl ?_
    refine j_iconst hC (pc := 9) dX10_heeded_9 ki_2 ?_
    refine j_callV_E hC hR (ctX10_refuse hC.l hC.cn κ 2) kc_RX10_105 (Nat.le_of_ble_eq_true rfl) (Nat.le_of_ble_eq_true rfl) lX_0 (Nat.le_of_ble_eq_true rfl) rfl (As := [.int 2]) (rest := []) rfl rfl (Nat.le_of_ble_eq_true rfl) hm (pc := 10) dX10_heeded_10 (fun t6 => ?_)
    exact j_iret hC (pc := 13) dX10_heeded_13 rfl rfl rfl
theorem ctX10_heeded {Δ : DCtx} {l : Launch} (hl : dlay Δ = layX) (hN : dN Δ = 147) (F : Nat) (κ : Mem) (v1 : Int32) : ∀ r, pX10_heeded F κ v1 = some r → CT Δ l yX10_heeded cX10_heeded 4 (some .int) (rmH 3) [.ref (dad Δ 0), .int v1] κ (some (.int r.1)) r.2 :=
  ct_of (nL := 4) (ret := (some .int)) (lay := layX) (N := 147) (by decide +kernel) (fun Δ => [.ref (dad Δ 0), .int v1]) (fun _ => oE) (fun _ => (Nat.le_of_ble_eq_true rfl)) (fun Γ hR hm hC => wX10_heeded hC hR hm F κ v1) Δ l hl hN
set_option maxRecDepth 20000 in
theorem wX10_fooled {Γ : JCtx} (hC : jC Γ cX10_fooled 4 RX10 (some .int) layX 147) (hR : gR Γ = rmH 3) (hm : gcells Γ ≤ (gR Γ).cells ∧ gslots Γ ≤ (gR Γ).slots) (F : Nat) (κ : Mem) (v1 : Int32) (v2 : Int32) : JP Γ (qf Γ oE) (pX10_fooled F κ v1 v2) κ 0 [(0, .ref (gad Γ 0)), (1, .int v1), (2, .int v2)] [] := by
  unfold pX10_fooled
  refine j_aload_n hC (pc := 0) dX10_fooled_0 0 rfl rfl ?_
  refine j_iload_n hC (pc := 1) dX10_fooled_1 1 rfl rfl ?_
  refine j_iload_n hC (pc := 2) dX10_fooled_2 2 rfl rfl ?_
  refine j_callV_I hC hR (ctX10_sightTrouble hC.l hC.cn κ v1 v2) kc_RX10_191 (Nat.le_of_ble_eq_true rfl) (Nat.le_of_ble_eq_true rfl) lX_0 (Nat.le_of_ble_eq_true rfl) rfl (As := [.int v1, .int v2]) (rest := []) rfl rfl (Nat.le_of_ble_eq_true rfl) hm (pc := 3) dX10_fooled_3 (fun t1 => ?_)
  refine j_istore_n hC (pc := 6) dX10_fooled_6 rfl (Nat.le_of_ble_eq_true rfl) (loc' := [(3, .int t1), (0, .ref (gad Γ 0)), (1, .int v1), (2, .int v2)]) rfl ?_
  refine j_iload_n hC (pc := 7) dX10_fooled_7 0 rfl rfl ?_
  refine j_if_eq hC (pc := 8) dX10_fooled_8 (tgt := 17) rfl ?_ ?_
  · refine j_aload_n hC (pc := 17) dX10_fooled_17 1 rfl rfl ?_
    refine j_aload_n hC (pc := 18) dX10_fooled_18 1 rfl rfl ?_
    refine j_getR hC (pc := 19) dX10_fooled_19 kf_RX10_10 lX_0 (Nat.le_of_ble_eq_true rfl) rfl ?_
    refine j_iload_n hC (pc := 22) dX10_fooled_22 2 rfl rfl ?_
    refine j_iload_n hC (pc := 23) dX10_fooled_23 3 rfl rfl ?_
    refine j_callV_I hC hR (ctX2_swayed hC.l hC.cn 1 isG_1 F κ v1 v2) kc_RX10_194 (Nat.le_of_ble_eq_true rfl) (Nat.le_of_ble_eq_true rfl) lX_1 (Nat.le_of_ble_eq_true rfl) rfl (As := [.int v1, .int v2]) (rest := [.ref (gad Γ 0)]) rfl rfl (Nat.le_of_ble_eq_true rfl) hm (pc := 24) dX10_fooled_24 (fun t2 => ?_)
    refine j_aload_n hC (pc := 27) dX10_fooled_27 1 rfl rfl ?_
    refine j_getR hC (pc := 28) dX10_fooled_28 kf_RX10_21 lX_0 (Nat.le_of_ble_eq_true rfl) rfl ?_
    refine j_iload_n hC (pc := 31) dX10_fooled_31 2 rfl rfl ?_
    refine j_callV_I hC hR (ctX1_colouringsOfOneSituation hC.l hC.cn F κ v1) kc_RX10_200 (Nat.le_of_ble_eq_true rfl) (Nat.le_of_ble_eq_true rfl) lX_41 (Nat.le_of_ble_eq_true rfl) rfl (As := [.int v1]) (rest := [.int t2, .ref (gad Γ 0)]) rfl rfl (Nat.le_of_ble_eq_true rfl) hm (pc := 32) dX10_fooled_32 (fun t3 => ?_)
    refine j_imul hC (pc := 35) dX10_fooled_35 ?_
    refine j_callV_E hC hR (ctX10_give hC.l hC.cn κ (t2 * t3)) kc_RX10_132 (Nat.le_of_ble_eq_true rfl) (Nat.le_of_ble_eq_true rfl) lX_0 (Nat.le_of_ble_eq_true rfl) rfl (As := [.int (t2 * t3)]) (rest := []) rfl rfl (Nat.le_of_ble_eq_true rfl) hm (pc := 36) dX10_fooled_36 (fun t4 => ?_)
    exact j_iret hC (pc := 39) dX10_fooled_39 rfl rfl rfl
  · refine j_aload_n hC (pc := 11) dX10_fooled_11 1 rfl rfl ?_
    refine j_iload_n hC (pc := 12) dX10_fooled_12 0 rfl rfl ?_
    refine j_callV_E hC hR (ctX10_refuse hC.l hC.cn κ t1) kc_RX10_105 (Nat.le_of_ble_eq_true rfl) (Nat.le_of_ble_eq_true rfl) lX_0 (Nat.le_of_ble_eq_true rfl) rfl (As := [.int t1]) (rest := []) rfl rfl (Nat.le_of_ble_eq_true rfl) hm (pc := 13) dX10_fooled_13 (fun t5 => ?_)
    exact j_iret hC (pc := 16) dX10_fooled_16 rfl rfl rfl
theorem ctX10_fooled {Δ : DCtx} {l : Launch} (hl : dlay Δ = layX) (hN : dN Δ = 147) (F : Nat) (κ : Mem) (v1 : Int32) (v2 : Int32) : ∀ r, pX10_fooled F κ v1 v2 = some r → CT Δ l yX10_fooled cX10_fooled 4 (some .int) (rmH 3) [.ref (dad Δ 0), .int v1, .int v2] κ (some (.int r.1)) r.2 :=
  ct_of (nL := 4) (ret := (some .int)) (lay := layX) (N := 147) (by decide +kernel) (fun Δ => [.ref (dad Δ 0), .int v1, .int v2]) (fun _ => oE) (fun _ => (Nat.le_of_ble_eq_true rfl)) (fun Γ hR hm hC => wX10_fooled hC hR hm F κ v1 v2) Δ l hl hN
set_option maxRecDepth 20000 in
theorem wX10_right_29 {Γ : JCtx} (hC : jC Γ cX10_right 2 RX10 (some .int) layX 147) (hR : gR Γ = rmH 1) (hm : gcells Γ ≤ (gR Γ).cells ∧ gslots Γ ≤ (gR Γ).slots) (κ : Mem) (y0 : Int32) : JP Γ (qf Γ oE) (pX10_right_29 κ y0) κ 29 [] [.int y0] := by
  unfold pX10_right_29
  exact j_iret hC (pc := 29) dX10_right_29 rfl rfl rfl
set_option maxRecDepth 20000 in
theorem wX10_right {Γ : JCtx} (hC : jC Γ cX10_right 2 RX10 (some .int) layX 147) (hR : gR Γ = rmH 1) (hm : gcells Γ ≤ (gR Γ).cells ∧ gslots Γ ≤ (gR Γ).slots) (κ : Mem) (v1 : Int32) : JP Γ (qf Γ oE) (pX10_right κ v1) κ 0 [(0, .ref (gad Γ 0)), (1, .int v1)] [] := by
  unfold pX10_right
  refine j_aload_n hC (pc := 0) dX10_right_0 0 rfl rfl ?_
  refine j_iload_n hC (pc := 1) dX10_right_1 1 rfl rfl ?_
  refine j_callV_I hC hR (ctX10_noColouring hC.l hC.cn κ v1) kc_RX10_176 (Nat.le_of_ble_eq_true rfl) (Nat.le_of_ble_eq_true rfl) lX_0 (Nat.le_of_ble_eq_true rfl) rfl (As := [.int v1]) (rest := []) rfl rfl (Nat.le_of_ble_eq_true rfl) hm (pc := 2) dX10_right_2 (fun t1 => ?_)
  refine j_if_eq hC (pc := 5) dX10_right_5 (tgt := 16) rfl ?_ ?_
  · refine j_aload_n hC (pc := 16) dX10_right_16 0 rfl rfl ?_
    refine j_aload_n hC (pc := 17) dX10_right_17 0 rfl rfl ?_
    refine j_getR hC (pc := 18) dX10_right_18 kf_RX10_21 lX_0 (Nat.le_of_ble_eq_true rfl) rfl ?_
    refine j_getR hC (pc := 21) dX10_right_21 kf_RX10_203 lX_41 (Nat.le_of_ble_eq_true rfl) rfl ?_
    refine j_iload_n hC (pc := 24) dX10_right_24 1 rfl rfl ?_
    refine j_iald hC (pc := 25) dX10_right_25 lX_50 (Nat.le_of_ble_eq_true rfl) ?_
    refine j_callV_E hC hR (ctX10_give hC.l hC.cn κ (mi κ 50 v1.toNatClampNeg)) kc_RX10_132 (Nat.le_of_ble_eq_true rfl) (Nat.le_of_ble_eq_true rfl) lX_0 (Nat.le_of_ble_eq_true rfl) rfl (As := [.int (mi κ 50 v1.toNatClampNeg)]) (rest := []) rfl rfl (Nat.le_of_ble_eq_true rfl) hm (pc := 26) dX10_right_26 (fun t2 => ?_)
    refine j_sub [] (loc' := []) rfl ?_
    exact wX10_right_29 hC hR hm t2.2 t2.1
  · refine j_aload_n hC (pc := 8) dX10_right_8 0 rfl rfl ?_
    refine j_iconst hC (pc := 9) dX10_right_9 ki_2 ?_
    refine j_callV_E hC hR (ctX10_refuse hC.l hC.cn κ 2) kc_RX10_105 (Nat.le_of_ble_eq_true rfl) (Nat.le_of_ble_eq_true rfl) lX_0 (Nat.le_of_ble_eq_true rfl) rfl (As := [.int 2]) (rest := []) rfl rfl (Nat.le_of_ble_eq_true rfl) hm (pc := 10) dX10_right_10 (fun t3 => ?_)
    refine j_goto hC (pc := 13) dX10_right_13 (tgt := 29) rfl ?_
    refine j_sub [] (loc' := []) rfl ?_
    exact wX10_right_29 hC hR hm t3.2 t3.1
theorem ctX10_right {Δ : DCtx} {l : Launch} (hl : dlay Δ = layX) (hN : dN Δ = 147) (κ : Mem) (v1 : Int32) : ∀ r, pX10_right κ v1 = some r → CT Δ l yX10_right cX10_right 2 (some .int) (rmH 1) [.ref (dad Δ 0), .int v1] κ (some (.int r.1)) r.2 :=
  ct_of (nL := 2) (ret := (some .int)) (lay := layX) (N := 147) (by decide +kernel) (fun Δ => [.ref (dad Δ 0), .int v1]) (fun _ => oE) (fun _ => (Nat.le_of_ble_eq_true rfl)) (fun Γ hR hm hC => wX10_right hC hR hm κ v1) Δ l hl hN
set_option maxRecDepth 20000 in
theorem wX10_lost_55 {Γ : JCtx} (hC : jC Γ cX10_lost 3 RX10 (some .int) layX 147) (hR : gR Γ = rmH 1) (hm : gcells Γ ≤ (gR Γ).cells ∧ gslots Γ ≤ (gR Γ).slots) (F : Nat) (κ : Mem) (y0 : Int32) : JP Γ (qf Γ oE) (pX10_lost_55 F κ y0) κ 55 [] [.int y0] := by
  unfold pX10_lost_55
  exact j_iret hC (pc := 55) dX10_lost_55 rfl rfl rfl
set_option maxRecDepth 20000 in
theorem wX10_lost {Γ : JCtx} (hC : jC Γ cX10_lost 3 RX10 (some .int) layX 147) (hR : gR Γ = rmH 1) (hm : gcells Γ ≤ (gR Γ).cells ∧ gslots Γ ≤ (gR Γ).slots) (F : Nat) (κ : Mem) (v1 : Int32) : JP Γ (qf Γ oE) (pX10_lost F κ v1) κ 0 [(0, .ref (gad Γ 0)), (1, .int v1)] [] := by
  unfold pX10_lost
  refine j_iload_n hC (pc := 0) dX10_lost_0 1 rfl rfl ?_
  refine j_iconst hC (pc := 1) dX10_lost_1 ki_m1 ?_
  refine j_icmp_ge hC (pc := 2) dX10_lost_2 (tgt := 11) rfl ?_ ?_
  · refine j_aload_n hC (pc := 5) dX10_lost_5 0 rfl rfl ?_
    refine j_iconst hC (pc := 6) dX10_lost_6 ki_1 ?_
    refine j_callV_E hC hR (ctX10_refuse hC.l hC.cn κ 1) kc_RX10_105 (Nat.le_of_ble_eq_true rfl) (Nat.le_of_ble_eq_true rfl) lX_0 (Nat.le_of_ble_eq_true rfl) rfl (As := [.int 1]) (rest := []) rfl rfl (Nat.le_of_ble_eq_true rfl) hm (pc := 7) dX10_lost_7 (fun t1 => ?_)
    exact j_iret hC (pc := 10) dX10_lost_10 rfl rfl rfl
  · refine j_iload_n hC (pc := 11) dX10_lost_11 1 rfl rfl ?_
    refine j_iconst hC (pc := 12) dX10_lost_12 ki_m1 ?_
    refine j_icmp_ne hC (pc := 13) dX10_lost_13 (tgt := 28) rfl ?_ ?_
    · refine j_aload_n hC (pc := 16) dX10_lost_16 0 rfl rfl ?_
      refine j_aload_n hC (pc := 17) dX10_lost_17 0 rfl rfl ?_
      refine j_getR hC (pc := 18) dX10_lost_18 kf_RX10_21 lX_0 (Nat.le_of_ble_eq_true rfl) rfl ?_
      refine j_callV_I hC hR (ctX1_lostInAll hC.l hC.cn κ) kc_RX10_206 (Nat.le_of_ble_eq_true rfl) (Nat.le_of_ble_eq_true rfl) lX_41 (Nat.le_of_ble_eq_true rfl) rfl (As := []) (rest := [.ref (gad Γ 0)]) rfl rfl (Nat.le_of_ble_eq_true rfl) hm (pc := 21) dX10_lost_21 (fun t2 => ?_)
      refine j_callV_E hC hR (ctX10_give hC.l hC.cn κ t2) kc_RX10_132 (Nat.le_of_ble_eq_true rfl) (Nat.le_of_ble_eq_true rfl) lX_0 (Nat.le_of_ble_eq_true rfl) rfl (As := [.int t2]) (rest := []) rfl rfl (Nat.le_of_ble_eq_true rfl) hm (pc := 24) dX10_lost_24 (fun t3 => ?_)
      exact j_iret hC (pc := 27) dX10_lost_27 rfl rfl rfl
    · refine j_aload_n hC (pc := 28) dX10_lost_28 0 rfl rfl ?_
      refine j_getR hC (pc := 29) dX10_lost_29 kf_RX10_21 lX_0 (Nat.le_of_ble_eq_true rfl) rfl ?_
      refine j_iload_n hC (pc := 32) dX10_lost_32 1 rfl rfl ?_
      refine j_callV_I hC hR (ctX1_lostAt hC.l hC.cn F κ v1) kc_RX10_209 (Nat.le_of_ble_eq_true rfl) (Nat.le_of_ble_eq_true rfl) lX_41 (Nat.le_of_ble_eq_true rfl) rfl (As := [.int v1]) (rest := []) rfl rfl (Nat.le_of_ble_eq_true rfl) hm (pc := 33) dX10_lost_33 (fun t4 => ?_)
      refine j_istore_n hC (pc := 36) dX10_lost_36 rfl (Nat.le_of_ble_eq_true rfl) (loc' := [(2, .int t4), (0, .ref (gad Γ 0)), (1, .int v1)]) rfl ?_
      refine j_iload_n hC (pc := 37) dX10_lost_37 0 rfl rfl ?_
      refine j_iconst hC (pc := 38) dX10_lost_38 ki_m1 ?_
      refine j_icmp_ne hC (pc := 39) dX10_lost_39 (tgt := 50) rfl ?_ ?_
      · refine j_aload_n hC (pc := 42) dX10_lost_42 1 rfl rfl ?_
        refine j_iconst hC (pc := 43) dX10_lost_43 ki_5 ?_
        refine j_callV_E hC hR (ctX10_refuse hC.l hC.cn κ 5) kc_RX10_105 (Nat.le_of_ble_eq_true rfl) (Nat.le_of_ble_eq_true rfl) lX_0 (Nat.le_of_ble_eq_true rfl) rfl (As := [.int 5]) (rest := []) rfl rfl (Nat.le_of_ble_eq_true rfl) hm (pc := 44) dX10_lost_44 (fun t5 => ?_)
        refine j_goto hC (pc := 47) dX10_lost_47 (tgt := 55) rfl ?_
        refine j_sub [] (loc' := []) rfl ?_
        exact wX10_lost_55 hC hR hm F t5.2 t5.1
      · refine j_aload_n hC (pc := 50) dX10_lost_50 1 rfl rfl ?_
        refine j_iload_n hC (pc := 51) dX10_lost_51 0 rfl rfl ?_
        refine j_callV_E hC hR (ctX10_give hC.l hC.cn κ t4) kc_RX10_132 (Nat.le_of_ble_eq_true rfl) (Nat.le_of_ble_eq_true rfl) lX_0 (Nat.le_of_ble_eq_true rfl) rfl (As := [.int t4]) (rest := []) rfl rfl (Nat.le_of_ble_eq_true rfl) hm (pc := 52) dX10_lost_52 (fun t6 => ?_)
        refine j_sub [] (loc' := []) rfl ?_
        exact wX10_lost_55 hC hR hm F t6.2 t6.1
theorem ctX10_lost {Δ : DCtx} {l : Launch} (hl : dlay Δ = layX) (hN : dN Δ = 147) (F : Nat) (κ : Mem) (v1 : Int32) : ∀ r, pX10_lost F κ v1 = some r → CT Δ l yX10_lost cX10_lost 3 (some .int) (rmH 1) [.ref (dad Δ 0), .int v1] κ (some (.int r.1)) r.2 :=
  ct_of (nL := 3) (ret := (some .int)) (lay := layX) (N := 147) (by decide +kernel) (fun Δ => [.ref (dad Δ 0), .int v1]) (fun _ => oE) (fun _ => (Nat.le_of_ble_eq_true rfl)) (fun Γ hR hm hC => wX10_lost hC hR hm F κ v1) Δ l hl hN
set_option maxRecDepth 20000 in
theorem wX10_noRightCount_15 {Γ : JCtx} (hC : jC Γ cX10_noRightCount 2 RX10 (some .boolean) layX 147) (hR : gR Γ = rmH 0) (hm : gcells Γ ≤ (gR Γ).cells ∧ gslots Γ ≤ (gR Γ).slots) (κ : Mem) (y0 : Int32) : JP Γ (qf Γ (oI κ)) (pX10_noRightCount_15 κ y0) κ 15 [] [.int y0] := by
  unfold pX10_noRightCount_15
  refine j_ckP (fun hq1 => ?_)
  exact j_iret hC (pc := 15) dX10_noRightCount_15 rfl (isB_n hq1) rfl
set_option maxRecDepth 20000 in
theorem wX10_noRightCount_10 {Γ : JCtx} (hC : jC Γ cX10_noRightCount 2 RX10 (some .boolean) layX 147) (hR : gR Γ = rmH 0) (hm : gcells Γ ≤ (gR Γ).cells ∧ gslots Γ ≤ (gR Γ).slots) (κ : Mem) : JP Γ (qf Γ (oI κ)) (pX10_noRightCount_10 κ) κ 10 [] [] := by
  unfold pX10_noRightCount_10
  refine j_iconst hC (pc := 10) dX10_noRightCount_10 ki_1 ?_
  refine j_goto hC (pc := 11) dX10_noRightCount_11 (tgt := 15) rfl ?_
  exact wX10_noRightCount_15 hC hR hm κ 1
set_option maxRecDepth 20000 in
theorem wX10_noRightCount {Γ : JCtx} (hC : jC Γ cX10_noRightCount 2 RX10 (some .boolean) layX 147) (hR : gR Γ = rmH 0) (hm : gcells Γ ≤ (gR Γ).cells ∧ gslots Γ ≤ (gR Γ).slots) (κ : Mem) (v1 : Int32) : JP Γ (qf Γ (oI κ)) (pX10_noRightCount κ v1) κ 0 [(0, .ref (gad Γ 0)), (1, .int v1)] [] := by
  unfold pX10_noRightCount
  refine j_iload_n hC (pc := 0) dX10_noRightCount_0 1 rfl rfl ?_
  refine j_if_lt hC (pc := 1) dX10_noRightCount_1 (tgt := 10) rfl ?_ ?_
  · refine j_sub [] (loc' := []) rfl ?_
    exact wX10_noRightCount_10 hC hR hm κ
  · refine j_iload_n hC (pc := 4) dX10_noRightCount_4 1 rfl rfl ?_
    refine j_bipush hC (pc := 5) dX10_noRightCount_5 kb_6 ?_
    refine j_icmp_le hC (pc := 7) dX10_noRightCount_7 (tgt := 14) rfl ?_ ?_
    · refine j_iconst hC (pc := 14) dX10_noRightCount_14 ki_0 ?_
      refine j_sub [] (loc' := []) rfl ?_
      exact wX10_noRightCount_15 hC hR hm κ 0
    · refine j_sub [] (loc' := []) rfl ?_
      exact wX10_noRightCount_10 hC hR hm κ
theorem ctX10_noRightCount {Δ : DCtx} {l : Launch} (hl : dlay Δ = layX) (hN : dN Δ = 147) (κ : Mem) (v1 : Int32) : ∀ r, pX10_noRightCount κ v1 = some r → CT Δ l yX10_noRightCount cX10_noRightCount 2 (some .boolean) (rmH 0) [.ref (dad Δ 0), .int v1] κ (some (.int r)) κ :=
  ct_of (nL := 2) (ret := (some .boolean)) (lay := layX) (N := 147) (by decide +kernel) (fun Δ => [.ref (dad Δ 0), .int v1]) (fun _ => oI κ) (fun _ => (Nat.le_of_ble_eq_true rfl)) (fun Γ hR hm hC => wX10_noRightCount hC hR hm κ v1) Δ l hl hN
set_option maxRecDepth 20000 in
theorem wX10_exact_29 {Γ : JCtx} (hC : jC Γ cX10_exact 2 RX10 (some .int) layX 147) (hR : gR Γ = rmH 2) (hm : gcells Γ ≤ (gR Γ).cells ∧ gslots Γ ≤ (gR Γ).slots) (F : Nat) (κ : Mem) (y0 : Int32) : JP Γ (qf Γ oE) (pX10_exact_29 F κ y0) κ 29 [] [.int y0] := by
  unfold pX10_exact_29
  exact j_iret hC (pc := 29) dX10_exact_29 rfl rfl rfl
set_option maxRecDepth 20000 in
theorem wX10_exact {Γ : JCtx} (hC : jC Γ cX10_exact 2 RX10 (some .int) layX 147) (hR : gR Γ = rmH 2) (hm : gcells Γ ≤ (gR Γ).cells ∧ gslots Γ ≤ (gR Γ).slots) (F : Nat) (κ : Mem) (v1 : Int32) : JP Γ (qf Γ oE) (pX10_exact F κ v1) κ 0 [(0, .ref (gad Γ 0)), (1, .int v1)] [] := by
  unfold pX10_exact
  refine j_aload_n hC (pc := 0) dX10_exact_0 0 rfl rfl ?_
  refine j_iload_n hC (pc := 1) dX10_exact_1 1 rfl rfl ?_
  refine j_callV_I hC hR (ctX10_noRightCount hC.l hC.cn κ v1) kc_RX10_212 (Nat.le_of_ble_eq_true rfl) (Nat.le_of_ble_eq_true rfl) lX_0 (Nat.le_of_ble_eq_true rfl) rfl (As := [.int v1]) (rest := []) rfl rfl (Nat.le_of_ble_eq_true rfl) hm (pc := 2) dX10_exact_2 (fun t1 => ?_)
  refine j_if_eq hC (pc := 5) dX10_exact_5 (tgt := 16) rfl ?_ ?_
  · refine j_aload_n hC (pc := 16) dX10_exact_16 0 rfl rfl ?_
    refine j_aload_n hC (pc := 17) dX10_exact_17 0 rfl rfl ?_
    refine j_getR hC (pc := 18) dX10_exact_18 kf_RX10_21 lX_0 (Nat.le_of_ble_eq_true rfl) rfl ?_
    refine j_iload_n hC (pc := 21) dX10_exact_21 1 rfl rfl ?_
    refine j_iload_n hC (pc := 22) dX10_exact_22 1 rfl rfl ?_
    refine j_callV_I hC hR (ctX1_withRight hC.l hC.cn F κ v1 v1) kc_RX10_215 (Nat.le_of_ble_eq_true rfl) (Nat.le_of_ble_eq_true rfl) lX_41 (Nat.le_of_ble_eq_true rfl) rfl (As := [.int v1, .int v1]) (rest := [.ref (gad Γ 0)]) rfl rfl (Nat.le_of_ble_eq_true rfl) hm (pc := 23) dX10_exact_23 (fun t2 => ?_)
    refine j_callV_E hC hR (ctX10_give hC.l hC.cn κ t2) kc_RX10_132 (Nat.le_of_ble_eq_true rfl) (Nat.le_of_ble_eq_true rfl) lX_0 (Nat.le_of_ble_eq_true rfl) rfl (As := [.int t2]) (rest := []) rfl rfl (Nat.le_of_ble_eq_true rfl) hm (pc := 26) dX10_exact_26 (fun t3 => ?_)
    refine j_sub [] (loc' := []) rfl ?_
    exact wX10_exact_29 hC hR hm F t3.2 t3.1
  · refine j_aload_n hC (pc := 8) dX10_exact_8 0 rfl rfl ?_
    refine j_iconst hC (pc := 9) dX10_exact_9 ki_1 ?_
    refine j_callV_E hC hR (ctX10_refuse hC.l hC.cn κ 1) kc_RX10_105 (Nat.le_of_ble_eq_true rfl) (Nat.le_of_ble_eq_true rfl) lX_0 (Nat.le_of_ble_eq_true rfl) rfl (As := [.int 1]) (rest := []) rfl rfl (Nat.le_of_ble_eq_true rfl) hm (pc := 10) dX10_exact_10 (fun t4 => ?_)
    refine j_goto hC (pc := 13) dX10_exact_13 (tgt := 29) rfl ?_
    refine j_sub [] (loc' := []) rfl ?_
    exact wX10_exact_29 hC hR hm F t4.2 t4.1
theorem ctX10_exact {Δ : DCtx} {l : Launch} (hl : dlay Δ = layX) (hN : dN Δ = 147) (F : Nat) (κ : Mem) (v1 : Int32) : ∀ r, pX10_exact F κ v1 = some r → CT Δ l yX10_exact cX10_exact 2 (some .int) (rmH 2) [.ref (dad Δ 0), .int v1] κ (some (.int r.1)) r.2 :=
  ct_of (nL := 2) (ret := (some .int)) (lay := layX) (N := 147) (by decide +kernel) (fun Δ => [.ref (dad Δ 0), .int v1]) (fun _ => oE) (fun _ => (Nat.le_of_ble_eq_true rfl)) (fun Γ hR hm hC => wX10_exact hC hR hm F κ v1) Δ l hl hN
set_option maxRecDepth 20000 in
theorem wX10_alone_31 {Γ : JCtx} (hC : jC Γ cX10_alone 2 RX10 (some .int) layX 147) (hR : gR Γ = rmH 1) (hm : gcells Γ ≤ (gR Γ).cells ∧ gslots Γ ≤ (gR Γ).slots) (κ : Mem) (y0 : Int32) : JP Γ (qf Γ oE) (pX10_alone_31 κ y0) κ 31 [] [.int y0] := by
  unfold pX10_alone_31
  exact j_iret hC (pc := 31) dX10_alone_31 rfl rfl rfl
set_option maxRecDepth 20000 in
theorem wX10_alone {Γ : JCtx} (hC : jC Γ cX10_alone 2 RX10 (some .int) layX 147) (hR : gR Γ = rmH 1) (hm : gcells Γ ≤ (gR Γ).cells ∧ gslots Γ ≤ (gR Γ).slots) (κ : Mem) (v1 : Int32) : JP Γ (qf Γ oE) (pX10_alone κ v1) κ 0 [(0, .ref (gad Γ 0)), (1, .int v1)] [] := by
  unfold pX10_alone
  refine j_aload_n hC (pc := 0) dX10_alone_0 0 rfl rfl ?_
  refine j_iload_n hC (pc := 1) dX10_alone_1 1 rfl rfl ?_
  refine j_callV_I hC hR (ctX10_noPlayer hC.l hC.cn κ v1) kc_RX10_152 (Nat.le_of_ble_eq_true rfl) (Nat.le_of_ble_eq_true rfl) lX_0 (Nat.le_of_ble_eq_true rfl) rfl (As := [.int v1]) (rest := []) rfl rfl (Nat.le_of_ble_eq_true rfl) hm (pc := 2) dX10_alone_2 (fun t1 => ?_)
  refine j_if_eq hC (pc := 5) dX10_alone_5 (tgt := 16) rfl ?_ ?_
  · refine j_aload_n hC (pc := 16) dX10_alone_16 0 rfl rfl ?_
    refine j_aload_n hC (pc := 17) dX10_alone_17 0 rfl rfl ?_
    refine j_getR hC (pc := 18) dX10_alone_18 kf_RX10_21 lX_0 (Nat.le_of_ble_eq_true rfl) rfl ?_
    refine j_getR hC (pc := 21) dX10_alone_21 kf_RX10_218 lX_41 (Nat.le_of_ble_eq_true rfl) rfl ?_
    refine j_iconst hC (pc := 24) dX10_alone_24 ki_1 ?_
    refine j_iload_n hC (pc := 25) dX10_alone_25 1 rfl rfl ?_
    refine j_ishl hC (pc := 26) dX10_alone_26 ?_
    refine j_iald hC (pc := 27) dX10_alone_27 lX_51 (Nat.le_of_ble_eq_true rfl) ?_
    refine j_callV_E hC hR (ctX10_give hC.l hC.cn κ (mi κ 51 (1 <<< (v1 &&& 31)).toNatClampNeg)) kc_RX10_132 (Nat.le_of_ble_eq_true rfl) (Nat.le_of_ble_eq_true rfl) lX_0 (Nat.le_of_ble_eq_true rfl) rfl (As := [.int (mi κ 51 (1 <<< (v1 &&& 31)).toNatClampNeg)]) (rest := []) rfl rfl (Nat.le_of_ble_eq_true rfl) hm (pc := 28) dX10_alone_28 (fun t2 => ?_)
    refine j_sub [] (loc' := []) rfl ?_
    exact wX10_alone_31 hC hR hm t2.2 t2.1
  · refine j_aload_n hC (pc := 8) dX10_alone_8 0 rfl rfl ?_
    refine j_iconst hC (pc := 9) dX10_alone_9 ki_2 ?_
    refine j_callV_E hC hR (ctX10_refuse hC.l hC.cn κ 2) kc_RX10_105 (Nat.le_of_ble_eq_true rfl) (Nat.le_of_ble_eq_true rfl) lX_0 (Nat.le_of_ble_eq_true rfl) rfl (As := [.int 2]) (rest := []) rfl rfl (Nat.le_of_ble_eq_true rfl) hm (pc := 10) dX10_alone_10 (fun t3 => ?_)
    refine j_goto hC (pc := 13) dX10_alone_13 (tgt := 31) rfl ?_
    refine j_sub [] (loc' := []) rfl ?_
    exact wX10_alone_31 hC hR hm t3.2 t3.1
theorem ctX10_alone {Δ : DCtx} {l : Launch} (hl : dlay Δ = layX) (hN : dN Δ = 147) (κ : Mem) (v1 : Int32) : ∀ r, pX10_alone κ v1 = some r → CT Δ l yX10_alone cX10_alone 2 (some .int) (rmH 1) [.ref (dad Δ 0), .int v1] κ (some (.int r.1)) r.2 :=
  ct_of (nL := 2) (ret := (some .int)) (lay := layX) (N := 147) (by decide +kernel) (fun Δ => [.ref (dad Δ 0), .int v1]) (fun _ => oE) (fun _ => (Nat.le_of_ble_eq_true rfl)) (fun Γ hR hm hC => wX10_alone hC hR hm κ v1) Δ l hl hN
set_option maxRecDepth 20000 in
theorem wX10_both {Γ : JCtx} (hC : jC Γ cX10_both 4 RX10 (some .int) layX 147) (hR : gR Γ = rmH 2) (hm : gcells Γ ≤ (gR Γ).cells ∧ gslots Γ ≤ (gR Γ).slots) (F : Nat) (κ : Mem) (v1 : Int32) (v2 : Int32) : JP Γ (qf Γ oE) (pX10_both F κ v1 v2) κ 0 [(0, .ref (gad Γ 0)), (1, .int v1), (2, .int v2)] [] := by
  unfold pX10_both
  refine j_aload_n hC (pc := 0) dX10_both_0 0 rfl rfl ?_
  refine j_iload_n hC (pc := 1) dX10_both_1 1 rfl rfl ?_
  refine j_iload_n hC (pc := 2) dX10_both_2 2 rfl rfl ?_
  refine j_callV_I hC hR (ctX10_pairTrouble hC.l hC.cn κ v1 v2) kc_RX10_221 (Nat.le_of_ble_eq_true rfl) (Nat.le_of_ble_eq_true rfl) lX_0 (Nat.le_of_ble_eq_true rfl) rfl (As := [.int v1, .int v2]) (rest := []) rfl rfl (Nat.le_of_ble_eq_true rfl) hm (pc := 3) dX10_both_3 (fun t1 => ?_)
  refine j_istore_n hC (pc := 6) dX10_both_6 rfl (Nat.le_of_ble_eq_true rfl) (loc' := [(3, .int t1), (0, .ref (gad Γ 0)), (1, .int v1), (2, .int v2)]) rfl ?_
  refine j_iload_n hC (pc := 7) dX10_both_7 0 rfl rfl ?_
  refine j_if_eq hC (pc := 8) dX10_both_8 (tgt := 17) rfl ?_ ?_
  · refine j_aload_n hC (pc := 17) dX10_both_17 1 rfl rfl ?_
    refine j_aload_n hC (pc := 18) dX10_both_18 1 rfl rfl ?_
    refine j_getR hC (pc := 19) dX10_both_19 kf_RX10_21 lX_0 (Nat.le_of_ble_eq_true rfl) rfl ?_
    refine j_iconst hC (pc := 22) dX10_both_22 ki_1 ?_
    refine j_iload_n hC (pc := 23) dX10_both_23 2 rfl rfl ?_
    refine j_ishl hC (pc := 24) dX10_both_24 ?_
    refine j_iconst hC (pc := 25) dX10_both_25 ki_1 ?_
    refine j_iload_n hC (pc := 26) dX10_both_26 3 rfl rfl ?_
    refine j_ishl hC (pc := 27) dX10_both_27 ?_
    refine j_ior hC (pc := 28) dX10_both_28 ?_
    refine j_callV_I hC hR (ctX1_allRightOf hC.l hC.cn F κ ((1 <<< (v1 &&& 31)) ||| (1 <<< (v2 &&& 31)))) kc_RX10_224 (Nat.le_of_ble_eq_true rfl) (Nat.le_of_ble_eq_true rfl) lX_41 (Nat.le_of_ble_eq_true rfl) rfl (As := [.int ((1 <<< (v1 &&& 31)) ||| (1 <<< (v2 &&& 31)))]) (rest := [.ref (gad Γ 0)]) rfl rfl (Nat.le_of_ble_eq_true rfl) hm (pc := 29) dX10_both_29 (fun t2 => ?_)
    refine j_callV_E hC hR (ctX10_give hC.l hC.cn κ t2) kc_RX10_132 (Nat.le_of_ble_eq_true rfl) (Nat.le_of_ble_eq_true rfl) lX_0 (Nat.le_of_ble_eq_true rfl) rfl (As := [.int t2]) (rest := []) rfl rfl (Nat.le_of_ble_eq_true rfl) hm (pc := 32) dX10_both_32 (fun t3 => ?_)
    exact j_iret hC (pc := 35) dX10_both_35 rfl rfl rfl
  · refine j_aload_n hC (pc := 11) dX10_both_11 1 rfl rfl ?_
    refine j_iload_n hC (pc := 12) dX10_both_12 0 rfl rfl ?_
    refine j_callV_E hC hR (ctX10_refuse hC.l hC.cn κ t1) kc_RX10_105 (Nat.le_of_ble_eq_true rfl) (Nat.le_of_ble_eq_true rfl) lX_0 (Nat.le_of_ble_eq_true rfl) rfl (As := [.int t1]) (rest := []) rfl rfl (Nat.le_of_ble_eq_true rfl) hm (pc := 13) dX10_both_13 (fun t4 => ?_)
    exact j_iret hC (pc := 16) dX10_both_16 rfl rfl rfl
theorem ctX10_both {Δ : DCtx} {l : Launch} (hl : dlay Δ = layX) (hN : dN Δ = 147) (F : Nat) (κ : Mem) (v1 : Int32) (v2 : Int32) : ∀ r, pX10_both F κ v1 v2 = some r → CT Δ l yX10_both cX10_both 4 (some .int) (rmH 2) [.ref (dad Δ 0), .int v1, .int v2] κ (some (.int r.1)) r.2 :=
  ct_of (nL := 4) (ret := (some .int)) (lay := layX) (N := 147) (by decide +kernel) (fun Δ => [.ref (dad Δ 0), .int v1, .int v2]) (fun _ => oE) (fun _ => (Nat.le_of_ble_eq_true rfl)) (fun Γ hR hm hC => wX10_both hC hR hm F κ v1 v2) Δ l hl hN
set_option maxRecDepth 20000 in
theorem wX10_noSet_22 {Γ : JCtx} (hC : jC Γ cX10_noSet 2 RX10 (some .boolean) layX 147) (hR : gR Γ = rmH 0) (hm : gcells Γ ≤ (gR Γ).cells ∧ gslots Γ ≤ (gR Γ).slots) (κ : Mem) (y0 : Int32) : JP Γ (qf Γ (oI κ)) (pX10_noSet_22 κ y0) κ 22 [] [.int y0] := by
  unfold pX10_noSet_22
  refine j_ckP (fun hq1 => ?_)
  exact j_iret hC (pc := 22) dX10_noSet_22 rfl (isB_n hq1) rfl
set_option maxRecDepth 20000 in
theorem wX10_noSet_17 {Γ : JCtx} (hC : jC Γ cX10_noSet 2 RX10 (some .boolean) layX 147) (hR : gR Γ = rmH 0) (hm : gcells Γ ≤ (gR Γ).cells ∧ gslots Γ ≤ (gR Γ).slots) (κ : Mem) : JP Γ (qf Γ (oI κ)) (pX10_noSet_17 κ) κ 17 [] [] := by
  unfold pX10_noSet_17
  refine j_iconst hC (pc := 17) dX10_noSet_17 ki_1 ?_
  refine j_goto hC (pc := 18) dX10_noSet_18 (tgt := 22) rfl ?_
  exact wX10_noSet_22 hC hR hm κ 1
set_option maxRecDepth 20000 in
theorem wX10_noSet {Γ : JCtx} (hC : jC Γ cX10_noSet 2 RX10 (some .boolean) layX 147) (hR : gR Γ = rmH 0) (hm : gcells Γ ≤ (gR Γ).cells ∧ gslots Γ ≤ (gR Γ).slots) (κ : Mem) (v1 : Int32) : JP Γ (qf Γ (oI κ)) (pX10_noSet κ v1) κ 0 [(0, .ref (gad Γ 0)), (1, .int v1)] [] := by
  unfold pX10_noSet
  refine j_iload_n hC (pc := 0) dX10_noSet_0 1 rfl rfl ?_
  refine j_if_le hC (pc := 1) dX10_noSet_1 (tgt := 17) rfl ?_ ?_
  · refine j_sub [] (loc' := []) rfl ?_
    exact wX10_noSet_17 hC hR hm κ
  · refine j_iload_n hC (pc := 4) dX10_noSet_4 1 rfl rfl ?_
    refine j_iconst hC (pc := 5) dX10_noSet_5 ki_1 ?_
    refine j_aload_n hC (pc := 6) dX10_noSet_6 0 rfl rfl ?_
    refine j_getR hC (pc := 7) dX10_noSet_7 kf_RX10_10 lX_0 (Nat.le_of_ble_eq_true rfl) rfl ?_
    refine j_getI hC (pc := 10) dX10_noSet_10 kf_RX10_129 lX_1 (Nat.le_of_ble_eq_true rfl) rfl ?_
    refine j_ishl hC (pc := 13) dX10_noSet_13 ?_
    refine j_icmp_lt hC (pc := 14) dX10_noSet_14 (tgt := 21) rfl ?_ ?_
    · refine j_iconst hC (pc := 21) dX10_noSet_21 ki_0 ?_
      refine j_sub [] (loc' := []) rfl ?_
      exact wX10_noSet_22 hC hR hm κ 0
    · refine j_sub [] (loc' := []) rfl ?_
      exact wX10_noSet_17 hC hR hm κ
theorem ctX10_noSet {Δ : DCtx} {l : Launch} (hl : dlay Δ = layX) (hN : dN Δ = 147) (κ : Mem) (v1 : Int32) : ∀ r, pX10_noSet κ v1 = some r → CT Δ l yX10_noSet cX10_noSet 2 (some .boolean) (rmH 0) [.ref (dad Δ 0), .int v1] κ (some (.int r)) κ :=
  ct_of (nL := 2) (ret := (some .boolean)) (lay := layX) (N := 147) (by decide +kernel) (fun Δ => [.ref (dad Δ 0), .int v1]) (fun _ => oI κ) (fun _ => (Nat.le_of_ble_eq_true rfl)) (fun Γ hR hm hC => wX10_noSet hC hR hm κ v1) Δ l hl hN
set_option maxRecDepth 20000 in
theorem wX10_without_28 {Γ : JCtx} (hC : jC Γ cX10_without 2 RX10 (some .int) layX 147) (hR : gR Γ = rmH 1) (hm : gcells Γ ≤ (gR Γ).cells ∧ gslots Γ ≤ (gR Γ).slots) (F : Nat) (κ : Mem) (y0 : Int32) : JP Γ (qf Γ oE) (pX10_without_28 F κ y0) κ 28 [] [.int y0] := by
  unfold pX10_without_28
  exact j_iret hC (pc := 28) dX10_without_28 rfl rfl rfl
set_option maxRecDepth 20000 in
theorem wX10_without {Γ : JCtx} (hC : jC Γ cX10_without 2 RX10 (some .int) layX 147) (hR : gR Γ = rmH 1) (hm : gcells Γ ≤ (gR Γ).cells ∧ gslots Γ ≤ (gR Γ).slots) (F : Nat) (κ : Mem) (v1 : Int32) : JP Γ (qf Γ oE) (pX10_without F κ v1) κ 0 [(0, .ref (gad Γ 0)), (1, .int v1)] [] := by
  unfold pX10_without
  refine j_aload_n hC (pc := 0) dX10_without_0 0 rfl rfl ?_
  refine j_iload_n hC (pc := 1) dX10_without_1 1 rfl rfl ?_
  refine j_callV_I hC hR (ctX10_noSet hC.l hC.cn κ v1) kc_RX10_227 (Nat.le_of_ble_eq_true rfl) (Nat.le_of_ble_eq_true rfl) lX_0 (Nat.le_of_ble_eq_true rfl) rfl (As := [.int v1]) (rest := []) rfl rfl (Nat.le_of_ble_eq_true rfl) hm (pc := 2) dX10_without_2 (fun t1 => ?_)
  refine j_if_eq hC (pc := 5) dX10_without_5 (tgt := 16) rfl ?_ ?_
  · refine j_aload_n hC (pc := 16) dX10_without_16 0 rfl rfl ?_
    refine j_aload_n hC (pc := 17) dX10_without_17 0 rfl rfl ?_
    refine j_getR hC (pc := 18) dX10_without_18 kf_RX10_21 lX_0 (Nat.le_of_ble_eq_true rfl) rfl ?_
    refine j_iload_n hC (pc := 21) dX10_without_21 1 rfl rfl ?_
    refine j_callV_I hC hR (ctX1_noneRightOf hC.l hC.cn F κ v1) kc_RX10_230 (Nat.le_of_ble_eq_true rfl) (Nat.le_of_ble_eq_true rfl) lX_41 (Nat.le_of_ble_eq_true rfl) rfl (As := [.int v1]) (rest := [.ref (gad Γ 0)]) rfl rfl (Nat.le_of_ble_eq_true rfl) hm (pc := 22) dX10_without_22 (fun t2 => ?_)
    refine j_callV_E hC hR (ctX10_give hC.l hC.cn κ t2) kc_RX10_132 (Nat.le_of_ble_eq_true rfl) (Nat.le_of_ble_eq_true rfl) lX_0 (Nat.le_of_ble_eq_true rfl) rfl (As := [.int t2]) (rest := []) rfl rfl (Nat.le_of_ble_eq_true rfl) hm (pc := 25) dX10_without_25 (fun t3 => ?_)
    refine j_sub [] (loc' := []) rfl ?_
    exact wX10_without_28 hC hR hm F t3.2 t3.1
  · refine j_aload_n hC (pc := 8) dX10_without_8 0 rfl rfl ?_
    refine j_iconst hC (pc := 9) dX10_without_9 ki_2 ?_
    refine j_callV_E hC hR (ctX10_refuse hC.l hC.cn κ 2) kc_RX10_105 (Nat.le_of_ble_eq_true rfl) (Nat.le_of_ble_eq_true rfl) lX_0 (Nat.le_of_ble_eq_true rfl) rfl (As := [.int 2]) (rest := []) rfl rfl (Nat.le_of_ble_eq_true rfl) hm (pc := 10) dX10_without_10 (fun t4 => ?_)
    refine j_goto hC (pc := 13) dX10_without_13 (tgt := 28) rfl ?_
    refine j_sub [] (loc' := []) rfl ?_
    exact wX10_without_28 hC hR hm F t4.2 t4.1
theorem ctX10_without {Δ : DCtx} {l : Launch} (hl : dlay Δ = layX) (hN : dN Δ = 147) (F : Nat) (κ : Mem) (v1 : Int32) : ∀ r, pX10_without F κ v1 = some r → CT Δ l yX10_without cX10_without 2 (some .int) (rmH 1) [.ref (dad Δ 0), .int v1] κ (some (.int r.1)) r.2 :=
  ct_of (nL := 2) (ret := (some .int)) (lay := layX) (N := 147) (by decide +kernel) (fun Δ => [.ref (dad Δ 0), .int v1]) (fun _ => oE) (fun _ => (Nat.le_of_ble_eq_true rfl)) (fun Γ hR hm hC => wX10_without hC hR hm F κ v1) Δ l hl hN
set_option maxRecDepth 20000 in
theorem wX10_together_28 {Γ : JCtx} (hC : jC Γ cX10_together 2 RX10 (some .int) layX 147) (hR : gR Γ = rmH 1) (hm : gcells Γ ≤ (gR Γ).cells ∧ gslots Γ ≤ (gR Γ).slots) (F : Nat) (κ : Mem) (y0 : Int32) : JP Γ (qf Γ oE) (pX10_together_28 F κ y0) κ 28 [] [.int y0] := by
  unfold pX10_together_28
  exact j_iret hC (pc := 28) dX10_together_28 rfl rfl rfl
set_option maxRecDepth 20000 in
theorem wX10_together {Γ : JCtx} (hC : jC Γ cX10_together 2 RX10 (some .int) layX 147) (hR : gR Γ = rmH 1) (hm : gcells Γ ≤ (gR Γ).cells ∧ gslots Γ ≤ (gR Γ).slots) (F : Nat) (κ : Mem) (v1 : Int32) : JP Γ (qf Γ oE) (pX10_together F κ v1) κ 0 [(0, .ref (gad Γ 0)), (1, .int v1)] [] := by
  unfold pX10_together
  refine j_aload_n hC (pc := 0) dX10_together_0 0 rfl rfl ?_
  refine j_iload_n hC (pc := 1) dX10_together_1 1 rfl rfl ?_
  refine j_callV_I hC hR (ctX10_noSet hC.l hC.cn κ v1) kc_RX10_227 (Nat.le_of_ble_eq_true rfl) (Nat.le_of_ble_eq_true rfl) lX_0 (Nat.le_of_ble_eq_true rfl) rfl (As := [.int v1]) (rest := []) rfl rfl (Nat.le_of_ble_eq_true rfl) hm (pc := 2) dX10_together_2 (fun t1 => ?_)
  refine j_if_eq hC (pc := 5) dX10_together_5 (tgt := 16) rfl ?_ ?_
  · refine j_aload_n hC (pc := 16) dX10_together_16 0 rfl rfl ?_
    refine j_aload_n hC (pc := 17) dX10_together_17 0 rfl rfl ?_
    refine j_getR hC (pc := 18) dX10_together_18 kf_RX10_21 lX_0 (Nat.le_of_ble_eq_true rfl) rfl ?_
    refine j_iload_n hC (pc := 21) dX10_together_21 1 rfl rfl ?_
    refine j_callV_I hC hR (ctX1_allRightOf hC.l hC.cn F κ v1) kc_RX10_224 (Nat.le_of_ble_eq_true rfl) (Nat.le_of_ble_eq_true rfl) lX_41 (Nat.le_of_ble_eq_true rfl) rfl (As := [.int v1]) (rest := [.ref (gad Γ 0)]) rfl rfl (Nat.le_of_ble_eq_true rfl) hm (pc := 22) dX10_together_22 (fun t2 => ?_)
    refine j_callV_E hC hR (ctX10_give hC.l hC.cn κ t2) kc_RX10_132 (Nat.le_of_ble_eq_true rfl) (Nat.le_of_ble_eq_true rfl) lX_0 (Nat.le_of_ble_eq_true rfl) rfl (As := [.int t2]) (rest := []) rfl rfl (Nat.le_of_ble_eq_true rfl) hm (pc := 25) dX10_together_25 (fun t3 => ?_)
    refine j_sub [] (loc' := []) rfl ?_
    exact wX10_together_28 hC hR hm F t3.2 t3.1
  · refine j_aload_n hC (pc := 8) dX10_together_8 0 rfl rfl ?_
    refine j_iconst hC (pc := 9) dX10_together_9 ki_2 ?_
    refine j_callV_E hC hR (ctX10_refuse hC.l hC.cn κ 2) kc_RX10_105 (Nat.le_of_ble_eq_true rfl) (Nat.le_of_ble_eq_true rfl) lX_0 (Nat.le_of_ble_eq_true rfl) rfl (As := [.int 2]) (rest := []) rfl rfl (Nat.le_of_ble_eq_true rfl) hm (pc := 10) dX10_together_10 (fun t4 => ?_)
    refine j_goto hC (pc := 13) dX10_together_13 (tgt := 28) rfl ?_
    refine j_sub [] (loc' := []) rfl ?_
    exact wX10_together_28 hC hR hm F t4.2 t4.1
theorem ctX10_together {Δ : DCtx} {l : Launch} (hl : dlay Δ = layX) (hN : dN Δ = 147) (F : Nat) (κ : Mem) (v1 : Int32) : ∀ r, pX10_together F κ v1 = some r → CT Δ l yX10_together cX10_together 2 (some .int) (rmH 1) [.ref (dad Δ 0), .int v1] κ (some (.int r.1)) r.2 :=
  ct_of (nL := 2) (ret := (some .int)) (lay := layX) (N := 147) (by decide +kernel) (fun Δ => [.ref (dad Δ 0), .int v1]) (fun _ => oE) (fun _ => (Nat.le_of_ble_eq_true rfl)) (fun Γ hR hm hC => wX10_together hC hR hm F κ v1) Δ l hl hN
set_option maxRecDepth 20000 in
theorem wX10_crowd_9 {Γ : JCtx} (hC : jC Γ cX10_crowd 3 RX10 (some .int) layX 147) (hR : gR Γ = rmH 2) (hm : gcells Γ ≤ (gR Γ).cells ∧ gslots Γ ≤ (gR Γ).slots) (F : Nat) (κ : Mem) : JP Γ (qf Γ oE) (pX10_crowd_9 F κ) κ 9 [(0, .ref (gad Γ 0))] [] := by
  unfold pX10_crowd_9
  refine j_aload_n hC (pc := 9) dX10_crowd_9 0 rfl rfl ?_
  refine j_iconst hC (pc := 10) dX10_crowd_10 ki_1 ?_
  refine j_callV_E hC hR (ctX10_refuse hC.l hC.cn κ 1) kc_RX10_105 (Nat.le_of_ble_eq_true rfl) (Nat.le_of_ble_eq_true rfl) lX_0 (Nat.le_of_ble_eq_true rfl) rfl (As := [.int 1]) (rest := []) rfl rfl (Nat.le_of_ble_eq_true rfl) hm (pc := 11) dX10_crowd_11 (fun t1 => ?_)
  exact j_iret hC (pc := 14) dX10_crowd_14 rfl rfl rfl
set_option maxRecDepth 20000 in
theorem wX10_crowd_75 {Γ : JCtx} (hC : jC Γ cX10_crowd 3 RX10 (some .int) layX 147) (hR : gR Γ = rmH 2) (hm : gcells Γ ≤ (gR Γ).cells ∧ gslots Γ ≤ (gR Γ).slots) (F : Nat) (κ : Mem) (y0 : Int32) : JP Γ (qf Γ oE) (pX10_crowd_75 F κ y0) κ 75 [] [.int y0, .ref (gad Γ 0)] := by
  unfold pX10_crowd_75
  refine j_callV_E hC hR (ctX10_give hC.l hC.cn κ y0) kc_RX10_132 (Nat.le_of_ble_eq_true rfl) (Nat.le_of_ble_eq_true rfl) lX_0 (Nat.le_of_ble_eq_true rfl) rfl (As := [.int y0]) (rest := []) rfl rfl (Nat.le_of_ble_eq_true rfl) hm (pc := 75) dX10_crowd_75 (fun t6 => ?_)
  exact j_iret hC (pc := 78) dX10_crowd_78 rfl rfl rfl
set_option maxRecDepth 20000 in
theorem wX10_crowd {Γ : JCtx} (hC : jC Γ cX10_crowd 3 RX10 (some .int) layX 147) (hR : gR Γ = rmH 2) (hm : gcells Γ ≤ (gR Γ).cells ∧ gslots Γ ≤ (gR Γ).slots) (F : Nat) (κ : Mem) (v1 : Int32) : JP Γ (qf Γ oE) (pX10_crowd F κ v1) κ 0 [(0, .ref (gad Γ 0)), (1, .int v1)] [] := by
  unfold pX10_crowd
  refine j_iload_n hC (pc := 0) dX10_crowd_0 1 rfl rfl ?_
  refine j_if_lt hC (pc := 1) dX10_crowd_1 (tgt := 9) rfl ?_ ?_
  · refine j_sub [0] (loc' := [(0, .ref (gad Γ 0))]) rfl ?_
    exact wX10_crowd_9 hC hR hm F κ
  · refine j_iload_n hC (pc := 4) dX10_crowd_4 1 rfl rfl ?_
    refine j_iconst hC (pc := 5) dX10_crowd_5 ki_2 ?_
    refine j_icmp_le hC (pc := 6) dX10_crowd_6 (tgt := 15) rfl ?_ ?_
    · refine j_aload_n hC (pc := 15) dX10_crowd_15 0 rfl rfl ?_
      refine j_getR hC (pc := 16) dX10_crowd_16 kf_RX10_10 lX_0 (Nat.le_of_ble_eq_true rfl) rfl ?_
      refine j_getI hC (pc := 19) dX10_crowd_19 kf_RX10_129 lX_1 (Nat.le_of_ble_eq_true rfl) rfl ?_
      refine j_if_ne hC (pc := 22) dX10_crowd_22 (tgt := 31) rfl ?_ ?_
      · refine j_aload_n hC (pc := 25) dX10_crowd_25 0 rfl rfl ?_
        refine j_iconst hC (pc := 26) dX10_crowd_26 ki_5 ?_
        refine j_callV_E hC hR (ctX10_refuse hC.l hC.cn κ 5) kc_RX10_105 (Nat.le_of_ble_eq_true rfl) (Nat.le_of_ble_eq_true rfl) lX_0 (Nat.le_of_ble_eq_true rfl) rfl (As := [.int 5]) (rest := []) rfl rfl (Nat.le_of_ble_eq_true rfl) hm (pc := 27) dX10_crowd_27 (fun t2 => ?_)
        exact j_iret hC (pc := 30) dX10_crowd_30 rfl rfl rfl
      · refine j_aload_n hC (pc := 31) dX10_crowd_31 0 rfl rfl ?_
        refine j_getR hC (pc := 32) dX10_crowd_32 kf_RX10_21 lX_0 (Nat.le_of_ble_eq_true rfl) rfl ?_
        refine j_callV_I hC hR (ctX1_mostRight hC.l hC.cn F κ) kc_RX10_233 (Nat.le_of_ble_eq_true rfl) (Nat.le_of_ble_eq_true rfl) lX_41 (Nat.le_of_ble_eq_true rfl) rfl (As := []) (rest := []) rfl rfl (Nat.le_of_ble_eq_true rfl) hm (pc := 35) dX10_crowd_35 (fun t3 => ?_)
        refine j_istore_n hC (pc := 38) dX10_crowd_38 rfl (Nat.le_of_ble_eq_true rfl) (loc' := [(2, .int t3), (0, .ref (gad Γ 0)), (1, .int v1)]) rfl ?_
        refine j_iload_n hC (pc := 39) dX10_crowd_39 2 rfl rfl ?_
        refine j_if_ne hC (pc := 40) dX10_crowd_40 (tgt := 49) rfl ?_ ?_
        · refine j_aload_n hC (pc := 43) dX10_crowd_43 1 rfl rfl ?_
          refine j_iload_n hC (pc := 44) dX10_crowd_44 0 rfl rfl ?_
          refine j_callV_E hC hR (ctX10_give hC.l hC.cn κ t3) kc_RX10_132 (Nat.le_of_ble_eq_true rfl) (Nat.le_of_ble_eq_true rfl) lX_0 (Nat.le_of_ble_eq_true rfl) rfl (As := [.int t3]) (rest := []) rfl rfl (Nat.le_of_ble_eq_true rfl) hm (pc := 45) dX10_crowd_45 (fun t4 => ?_)
          exact j_iret hC (pc := 48) dX10_crowd_48 rfl rfl rfl
        · refine j_aload_n hC (pc := 49) dX10_crowd_49 1 rfl rfl ?_
          refine j_iload_n hC (pc := 50) dX10_crowd_50 2 rfl rfl ?_
          refine j_iconst hC (pc := 51) dX10_crowd_51 ki_1 ?_
          refine j_icmp_ne hC (pc := 52) dX10_crowd_52 (tgt := 66) rfl ?_ ?_
          · refine j_aload_n hC (pc := 55) dX10_crowd_55 1 rfl rfl ?_
            refine j_getR hC (pc := 56) dX10_crowd_56 kf_RX10_21 lX_0 (Nat.le_of_ble_eq_true rfl) rfl ?_
            refine j_iload_n hC (pc := 59) dX10_crowd_59 0 rfl rfl ?_
            refine j_callV_I hC hR (ctX1_firstWithRight hC.l hC.cn F κ t3) kc_RX10_236 (Nat.le_of_ble_eq_true rfl) (Nat.le_of_ble_eq_true rfl) lX_41 (Nat.le_of_ble_eq_true rfl) rfl (As := [.int t3]) (rest := [.ref (gad Γ 0)]) rfl rfl (Nat.le_of_ble_eq_true rfl) hm (pc := 60) dX10_crowd_60 (fun t5 => ?_)
            refine j_goto hC (pc := 63) dX10_crowd_63 (tgt := 75) rfl ?_
            refine j_sub [] (loc' := []) rfl ?_
            exact wX10_crowd_75 hC hR hm F κ t5
          · refine j_aload_n hC (pc := 66) dX10_crowd_66 1 rfl rfl ?_
            refine j_getR hC (pc := 67) dX10_crowd_67 kf_RX10_21 lX_0 (Nat.le_of_ble_eq_true rfl) rfl ?_
            refine j_iload_n hC (pc := 70) dX10_crowd_70 0 rfl rfl ?_
            refine j_iload_n hC (pc := 71) dX10_crowd_71 0 rfl rfl ?_
            refine j_callV_I hC hR (ctX1_withRight hC.l hC.cn F κ t3 t3) kc_RX10_215 (Nat.le_of_ble_eq_true rfl) (Nat.le_of_ble_eq_true rfl) lX_41 (Nat.le_of_ble_eq_true rfl) rfl (As := [.int t3, .int t3]) (rest := [.ref (gad Γ 0)]) rfl rfl (Nat.le_of_ble_eq_true rfl) hm (pc := 72) dX10_crowd_72 (fun t7 => ?_)
            refine j_sub [] (loc' := []) rfl ?_
            exact wX10_crowd_75 hC hR hm F κ t7
    · refine j_sub [0] (loc' := [(0, .ref (gad Γ 0))]) rfl ?_
      exact wX10_crowd_9 hC hR hm F κ
theorem ctX10_crowd {Δ : DCtx} {l : Launch} (hl : dlay Δ = layX) (hN : dN Δ = 147) (F : Nat) (κ : Mem) (v1 : Int32) : ∀ r, pX10_crowd F κ v1 = some r → CT Δ l yX10_crowd cX10_crowd 3 (some .int) (rmH 2) [.ref (dad Δ 0), .int v1] κ (some (.int r.1)) r.2 :=
  ct_of (nL := 3) (ret := (some .int)) (lay := layX) (N := 147) (by decide +kernel) (fun Δ => [.ref (dad Δ 0), .int v1]) (fun _ => oE) (fun _ => (Nat.le_of_ble_eq_true rfl)) (fun Γ hR hm hC => wX10_crowd hC hR hm F κ v1) Δ l hl hN
set_option maxRecDepth 20000 in
theorem wX10_twice {Γ : JCtx} (hC : jC Γ cX10_twice 1 RX10 (some .int) layX 147) (hR : gR Γ = rmH 3) (hm : gcells Γ ≤ (gR Γ).cells ∧ gslots Γ ≤ (gR Γ).slots) (F : Nat) (κ : Mem) : JP Γ (qf Γ oE) (pX10_twice F κ) κ 0 [(0, .ref (gad Γ 0))] [] := by
  unfold pX10_twice
  refine j_aload_n hC (pc := 0) dX10_twice_0 0 rfl rfl ?_
  refine j_aload_n hC (pc := 1) dX10_twice_1 0 rfl rfl ?_
  refine j_getR hC (pc := 2) dX10_twice_2 kf_RX10_21 lX_0 (Nat.le_of_ble_eq_true rfl) rfl ?_
  refine j_callV_I hC hR (ctX1_lostOfTwoGuesses hC.l hC.cn F κ) kc_RX10_239 (Nat.le_of_ble_eq_true rfl) (Nat.le_of_ble_eq_true rfl) lX_41 (Nat.le_of_ble_eq_true rfl) rfl (As := []) (rest := [.ref (gad Γ 0)]) rfl rfl (Nat.le_of_ble_eq_true rfl) hm (pc := 5) dX10_twice_5 (fun t1 => ?_)
  refine j_callV_E hC hR (ctX10_give hC.l hC.cn κ t1) kc_RX10_132 (Nat.le_of_ble_eq_true rfl) (Nat.le_of_ble_eq_true rfl) lX_0 (Nat.le_of_ble_eq_true rfl) rfl (As := [.int t1]) (rest := []) rfl rfl (Nat.le_of_ble_eq_true rfl) hm (pc := 8) dX10_twice_8 (fun t2 => ?_)
  exact j_iret hC (pc := 11) dX10_twice_11 rfl rfl rfl
theorem ctX10_twice {Δ : DCtx} {l : Launch} (hl : dlay Δ = layX) (hN : dN Δ = 147) (F : Nat) (κ : Mem) : ∀ r, pX10_twice F κ = some r → CT Δ l yX10_twice cX10_twice 1 (some .int) (rmH 3) [.ref (dad Δ 0)] κ (some (.int r.1)) r.2 :=
  ct_of (nL := 1) (ret := (some .int)) (lay := layX) (N := 147) (by decide +kernel) (fun Δ => [.ref (dad Δ 0)]) (fun _ => oE) (fun _ => (Nat.le_of_ble_eq_true rfl)) (fun Γ hR hm hC => wX10_twice hC hR hm F κ) Δ l hl hN
set_option maxRecDepth 20000 in
theorem wX10_blinded_32 {Γ : JCtx} (hC : jC Γ cX10_blinded 4 RX10 (some .int) layX 147) (hR : gR Γ = rmH 3) (hm : gcells Γ ≤ (gR Γ).cells ∧ gslots Γ ≤ (gR Γ).slots) (F : Nat) (κ : Mem) (y0 : Int32) : JP Γ (qf Γ oE) (pX10_blinded_32 F κ y0) κ 32 [] [.int y0] := by
  unfold pX10_blinded_32
  exact j_iret hC (pc := 32) dX10_blinded_32 rfl rfl rfl
set_option maxRecDepth 20000 in
theorem wX10_blinded {Γ : JCtx} (hC : jC Γ cX10_blinded 4 RX10 (some .int) layX 147) (hR : gR Γ = rmH 3) (hm : gcells Γ ≤ (gR Γ).cells ∧ gslots Γ ≤ (gR Γ).slots) (F : Nat) (κ : Mem) (v1 : Int32) (v2 : Int32) : JP Γ (qf Γ oE) (pX10_blinded F κ v1 v2) κ 0 [(0, .ref (gad Γ 0)), (1, .int v1), (2, .int v2)] [] := by
  unfold pX10_blinded
  refine j_aload_n hC (pc := 0) dX10_blinded_0 0 rfl rfl ?_
  refine j_iload_n hC (pc := 1) dX10_blinded_1 1 rfl rfl ?_
  refine j_iload_n hC (pc := 2) dX10_blinded_2 2 rfl rfl ?_
  refine j_callV_I hC hR (ctX10_sightTrouble hC.l hC.cn κ v1 v2) kc_RX10_191 (Nat.le_of_ble_eq_true rfl) (Nat.le_of_ble_eq_true rfl) lX_0 (Nat.le_of_ble_eq_true rfl) rfl (As := [.int v1, .int v2]) (rest := []) rfl rfl (Nat.le_of_ble_eq_true rfl) hm (pc := 3) dX10_blinded_3 (fun t1 => ?_)
  refine j_istore_n hC (pc := 6) dX10_blinded_6 rfl (Nat.le_of_ble_eq_true rfl) (loc' := [(3, .int t1), (0, .ref (gad Γ 0)), (1, .int v1), (2, .int v2)]) rfl ?_
  refine j_iload_n hC (pc := 7) dX10_blinded_7 0 rfl rfl ?_
  refine j_if_eq hC (pc := 8) dX10_blinded_8 (tgt := 19) rfl ?_ ?_
  · refine j_aload_n hC (pc := 19) dX10_blinded_19 1 rfl rfl ?_
    refine j_aload_n hC (pc := 20) dX10_blinded_20 1 rfl rfl ?_
    refine j_getR hC (pc := 21) dX10_blinded_21 kf_RX10_21 lX_0 (Nat.le_of_ble_eq_true rfl) rfl ?_
    refine j_iload_n hC (pc := 24) dX10_blinded_24 2 rfl rfl ?_
    refine j_iload_n hC (pc := 25) dX10_blinded_25 3 rfl rfl ?_
    refine j_callV_I hC hR (ctX1_lostUnseen hC.l hC.cn F κ v1 v2) kc_RX10_242 (Nat.le_of_ble_eq_true rfl) (Nat.le_of_ble_eq_true rfl) lX_41 (Nat.le_of_ble_eq_true rfl) rfl (As := [.int v1, .int v2]) (rest := [.ref (gad Γ 0)]) rfl rfl (Nat.le_of_ble_eq_true rfl) hm (pc := 26) dX10_blinded_26 (fun t2 => ?_)
    refine j_callV_E hC hR (ctX10_give hC.l hC.cn κ t2) kc_RX10_132 (Nat.le_of_ble_eq_true rfl) (Nat.le_of_ble_eq_true rfl) lX_0 (Nat.le_of_ble_eq_true rfl) rfl (As := [.int t2]) (rest := []) rfl rfl (Nat.le_of_ble_eq_true rfl) hm (pc := 29) dX10_blinded_29 (fun t3 => ?_)
    refine j_sub [] (loc' := []) rfl ?_
    exact wX10_blinded_32 hC hR hm F t3.2 t3.1
  · refine j_aload_n hC (pc := 11) dX10_blinded_11 1 rfl rfl ?_
    refine j_iload_n hC (pc := 12) dX10_blinded_12 0 rfl rfl ?_
    refine j_callV_E hC hR (ctX10_refuse hC.l hC.cn κ t1) kc_RX10_105 (Nat.le_of_ble_eq_true rfl) (Nat.le_of_ble_eq_true rfl) lX_0 (Nat.le_of_ble_eq_true rfl) rfl (As := [.int t1]) (rest := []) rfl rfl (Nat.le_of_ble_eq_true rfl) hm (pc := 13) dX10_blinded_13 (fun t4 => ?_)
    refine j_goto hC (pc := 16) dX10_blinded_16 (tgt := 32) rfl ?_
    refine j_sub [] (loc' := []) rfl ?_
    exact wX10_blinded_32 hC hR hm F t4.2 t4.1
theorem ctX10_blinded {Δ : DCtx} {l : Launch} (hl : dlay Δ = layX) (hN : dN Δ = 147) (F : Nat) (κ : Mem) (v1 : Int32) (v2 : Int32) : ∀ r, pX10_blinded F κ v1 v2 = some r → CT Δ l yX10_blinded cX10_blinded 4 (some .int) (rmH 3) [.ref (dad Δ 0), .int v1, .int v2] κ (some (.int r.1)) r.2 :=
  ct_of (nL := 4) (ret := (some .int)) (lay := layX) (N := 147) (by decide +kernel) (fun Δ => [.ref (dad Δ 0), .int v1, .int v2]) (fun _ => oE) (fun _ => (Nat.le_of_ble_eq_true rfl)) (fun Γ hR hm hC => wX10_blinded hC hR hm F κ v1 v2) Δ l hl hN
set_option maxRecDepth 20000 in
theorem wX10_weakest_83 {Γ : JCtx} (hC : jC Γ cX10_weakest 7 RX10 (some .int) layX 147) (hR : gR Γ = rmH 3) (hm : gcells Γ ≤ (gR Γ).cells ∧ gslots Γ ≤ (gR Γ).slots) (F : Nat) (κ : Mem) (v1 : Int32) (v2 : Int32) (v3 : Int32) (v4 : Int32) (v5 : Int32) (k22 : Int32 → Int32 → Int32 → Option (Int32 × Mem)) (hk22 : ∀ (v2 : Int32) (v3 : Int32) (v5 : Int32), JP Γ (qf Γ oE) (k22 v2 v3 v5) κ 22 [(0, .ref (gad Γ 0)), (1, .int v1), (2, .int v2), (3, .int v3), (4, .int v4), (5, .int v5)] []) : JP Γ (qf Γ oE) (pX10_weakest_83 F k22 κ v1 v2 v3 v4 v5) κ 83 [(0, .ref (gad Γ 0)), (1, .int v1), (2, .int v2), (3, .int v3), (4, .int v4), (5, .int v5)] [] := by
  unfold pX10_weakest_83
  refine j_iinc hC (pc := 83) dX10_weakest_83 5 rfl ki_1 (Nat.le_of_ble_eq_true rfl) (loc' := [(5, .int (v5 + 1)), (0, .ref (gad Γ 0)), (1, .int v1), (2, .int v2), (3, .int v3), (4, .int v4)]) rfl ?_
  refine j_goto hC (pc := 86) dX10_weakest_86 (tgt := 22) rfl ?_
  refine j_sub [1, 2, 3, 4, 5, 0] (loc' := [(0, .ref (gad Γ 0)), (1, .int v1), (2, .int v2), (3, .int v3), (4, .int v4), (5, .int (v5 + 1))]) rfl ?_
  exact hk22 v2 v3 (v5 + 1)
set_option maxRecDepth 20000 in
theorem wX10_weakest_63 {Γ : JCtx} (hC : jC Γ cX10_weakest 7 RX10 (some .int) layX 147) (hR : gR Γ = rmH 3) (hm : gcells Γ ≤ (gR Γ).cells ∧ gslots Γ ≤ (gR Γ).slots) (F : Nat) (κ : Mem) (v1 : Int32) (v2 : Int32) (v3 : Int32) (v4 : Int32) (v5 : Int32) (y0 : Int32) (k22 : Int32 → Int32 → Int32 → Option (Int32 × Mem)) (hk22 : ∀ (v2 : Int32) (v3 : Int32) (v5 : Int32), JP Γ (qf Γ oE) (k22 v2 v3 v5) κ 22 [(0, .ref (gad Γ 0)), (1, .int v1), (2, .int v2), (3, .int v3), (4, .int v4), (5, .int v5)] []) : JP Γ (qf Γ oE) (pX10_weakest_63 F k22 κ v1 v2 v3 v4 v5 y0) κ 63 [(0, .ref (gad Γ 0)), (1, .int v1), (2, .int v2), (3, .int v3), (4, .int v4), (5, .int v5)] [.int y0] := by
  unfold pX10_weakest_63
  refine j_istore hC (pc := 63) dX10_weakest_63 (Nat.le_of_ble_eq_true rfl) (loc' := [(6, .int y0), (0, .ref (gad Γ 0)), (1, .int v1), (2, .int v2), (3, .int v3), (4, .int v4), (5, .int v5)]) rfl ?_
  refine j_iload hC (pc := 65) dX10_weakest_65 0 rfl ?_
  refine j_iload_n hC (pc := 67) dX10_weakest_67 4 rfl rfl ?_
  refine j_icmp_le hC (pc := 68) dX10_weakest_68 (tgt := 83) rfl ?_ ?_
  · refine j_sub [1, 2, 3, 4, 5, 6] (loc' := [(0, .ref (gad Γ 0)), (1, .int v1), (2, .int v2), (3, .int v3), (4, .int v4), (5, .int v5)]) rfl ?_
    exact wX10_weakest_83 hC hR hm F κ v1 v2 v3 v4 v5 k22 hk22
  · refine j_iload hC (pc := 71) dX10_weakest_71 0 rfl ?_
    refine j_istore_n hC (pc := 73) dX10_weakest_73 rfl (Nat.le_of_ble_eq_true rfl) (loc' := [(3, .int y0), (6, .int y0), (0, .ref (gad Γ 0)), (1, .int v1), (2, .int v2), (4, .int v4), (5, .int v5)]) rfl ?_
    refine j_bipush hC (pc := 74) dX10_weakest_74 kb_6 ?_
    refine j_iload hC (pc := 76) dX10_weakest_76 5 rfl ?_
    refine j_imul hC (pc := 78) dX10_weakest_78 ?_
    refine j_iload hC (pc := 79) dX10_weakest_79 6 rfl ?_
    refine j_iadd hC (pc := 81) dX10_weakest_81 ?_
    refine j_nmi (fun x2 => ?_)
    refine j_istore_n hC (pc := 82) dX10_weakest_82 rfl (Nat.le_of_ble_eq_true rfl) (loc' := [(2, .int x2), (3, .int y0), (6, .int y0), (0, .ref (gad Γ 0)), (1, .int v1), (4, .int v4), (5, .int v5)]) rfl ?_
    refine j_sub [3, 4, 0, 1, 5, 6] (loc' := [(0, .ref (gad Γ 0)), (1, .int v1), (2, .int x2), (3, .int y0), (4, .int v4), (5, .int v5)]) rfl ?_
    exact wX10_weakest_83 hC hR hm F κ v1 x2 y0 v4 v5 k22 hk22
set_option maxRecDepth 20000 in
theorem wX10_weakest_22 {Γ : JCtx} (hC : jC Γ cX10_weakest 7 RX10 (some .int) layX 147) (hR : gR Γ = rmH 3) (hm : gcells Γ ≤ (gR Γ).cells ∧ gslots Γ ≤ (gR Γ).slots) (F : Nat) (κ : Mem) (v1 : Int32) (v4 : Int32) (k7 : Int32 → Int32 → Int32 → Option (Int32 × Mem)) (hk7 : ∀ (v2 : Int32) (v3 : Int32) (v4 : Int32), JP Γ (qf Γ oE) (k7 v2 v3 v4) κ 7 [(0, .ref (gad Γ 0)), (1, .int v1), (2, .int v2), (3, .int v3), (4, .int v4)] []) : ∀ (n : Nat) (v2 : Int32) (v3 : Int32) (v5 : Int32), JP Γ (qf Γ oE) (pX10_weakest_22 F k7 κ v1 v4 n v2 v3 v5) κ 22 [(0, .ref (gad Γ 0)), (1, .int v1), (2, .int v2), (3, .int v3), (4, .int v4), (5, .int v5)] [] := by
  intro n
  induction n with
  | zero =>
    intro v2 v3 v5
    rw [pX10_weakest_22]
    exact j_none
  | succ fu ih =>
    intro v2 v3 v5
    rw [pX10_weakest_22]
    refine j_iload hC (pc := 22) dX10_weakest_22 5 rfl ?_
    refine j_aload_n hC (pc := 24) dX10_weakest_24 0 rfl rfl ?_
    refine j_getR hC (pc := 25) dX10_weakest_25 kf_RX10_10 lX_0 (Nat.le_of_ble_eq_true rfl) rfl ?_
    refine j_getI hC (pc := 28) dX10_weakest_28 kf_RX10_129 lX_1 (Nat.le_of_ble_eq_true rfl) rfl ?_
    refine j_icmp_ge hC (pc := 31) dX10_weakest_31 (tgt := 89) rfl ?_ ?_
    · refine j_aload_n hC (pc := 34) dX10_weakest_34 0 rfl rfl ?_
      refine j_getR hC (pc := 35) dX10_weakest_35 kf_RX10_10 lX_0 (Nat.le_of_ble_eq_true rfl) rfl ?_
      refine j_iload hC (pc := 38) dX10_weakest_38 4 rfl ?_
      refine j_iload hC (pc := 40) dX10_weakest_40 5 rfl ?_
      refine j_callV_I hC hR (ctX2_watches hC.l hC.cn 1 isG_1 κ v4 v5) kc_RX10_197 (Nat.le_of_ble_eq_true rfl) (Nat.le_of_ble_eq_true rfl) lX_1 (Nat.le_of_ble_eq_true rfl) rfl (As := [.int v4, .int v5]) (rest := []) rfl rfl (Nat.le_of_ble_eq_true rfl) hm (pc := 42) dX10_weakest_42 (fun t1 => ?_)
      refine j_if_eq hC (pc := 45) dX10_weakest_45 (tgt := 62) rfl ?_ ?_
      · refine j_iconst hC (pc := 62) dX10_weakest_62 ki_m1 ?_
        exact wX10_weakest_63 hC hR hm F κ v1 v2 v3 v4 v5 (-1) (pX10_weakest_22 F k7 κ v1 v4 fu) ih
      · refine j_aload_n hC (pc := 48) dX10_weakest_48 0 rfl rfl ?_
        refine j_getR hC (pc := 49) dX10_weakest_49 kf_RX10_21 lX_0 (Nat.le_of_ble_eq_true rfl) rfl ?_
        refine j_iload hC (pc := 52) dX10_weakest_52 4 rfl ?_
        refine j_iload hC (pc := 54) dX10_weakest_54 5 rfl ?_
        refine j_callV_I hC hR (ctX1_lostUnseen hC.l hC.cn F κ v4 v5) kc_RX10_242 (Nat.le_of_ble_eq_true rfl) (Nat.le_of_ble_eq_true rfl) lX_41 (Nat.le_of_ble_eq_true rfl) rfl (As := [.int v4, .int v5]) (rest := []) rfl rfl (Nat.le_of_ble_eq_true rfl) hm (pc := 56) dX10_weakest_56 (fun t3 => ?_)
        refine j_goto hC (pc := 59) dX10_weakest_59 (tgt := 63) rfl ?_
        exact wX10_weakest_63 hC hR hm F κ v1 v2 v3 v4 v5 t3 (pX10_weakest_22 F k7 κ v1 v4 fu) ih
    · refine j_iinc hC (pc := 89) dX10_weakest_89 4 rfl ki_1 (Nat.le_of_ble_eq_true rfl) (loc' := [(4, .int (v4 + 1)), (0, .ref (gad Γ 0)), (1, .int v1), (2, .int v2), (3, .int v3), (5, .int v5)]) rfl ?_
      refine j_goto hC (pc := 92) dX10_weakest_92 (tgt := 7) rfl ?_
      refine j_sub [1, 2, 3, 4, 0] (loc' := [(0, .ref (gad Γ 0)), (1, .int v1), (2, .int v2), (3, .int v3), (4, .int (v4 + 1))]) rfl ?_
      exact hk7 v2 v3 (v4 + 1)
set_option maxRecDepth 20000 in
theorem wX10_weakest_116 {Γ : JCtx} (hC : jC Γ cX10_weakest 7 RX10 (some .int) layX 147) (hR : gR Γ = rmH 3) (hm : gcells Γ ≤ (gR Γ).cells ∧ gslots Γ ≤ (gR Γ).slots) (F : Nat) (κ : Mem) (y0 : Int32) : JP Γ (qf Γ oE) (pX10_weakest_116 F κ y0) κ 116 [] [.int y0, .ref (gad Γ 0)] := by
  unfold pX10_weakest_116
  refine j_callV_E hC hR (ctX10_give hC.l hC.cn κ y0) kc_RX10_132 (Nat.le_of_ble_eq_true rfl) (Nat.le_of_ble_eq_true rfl) lX_0 (Nat.le_of_ble_eq_true rfl) rfl (As := [.int y0]) (rest := []) rfl rfl (Nat.le_of_ble_eq_true rfl) hm (pc := 116) dX10_weakest_116 (fun t5 => ?_)
  exact j_iret hC (pc := 119) dX10_weakest_119 rfl rfl rfl
set_option maxRecDepth 20000 in
theorem wX10_weakest_7 {Γ : JCtx} (hC : jC Γ cX10_weakest 7 RX10 (some .int) layX 147) (hR : gR Γ = rmH 3) (hm : gcells Γ ≤ (gR Γ).cells ∧ gslots Γ ≤ (gR Γ).slots) (F : Nat) (κ : Mem) (v1 : Int32) : ∀ (n : Nat) (v2 : Int32) (v3 : Int32) (v4 : Int32), JP Γ (qf Γ oE) (pX10_weakest_7 F κ v1 n v2 v3 v4) κ 7 [(0, .ref (gad Γ 0)), (1, .int v1), (2, .int v2), (3, .int v3), (4, .int v4)] [] := by
  intro n
  induction n with
  | zero =>
    intro v2 v3 v4
    rw [pX10_weakest_7]
    exact j_none
  | succ fu ih =>
    intro v2 v3 v4
    rw [pX10_weakest_7]
    refine j_iload hC (pc := 7) dX10_weakest_7 4 rfl ?_
    refine j_aload_n hC (pc := 9) dX10_weakest_9 0 rfl rfl ?_
    refine j_getR hC (pc := 10) dX10_weakest_10 kf_RX10_10 lX_0 (Nat.le_of_ble_eq_true rfl) rfl ?_
    refine j_getI hC (pc := 13) dX10_weakest_13 kf_RX10_129 lX_1 (Nat.le_of_ble_eq_true rfl) rfl ?_
    refine j_icmp_ge hC (pc := 16) dX10_weakest_16 (tgt := 95) rfl ?_ ?_
    · refine j_iconst hC (pc := 19) dX10_weakest_19 ki_0 ?_
      refine j_istore hC (pc := 20) dX10_weakest_20 (Nat.le_of_ble_eq_true rfl) (loc' := [(5, .int 0), (0, .ref (gad Γ 0)), (1, .int v1), (2, .int v2), (3, .int v3), (4, .int v4)]) rfl ?_
      refine j_sub [1, 2, 3, 4, 5, 0] (loc' := [(0, .ref (gad Γ 0)), (1, .int v1), (2, .int v2), (3, .int v3), (4, .int v4), (5, .int 0)]) rfl ?_
      exact wX10_weakest_22 hC hR hm F κ v1 v4 (pX10_weakest_7 F κ v1 fu) ih F v2 v3 0
    · refine j_iload_n hC (pc := 95) dX10_weakest_95 2 rfl rfl ?_
      refine j_iconst hC (pc := 96) dX10_weakest_96 ki_m1 ?_
      refine j_icmp_ne hC (pc := 97) dX10_weakest_97 (tgt := 106) rfl ?_ ?_
      · refine j_aload_n hC (pc := 100) dX10_weakest_100 0 rfl rfl ?_
        refine j_iconst hC (pc := 101) dX10_weakest_101 ki_5 ?_
        refine j_callV_E hC hR (ctX10_refuse hC.l hC.cn κ 5) kc_RX10_105 (Nat.le_of_ble_eq_true rfl) (Nat.le_of_ble_eq_true rfl) lX_0 (Nat.le_of_ble_eq_true rfl) rfl (As := [.int 5]) (rest := []) rfl rfl (Nat.le_of_ble_eq_true rfl) hm (pc := 102) dX10_weakest_102 (fun t4 => ?_)
        exact j_iret hC (pc := 105) dX10_weakest_105 rfl rfl rfl
      · refine j_aload_n hC (pc := 106) dX10_weakest_106 0 rfl rfl ?_
        refine j_iload_n hC (pc := 107) dX10_weakest_107 1 rfl rfl ?_
        refine j_if_eq hC (pc := 108) dX10_weakest_108 (tgt := 115) rfl ?_ ?_
        · refine j_iload_n hC (pc := 115) dX10_weakest_115 2 rfl rfl ?_
          refine j_sub [] (loc' := []) rfl ?_
          exact wX10_weakest_116 hC hR hm F κ v2
        · refine j_iload_n hC (pc := 111) dX10_weakest_111 3 rfl rfl ?_
          refine j_goto hC (pc := 112) dX10_weakest_112 (tgt := 116) rfl ?_
          refine j_sub [] (loc' := []) rfl ?_
          exact wX10_weakest_116 hC hR hm F κ v3
set_option maxRecDepth 20000 in
theorem wX10_weakest {Γ : JCtx} (hC : jC Γ cX10_weakest 7 RX10 (some .int) layX 147) (hR : gR Γ = rmH 3) (hm : gcells Γ ≤ (gR Γ).cells ∧ gslots Γ ≤ (gR Γ).slots) (F : Nat) (κ : Mem) (v1 : Int32) : JP Γ (qf Γ oE) (pX10_weakest F κ v1) κ 0 [(0, .ref (gad Γ 0)), (1, .int v1)] [] := by
  unfold pX10_weakest
  refine j_iconst hC (pc := 0) dX10_weakest_0 ki_m1 ?_
  refine j_istore_n hC (pc := 1) dX10_weakest_1 rfl (Nat.le_of_ble_eq_true rfl) (loc' := [(2, .int (-1)), (0, .ref (gad Γ 0)), (1, .int v1)]) rfl ?_
  refine j_iconst hC (pc := 2) dX10_weakest_2 ki_m1 ?_
  refine j_istore_n hC (pc := 3) dX10_weakest_3 rfl (Nat.le_of_ble_eq_true rfl) (loc' := [(3, .int (-1)), (2, .int (-1)), (0, .ref (gad Γ 0)), (1, .int v1)]) rfl ?_
  refine j_iconst hC (pc := 4) dX10_weakest_4 ki_0 ?_
  refine j_istore hC (pc := 5) dX10_weakest_5 (Nat.le_of_ble_eq_true rfl) (loc' := [(4, .int 0), (3, .int (-1)), (2, .int (-1)), (0, .ref (gad Γ 0)), (1, .int v1)]) rfl ?_
  refine j_sub [3, 4, 2, 1, 0] (loc' := [(0, .ref (gad Γ 0)), (1, .int v1), (2, .int (-1)), (3, .int (-1)), (4, .int 0)]) rfl ?_
  exact wX10_weakest_7 hC hR hm F κ v1 F (-1) (-1) 0
theorem ctX10_weakest {Δ : DCtx} {l : Launch} (hl : dlay Δ = layX) (hN : dN Δ = 147) (F : Nat) (κ : Mem) (v1 : Int32) : ∀ r, pX10_weakest F κ v1 = some r → CT Δ l yX10_weakest cX10_weakest 7 (some .int) (rmH 3) [.ref (dad Δ 0), .int v1] κ (some (.int r.1)) r.2 :=
  ct_of (nL := 7) (ret := (some .int)) (lay := layX) (N := 147) (by decide +kernel) (fun Δ => [.ref (dad Δ 0), .int v1]) (fun _ => oE) (fun _ => (Nat.le_of_ble_eq_true rfl)) (fun Γ hR hm hC => wX10_weakest hC hR hm F κ v1) Δ l hl hN
set_option maxRecDepth 20000 in
theorem wX10_needed_29 {Γ : JCtx} (hC : jC Γ cX10_needed 1 RX10 (some .int) layX 147) (hR : gR Γ = rmH 2) (hm : gcells Γ ≤ (gR Γ).cells ∧ gslots Γ ≤ (gR Γ).slots) (F : Nat) (κ : Mem) (y0 : Int32) : JP Γ (qf Γ oE) (pX10_needed_29 F κ y0) κ 29 [] [.int y0] := by
  unfold pX10_needed_29
  exact j_iret hC (pc := 29) dX10_needed_29 rfl rfl rfl
set_option maxRecDepth 20000 in
theorem wX10_needed {Γ : JCtx} (hC : jC Γ cX10_needed 1 RX10 (some .int) layX 147) (hR : gR Γ = rmH 2) (hm : gcells Γ ≤ (gR Γ).cells ∧ gslots Γ ≤ (gR Γ).slots) (F : Nat) (κ : Mem) : JP Γ (qf Γ oE) (pX10_needed F κ) κ 0 [(0, .ref (gad Γ 0))] [] := by
  unfold pX10_needed
  refine j_aload_n hC (pc := 0) dX10_needed_0 0 rfl rfl ?_
  refine j_getR hC (pc := 1) dX10_needed_1 kf_RX10_10 lX_0 (Nat.le_of_ble_eq_true rfl) rfl ?_
  refine j_getI hC (pc := 4) dX10_needed_4 kf_RX10_129 lX_1 (Nat.le_of_ble_eq_true rfl) rfl ?_
  refine j_if_ne hC (pc := 7) dX10_needed_7 (tgt := 18) rfl ?_ ?_
  · refine j_aload_n hC (pc := 10) dX10_needed_10 0 rfl rfl ?_
    refine j_iconst hC (pc := 11) dX10_needed_11 ki_5 ?_
    refine j_callV_E hC hR (ctX10_refuse hC.l hC.cn κ 5) kc_RX10_105 (Nat.le_of_ble_eq_true rfl) (Nat.le_of_ble_eq_true rfl) lX_0 (Nat.le_of_ble_eq_true rfl) rfl (As := [.int 5]) (rest := []) rfl rfl (Nat.le_of_ble_eq_true rfl) hm (pc := 12) dX10_needed_12 (fun t1 => ?_)
    refine j_goto hC (pc := 15) dX10_needed_15 (tgt := 29) rfl ?_
    refine j_sub [] (loc' := []) rfl ?_
    exact wX10_needed_29 hC hR hm F t1.2 t1.1
  · refine j_aload_n hC (pc := 18) dX10_needed_18 0 rfl rfl ?_
    refine j_aload_n hC (pc := 19) dX10_needed_19 0 rfl rfl ?_
    refine j_getR hC (pc := 20) dX10_needed_20 kf_RX10_21 lX_0 (Nat.le_of_ble_eq_true rfl) rfl ?_
    refine j_callV_I hC hR (ctX1_fewestNeeded hC.l hC.cn F κ) kc_RX10_245 (Nat.le_of_ble_eq_true rfl) (Nat.le_of_ble_eq_true rfl) lX_41 (Nat.le_of_ble_eq_true rfl) rfl (As := []) (rest := [.ref (gad Γ 0)]) rfl rfl (Nat.le_of_ble_eq_true rfl) hm (pc := 23) dX10_needed_23 (fun t2 => ?_)
    refine j_callV_E hC hR (ctX10_give hC.l hC.cn κ t2) kc_RX10_132 (Nat.le_of_ble_eq_true rfl) (Nat.le_of_ble_eq_true rfl) lX_0 (Nat.le_of_ble_eq_true rfl) rfl (As := [.int t2]) (rest := []) rfl rfl (Nat.le_of_ble_eq_true rfl) hm (pc := 26) dX10_needed_26 (fun t3 => ?_)
    refine j_sub [] (loc' := []) rfl ?_
    exact wX10_needed_29 hC hR hm F t3.2 t3.1
theorem ctX10_needed {Δ : DCtx} {l : Launch} (hl : dlay Δ = layX) (hN : dN Δ = 147) (F : Nat) (κ : Mem) : ∀ r, pX10_needed F κ = some r → CT Δ l yX10_needed cX10_needed 1 (some .int) (rmH 2) [.ref (dad Δ 0)] κ (some (.int r.1)) r.2 :=
  ct_of (nL := 1) (ret := (some .int)) (lay := layX) (N := 147) (by decide +kernel) (fun Δ => [.ref (dad Δ 0)]) (fun _ => oE) (fun _ => (Nat.le_of_ble_eq_true rfl)) (fun Γ hR hm hC => wX10_needed hC hR hm F κ) Δ l hl hN
set_option maxRecDepth 20000 in
theorem wX10_known_30 {Γ : JCtx} (hC : jC Γ cX10_known 3 RX10 (some .int) layX 147) (hR : gR Γ = rmH 2) (hm : gcells Γ ≤ (gR Γ).cells ∧ gslots Γ ≤ (gR Γ).slots) (F : Nat) (κ : Mem) (y0 : Int32) : JP Γ (qf Γ oE) (pX10_known_30 F κ y0) κ 30 [] [.int y0] := by
  unfold pX10_known_30
  exact j_iret hC (pc := 30) dX10_known_30 rfl rfl rfl
set_option maxRecDepth 20000 in
theorem wX10_known {Γ : JCtx} (hC : jC Γ cX10_known 3 RX10 (some .int) layX 147) (hR : gR Γ = rmH 2) (hm : gcells Γ ≤ (gR Γ).cells ∧ gslots Γ ≤ (gR Γ).slots) (F : Nat) (κ : Mem) (v1 : Int32) (v2 : Int32) : JP Γ (qf Γ oE) (pX10_known F κ v1 v2) κ 0 [(0, .ref (gad Γ 0)), (1, .int v1), (2, .int v2)] [] := by
  unfold pX10_known
  refine j_aload_n hC (pc := 0) dX10_known_0 0 rfl rfl ?_
  refine j_iload_n hC (pc := 1) dX10_known_1 1 rfl rfl ?_
  refine j_iload_n hC (pc := 2) dX10_known_2 2 rfl rfl ?_
  refine j_callV_I hC hR (ctX10_noColour hC.l hC.cn κ v1 v2) kc_RX10_185 (Nat.le_of_ble_eq_true rfl) (Nat.le_of_ble_eq_true rfl) lX_0 (Nat.le_of_ble_eq_true rfl) rfl (As := [.int v1, .int v2]) (rest := []) rfl rfl (Nat.le_of_ble_eq_true rfl) hm (pc := 3) dX10_known_3 (fun t1 => ?_)
  refine j_if_eq hC (pc := 6) dX10_known_6 (tgt := 17) rfl ?_ ?_
  · refine j_aload_n hC (pc := 17) dX10_known_17 0 rfl rfl ?_
    refine j_aload_n hC (pc := 18) dX10_known_18 0 rfl rfl ?_
    refine j_getR hC (pc := 19) dX10_known_19 kf_RX10_21 lX_0 (Nat.le_of_ble_eq_true rfl) rfl ?_
    refine j_iload_n hC (pc := 22) dX10_known_22 1 rfl rfl ?_
    refine j_iload_n hC (pc := 23) dX10_known_23 2 rfl rfl ?_
    refine j_callV_I hC hR (ctX1_lostWith hC.l hC.cn F κ v1 v2) kc_RX10_248 (Nat.le_of_ble_eq_true rfl) (Nat.le_of_ble_eq_true rfl) lX_41 (Nat.le_of_ble_eq_true rfl) rfl (As := [.int v1, .int v2]) (rest := [.ref (gad Γ 0)]) rfl rfl (Nat.le_of_ble_eq_true rfl) hm (pc := 24) dX10_known_24 (fun t2 => ?_)
    refine j_callV_E hC hR (ctX10_give hC.l hC.cn κ t2) kc_RX10_132 (Nat.le_of_ble_eq_true rfl) (Nat.le_of_ble_eq_true rfl) lX_0 (Nat.le_of_ble_eq_true rfl) rfl (As := [.int t2]) (rest := []) rfl rfl (Nat.le_of_ble_eq_true rfl) hm (pc := 27) dX10_known_27 (fun t3 => ?_)
    refine j_sub [] (loc' := []) rfl ?_
    exact wX10_known_30 hC hR hm F t3.2 t3.1
  · refine j_aload_n hC (pc := 9) dX10_known_9 0 rfl rfl ?_
    refine j_iconst hC (pc := 10) dX10_known_10 ki_2 ?_
    refine j_callV_E hC hR (ctX10_refuse hC.l hC.cn κ 2) kc_RX10_105 (Nat.le_of_ble_eq_true rfl) (Nat.le_of_ble_eq_true rfl) lX_0 (Nat.le_of_ble_eq_true rfl) rfl (As := [.int 2]) (rest := []) rfl rfl (Nat.le_of_ble_eq_true rfl) hm (pc := 11) dX10_known_11 (fun t4 => ?_)
    refine j_goto hC (pc := 14) dX10_known_14 (tgt := 30) rfl ?_
    refine j_sub [] (loc' := []) rfl ?_
    exact wX10_known_30 hC hR hm F t4.2 t4.1
theorem ctX10_known {Δ : DCtx} {l : Launch} (hl : dlay Δ = layX) (hN : dN Δ = 147) (F : Nat) (κ : Mem) (v1 : Int32) (v2 : Int32) : ∀ r, pX10_known F κ v1 v2 = some r → CT Δ l yX10_known cX10_known 3 (some .int) (rmH 2) [.ref (dad Δ 0), .int v1, .int v2] κ (some (.int r.1)) r.2 :=
  ct_of (nL := 3) (ret := (some .int)) (lay := layX) (N := 147) (by decide +kernel) (fun Δ => [.ref (dad Δ 0), .int v1, .int v2]) (fun _ => oE) (fun _ => (Nat.le_of_ble_eq_true rfl)) (fun Γ hR hm hC => wX10_known hC hR hm F κ v1 v2) Δ l hl hN
set_option maxRecDepth 20000 in
theorem wX10_nearest_9 {Γ : JCtx} (hC : jC Γ cX10_nearest 4 RX10 (some .int) layX 147) (hR : gR Γ = rmH 3) (hm : gcells Γ ≤ (gR Γ).cells ∧ gslots Γ ≤ (gR Γ).slots) (F : Nat) (κ : Mem) : JP Γ (qf Γ oE) (pX10_nearest_9 F κ) κ 9 [(0, .ref (gad Γ 0))] [] := by
  unfold pX10_nearest_9
  refine j_aload_n hC (pc := 9) dX10_nearest_9 0 rfl rfl ?_
  refine j_iconst hC (pc := 10) dX10_nearest_10 ki_1 ?_
  refine j_callV_E hC hR (ctX10_refuse hC.l hC.cn κ 1) kc_RX10_105 (Nat.le_of_ble_eq_true rfl) (Nat.le_of_ble_eq_true rfl) lX_0 (Nat.le_of_ble_eq_true rfl) rfl (As := [.int 1]) (rest := []) rfl rfl (Nat.le_of_ble_eq_true rfl) hm (pc := 11) dX10_nearest_11 (fun t1 => ?_)
  exact j_iret hC (pc := 14) dX10_nearest_14 rfl rfl rfl
set_option maxRecDepth 20000 in
theorem wX10_nearest_67 {Γ : JCtx} (hC : jC Γ cX10_nearest 4 RX10 (some .int) layX 147) (hR : gR Γ = rmH 3) (hm : gcells Γ ≤ (gR Γ).cells ∧ gslots Γ ≤ (gR Γ).slots) (F : Nat) (κ : Mem) (y0 : Int32) : JP Γ (qf Γ oE) (pX10_nearest_67 F κ y0) κ 67 [] [.int y0, .ref (gad Γ 0)] := by
  unfold pX10_nearest_67
  refine j_callV_E hC hR (ctX10_give hC.l hC.cn κ y0) kc_RX10_132 (Nat.le_of_ble_eq_true rfl) (Nat.le_of_ble_eq_true rfl) lX_0 (Nat.le_of_ble_eq_true rfl) rfl (As := [.int y0]) (rest := []) rfl rfl (Nat.le_of_ble_eq_true rfl) hm (pc := 67) dX10_nearest_67 (fun t6 => ?_)
  exact j_iret hC (pc := 70) dX10_nearest_70 rfl rfl rfl
set_option maxRecDepth 20000 in
theorem wX10_nearest {Γ : JCtx} (hC : jC Γ cX10_nearest 4 RX10 (some .int) layX 147) (hR : gR Γ = rmH 3) (hm : gcells Γ ≤ (gR Γ).cells ∧ gslots Γ ≤ (gR Γ).slots) (F : Nat) (κ : Mem) (v1 : Int32) (v2 : Int32) : JP Γ (qf Γ oE) (pX10_nearest F κ v1 v2) κ 0 [(0, .ref (gad Γ 0)), (1, .int v1), (2, .int v2)] [] := by
  unfold pX10_nearest
  refine j_iload_n hC (pc := 0) dX10_nearest_0 2 rfl rfl ?_
  refine j_if_lt hC (pc := 1) dX10_nearest_1 (tgt := 9) rfl ?_ ?_
  · refine j_sub [0] (loc' := [(0, .ref (gad Γ 0))]) rfl ?_
    exact wX10_nearest_9 hC hR hm F κ
  · refine j_iload_n hC (pc := 4) dX10_nearest_4 2 rfl rfl ?_
    refine j_iconst hC (pc := 5) dX10_nearest_5 ki_1 ?_
    refine j_icmp_le hC (pc := 6) dX10_nearest_6 (tgt := 15) rfl ?_ ?_
    · refine j_aload_n hC (pc := 15) dX10_nearest_15 0 rfl rfl ?_
      refine j_iload_n hC (pc := 16) dX10_nearest_16 1 rfl rfl ?_
      refine j_callV_I hC hR (ctX10_noColouring hC.l hC.cn κ v1) kc_RX10_176 (Nat.le_of_ble_eq_true rfl) (Nat.le_of_ble_eq_true rfl) lX_0 (Nat.le_of_ble_eq_true rfl) rfl (As := [.int v1]) (rest := []) rfl rfl (Nat.le_of_ble_eq_true rfl) hm (pc := 17) dX10_nearest_17 (fun t2 => ?_)
      refine j_if_eq hC (pc := 20) dX10_nearest_20 (tgt := 29) rfl ?_ ?_
      · refine j_aload_n hC (pc := 29) dX10_nearest_29 0 rfl rfl ?_
        refine j_getR hC (pc := 30) dX10_nearest_30 kf_RX10_21 lX_0 (Nat.le_of_ble_eq_true rfl) rfl ?_
        refine j_iload_n hC (pc := 33) dX10_nearest_33 1 rfl rfl ?_
        refine j_callV_I hC hR (ctX1_nearestLost hC.l hC.cn F κ v1) kc_RX10_251 (Nat.le_of_ble_eq_true rfl) (Nat.le_of_ble_eq_true rfl) lX_41 (Nat.le_of_ble_eq_true rfl) rfl (As := [.int v1]) (rest := []) rfl rfl (Nat.le_of_ble_eq_true rfl) hm (pc := 34) dX10_nearest_34 (fun t3 => ?_)
        refine j_istore_n hC (pc := 37) dX10_nearest_37 rfl (Nat.le_of_ble_eq_true rfl) (loc' := [(3, .int t3), (0, .ref (gad Γ 0)), (1, .int v1), (2, .int v2)]) rfl ?_
        refine j_iload_n hC (pc := 38) dX10_nearest_38 0 rfl rfl ?_
        refine j_iconst hC (pc := 39) dX10_nearest_39 ki_m1 ?_
        refine j_icmp_ne hC (pc := 40) dX10_nearest_40 (tgt := 49) rfl ?_ ?_
        · refine j_aload_n hC (pc := 43) dX10_nearest_43 1 rfl rfl ?_
          refine j_iconst hC (pc := 44) dX10_nearest_44 ki_5 ?_
          refine j_callV_E hC hR (ctX10_refuse hC.l hC.cn κ 5) kc_RX10_105 (Nat.le_of_ble_eq_true rfl) (Nat.le_of_ble_eq_true rfl) lX_0 (Nat.le_of_ble_eq_true rfl) rfl (As := [.int 5]) (rest := []) rfl rfl (Nat.le_of_ble_eq_true rfl) hm (pc := 45) dX10_nearest_45 (fun t4 => ?_)
          exact j_iret hC (pc := 48) dX10_nearest_48 rfl rfl rfl
        · refine j_aload_n hC (pc := 49) dX10_nearest_49 1 rfl rfl ?_
          refine j_iload_n hC (pc := 50) dX10_nearest_50 3 rfl rfl ?_
          refine j_if_ne hC (pc := 51) dX10_nearest_51 (tgt := 66) rfl ?_ ?_
          · refine j_aload_n hC (pc := 54) dX10_nearest_54 1 rfl rfl ?_
            refine j_getR hC (pc := 55) dX10_nearest_55 kf_RX10_21 lX_0 (Nat.le_of_ble_eq_true rfl) rfl ?_
            refine j_iload_n hC (pc := 58) dX10_nearest_58 2 rfl rfl ?_
            refine j_iload_n hC (pc := 59) dX10_nearest_59 0 rfl rfl ?_
            refine j_callV_I hC hR (ctX1_unlike hC.l hC.cn F κ v1 t3) kc_RX10_254 (Nat.le_of_ble_eq_true rfl) (Nat.le_of_ble_eq_true rfl) lX_41 (Nat.le_of_ble_eq_true rfl) rfl (As := [.int v1, .int t3]) (rest := [.ref (gad Γ 0)]) rfl rfl (Nat.le_of_ble_eq_true rfl) hm (pc := 60) dX10_nearest_60 (fun t5 => ?_)
            refine j_goto hC (pc := 63) dX10_nearest_63 (tgt := 67) rfl ?_
            refine j_sub [] (loc' := []) rfl ?_
            exact wX10_nearest_67 hC hR hm F κ t5
          · refine j_iload_n hC (pc := 66) dX10_nearest_66 0 rfl rfl ?_
            refine j_sub [] (loc' := []) rfl ?_
            exact wX10_nearest_67 hC hR hm F κ t3
      · refine j_aload_n hC (pc := 23) dX10_nearest_23 0 rfl rfl ?_
        refine j_iconst hC (pc := 24) dX10_nearest_24 ki_2 ?_
        refine j_callV_E hC hR (ctX10_refuse hC.l hC.cn κ 2) kc_RX10_105 (Nat.le_of_ble_eq_true rfl) (Nat.le_of_ble_eq_true rfl) lX_0 (Nat.le_of_ble_eq_true rfl) rfl (As := [.int 2]) (rest := []) rfl rfl (Nat.le_of_ble_eq_true rfl) hm (pc := 25) dX10_nearest_25 (fun t7 => ?_)
        exact j_iret hC (pc := 28) dX10_nearest_28 rfl rfl rfl
    · refine j_sub [0] (loc' := [(0, .ref (gad Γ 0))]) rfl ?_
      exact wX10_nearest_9 hC hR hm F κ
theorem ctX10_nearest {Δ : DCtx} {l : Launch} (hl : dlay Δ = layX) (hN : dN Δ = 147) (F : Nat) (κ : Mem) (v1 : Int32) (v2 : Int32) : ∀ r, pX10_nearest F κ v1 v2 = some r → CT Δ l yX10_nearest cX10_nearest 4 (some .int) (rmH 3) [.ref (dad Δ 0), .int v1, .int v2] κ (some (.int r.1)) r.2 :=
  ct_of (nL := 4) (ret := (some .int)) (lay := layX) (N := 147) (by decide +kernel) (fun Δ => [.ref (dad Δ 0), .int v1, .int v2]) (fun _ => oE) (fun _ => (Nat.le_of_ble_eq_true rfl)) (fun Γ hR hm hC => wX10_nearest hC hR hm F κ v1 v2) Δ l hl hN
set_option maxRecDepth 20000 in
theorem wX10_atLeast_30 {Γ : JCtx} (hC : jC Γ cX10_atLeast 2 RX10 (some .int) layX 147) (hR : gR Γ = rmH 2) (hm : gcells Γ ≤ (gR Γ).cells ∧ gslots Γ ≤ (gR Γ).slots) (F : Nat) (κ : Mem) (y0 : Int32) : JP Γ (qf Γ oE) (pX10_atLeast_30 F κ y0) κ 30 [] [.int y0] := by
  unfold pX10_atLeast_30
  exact j_iret hC (pc := 30) dX10_atLeast_30 rfl rfl rfl
set_option maxRecDepth 20000 in
theorem wX10_atLeast {Γ : JCtx} (hC : jC Γ cX10_atLeast 2 RX10 (some .int) layX 147) (hR : gR Γ = rmH 2) (hm : gcells Γ ≤ (gR Γ).cells ∧ gslots Γ ≤ (gR Γ).slots) (F : Nat) (κ : Mem) (v1 : Int32) : JP Γ (qf Γ oE) (pX10_atLeast F κ v1) κ 0 [(0, .ref (gad Γ 0)), (1, .int v1)] [] := by
  unfold pX10_atLeast
  refine j_aload_n hC (pc := 0) dX10_atLeast_0 0 rfl rfl ?_
  refine j_iload_n hC (pc := 1) dX10_atLeast_1 1 rfl rfl ?_
  refine j_callV_I hC hR (ctX10_noRightCount hC.l hC.cn κ v1) kc_RX10_212 (Nat.le_of_ble_eq_true rfl) (Nat.le_of_ble_eq_true rfl) lX_0 (Nat.le_of_ble_eq_true rfl) rfl (As := [.int v1]) (rest := []) rfl rfl (Nat.le_of_ble_eq_true rfl) hm (pc := 2) dX10_atLeast_2 (fun t1 => ?_)
  refine j_if_eq hC (pc := 5) dX10_atLeast_5 (tgt := 16) rfl ?_ ?_
  · refine j_aload_n hC (pc := 16) dX10_atLeast_16 0 rfl rfl ?_
    refine j_aload_n hC (pc := 17) dX10_atLeast_17 0 rfl rfl ?_
    refine j_getR hC (pc := 18) dX10_atLeast_18 kf_RX10_21 lX_0 (Nat.le_of_ble_eq_true rfl) rfl ?_
    refine j_iload_n hC (pc := 21) dX10_atLeast_21 1 rfl rfl ?_
    refine j_bipush hC (pc := 22) dX10_atLeast_22 kb_6 ?_
    refine j_callV_I hC hR (ctX1_withRight hC.l hC.cn F κ v1 6) kc_RX10_215 (Nat.le_of_ble_eq_true rfl) (Nat.le_of_ble_eq_true rfl) lX_41 (Nat.le_of_ble_eq_true rfl) rfl (As := [.int v1, .int 6]) (rest := [.ref (gad Γ 0)]) rfl rfl (Nat.le_of_ble_eq_true rfl) hm (pc := 24) dX10_atLeast_24 (fun t2 => ?_)
    refine j_callV_E hC hR (ctX10_give hC.l hC.cn κ t2) kc_RX10_132 (Nat.le_of_ble_eq_true rfl) (Nat.le_of_ble_eq_true rfl) lX_0 (Nat.le_of_ble_eq_true rfl) rfl (As := [.int t2]) (rest := []) rfl rfl (Nat.le_of_ble_eq_true rfl) hm (pc := 27) dX10_atLeast_27 (fun t3 => ?_)
    refine j_sub [] (loc' := []) rfl ?_
    exact wX10_atLeast_30 hC hR hm F t3.2 t3.1
  · refine j_aload_n hC (pc := 8) dX10_atLeast_8 0 rfl rfl ?_
    refine j_iconst hC (pc := 9) dX10_atLeast_9 ki_1 ?_
    refine j_callV_E hC hR (ctX10_refuse hC.l hC.cn κ 1) kc_RX10_105 (Nat.le_of_ble_eq_true rfl) (Nat.le_of_ble_eq_true rfl) lX_0 (Nat.le_of_ble_eq_true rfl) rfl (As := [.int 1]) (rest := []) rfl rfl (Nat.le_of_ble_eq_true rfl) hm (pc := 10) dX10_atLeast_10 (fun t4 => ?_)
    refine j_goto hC (pc := 13) dX10_atLeast_13 (tgt := 30) rfl ?_
    refine j_sub [] (loc' := []) rfl ?_
    exact wX10_atLeast_30 hC hR hm F t4.2 t4.1
theorem ctX10_atLeast {Δ : DCtx} {l : Launch} (hl : dlay Δ = layX) (hN : dN Δ = 147) (F : Nat) (κ : Mem) (v1 : Int32) : ∀ r, pX10_atLeast F κ v1 = some r → CT Δ l yX10_atLeast cX10_atLeast 2 (some .int) (rmH 2) [.ref (dad Δ 0), .int v1] κ (some (.int r.1)) r.2 :=
  ct_of (nL := 2) (ret := (some .int)) (lay := layX) (N := 147) (by decide +kernel) (fun Δ => [.ref (dad Δ 0), .int v1]) (fun _ => oE) (fun _ => (Nat.le_of_ble_eq_true rfl)) (fun Γ hR hm hC => wX10_atLeast hC hR hm F κ v1) Δ l hl hN
set_option maxRecDepth 20000 in
theorem wX10_acyclic_16 {Γ : JCtx} (hC : jC Γ cX10_acyclic 1 RX10 (some .int) layX 147) (hR : gR Γ = rmH 2) (hm : gcells Γ ≤ (gR Γ).cells ∧ gslots Γ ≤ (gR Γ).slots) (F : Nat) (κ : Mem) (y0 : Int32) : JP Γ (qf Γ oE) (pX10_acyclic_16 F κ y0) κ 16 [] [.int y0, .ref (gad Γ 0)] := by
  unfold pX10_acyclic_16
  refine j_callV_E hC hR (ctX10_give hC.l hC.cn κ y0) kc_RX10_132 (Nat.le_of_ble_eq_true rfl) (Nat.le_of_ble_eq_true rfl) lX_0 (Nat.le_of_ble_eq_true rfl) rfl (As := [.int y0]) (rest := []) rfl rfl (Nat.le_of_ble_eq_true rfl) hm (pc := 16) dX10_acyclic_16 (fun t2 => ?_)
  exact j_iret hC (pc := 19) dX10_acyclic_19 rfl rfl rfl
set_option maxRecDepth 20000 in
theorem wX10_acyclic {Γ : JCtx} (hC : jC Γ cX10_acyclic 1 RX10 (some .int) layX 147) (hR : gR Γ = rmH 2) (hm : gcells Γ ≤ (gR Γ).cells ∧ gslots Γ ≤ (gR Γ).slots) (F : Nat) (κ : Mem) : JP Γ (qf Γ oE) (pX10_acyclic F κ) κ 0 [(0, .ref (gad Γ 0))] [] := by
  unfold pX10_acyclic
  refine j_aload_n hC (pc := 0) dX10_acyclic_0 0 rfl rfl ?_
  refine j_aload_n hC (pc := 1) dX10_acyclic_1 0 rfl rfl ?_
  refine j_getR hC (pc := 2) dX10_acyclic_2 kf_RX10_28 lX_0 (Nat.le_of_ble_eq_true rfl) rfl ?_
  refine j_callV_I hC hR (ctX4_isAcyclic hC.l hC.cn F κ) kc_RX10_257 (Nat.le_of_ble_eq_true rfl) (Nat.le_of_ble_eq_true rfl) lX_54 (Nat.le_of_ble_eq_true rfl) rfl (As := []) (rest := [.ref (gad Γ 0)]) rfl rfl (Nat.le_of_ble_eq_true rfl) hm (pc := 5) dX10_acyclic_5 (fun t1 => ?_)
  refine j_if_eq hC (pc := 8) dX10_acyclic_8 (tgt := 15) rfl ?_ ?_
  · refine j_iconst hC (pc := 15) dX10_acyclic_15 ki_0 ?_
    refine j_sub [] (loc' := []) rfl ?_
    exact wX10_acyclic_16 hC hR hm F κ 0
  · refine j_iconst hC (pc := 11) dX10_acyclic_11 ki_1 ?_
    refine j_goto hC (pc := 12) dX10_acyclic_12 (tgt := 16) rfl ?_
    refine j_sub [] (loc' := []) rfl ?_
    exact wX10_acyclic_16 hC hR hm F κ 1
theorem ctX10_acyclic {Δ : DCtx} {l : Launch} (hl : dlay Δ = layX) (hN : dN Δ = 147) (F : Nat) (κ : Mem) : ∀ r, pX10_acyclic F κ = some r → CT Δ l yX10_acyclic cX10_acyclic 1 (some .int) (rmH 2) [.ref (dad Δ 0)] κ (some (.int r.1)) r.2 :=
  ct_of (nL := 1) (ret := (some .int)) (lay := layX) (N := 147) (by decide +kernel) (fun Δ => [.ref (dad Δ 0)]) (fun _ => oE) (fun _ => (Nat.le_of_ble_eq_true rfl)) (fun Γ hR hm hC => wX10_acyclic hC hR hm F κ) Δ l hl hN
set_option maxRecDepth 20000 in
theorem wX10_always_20 {Γ : JCtx} (hC : jC Γ cX10_always 3 RX10 (some .int) layX 147) (hR : gR Γ = rmH 2) (hm : gcells Γ ≤ (gR Γ).cells ∧ gslots Γ ≤ (gR Γ).slots) (F : Nat) (κ : Mem) : JP Γ (qf Γ oE) (pX10_always_20 F κ) κ 20 [(0, .ref (gad Γ 0))] [] := by
  unfold pX10_always_20
  refine j_aload_n hC (pc := 20) dX10_always_20 0 rfl rfl ?_
  refine j_iconst hC (pc := 21) dX10_always_21 ki_5 ?_
  refine j_callV_E hC hR (ctX10_refuse hC.l hC.cn κ 5) kc_RX10_105 (Nat.le_of_ble_eq_true rfl) (Nat.le_of_ble_eq_true rfl) lX_0 (Nat.le_of_ble_eq_true rfl) rfl (As := [.int 5]) (rest := []) rfl rfl (Nat.le_of_ble_eq_true rfl) hm (pc := 22) dX10_always_22 (fun t1 => ?_)
  exact j_iret hC (pc := 25) dX10_always_25 rfl rfl rfl
set_option maxRecDepth 20000 in
theorem wX10_always_30 {Γ : JCtx} (hC : jC Γ cX10_always 3 RX10 (some .int) layX 147) (hR : gR Γ = rmH 2) (hm : gcells Γ ≤ (gR Γ).cells ∧ gslots Γ ≤ (gR Γ).slots) (F : Nat) (κ : Mem) : ∀ (n : Nat) (v1 : Int32) (v2 : Int32), JP Γ (qf Γ oE) (pX10_always_30 F κ n v1 v2) κ 30 [(0, .ref (gad Γ 0)), (1, .int v1), (2, .int v2)] [] := by
  intro n
  induction n with
  | zero =>
    intro v1 v2
    rw [pX10_always_30]
    exact j_none
  | succ fu ih =>
    intro v1 v2
    rw [pX10_always_30]
    refine j_iload_n hC (pc := 30) dX10_always_30 2 rfl rfl ?_
    refine j_aload_n hC (pc := 31) dX10_always_31 0 rfl rfl ?_
    refine j_getR hC (pc := 32) dX10_always_32 kf_RX10_10 lX_0 (Nat.le_of_ble_eq_true rfl) rfl ?_
    refine j_getI hC (pc := 35) dX10_always_35 kf_RX10_129 lX_1 (Nat.le_of_ble_eq_true rfl) rfl ?_
    refine j_icmp_ge hC (pc := 38) dX10_always_38 (tgt := 61) rfl ?_ ?_
    · refine j_iload_n hC (pc := 41) dX10_always_41 1 rfl rfl ?_
      refine j_aload_n hC (pc := 42) dX10_always_42 0 rfl rfl ?_
      refine j_getR hC (pc := 43) dX10_always_43 kf_RX10_10 lX_0 (Nat.le_of_ble_eq_true rfl) rfl ?_
      refine j_getR hC (pc := 46) dX10_always_46 kf_RX10_155 lX_1 (Nat.le_of_ble_eq_true rfl) rfl ?_
      refine j_iload_n hC (pc := 49) dX10_always_49 2 rfl rfl ?_
      refine j_iald hC (pc := 50) dX10_always_50 lX_2 (Nat.le_of_ble_eq_true rfl) ?_
      refine j_iconst hC (pc := 51) dX10_always_51 ki_1 ?_
      refine j_isub hC (pc := 52) dX10_always_52 ?_
      refine j_imul hC (pc := 53) dX10_always_53 ?_
      refine j_nmi (fun x3 => ?_)
      refine j_istore_n hC (pc := 54) dX10_always_54 rfl (Nat.le_of_ble_eq_true rfl) (loc' := [(1, .int x3), (0, .ref (gad Γ 0)), (2, .int v2)]) rfl ?_
      refine j_iinc hC (pc := 55) dX10_always_55 2 rfl ki_1 (Nat.le_of_ble_eq_true rfl) (loc' := [(2, .int (v2 + 1)), (1, .int x3), (0, .ref (gad Γ 0))]) rfl ?_
      refine j_goto hC (pc := 58) dX10_always_58 (tgt := 30) rfl ?_
      refine j_sub [2, 1, 0] (loc' := [(0, .ref (gad Γ 0)), (1, .int x3), (2, .int (v2 + 1))]) rfl ?_
      exact ih x3 (v2 + 1)
    · refine j_aload_n hC (pc := 61) dX10_always_61 0 rfl rfl ?_
      refine j_iload_n hC (pc := 62) dX10_always_62 1 rfl rfl ?_
      refine j_callV_E hC hR (ctX10_give hC.l hC.cn κ v1) kc_RX10_132 (Nat.le_of_ble_eq_true rfl) (Nat.le_of_ble_eq_true rfl) lX_0 (Nat.le_of_ble_eq_true rfl) rfl (As := [.int v1]) (rest := []) rfl rfl (Nat.le_of_ble_eq_true rfl) hm (pc := 63) dX10_always_63 (fun t4 => ?_)
      exact j_iret hC (pc := 66) dX10_always_66 rfl rfl rfl
set_option maxRecDepth 20000 in
theorem wX10_always {Γ : JCtx} (hC : jC Γ cX10_always 3 RX10 (some .int) layX 147) (hR : gR Γ = rmH 2) (hm : gcells Γ ≤ (gR Γ).cells ∧ gslots Γ ≤ (gR Γ).slots) (F : Nat) (κ : Mem) : JP Γ (qf Γ oE) (pX10_always F κ) κ 0 [(0, .ref (gad Γ 0))] [] := by
  unfold pX10_always
  refine j_aload_n hC (pc := 0) dX10_always_0 0 rfl rfl ?_
  refine j_getR hC (pc := 1) dX10_always_1 kf_RX10_10 lX_0 (Nat.le_of_ble_eq_true rfl) rfl ?_
  refine j_getI hC (pc := 4) dX10_always_4 kf_RX10_129 lX_1 (Nat.le_of_ble_eq_true rfl) rfl ?_
  refine j_if_eq hC (pc := 7) dX10_always_7 (tgt := 20) rfl ?_ ?_
  · exact wX10_always_20 hC hR hm F κ
  · refine j_aload_n hC (pc := 10) dX10_always_10 0 rfl rfl ?_
    refine j_getR hC (pc := 11) dX10_always_11 kf_RX10_28 lX_0 (Nat.le_of_ble_eq_true rfl) rfl ?_
    refine j_callV_I hC hR (ctX4_isAcyclic hC.l hC.cn F κ) kc_RX10_257 (Nat.le_of_ble_eq_true rfl) (Nat.le_of_ble_eq_true rfl) lX_54 (Nat.le_of_ble_eq_true rfl) rfl (As := []) (rest := []) rfl rfl (Nat.le_of_ble_eq_true rfl) hm (pc := 14) dX10_always_14 (fun t2 => ?_)
    refine j_if_ne hC (pc := 17) dX10_always_17 (tgt := 26) rfl ?_ ?_
    · exact wX10_always_20 hC hR hm F κ
    · refine j_iconst hC (pc := 26) dX10_always_26 ki_1 ?_
      refine j_istore_n hC (pc := 27) dX10_always_27 rfl (Nat.le_of_ble_eq_true rfl) (loc' := [(1, .int 1), (0, .ref (gad Γ 0))]) rfl ?_
      refine j_iconst hC (pc := 28) dX10_always_28 ki_0 ?_
      refine j_istore_n hC (pc := 29) dX10_always_29 rfl (Nat.le_of_ble_eq_true rfl) (loc' := [(2, .int 0), (1, .int 1), (0, .ref (gad Γ 0))]) rfl ?_
      refine j_sub [2, 1, 0] (loc' := [(0, .ref (gad Γ 0)), (1, .int 1), (2, .int 0)]) rfl ?_
      exact wX10_always_30 hC hR hm F κ F 1 0
theorem ctX10_always {Δ : DCtx} {l : Launch} (hl : dlay Δ = layX) (hN : dN Δ = 147) (F : Nat) (κ : Mem) : ∀ r, pX10_always F κ = some r → CT Δ l yX10_always cX10_always 3 (some .int) (rmH 2) [.ref (dad Δ 0)] κ (some (.int r.1)) r.2 :=
  ct_of (nL := 3) (ret := (some .int)) (lay := layX) (N := 147) (by decide +kernel) (fun Δ => [.ref (dad Δ 0)]) (fun _ => oE) (fun _ => (Nat.le_of_ble_eq_true rfl)) (fun Γ hR hm hC => wX10_always hC hR hm F κ) Δ l hl hN
set_option maxRecDepth 20000 in
theorem wX10_blind_29 {Γ : JCtx} (hC : jC Γ cX10_blind 1 RX10 (some .int) layX 147) (hR : gR Γ = rmH 2) (hm : gcells Γ ≤ (gR Γ).cells ∧ gslots Γ ≤ (gR Γ).slots) (F : Nat) (κ : Mem) (y0 : Int32) : JP Γ (qf Γ oE) (pX10_blind_29 F κ y0) κ 29 [] [.int y0] := by
  unfold pX10_blind_29
  exact j_iret hC (pc := 29) dX10_blind_29 rfl rfl rfl
set_option maxRecDepth 20000 in
theorem wX10_blind {Γ : JCtx} (hC : jC Γ cX10_blind 1 RX10 (some .int) layX 147) (hR : gR Γ = rmH 2) (hm : gcells Γ ≤ (gR Γ).cells ∧ gslots Γ ≤ (gR Γ).slots) (F : Nat) (κ : Mem) : JP Γ (qf Γ oE) (pX10_blind F κ) κ 0 [(0, .ref (gad Γ 0))] [] := by
  unfold pX10_blind
  refine j_aload_n hC (pc := 0) dX10_blind_0 0 rfl rfl ?_
  refine j_getR hC (pc := 1) dX10_blind_1 kf_RX10_10 lX_0 (Nat.le_of_ble_eq_true rfl) rfl ?_
  refine j_getI hC (pc := 4) dX10_blind_4 kf_RX10_129 lX_1 (Nat.le_of_ble_eq_true rfl) rfl ?_
  refine j_if_ne hC (pc := 7) dX10_blind_7 (tgt := 18) rfl ?_ ?_
  · refine j_aload_n hC (pc := 10) dX10_blind_10 0 rfl rfl ?_
    refine j_iconst hC (pc := 11) dX10_blind_11 ki_5 ?_
    refine j_callV_E hC hR (ctX10_refuse hC.l hC.cn κ 5) kc_RX10_105 (Nat.le_of_ble_eq_true rfl) (Nat.le_of_ble_eq_true rfl) lX_0 (Nat.le_of_ble_eq_true rfl) rfl (As := [.int 5]) (rest := []) rfl rfl (Nat.le_of_ble_eq_true rfl) hm (pc := 12) dX10_blind_12 (fun t1 => ?_)
    refine j_goto hC (pc := 15) dX10_blind_15 (tgt := 29) rfl ?_
    refine j_sub [] (loc' := []) rfl ?_
    exact wX10_blind_29 hC hR hm F t1.2 t1.1
  · refine j_aload_n hC (pc := 18) dX10_blind_18 0 rfl rfl ?_
    refine j_aload_n hC (pc := 19) dX10_blind_19 0 rfl rfl ?_
    refine j_getR hC (pc := 20) dX10_blind_20 kf_RX10_28 lX_0 (Nat.le_of_ble_eq_true rfl) rfl ?_
    refine j_callV_I hC hR (ctX4_greatestBlindSet hC.l hC.cn F κ) kc_RX10_260 (Nat.le_of_ble_eq_true rfl) (Nat.le_of_ble_eq_true rfl) lX_54 (Nat.le_of_ble_eq_true rfl) rfl (As := []) (rest := [.ref (gad Γ 0)]) rfl rfl (Nat.le_of_ble_eq_true rfl) hm (pc := 23) dX10_blind_23 (fun t2 => ?_)
    refine j_callV_E hC hR (ctX10_give hC.l hC.cn κ t2) kc_RX10_132 (Nat.le_of_ble_eq_true rfl) (Nat.le_of_ble_eq_true rfl) lX_0 (Nat.le_of_ble_eq_true rfl) rfl (As := [.int t2]) (rest := []) rfl rfl (Nat.le_of_ble_eq_true rfl) hm (pc := 26) dX10_blind_26 (fun t3 => ?_)
    refine j_sub [] (loc' := []) rfl ?_
    exact wX10_blind_29 hC hR hm F t3.2 t3.1
theorem ctX10_blind {Δ : DCtx} {l : Launch} (hl : dlay Δ = layX) (hN : dN Δ = 147) (F : Nat) (κ : Mem) : ∀ r, pX10_blind F κ = some r → CT Δ l yX10_blind cX10_blind 1 (some .int) (rmH 2) [.ref (dad Δ 0)] κ (some (.int r.1)) r.2 :=
  ct_of (nL := 1) (ret := (some .int)) (lay := layX) (N := 147) (by decide +kernel) (fun Δ => [.ref (dad Δ 0)]) (fun _ => oE) (fun _ => (Nat.le_of_ble_eq_true rfl)) (fun Γ hR hm hC => wX10_blind hC hR hm F κ) Δ l hl hN
set_option maxRecDepth 20000 in
theorem wX10_share_9 {Γ : JCtx} (hC : jC Γ cX10_share 5 RX10 (some .int) layX 147) (hR : gR Γ = rmH 1) (hm : gcells Γ ≤ (gR Γ).cells ∧ gslots Γ ≤ (gR Γ).slots) (F : Nat) (κ : Mem) : JP Γ (qf Γ oE) (pX10_share_9 F κ) κ 9 [(0, .ref (gad Γ 0))] [] := by
  unfold pX10_share_9
  refine j_aload_n hC (pc := 9) dX10_share_9 0 rfl rfl ?_
  refine j_iconst hC (pc := 10) dX10_share_10 ki_1 ?_
  refine j_callV_E hC hR (ctX10_refuse hC.l hC.cn κ 1) kc_RX10_105 (Nat.le_of_ble_eq_true rfl) (Nat.le_of_ble_eq_true rfl) lX_0 (Nat.le_of_ble_eq_true rfl) rfl (As := [.int 1]) (rest := []) rfl rfl (Nat.le_of_ble_eq_true rfl) hm (pc := 11) dX10_share_11 (fun t1 => ?_)
  exact j_iret hC (pc := 14) dX10_share_14 rfl rfl rfl
set_option maxRecDepth 20000 in
theorem wX10_share_57 {Γ : JCtx} (hC : jC Γ cX10_share 5 RX10 (some .int) layX 147) (hR : gR Γ = rmH 1) (hm : gcells Γ ≤ (gR Γ).cells ∧ gslots Γ ≤ (gR Γ).slots) (F : Nat) (κ : Mem) (v4 : Int32) (y0 : Int32) : JP Γ (qf Γ oE) (pX10_share_57 F κ v4 y0) κ 57 [(4, .int v4)] [.int y0, .ref (gad Γ 0)] := by
  unfold pX10_share_57
  refine j_iload hC (pc := 57) dX10_share_57 0 rfl ?_
  refine j_idiv hC (pc := 59) dX10_share_59 ?_
  refine j_callV_E hC hR (ctX10_give hC.l hC.cn κ (y0 / v4)) kc_RX10_132 (Nat.le_of_ble_eq_true rfl) (Nat.le_of_ble_eq_true rfl) lX_0 (Nat.le_of_ble_eq_true rfl) rfl (As := [.int (y0 / v4)]) (rest := []) rfl rfl (Nat.le_of_ble_eq_true rfl) hm (pc := 60) dX10_share_60 (fun t5 => ?_)
  exact j_iret hC (pc := 63) dX10_share_63 rfl rfl rfl
set_option maxRecDepth 20000 in
theorem wX10_share {Γ : JCtx} (hC : jC Γ cX10_share 5 RX10 (some .int) layX 147) (hR : gR Γ = rmH 1) (hm : gcells Γ ≤ (gR Γ).cells ∧ gslots Γ ≤ (gR Γ).slots) (F : Nat) (κ : Mem) (v1 : Int32) (v2 : Int32) : JP Γ (qf Γ oE) (pX10_share F κ v1 v2) κ 0 [(0, .ref (gad Γ 0)), (1, .int v1), (2, .int v2)] [] := by
  unfold pX10_share
  refine j_iload_n hC (pc := 0) dX10_share_0 2 rfl rfl ?_
  refine j_if_lt hC (pc := 1) dX10_share_1 (tgt := 9) rfl ?_ ?_
  · refine j_sub [0] (loc' := [(0, .ref (gad Γ 0))]) rfl ?_
    exact wX10_share_9 hC hR hm F κ
  · refine j_iload_n hC (pc := 4) dX10_share_4 2 rfl rfl ?_
    refine j_iconst hC (pc := 5) dX10_share_5 ki_1 ?_
    refine j_icmp_le hC (pc := 6) dX10_share_6 (tgt := 15) rfl ?_ ?_
    · refine j_aload_n hC (pc := 15) dX10_share_15 0 rfl rfl ?_
      refine j_iload_n hC (pc := 16) dX10_share_16 1 rfl rfl ?_
      refine j_callV_I hC hR (ctX10_noSet hC.l hC.cn κ v1) kc_RX10_227 (Nat.le_of_ble_eq_true rfl) (Nat.le_of_ble_eq_true rfl) lX_0 (Nat.le_of_ble_eq_true rfl) rfl (As := [.int v1]) (rest := []) rfl rfl (Nat.le_of_ble_eq_true rfl) hm (pc := 17) dX10_share_17 (fun t2 => ?_)
      refine j_if_eq hC (pc := 20) dX10_share_20 (tgt := 29) rfl ?_ ?_
      · refine j_aload_n hC (pc := 29) dX10_share_29 0 rfl rfl ?_
        refine j_getR hC (pc := 30) dX10_share_30 kf_RX10_28 lX_0 (Nat.le_of_ble_eq_true rfl) rfl ?_
        refine j_iload_n hC (pc := 33) dX10_share_33 1 rfl rfl ?_
        refine j_callV_I hC hR (ctX4_twelfths hC.l hC.cn F κ v1) kc_RX10_263 (Nat.le_of_ble_eq_true rfl) (Nat.le_of_ble_eq_true rfl) lX_54 (Nat.le_of_ble_eq_true rfl) rfl (As := [.int v1]) (rest := []) rfl rfl (Nat.le_of_ble_eq_true rfl) hm (pc := 34) dX10_share_34 (fun t3 => ?_)
        refine j_istore_n hC (pc := 37) dX10_share_37 rfl (Nat.le_of_ble_eq_true rfl) (loc' := [(3, .int t3), (0, .ref (gad Γ 0)), (1, .int v1), (2, .int v2)]) rfl ?_
        refine j_iload_n hC (pc := 38) dX10_share_38 0 rfl rfl ?_
        refine j_bipush hC (pc := 39) dX10_share_39 kb_12 ?_
        refine j_callS_I hC hR (ctX10_commonDivisor hC.l hC.cn F κ t3 12) kc_RX10_266 (Nat.le_of_ble_eq_true rfl) (Nat.le_of_ble_eq_true rfl) (As := [.int t3, .int 12]) (rest := []) rfl rfl (Nat.le_of_ble_eq_true rfl) hm (pc := 41) dX10_share_41 (fun t4 => ?_)
        refine j_istore hC (pc := 44) dX10_share_44 (Nat.le_of_ble_eq_true rfl) (loc' := [(4, .int t4), (3, .int t3), (0, .ref (gad Γ 0)), (1, .int v1), (2, .int v2)]) rfl ?_
        refine j_aload_n hC (pc := 46) dX10_share_46 2 rfl rfl ?_
        refine j_iload_n hC (pc := 47) dX10_share_47 4 rfl rfl ?_
        refine j_if_ne hC (pc := 48) dX10_share_48 (tgt := 55) rfl ?_ ?_
        · refine j_iload_n hC (pc := 51) dX10_share_51 1 rfl rfl ?_
          refine j_goto hC (pc := 52) dX10_share_52 (tgt := 57) rfl ?_
          refine j_sub [0] (loc' := [(4, .int t4)]) rfl ?_
          exact wX10_share_57 hC hR hm F κ t4 t3
        · refine j_bipush hC (pc := 55) dX10_share_55 kb_12 ?_
          refine j_sub [0] (loc' := [(4, .int t4)]) rfl ?_
          exact wX10_share_57 hC hR hm F κ t4 12
      · refine j_aload_n hC (pc := 23) dX10_share_23 0 rfl rfl ?_
        refine j_iconst hC (pc := 24) dX10_share_24 ki_2 ?_
        refine j_callV_E hC hR (ctX10_refuse hC.l hC.cn κ 2) kc_RX10_105 (Nat.le_of_ble_eq_true rfl) (Nat.le_of_ble_eq_true rfl) lX_0 (Nat.le_of_ble_eq_true rfl) rfl (As := [.int 2]) (rest := []) rfl rfl (Nat.le_of_ble_eq_true rfl) hm (pc := 25) dX10_share_25 (fun t6 => ?_)
        exact j_iret hC (pc := 28) dX10_share_28 rfl rfl rfl
    · refine j_sub [0] (loc' := [(0, .ref (gad Γ 0))]) rfl ?_
      exact wX10_share_9 hC hR hm F κ
theorem ctX10_share {Δ : DCtx} {l : Launch} (hl : dlay Δ = layX) (hN : dN Δ = 147) (F : Nat) (κ : Mem) (v1 : Int32) (v2 : Int32) : ∀ r, pX10_share F κ v1 v2 = some r → CT Δ l yX10_share cX10_share 5 (some .int) (rmH 1) [.ref (dad Δ 0), .int v1, .int v2] κ (some (.int r.1)) r.2 :=
  ct_of (nL := 5) (ret := (some .int)) (lay := layX) (N := 147) (by decide +kernel) (fun Δ => [.ref (dad Δ 0), .int v1, .int v2]) (fun _ => oE) (fun _ => (Nat.le_of_ble_eq_true rfl)) (fun Γ hR hm hC => wX10_share hC hR hm F κ v1 v2) Δ l hl hN
set_option maxRecDepth 20000 in
theorem wX10_least_10 {Γ : JCtx} (hC : jC Γ cX10_least 3 RX10 (some .int) layX 147) (hR : gR Γ = rmH 1) (hm : gcells Γ ≤ (gR Γ).cells ∧ gslots Γ ≤ (gR Γ).slots) (F : Nat) (κ : Mem) : ∀ (n : Nat) (v1 : Int32) (v2 : Int32), JP Γ (qf Γ oE) (pX10_least_10 F κ n v1 v2) κ 10 [(0, .ref (gad Γ 0)), (1, .int v1), (2, .int v2)] [] := by
  intro n
  induction n with
  | zero =>
    intro v1 v2
    rw [pX10_least_10]
    exact j_none
  | succ fu ih =>
    intro v1 v2
    rw [pX10_least_10]
    refine j_iload_n hC (pc := 10) dX10_least_10 2 rfl rfl ?_
    refine j_aload_n hC (pc := 11) dX10_least_11 0 rfl rfl ?_
    refine j_getR hC (pc := 12) dX10_least_12 kf_RX10_10 lX_0 (Nat.le_of_ble_eq_true rfl) rfl ?_
    refine j_getI hC (pc := 15) dX10_least_15 kf_RX10_129 lX_1 (Nat.le_of_ble_eq_true rfl) rfl ?_
    refine j_icmp_ge hC (pc := 18) dX10_least_18 (tgt := 47) rfl ?_ ?_
    · refine j_iload_n hC (pc := 21) dX10_least_21 1 rfl rfl ?_
      refine j_aload_n hC (pc := 22) dX10_least_22 0 rfl rfl ?_
      refine j_getR hC (pc := 23) dX10_least_23 kf_RX10_21 lX_0 (Nat.le_of_ble_eq_true rfl) rfl ?_
      refine j_getI hC (pc := 26) dX10_least_26 kf_RX10_135 lX_41 (Nat.le_of_ble_eq_true rfl) rfl ?_
      refine j_aload_n hC (pc := 29) dX10_least_29 0 rfl rfl ?_
      refine j_getR hC (pc := 30) dX10_least_30 kf_RX10_10 lX_0 (Nat.le_of_ble_eq_true rfl) rfl ?_
      refine j_getR hC (pc := 33) dX10_least_33 kf_RX10_155 lX_1 (Nat.le_of_ble_eq_true rfl) rfl ?_
      refine j_iload_n hC (pc := 36) dX10_least_36 2 rfl rfl ?_
      refine j_iald hC (pc := 37) dX10_least_37 lX_2 (Nat.le_of_ble_eq_true rfl) ?_
      refine j_idiv hC (pc := 38) dX10_least_38 ?_
      refine j_isub hC (pc := 39) dX10_least_39 ?_
      refine j_nmi (fun x2 => ?_)
      refine j_istore_n hC (pc := 40) dX10_least_40 rfl (Nat.le_of_ble_eq_true rfl) (loc' := [(1, .int x2), (0, .ref (gad Γ 0)), (2, .int v2)]) rfl ?_
      refine j_iinc hC (pc := 41) dX10_least_41 2 rfl ki_1 (Nat.le_of_ble_eq_true rfl) (loc' := [(2, .int (v2 + 1)), (1, .int x2), (0, .ref (gad Γ 0))]) rfl ?_
      refine j_goto hC (pc := 44) dX10_least_44 (tgt := 10) rfl ?_
      refine j_sub [2, 1, 0] (loc' := [(0, .ref (gad Γ 0)), (1, .int x2), (2, .int (v2 + 1))]) rfl ?_
      exact ih x2 (v2 + 1)
    · refine j_aload_n hC (pc := 47) dX10_least_47 0 rfl rfl ?_
      refine j_iconst hC (pc := 48) dX10_least_48 ki_0 ?_
      refine j_iload_n hC (pc := 49) dX10_least_49 1 rfl rfl ?_
      refine j_mmax hC hR kc_RX10_269 (Nat.le_of_ble_eq_true rfl) (rest := [.ref (gad Γ 0)]) (Nat.le_of_ble_eq_true rfl) hm (pc := 50) dX10_least_50 ?_
      refine j_callV_E hC hR (ctX10_give hC.l hC.cn κ (if 0 < v1 then v1 else 0)) kc_RX10_132 (Nat.le_of_ble_eq_true rfl) (Nat.le_of_ble_eq_true rfl) lX_0 (Nat.le_of_ble_eq_true rfl) rfl (As := [.int (if 0 < v1 then v1 else 0)]) (rest := []) rfl rfl (Nat.le_of_ble_eq_true rfl) hm (pc := 53) dX10_least_53 (fun t3 => ?_)
      exact j_iret hC (pc := 56) dX10_least_56 rfl rfl rfl
set_option maxRecDepth 20000 in
theorem wX10_least {Γ : JCtx} (hC : jC Γ cX10_least 3 RX10 (some .int) layX 147) (hR : gR Γ = rmH 1) (hm : gcells Γ ≤ (gR Γ).cells ∧ gslots Γ ≤ (gR Γ).slots) (F : Nat) (κ : Mem) : JP Γ (qf Γ oE) (pX10_least F κ) κ 0 [(0, .ref (gad Γ 0))] [] := by
  unfold pX10_least
  refine j_aload_n hC (pc := 0) dX10_least_0 0 rfl rfl ?_
  refine j_getR hC (pc := 1) dX10_least_1 kf_RX10_21 lX_0 (Nat.le_of_ble_eq_true rfl) rfl ?_
  refine j_getI hC (pc := 4) dX10_least_4 kf_RX10_135 lX_41 (Nat.le_of_ble_eq_true rfl) rfl ?_
  refine j_nmi (fun x1 => ?_)
  refine j_istore_n hC (pc := 7) dX10_least_7 rfl (Nat.le_of_ble_eq_true rfl) (loc' := [(1, .int x1), (0, .ref (gad Γ 0))]) rfl ?_
  refine j_iconst hC (pc := 8) dX10_least_8 ki_0 ?_
  refine j_istore_n hC (pc := 9) dX10_least_9 rfl (Nat.le_of_ble_eq_true rfl) (loc' := [(2, .int 0), (1, .int x1), (0, .ref (gad Γ 0))]) rfl ?_
  refine j_sub [2, 1, 0] (loc' := [(0, .ref (gad Γ 0)), (1, .int x1), (2, .int 0)]) rfl ?_
  exact wX10_least_10 hC hR hm F κ F x1 0
theorem ctX10_least {Δ : DCtx} {l : Launch} (hl : dlay Δ = layX) (hN : dN Δ = 147) (F : Nat) (κ : Mem) : ∀ r, pX10_least F κ = some r → CT Δ l yX10_least cX10_least 3 (some .int) (rmH 1) [.ref (dad Δ 0)] κ (some (.int r.1)) r.2 :=
  ct_of (nL := 3) (ret := (some .int)) (lay := layX) (N := 147) (by decide +kernel) (fun Δ => [.ref (dad Δ 0)]) (fun _ => oE) (fun _ => (Nat.le_of_ble_eq_true rfl)) (fun Γ hR hm hC => wX10_least hC hR hm F κ) Δ l hl hN
set_option maxRecDepth 20000 in
theorem wX10_clique_29 {Γ : JCtx} (hC : jC Γ cX10_clique 1 RX10 (some .int) layX 147) (hR : gR Γ = rmH 2) (hm : gcells Γ ≤ (gR Γ).cells ∧ gslots Γ ≤ (gR Γ).slots) (F : Nat) (κ : Mem) (y0 : Int32) : JP Γ (qf Γ oE) (pX10_clique_29 F κ y0) κ 29 [] [.int y0] := by
  unfold pX10_clique_29
  exact j_iret hC (pc := 29) dX10_clique_29 rfl rfl rfl
set_option maxRecDepth 20000 in
theorem wX10_clique {Γ : JCtx} (hC : jC Γ cX10_clique 1 RX10 (some .int) layX 147) (hR : gR Γ = rmH 2) (hm : gcells Γ ≤ (gR Γ).cells ∧ gslots Γ ≤ (gR Γ).slots) (F : Nat) (κ : Mem) : JP Γ (qf Γ oE) (pX10_clique F κ) κ 0 [(0, .ref (gad Γ 0))] [] := by
  unfold pX10_clique
  refine j_aload_n hC (pc := 0) dX10_clique_0 0 rfl rfl ?_
  refine j_getR hC (pc := 1) dX10_clique_1 kf_RX10_10 lX_0 (Nat.le_of_ble_eq_true rfl) rfl ?_
  refine j_getI hC (pc := 4) dX10_clique_4 kf_RX10_129 lX_1 (Nat.le_of_ble_eq_true rfl) rfl ?_
  refine j_if_ne hC (pc := 7) dX10_clique_7 (tgt := 18) rfl ?_ ?_
  · refine j_aload_n hC (pc := 10) dX10_clique_10 0 rfl rfl ?_
    refine j_iconst hC (pc := 11) dX10_clique_11 ki_5 ?_
    refine j_callV_E hC hR (ctX10_refuse hC.l hC.cn κ 5) kc_RX10_105 (Nat.le_of_ble_eq_true rfl) (Nat.le_of_ble_eq_true rfl) lX_0 (Nat.le_of_ble_eq_true rfl) rfl (As := [.int 5]) (rest := []) rfl rfl (Nat.le_of_ble_eq_true rfl) hm (pc := 12) dX10_clique_12 (fun t1 => ?_)
    refine j_goto hC (pc := 15) dX10_clique_15 (tgt := 29) rfl ?_
    refine j_sub [] (loc' := []) rfl ?_
    exact wX10_clique_29 hC hR hm F t1.2 t1.1
  · refine j_aload_n hC (pc := 18) dX10_clique_18 0 rfl rfl ?_
    refine j_aload_n hC (pc := 19) dX10_clique_19 0 rfl rfl ?_
    refine j_getR hC (pc := 20) dX10_clique_20 kf_RX10_28 lX_0 (Nat.le_of_ble_eq_true rfl) rfl ?_
    refine j_callV_I hC hR (ctX4_greatestClique hC.l hC.cn F κ) kc_RX10_274 (Nat.le_of_ble_eq_true rfl) (Nat.le_of_ble_eq_true rfl) lX_54 (Nat.le_of_ble_eq_true rfl) rfl (As := []) (rest := [.ref (gad Γ 0)]) rfl rfl (Nat.le_of_ble_eq_true rfl) hm (pc := 23) dX10_clique_23 (fun t2 => ?_)
    refine j_callV_E hC hR (ctX10_give hC.l hC.cn κ t2) kc_RX10_132 (Nat.le_of_ble_eq_true rfl) (Nat.le_of_ble_eq_true rfl) lX_0 (Nat.le_of_ble_eq_true rfl) rfl (As := [.int t2]) (rest := []) rfl rfl (Nat.le_of_ble_eq_true rfl) hm (pc := 26) dX10_clique_26 (fun t3 => ?_)
    refine j_sub [] (loc' := []) rfl ?_
    exact wX10_clique_29 hC hR hm F t3.2 t3.1
theorem ctX10_clique {Δ : DCtx} {l : Launch} (hl : dlay Δ = layX) (hN : dN Δ = 147) (F : Nat) (κ : Mem) : ∀ r, pX10_clique F κ = some r → CT Δ l yX10_clique cX10_clique 1 (some .int) (rmH 2) [.ref (dad Δ 0)] κ (some (.int r.1)) r.2 :=
  ct_of (nL := 1) (ret := (some .int)) (lay := layX) (N := 147) (by decide +kernel) (fun Δ => [.ref (dad Δ 0)]) (fun _ => oE) (fun _ => (Nat.le_of_ble_eq_true rfl)) (fun Γ hR hm hC => wX10_clique hC hR hm F κ) Δ l hl hN
set_option maxRecDepth 20000 in
theorem wX10_strongest_29 {Γ : JCtx} (hC : jC Γ cX10_strongest 1 RX10 (some .int) layX 147) (hR : gR Γ = rmH 2) (hm : gcells Γ ≤ (gR Γ).cells ∧ gslots Γ ≤ (gR Γ).slots) (F : Nat) (κ : Mem) (y0 : Int32) : JP Γ (qf Γ oE) (pX10_strongest_29 F κ y0) κ 29 [] [.int y0] := by
  unfold pX10_strongest_29
  exact j_iret hC (pc := 29) dX10_strongest_29 rfl rfl rfl
set_option maxRecDepth 20000 in
theorem wX10_strongest {Γ : JCtx} (hC : jC Γ cX10_strongest 1 RX10 (some .int) layX 147) (hR : gR Γ = rmH 2) (hm : gcells Γ ≤ (gR Γ).cells ∧ gslots Γ ≤ (gR Γ).slots) (F : Nat) (κ : Mem) : JP Γ (qf Γ oE) (pX10_strongest F κ) κ 0 [(0, .ref (gad Γ 0))] [] := by
  unfold pX10_strongest
  refine j_aload_n hC (pc := 0) dX10_strongest_0 0 rfl rfl ?_
  refine j_getR hC (pc := 1) dX10_strongest_1 kf_RX10_10 lX_0 (Nat.le_of_ble_eq_true rfl) rfl ?_
  refine j_getI hC (pc := 4) dX10_strongest_4 kf_RX10_129 lX_1 (Nat.le_of_ble_eq_true rfl) rfl ?_
  refine j_if_ne hC (pc := 7) dX10_strongest_7 (tgt := 18) rfl ?_ ?_
  · refine j_aload_n hC (pc := 10) dX10_strongest_10 0 rfl rfl ?_
    refine j_iconst hC (pc := 11) dX10_strongest_11 ki_5 ?_
    refine j_callV_E hC hR (ctX10_refuse hC.l hC.cn κ 5) kc_RX10_105 (Nat.le_of_ble_eq_true rfl) (Nat.le_of_ble_eq_true rfl) lX_0 (Nat.le_of_ble_eq_true rfl) rfl (As := [.int 5]) (rest := []) rfl rfl (Nat.le_of_ble_eq_true rfl) hm (pc := 12) dX10_strongest_12 (fun t1 => ?_)
    refine j_goto hC (pc := 15) dX10_strongest_15 (tgt := 29) rfl ?_
    refine j_sub [] (loc' := []) rfl ?_
    exact wX10_strongest_29 hC hR hm F t1.2 t1.1
  · refine j_aload_n hC (pc := 18) dX10_strongest_18 0 rfl rfl ?_
    refine j_aload_n hC (pc := 19) dX10_strongest_19 0 rfl rfl ?_
    refine j_getR hC (pc := 20) dX10_strongest_20 kf_RX10_28 lX_0 (Nat.le_of_ble_eq_true rfl) rfl ?_
    refine j_callV_I hC hR (ctX4_strongestClique hC.l hC.cn F κ) kc_RX10_277 (Nat.le_of_ble_eq_true rfl) (Nat.le_of_ble_eq_true rfl) lX_54 (Nat.le_of_ble_eq_true rfl) rfl (As := []) (rest := [.ref (gad Γ 0)]) rfl rfl (Nat.le_of_ble_eq_true rfl) hm (pc := 23) dX10_strongest_23 (fun t2 => ?_)
    refine j_callV_E hC hR (ctX10_give hC.l hC.cn κ t2) kc_RX10_132 (Nat.le_of_ble_eq_true rfl) (Nat.le_of_ble_eq_true rfl) lX_0 (Nat.le_of_ble_eq_true rfl) rfl (As := [.int t2]) (rest := []) rfl rfl (Nat.le_of_ble_eq_true rfl) hm (pc := 26) dX10_strongest_26 (fun t3 => ?_)
    refine j_sub [] (loc' := []) rfl ?_
    exact wX10_strongest_29 hC hR hm F t3.2 t3.1
theorem ctX10_strongest {Δ : DCtx} {l : Launch} (hl : dlay Δ = layX) (hN : dN Δ = 147) (F : Nat) (κ : Mem) : ∀ r, pX10_strongest F κ = some r → CT Δ l yX10_strongest cX10_strongest 1 (some .int) (rmH 2) [.ref (dad Δ 0)] κ (some (.int r.1)) r.2 :=
  ct_of (nL := 1) (ret := (some .int)) (lay := layX) (N := 147) (by decide +kernel) (fun Δ => [.ref (dad Δ 0)]) (fun _ => oE) (fun _ => (Nat.le_of_ble_eq_true rfl)) (fun Γ hR hm hC => wX10_strongest hC hR hm F κ) Δ l hl hN
set_option maxRecDepth 20000 in
theorem wX10_sure {Γ : JCtx} (hC : jC Γ cX10_sure 1 RX10 (some .int) layX 147) (hR : gR Γ = rmH 2) (hm : gcells Γ ≤ (gR Γ).cells ∧ gslots Γ ≤ (gR Γ).slots) (F : Nat) (κ : Mem) : JP Γ (qf Γ oE) (pX10_sure F κ) κ 0 [(0, .ref (gad Γ 0))] [] := by
  unfold pX10_sure
  refine j_aload_n hC (pc := 0) dX10_sure_0 0 rfl rfl ?_
  refine j_aload_n hC (pc := 1) dX10_sure_1 0 rfl rfl ?_
  refine j_getR hC (pc := 2) dX10_sure_2 kf_RX10_28 lX_0 (Nat.le_of_ble_eq_true rfl) rfl ?_
  refine j_callV_I hC hR (ctX4_sureCliques hC.l hC.cn F κ) kc_RX10_280 (Nat.le_of_ble_eq_true rfl) (Nat.le_of_ble_eq_true rfl) lX_54 (Nat.le_of_ble_eq_true rfl) rfl (As := []) (rest := [.ref (gad Γ 0)]) rfl rfl (Nat.le_of_ble_eq_true rfl) hm (pc := 5) dX10_sure_5 (fun t1 => ?_)
  refine j_callV_E hC hR (ctX10_give hC.l hC.cn κ t1) kc_RX10_132 (Nat.le_of_ble_eq_true rfl) (Nat.le_of_ble_eq_true rfl) lX_0 (Nat.le_of_ble_eq_true rfl) rfl (As := [.int t1]) (rest := []) rfl rfl (Nat.le_of_ble_eq_true rfl) hm (pc := 8) dX10_sure_8 (fun t2 => ?_)
  exact j_iret hC (pc := 11) dX10_sure_11 rfl rfl rfl
theorem ctX10_sure {Δ : DCtx} {l : Launch} (hl : dlay Δ = layX) (hN : dN Δ = 147) (F : Nat) (κ : Mem) : ∀ r, pX10_sure F κ = some r → CT Δ l yX10_sure cX10_sure 1 (some .int) (rmH 2) [.ref (dad Δ 0)] κ (some (.int r.1)) r.2 :=
  ct_of (nL := 1) (ret := (some .int)) (lay := layX) (N := 147) (by decide +kernel) (fun Δ => [.ref (dad Δ 0)]) (fun _ => oE) (fun _ => (Nat.le_of_ble_eq_true rfl)) (fun Γ hR hm hC => wX10_sure hC hR hm F κ) Δ l hl hN
set_option maxRecDepth 20000 in
theorem wX10_best_28 {Γ : JCtx} (hC : jC Γ cX10_best 2 RX10 (some .int) layX 147) (hR : gR Γ = rmH 3) (hm : gcells Γ ≤ (gR Γ).cells ∧ gslots Γ ≤ (gR Γ).slots) (F : Nat) (κ : Mem) (y0 : Int32) : JP Γ (qf Γ oE) (pX10_best_28 F κ y0) κ 28 [] [.int y0] := by
  unfold pX10_best_28
  exact j_iret hC (pc := 28) dX10_best_28 rfl rfl rfl
set_option maxRecDepth 20000 in
theorem wX10_best {Γ : JCtx} (hC : jC Γ cX10_best 2 RX10 (some .int) layX 147) (hR : gR Γ = rmH 3) (hm : gcells Γ ≤ (gR Γ).cells ∧ gslots Γ ≤ (gR Γ).slots) (F : Nat) (κ : Mem) (v1 : Int32) : JP Γ (qf Γ oE) (pX10_best F κ v1) κ 0 [(0, .ref (gad Γ 0)), (1, .int v1)] [] := by
  unfold pX10_best
  refine j_aload_n hC (pc := 0) dX10_best_0 0 rfl rfl ?_
  refine j_iload_n hC (pc := 1) dX10_best_1 1 rfl rfl ?_
  refine j_callV_I hC hR (ctX10_noPlayer hC.l hC.cn κ v1) kc_RX10_152 (Nat.le_of_ble_eq_true rfl) (Nat.le_of_ble_eq_true rfl) lX_0 (Nat.le_of_ble_eq_true rfl) rfl (As := [.int v1]) (rest := []) rfl rfl (Nat.le_of_ble_eq_true rfl) hm (pc := 2) dX10_best_2 (fun t1 => ?_)
  refine j_if_eq hC (pc := 5) dX10_best_5 (tgt := 16) rfl ?_ ?_
  · refine j_aload_n hC (pc := 16) dX10_best_16 0 rfl rfl ?_
    refine j_aload_n hC (pc := 17) dX10_best_17 0 rfl rfl ?_
    refine j_getR hC (pc := 18) dX10_best_18 kf_RX10_21 lX_0 (Nat.le_of_ble_eq_true rfl) rfl ?_
    refine j_iload_n hC (pc := 21) dX10_best_21 1 rfl rfl ?_
    refine j_callV_E hC hR (ctX1_weighBest hC.l hC.cn F κ v1) kc_RX10_283 (Nat.le_of_ble_eq_true rfl) (Nat.le_of_ble_eq_true rfl) lX_41 (Nat.le_of_ble_eq_true rfl) rfl (As := [.int v1]) (rest := [.ref (gad Γ 0)]) rfl rfl (Nat.le_of_ble_eq_true rfl) hm (pc := 22) dX10_best_22 (fun t2 => ?_)
    refine j_callV_E hC hR (ctX10_give hC.l hC.cn t2.2 t2.1) kc_RX10_132 (Nat.le_of_ble_eq_true rfl) (Nat.le_of_ble_eq_true rfl) lX_0 (Nat.le_of_ble_eq_true rfl) rfl (As := [.int (t2.1)]) (rest := []) rfl rfl (Nat.le_of_ble_eq_true rfl) hm (pc := 25) dX10_best_25 (fun t3 => ?_)
    refine j_sub [] (loc' := []) rfl ?_
    exact wX10_best_28 hC hR hm F t3.2 t3.1
  · refine j_aload_n hC (pc := 8) dX10_best_8 0 rfl rfl ?_
    refine j_iconst hC (pc := 9) dX10_best_9 ki_2 ?_
    refine j_callV_E hC hR (ctX10_refuse hC.l hC.cn κ 2) kc_RX10_105 (Nat.le_of_ble_eq_true rfl) (Nat.le_of_ble_eq_true rfl) lX_0 (Nat.le_of_ble_eq_true rfl) rfl (As := [.int 2]) (rest := []) rfl rfl (Nat.le_of_ble_eq_true rfl) hm (pc := 10) dX10_best_10 (fun t4 => ?_)
    refine j_goto hC (pc := 13) dX10_best_13 (tgt := 28) rfl ?_
    refine j_sub [] (loc' := []) rfl ?_
    exact wX10_best_28 hC hR hm F t4.2 t4.1
theorem ctX10_best {Δ : DCtx} {l : Launch} (hl : dlay Δ = layX) (hN : dN Δ = 147) (F : Nat) (κ : Mem) (v1 : Int32) : ∀ r, pX10_best F κ v1 = some r → CT Δ l yX10_best cX10_best 2 (some .int) (rmH 3) [.ref (dad Δ 0), .int v1] κ (some (.int r.1)) r.2 :=
  ct_of (nL := 2) (ret := (some .int)) (lay := layX) (N := 147) (by decide +kernel) (fun Δ => [.ref (dad Δ 0), .int v1]) (fun _ => oE) (fun _ => (Nat.le_of_ble_eq_true rfl)) (fun Γ hR hm hC => wX10_best hC hR hm F κ v1) Δ l hl hN
set_option maxRecDepth 20000 in
theorem wX10_bestAt {Γ : JCtx} (hC : jC Γ cX10_bestAt 3 RX10 (some .int) layX 147) (hR : gR Γ = rmH 3) (hm : gcells Γ ≤ (gR Γ).cells ∧ gslots Γ ≤ (gR Γ).slots) (F : Nat) (κ : Mem) (v1 : Int32) (v2 : Int32) : JP Γ (qf Γ oE) (pX10_bestAt F κ v1 v2) κ 0 [(0, .ref (gad Γ 0)), (1, .int v1), (2, .int v2)] [] := by
  unfold pX10_bestAt
  refine j_aload_n hC (pc := 0) dX10_bestAt_0 0 rfl rfl ?_
  refine j_iload_n hC (pc := 1) dX10_bestAt_1 1 rfl rfl ?_
  refine j_iload_n hC (pc := 2) dX10_bestAt_2 2 rfl rfl ?_
  refine j_callV_I hC hR (ctX10_noSituation hC.l hC.cn F κ v1 v2) kc_RX10_168 (Nat.le_of_ble_eq_true rfl) (Nat.le_of_ble_eq_true rfl) lX_0 (Nat.le_of_ble_eq_true rfl) rfl (As := [.int v1, .int v2]) (rest := []) rfl rfl (Nat.le_of_ble_eq_true rfl) hm (pc := 3) dX10_bestAt_3 (fun t1 => ?_)
  refine j_if_eq hC (pc := 6) dX10_bestAt_6 (tgt := 15) rfl ?_ ?_
  · refine j_aload_n hC (pc := 15) dX10_bestAt_15 0 rfl rfl ?_
    refine j_getR hC (pc := 16) dX10_bestAt_16 kf_RX10_21 lX_0 (Nat.le_of_ble_eq_true rfl) rfl ?_
    refine j_iload_n hC (pc := 19) dX10_bestAt_19 1 rfl rfl ?_
    refine j_callV_E hC hR (ctX1_weighBest hC.l hC.cn F κ v1) kc_RX10_283 (Nat.le_of_ble_eq_true rfl) (Nat.le_of_ble_eq_true rfl) lX_41 (Nat.le_of_ble_eq_true rfl) rfl (As := [.int v1]) (rest := []) rfl rfl (Nat.le_of_ble_eq_true rfl) hm (pc := 20) dX10_bestAt_20 (fun t2 => ?_)
    refine j_pop hC (pc := 23) dX10_bestAt_23 rfl ?_
    refine j_aload_n hC (pc := 24) dX10_bestAt_24 0 rfl rfl ?_
    refine j_aload_n hC (pc := 25) dX10_bestAt_25 0 rfl rfl ?_
    refine j_getR hC (pc := 26) dX10_bestAt_26 kf_RX10_21 lX_0 (Nat.le_of_ble_eq_true rfl) rfl ?_
    refine j_getR hC (pc := 29) dX10_bestAt_29 kf_RX10_286 lX_41 (Nat.le_of_ble_eq_true rfl) rfl ?_
    refine j_iload_n hC (pc := 32) dX10_bestAt_32 2 rfl rfl ?_
    refine j_iald hC (pc := 33) dX10_bestAt_33 lX_52 (Nat.le_of_ble_eq_true rfl) ?_
    refine j_callV_E hC hR (ctX10_give hC.l hC.cn t2.2 (mi t2.2 52 v2.toNatClampNeg)) kc_RX10_132 (Nat.le_of_ble_eq_true rfl) (Nat.le_of_ble_eq_true rfl) lX_0 (Nat.le_of_ble_eq_true rfl) rfl (As := [.int (mi t2.2 52 v2.toNatClampNeg)]) (rest := []) rfl rfl (Nat.le_of_ble_eq_true rfl) hm (pc := 34) dX10_bestAt_34 (fun t3 => ?_)
    exact j_iret hC (pc := 37) dX10_bestAt_37 rfl rfl rfl
  · refine j_aload_n hC (pc := 9) dX10_bestAt_9 0 rfl rfl ?_
    refine j_iconst hC (pc := 10) dX10_bestAt_10 ki_2 ?_
    refine j_callV_E hC hR (ctX10_refuse hC.l hC.cn κ 2) kc_RX10_105 (Nat.le_of_ble_eq_true rfl) (Nat.le_of_ble_eq_true rfl) lX_0 (Nat.le_of_ble_eq_true rfl) rfl (As := [.int 2]) (rest := []) rfl rfl (Nat.le_of_ble_eq_true rfl) hm (pc := 11) dX10_bestAt_11 (fun t4 => ?_)
    exact j_iret hC (pc := 14) dX10_bestAt_14 rfl rfl rfl
theorem ctX10_bestAt {Δ : DCtx} {l : Launch} (hl : dlay Δ = layX) (hN : dN Δ = 147) (F : Nat) (κ : Mem) (v1 : Int32) (v2 : Int32) : ∀ r, pX10_bestAt F κ v1 v2 = some r → CT Δ l yX10_bestAt cX10_bestAt 3 (some .int) (rmH 3) [.ref (dad Δ 0), .int v1, .int v2] κ (some (.int r.1)) r.2 :=
  ct_of (nL := 3) (ret := (some .int)) (lay := layX) (N := 147) (by decide +kernel) (fun Δ => [.ref (dad Δ 0), .int v1, .int v2]) (fun _ => oE) (fun _ => (Nat.le_of_ble_eq_true rfl)) (fun Γ hR hm hC => wX10_bestAt hC hR hm F κ v1 v2) Δ l hl hN
set_option maxRecDepth 20000 in
theorem wX10_bettered_40 {Γ : JCtx} (hC : jC Γ cX10_bettered 5 RX10 (some .int) layX 147) (hR : gR Γ = rmH 3) (hm : gcells Γ ≤ (gR Γ).cells ∧ gslots Γ ≤ (gR Γ).slots) (F : Nat) (κ : Mem) (v1 : Int32) (v2 : Int32) (v3 : Int32) (k8 : Mem → Int32 → Int32 → Int32 → Option (Int32 × Mem)) (hk8 : ∀ (κ : Mem) (v1 : Int32) (v2 : Int32) (v3 : Int32), JP Γ (qf Γ oE) (k8 κ v1 v2 v3) κ 8 [(0, .ref (gad Γ 0)), (1, .int v1), (2, .int v2), (3, .int v3)] []) : JP Γ (qf Γ oE) (pX10_bettered_40 F k8 κ v1 v2 v3) κ 40 [(0, .ref (gad Γ 0)), (1, .int v1), (2, .int v2), (3, .int v3)] [] := by
  unfold pX10_bettered_40
  refine j_iinc hC (pc := 40) dX10_bettered_40 3 rfl ki_1 (Nat.le_of_ble_eq_true rfl) (loc' := [(3, .int (v3 + 1)), (0, .ref (gad Γ 0)), (1, .int v1), (2, .int v2)]) rfl ?_
  refine j_goto hC (pc := 43) dX10_bettered_43 (tgt := 8) rfl ?_
  refine j_sub [1, 2, 3, 0] (loc' := [(0, .ref (gad Γ 0)), (1, .int v1), (2, .int v2), (3, .int (v3 + 1))]) rfl ?_
  exact hk8 κ v1 v2 (v3 + 1)
set_option maxRecDepth 20000 in
theorem wX10_bettered_64 {Γ : JCtx} (hC : jC Γ cX10_bettered 5 RX10 (some .int) layX 147) (hR : gR Γ = rmH 3) (hm : gcells Γ ≤ (gR Γ).cells ∧ gslots Γ ≤ (gR Γ).slots) (F : Nat) (κ : Mem) (y0 : Int32) : JP Γ (qf Γ oE) (pX10_bettered_64 F κ y0) κ 64 [] [.int y0] := by
  unfold pX10_bettered_64
  exact j_iret hC (pc := 64) dX10_bettered_64 rfl rfl rfl
set_option maxRecDepth 20000 in
theorem wX10_bettered_8 {Γ : JCtx} (hC : jC Γ cX10_bettered 5 RX10 (some .int) layX 147) (hR : gR Γ = rmH 3) (hm : gcells Γ ≤ (gR Γ).cells ∧ gslots Γ ≤ (gR Γ).slots) (F : Nat) : ∀ (n : Nat) (κ : Mem) (v1 : Int32) (v2 : Int32) (v3 : Int32), JP Γ (qf Γ oE) (pX10_bettered_8 F n κ v1 v2 v3) κ 8 [(0, .ref (gad Γ 0)), (1, .int v1), (2, .int v2), (3, .int v3)] [] := by
  intro n
  induction n with
  | zero =>
    intro κ v1 v2 v3
    rw [pX10_bettered_8]
    exact j_none
  | succ fu ih =>
    intro κ v1 v2 v3
    rw [pX10_bettered_8]
    refine j_iload_n hC (pc := 8) dX10_bettered_8 3 rfl rfl ?_
    refine j_aload_n hC (pc := 9) dX10_bettered_9 0 rfl rfl ?_
    refine j_getR hC (pc := 10) dX10_bettered_10 kf_RX10_10 lX_0 (Nat.le_of_ble_eq_true rfl) rfl ?_
    refine j_getI hC (pc := 13) dX10_bettered_13 kf_RX10_129 lX_1 (Nat.le_of_ble_eq_true rfl) rfl ?_
    refine j_icmp_ge hC (pc := 16) dX10_bettered_16 (tgt := 46) rfl ?_ ?_
    · refine j_aload_n hC (pc := 19) dX10_bettered_19 0 rfl rfl ?_
      refine j_getR hC (pc := 20) dX10_bettered_20 kf_RX10_21 lX_0 (Nat.le_of_ble_eq_true rfl) rfl ?_
      refine j_iload_n hC (pc := 23) dX10_bettered_23 3 rfl rfl ?_
      refine j_callV_E hC hR (ctX1_weighBest hC.l hC.cn F κ v3) kc_RX10_283 (Nat.le_of_ble_eq_true rfl) (Nat.le_of_ble_eq_true rfl) lX_41 (Nat.le_of_ble_eq_true rfl) rfl (As := [.int v3]) (rest := []) rfl rfl (Nat.le_of_ble_eq_true rfl) hm (pc := 24) dX10_bettered_24 (fun t1 => ?_)
      refine j_istore hC (pc := 27) dX10_bettered_27 (Nat.le_of_ble_eq_true rfl) (loc' := [(4, .int (t1.1)), (0, .ref (gad Γ 0)), (1, .int v1), (2, .int v2), (3, .int v3)]) rfl ?_
      refine j_iload hC (pc := 29) dX10_bettered_29 0 rfl ?_
      refine j_iload_n hC (pc := 31) dX10_bettered_31 3 rfl rfl ?_
      refine j_icmp_ge hC (pc := 32) dX10_bettered_32 (tgt := 40) rfl ?_ ?_
      · refine j_iload hC (pc := 35) dX10_bettered_35 0 rfl ?_
        refine j_istore_n hC (pc := 37) dX10_bettered_37 rfl (Nat.le_of_ble_eq_true rfl) (loc' := [(2, .int (t1.1)), (4, .int (t1.1)), (0, .ref (gad Γ 0)), (1, .int v1), (3, .int v3)]) rfl ?_
        refine j_iload_n hC (pc := 38) dX10_bettered_38 4 rfl rfl ?_
        refine j_istore_n hC (pc := 39) dX10_bettered_39 rfl (Nat.le_of_ble_eq_true rfl) (loc' := [(1, .int v3), (2, .int (t1.1)), (4, .int (t1.1)), (0, .ref (gad Γ 0)), (3, .int v3)]) rfl ?_
        refine j_sub [3, 0, 1, 4] (loc' := [(0, .ref (gad Γ 0)), (1, .int v3), (2, .int (t1.1)), (3, .int v3)]) rfl ?_
        exact wX10_bettered_40 hC hR hm F t1.2 v3 t1.1 v3 (pX10_bettered_8 F fu) ih
      · refine j_sub [1, 2, 3, 4] (loc' := [(0, .ref (gad Γ 0)), (1, .int v1), (2, .int v2), (3, .int v3)]) rfl ?_
        exact wX10_bettered_40 hC hR hm F t1.2 v1 v2 v3 (pX10_bettered_8 F fu) ih
    · refine j_iload_n hC (pc := 46) dX10_bettered_46 1 rfl rfl ?_
      refine j_iconst hC (pc := 47) dX10_bettered_47 ki_m1 ?_
      refine j_icmp_ne hC (pc := 48) dX10_bettered_48 (tgt := 59) rfl ?_ ?_
      · refine j_aload_n hC (pc := 51) dX10_bettered_51 0 rfl rfl ?_
        refine j_iconst hC (pc := 52) dX10_bettered_52 ki_5 ?_
        refine j_callV_E hC hR (ctX10_refuse hC.l hC.cn κ 5) kc_RX10_105 (Nat.le_of_ble_eq_true rfl) (Nat.le_of_ble_eq_true rfl) lX_0 (Nat.le_of_ble_eq_true rfl) rfl (As := [.int 5]) (rest := []) rfl rfl (Nat.le_of_ble_eq_true rfl) hm (pc := 53) dX10_bettered_53 (fun t2 => ?_)
        refine j_goto hC (pc := 56) dX10_bettered_56 (tgt := 64) rfl ?_
        refine j_sub [] (loc' := []) rfl ?_
        exact wX10_bettered_64 hC hR hm F t2.2 t2.1
      · refine j_aload_n hC (pc := 59) dX10_bettered_59 0 rfl rfl ?_
        refine j_iload_n hC (pc := 60) dX10_bettered_60 1 rfl rfl ?_
        refine j_callV_E hC hR (ctX10_give hC.l hC.cn κ v1) kc_RX10_132 (Nat.le_of_ble_eq_true rfl) (Nat.le_of_ble_eq_true rfl) lX_0 (Nat.le_of_ble_eq_true rfl) rfl (As := [.int v1]) (rest := []) rfl rfl (Nat.le_of_ble_eq_true rfl) hm (pc := 61) dX10_bettered_61 (fun t3 => ?_)
        refine j_sub [] (loc' := []) rfl ?_
        exact wX10_bettered_64 hC hR hm F t3.2 t3.1
set_option maxRecDepth 20000 in
theorem wX10_bettered {Γ : JCtx} (hC : jC Γ cX10_bettered 5 RX10 (some .int) layX 147) (hR : gR Γ = rmH 3) (hm : gcells Γ ≤ (gR Γ).cells ∧ gslots Γ ≤ (gR Γ).slots) (F : Nat) (κ : Mem) : JP Γ (qf Γ oE) (pX10_bettered F κ) κ 0 [(0, .ref (gad Γ 0))] [] := by
  unfold pX10_bettered
  refine j_iconst hC (pc := 0) dX10_bettered_0 ki_m1 ?_
  refine j_istore_n hC (pc := 1) dX10_bettered_1 rfl (Nat.le_of_ble_eq_true rfl) (loc' := [(1, .int (-1)), (0, .ref (gad Γ 0))]) rfl ?_
  refine j_sipush hC (pc := 2) dX10_bettered_2 ks_4097 ?_
  refine j_istore_n hC (pc := 5) dX10_bettered_5 rfl (Nat.le_of_ble_eq_true rfl) (loc' := [(2, .int 4097), (1, .int (-1)), (0, .ref (gad Γ 0))]) rfl ?_
  refine j_iconst hC (pc := 6) dX10_bettered_6 ki_0 ?_
  refine j_istore_n hC (pc := 7) dX10_bettered_7 rfl (Nat.le_of_ble_eq_true rfl) (loc' := [(3, .int 0), (2, .int 4097), (1, .int (-1)), (0, .ref (gad Γ 0))]) rfl ?_
  refine j_sub [3, 2, 1, 0] (loc' := [(0, .ref (gad Γ 0)), (1, .int (-1)), (2, .int 4097), (3, .int 0)]) rfl ?_
  exact wX10_bettered_8 hC hR hm F F κ (-1) 4097 0
theorem ctX10_bettered {Δ : DCtx} {l : Launch} (hl : dlay Δ = layX) (hN : dN Δ = 147) (F : Nat) (κ : Mem) : ∀ r, pX10_bettered F κ = some r → CT Δ l yX10_bettered cX10_bettered 5 (some .int) (rmH 3) [.ref (dad Δ 0)] κ (some (.int r.1)) r.2 :=
  ct_of (nL := 5) (ret := (some .int)) (lay := layX) (N := 147) (by decide +kernel) (fun Δ => [.ref (dad Δ 0)]) (fun _ => oE) (fun _ => (Nat.le_of_ble_eq_true rfl)) (fun Γ hR hm hC => wX10_bettered hC hR hm F κ) Δ l hl hN
set_option maxRecDepth 20000 in
theorem wX10_ways_9 {Γ : JCtx} (hC : jC Γ cX10_ways 2 RX10 (some .int) layX 147) (hR : gR Γ = rmH 5) (hm : gcells Γ ≤ (gR Γ).cells ∧ gslots Γ ≤ (gR Γ).slots) (F : Nat) (κ : Mem) : JP Γ (qf Γ oE) (pX10_ways_9 F κ) κ 9 [(0, .ref (gad Γ 0))] [] := by
  unfold pX10_ways_9
  refine j_aload_n hC (pc := 9) dX10_ways_9 0 rfl rfl ?_
  refine j_iconst hC (pc := 10) dX10_ways_10 ki_1 ?_
  refine j_callV_E hC hR (ctX10_refuse hC.l hC.cn κ 1) kc_RX10_105 (Nat.le_of_ble_eq_true rfl) (Nat.le_of_ble_eq_true rfl) lX_0 (Nat.le_of_ble_eq_true rfl) rfl (As := [.int 1]) (rest := []) rfl rfl (Nat.le_of_ble_eq_true rfl) hm (pc := 11) dX10_ways_11 (fun t1 => ?_)
  exact j_iret hC (pc := 14) dX10_ways_14 rfl rfl rfl
set_option maxRecDepth 20000 in
theorem wX10_ways_80 {Γ : JCtx} (hC : jC Γ cX10_ways 2 RX10 (some .int) layX 147) (hR : gR Γ = rmH 5) (hm : gcells Γ ≤ (gR Γ).cells ∧ gslots Γ ≤ (gR Γ).slots) (F : Nat) (κ : Mem) (y0 : Int32) : JP Γ (qf Γ oE) (pX10_ways_80 F κ y0) κ 80 [] [.int y0, .ref (gad Γ 0)] := by
  unfold pX10_ways_80
  refine j_callV_E hC hR (ctX10_give hC.l hC.cn κ y0) kc_RX10_132 (Nat.le_of_ble_eq_true rfl) (Nat.le_of_ble_eq_true rfl) lX_0 (Nat.le_of_ble_eq_true rfl) rfl (As := [.int y0]) (rest := []) rfl rfl (Nat.le_of_ble_eq_true rfl) hm (pc := 80) dX10_ways_80 (fun t6 => ?_)
  exact j_iret hC (pc := 83) dX10_ways_83 rfl rfl rfl
set_option maxRecDepth 20000 in
theorem wX10_ways {Γ : JCtx} (hC : jC Γ cX10_ways 2 RX10 (some .int) layX 147) (hR : gR Γ = rmH 5) (hm : gcells Γ ≤ (gR Γ).cells ∧ gslots Γ ≤ (gR Γ).slots) (F : Nat) (κ : Mem) (v1 : Int32) : JP Γ (qf Γ oE) (pX10_ways F κ v1) κ 0 [(0, .ref (gad Γ 0)), (1, .int v1)] [] := by
  unfold pX10_ways
  refine j_iload_n hC (pc := 0) dX10_ways_0 1 rfl rfl ?_
  refine j_if_lt hC (pc := 1) dX10_ways_1 (tgt := 9) rfl ?_ ?_
  · refine j_sub [0] (loc' := [(0, .ref (gad Γ 0))]) rfl ?_
    exact wX10_ways_9 hC hR hm F κ
  · refine j_iload_n hC (pc := 4) dX10_ways_4 1 rfl rfl ?_
    refine j_iconst hC (pc := 5) dX10_ways_5 ki_2 ?_
    refine j_icmp_le hC (pc := 6) dX10_ways_6 (tgt := 15) rfl ?_ ?_
    · refine j_aload_n hC (pc := 15) dX10_ways_15 0 rfl rfl ?_
      refine j_getR hC (pc := 16) dX10_ways_16 kf_RX10_10 lX_0 (Nat.le_of_ble_eq_true rfl) rfl ?_
      refine j_callV_I hC hR (ctX2_waysToGuess hC.l hC.cn 1 isG_1 F κ) kc_RX10_289 (Nat.le_of_ble_eq_true rfl) (Nat.le_of_ble_eq_true rfl) lX_1 (Nat.le_of_ble_eq_true rfl) rfl (As := []) (rest := []) rfl rfl (Nat.le_of_ble_eq_true rfl) hm (pc := 19) dX10_ways_19 (fun t2 => ?_)
      refine j_sipush hC (pc := 22) dX10_ways_22 ks_20000 ?_
      refine j_icmp_le hC (pc := 25) dX10_ways_25 (tgt := 34) rfl ?_ ?_
      · refine j_iload_n hC (pc := 34) dX10_ways_34 1 rfl rfl ?_
        refine j_if_ne hC (pc := 35) dX10_ways_35 (tgt := 50) rfl ?_ ?_
        · refine j_aload_n hC (pc := 38) dX10_ways_38 0 rfl rfl ?_
          refine j_aload_n hC (pc := 39) dX10_ways_39 0 rfl rfl ?_
          refine j_getR hC (pc := 40) dX10_ways_40 kf_RX10_10 lX_0 (Nat.le_of_ble_eq_true rfl) rfl ?_
          refine j_callV_I hC hR (ctX2_waysToGuess hC.l hC.cn 1 isG_1 F κ) kc_RX10_289 (Nat.le_of_ble_eq_true rfl) (Nat.le_of_ble_eq_true rfl) lX_1 (Nat.le_of_ble_eq_true rfl) rfl (As := []) (rest := [.ref (gad Γ 0)]) rfl rfl (Nat.le_of_ble_eq_true rfl) hm (pc := 43) dX10_ways_43 (fun t3 => ?_)
          refine j_callV_E hC hR (ctX10_give hC.l hC.cn κ t3) kc_RX10_132 (Nat.le_of_ble_eq_true rfl) (Nat.le_of_ble_eq_true rfl) lX_0 (Nat.le_of_ble_eq_true rfl) rfl (As := [.int t3]) (rest := []) rfl rfl (Nat.le_of_ble_eq_true rfl) hm (pc := 46) dX10_ways_46 (fun t4 => ?_)
          exact j_iret hC (pc := 49) dX10_ways_49 rfl rfl rfl
        · refine j_aload_n hC (pc := 50) dX10_ways_50 0 rfl rfl ?_
          refine j_getR hC (pc := 51) dX10_ways_51 kf_RX10_51 lX_0 (Nat.le_of_ble_eq_true rfl) rfl ?_
          refine j_callV_V hC hR (ctX9_goThrough hC.l hC.cn F κ) kc_RX10_292 (Nat.le_of_ble_eq_true rfl) (Nat.le_of_ble_eq_true rfl) lX_59 (Nat.le_of_ble_eq_true rfl) rfl (As := []) (rest := []) rfl rfl (Nat.le_of_ble_eq_true rfl) hm (pc := 54) dX10_ways_54 (fun t5 => ?_)
          refine j_aload_n hC (pc := 57) dX10_ways_57 0 rfl rfl ?_
          refine j_iload_n hC (pc := 58) dX10_ways_58 1 rfl rfl ?_
          refine j_iconst hC (pc := 59) dX10_ways_59 ki_1 ?_
          refine j_icmp_ne hC (pc := 60) dX10_ways_60 (tgt := 73) rfl ?_ ?_
          · refine j_aload_n hC (pc := 63) dX10_ways_63 0 rfl rfl ?_
            refine j_getR hC (pc := 64) dX10_ways_64 kf_RX10_51 lX_0 (Nat.le_of_ble_eq_true rfl) rfl ?_
            refine j_getI hC (pc := 67) dX10_ways_67 kf_RX10_295 lX_59 (Nat.le_of_ble_eq_true rfl) rfl ?_
            refine j_goto hC (pc := 70) dX10_ways_70 (tgt := 80) rfl ?_
            refine j_sub [] (loc' := []) rfl ?_
            exact wX10_ways_80 hC hR hm F t5 (mi t5 59 8)
          · refine j_aload_n hC (pc := 73) dX10_ways_73 0 rfl rfl ?_
            refine j_getR hC (pc := 74) dX10_ways_74 kf_RX10_51 lX_0 (Nat.le_of_ble_eq_true rfl) rfl ?_
            refine j_getI hC (pc := 77) dX10_ways_77 kf_RX10_298 lX_59 (Nat.le_of_ble_eq_true rfl) rfl ?_
            refine j_sub [] (loc' := []) rfl ?_
            exact wX10_ways_80 hC hR hm F t5 (mi t5 59 9)
      · refine j_aload_n hC (pc := 28) dX10_ways_28 0 rfl rfl ?_
        refine j_iconst hC (pc := 29) dX10_ways_29 ki_3 ?_
        refine j_callV_E hC hR (ctX10_refuse hC.l hC.cn κ 3) kc_RX10_105 (Nat.le_of_ble_eq_true rfl) (Nat.le_of_ble_eq_true rfl) lX_0 (Nat.le_of_ble_eq_true rfl) rfl (As := [.int 3]) (rest := []) rfl rfl (Nat.le_of_ble_eq_true rfl) hm (pc := 30) dX10_ways_30 (fun t7 => ?_)
        exact j_iret hC (pc := 33) dX10_ways_33 rfl rfl rfl
    · refine j_sub [0] (loc' := [(0, .ref (gad Γ 0))]) rfl ?_
      exact wX10_ways_9 hC hR hm F κ
theorem ctX10_ways {Δ : DCtx} {l : Launch} (hl : dlay Δ = layX) (hN : dN Δ = 147) (F : Nat) (κ : Mem) (v1 : Int32) : ∀ r, pX10_ways F κ v1 = some r → CT Δ l yX10_ways cX10_ways 2 (some .int) (rmH 5) [.ref (dad Δ 0), .int v1] κ (some (.int r.1)) r.2 :=
  ct_of (nL := 2) (ret := (some .int)) (lay := layX) (N := 147) (by decide +kernel) (fun Δ => [.ref (dad Δ 0), .int v1]) (fun _ => oE) (fun _ => (Nat.le_of_ble_eq_true rfl)) (fun Γ hR hm hC => wX10_ways hC hR hm F κ v1) Δ l hl hN
set_option maxRecDepth 20000 in
theorem wX10_noSeed_16 {Γ : JCtx} (hC : jC Γ cX10_noSeed 2 RX10 (some .boolean) layX 147) (hR : gR Γ = rmH 0) (hm : gcells Γ ≤ (gR Γ).cells ∧ gslots Γ ≤ (gR Γ).slots) (κ : Mem) (y0 : Int32) : JP Γ (qf Γ (oI κ)) (pX10_noSeed_16 κ y0) κ 16 [] [.int y0] := by
  unfold pX10_noSeed_16
  refine j_ckP (fun hq1 => ?_)
  exact j_iret hC (pc := 16) dX10_noSeed_16 rfl (isB_n hq1) rfl
set_option maxRecDepth 20000 in
theorem wX10_noSeed_11 {Γ : JCtx} (hC : jC Γ cX10_noSeed 2 RX10 (some .boolean) layX 147) (hR : gR Γ = rmH 0) (hm : gcells Γ ≤ (gR Γ).cells ∧ gslots Γ ≤ (gR Γ).slots) (κ : Mem) : JP Γ (qf Γ (oI κ)) (pX10_noSeed_11 κ) κ 11 [] [] := by
  unfold pX10_noSeed_11
  refine j_iconst hC (pc := 11) dX10_noSeed_11 ki_1 ?_
  refine j_goto hC (pc := 12) dX10_noSeed_12 (tgt := 16) rfl ?_
  exact wX10_noSeed_16 hC hR hm κ 1
set_option maxRecDepth 20000 in
theorem wX10_noSeed {Γ : JCtx} (hC : jC Γ cX10_noSeed 2 RX10 (some .boolean) layX 147) (hR : gR Γ = rmH 0) (hm : gcells Γ ≤ (gR Γ).cells ∧ gslots Γ ≤ (gR Γ).slots) (κ : Mem) (v1 : Int32) : JP Γ (qf Γ (oI κ)) (pX10_noSeed κ v1) κ 0 [(0, .ref (gad Γ 0)), (1, .int v1)] [] := by
  unfold pX10_noSeed
  refine j_iload_n hC (pc := 0) dX10_noSeed_0 1 rfl rfl ?_
  refine j_if_lt hC (pc := 1) dX10_noSeed_1 (tgt := 11) rfl ?_ ?_
  · refine j_sub [] (loc' := []) rfl ?_
    exact wX10_noSeed_11 hC hR hm κ
  · refine j_iload_n hC (pc := 4) dX10_noSeed_4 1 rfl rfl ?_
    refine j_ldcw hC (pc := 5) dX10_noSeed_5 w_527 ?_
    refine j_icmp_le hC (pc := 8) dX10_noSeed_8 (tgt := 15) rfl ?_ ?_
    · refine j_iconst hC (pc := 15) dX10_noSeed_15 ki_0 ?_
      refine j_sub [] (loc' := []) rfl ?_
      exact wX10_noSeed_16 hC hR hm κ 0
    · refine j_sub [] (loc' := []) rfl ?_
      exact wX10_noSeed_11 hC hR hm κ
theorem ctX10_noSeed {Δ : DCtx} {l : Launch} (hl : dlay Δ = layX) (hN : dN Δ = 147) (κ : Mem) (v1 : Int32) : ∀ r, pX10_noSeed κ v1 = some r → CT Δ l yX10_noSeed cX10_noSeed 2 (some .boolean) (rmH 0) [.ref (dad Δ 0), .int v1] κ (some (.int r)) κ :=
  ct_of (nL := 2) (ret := (some .boolean)) (lay := layX) (N := 147) (by decide +kernel) (fun Δ => [.ref (dad Δ 0), .int v1]) (fun _ => oI κ) (fun _ => (Nat.le_of_ble_eq_true rfl)) (fun Γ hR hm hC => wX10_noSeed hC hR hm κ v1) Δ l hl hN
set_option maxRecDepth 20000 in
theorem wX10_search_28 {Γ : JCtx} (hC : jC Γ cX10_search 7 RX10 (some .int) layX 147) (hR : gR Γ = rmH 5) (hm : gcells Γ ≤ (gR Γ).cells ∧ gslots Γ ≤ (gR Γ).slots) (F : Nat) (κ : Mem) : JP Γ (qf Γ oE) (pX10_search_28 F κ) κ 28 [(0, .ref (gad Γ 0))] [] := by
  unfold pX10_search_28
  refine j_aload_n hC (pc := 28) dX10_search_28 0 rfl rfl ?_
  refine j_iconst hC (pc := 29) dX10_search_29 ki_1 ?_
  refine j_callV_E hC hR (ctX10_refuse hC.l hC.cn κ 1) kc_RX10_105 (Nat.le_of_ble_eq_true rfl) (Nat.le_of_ble_eq_true rfl) lX_0 (Nat.le_of_ble_eq_true rfl) rfl (As := [.int 1]) (rest := []) rfl rfl (Nat.le_of_ble_eq_true rfl) hm (pc := 30) dX10_search_30 (fun t2 => ?_)
  exact j_iret hC (pc := 33) dX10_search_33 rfl rfl rfl
set_option maxRecDepth 20000 in
theorem wX10_search_131 {Γ : JCtx} (hC : jC Γ cX10_search 7 RX10 (some .int) layX 147) (hR : gR Γ = rmH 5) (hm : gcells Γ ≤ (gR Γ).cells ∧ gslots Γ ≤ (gR Γ).slots) (F : Nat) (κ : Mem) (v1 : Int32) (v2 : Int32) (v3 : Int32) (v4 : Int32) (v5 : Int32) (v6 : Int32) (k72 : Mem → Int32 → Int32 → Int32 → Option (Int32 × Mem)) (hk72 : ∀ (κ : Mem) (v4 : Int32) (v5 : Int32) (v6 : Int32), JP Γ (qf Γ oE) (k72 κ v4 v5 v6) κ 72 [(0, .ref (gad Γ 0)), (1, .int v1), (2, .int v2), (3, .int v3), (4, .int v4), (5, .int v5), (6, .int v6)] []) : JP Γ (qf Γ oE) (pX10_search_131 F k72 κ v1 v2 v3 v4 v5 v6) κ 131 [(0, .ref (gad Γ 0)), (1, .int v1), (2, .int v2), (3, .int v3), (4, .int v4), (5, .int v5), (6, .int v6)] [] := by
  unfold pX10_search_131
  refine j_iinc hC (pc := 131) dX10_search_131 6 rfl ki_1 (Nat.le_of_ble_eq_true rfl) (loc' := [(6, .int (v6 + 1)), (0, .ref (gad Γ 0)), (1, .int v1), (2, .int v2), (3, .int v3), (4, .int v4), (5, .int v5)]) rfl ?_
  refine j_goto hC (pc := 134) dX10_search_134 (tgt := 72) rfl ?_
  refine j_sub [1, 2, 3, 4, 5, 6, 0] (loc' := [(0, .ref (gad Γ 0)), (1, .int v1), (2, .int v2), (3, .int v3), (4, .int v4), (5, .int v5), (6, .int (v6 + 1))]) rfl ?_
  exact hk72 κ v4 v5 (v6 + 1)
set_option maxRecDepth 20000 in
theorem wX10_search_167 {Γ : JCtx} (hC : jC Γ cX10_search 7 RX10 (some .int) layX 147) (hR : gR Γ = rmH 5) (hm : gcells Γ ≤ (gR Γ).cells ∧ gslots Γ ≤ (gR Γ).slots) (F : Nat) (κ : Mem) (y0 : Int32) : JP Γ (qf Γ oE) (pX10_search_167 F κ y0) κ 167 [] [.int y0, .ref (gad Γ 0)] := by
  unfold pX10_search_167
  refine j_callV_E hC hR (ctX10_give hC.l hC.cn κ y0) kc_RX10_132 (Nat.le_of_ble_eq_true rfl) (Nat.le_of_ble_eq_true rfl) lX_0 (Nat.le_of_ble_eq_true rfl) rfl (As := [.int y0]) (rest := []) rfl rfl (Nat.le_of_ble_eq_true rfl) hm (pc := 167) dX10_search_167 (fun t13 => ?_)
  exact j_iret hC (pc := 170) dX10_search_170 rfl rfl rfl
set_option maxRecDepth 20000 in
theorem wX10_search_72 {Γ : JCtx} (hC : jC Γ cX10_search 7 RX10 (some .int) layX 147) (hR : gR Γ = rmH 5) (hm : gcells Γ ≤ (gR Γ).cells ∧ gslots Γ ≤ (gR Γ).slots) (F : Nat) (v1 : Int32) (v2 : Int32) (v3 : Int32) : ∀ (n : Nat) (κ : Mem) (v4 : Int32) (v5 : Int32) (v6 : Int32), JP Γ (qf Γ oE) (pX10_search_72 F v1 v2 v3 n κ v4 v5 v6) κ 72 [(0, .ref (gad Γ 0)), (1, .int v1), (2, .int v2), (3, .int v3), (4, .int v4), (5, .int v5), (6, .int v6)] [] := by
  intro n
  induction n with
  | zero =>
    intro κ v4 v5 v6
    rw [pX10_search_72]
    exact j_none
  | succ fu ih =>
    intro κ v4 v5 v6
    rw [pX10_search_72]
    refine j_iload hC (pc := 72) dX10_search_72 6 rfl ?_
    refine j_iload_n hC (pc := 74) dX10_search_74 2 rfl rfl ?_
    refine j_icmp_ge hC (pc := 75) dX10_search_75 (tgt := 137) rfl ?_ ?_
    · refine j_aload_n hC (pc := 78) dX10_search_78 0 rfl rfl ?_
      refine j_getR hC (pc := 79) dX10_search_79 kf_RX10_10 lX_0 (Nat.le_of_ble_eq_true rfl) rfl ?_
      refine j_iload_n hC (pc := 82) dX10_search_82 1 rfl rfl ?_
      refine j_iload hC (pc := 83) dX10_search_83 6 rfl ?_
      refine j_iadd hC (pc := 85) dX10_search_85 ?_
      refine j_callV_V hC hR (ctX2_draw hC.l hC.cn 1 isG_1 F κ (v1 + v6)) kc_RX10_304 (Nat.le_of_ble_eq_true rfl) (Nat.le_of_ble_eq_true rfl) lX_1 (Nat.le_of_ble_eq_true rfl) rfl (As := [.int (v1 + v6)]) (rest := []) rfl rfl (Nat.le_of_ble_eq_true rfl) hm (pc := 86) dX10_search_86 (fun t5 => ?_)
      refine j_aload_n hC (pc := 89) dX10_search_89 0 rfl rfl ?_
      refine j_getR hC (pc := 90) dX10_search_90 kf_RX10_21 lX_0 (Nat.le_of_ble_eq_true rfl) rfl ?_
      refine j_callV_V hC hR (ctX1_judgeAll hC.l hC.cn F t5) kc_RX10_307 (Nat.le_of_ble_eq_true rfl) (Nat.le_of_ble_eq_true rfl) lX_41 (Nat.le_of_ble_eq_true rfl) rfl (As := []) (rest := []) rfl rfl (Nat.le_of_ble_eq_true rfl) hm (pc := 93) dX10_search_93 (fun t6 => ?_)
      refine j_aload_n hC (pc := 96) dX10_search_96 0 rfl rfl ?_
      refine j_getR hC (pc := 97) dX10_search_97 kf_RX10_21 lX_0 (Nat.le_of_ble_eq_true rfl) rfl ?_
      refine j_callV_E hC hR (ctX1_improve hC.l hC.cn F t6) kc_RX10_310 (Nat.le_of_ble_eq_true rfl) (Nat.le_of_ble_eq_true rfl) lX_41 (Nat.le_of_ble_eq_true rfl) rfl (As := []) (rest := []) rfl rfl (Nat.le_of_ble_eq_true rfl) hm (pc := 100) dX10_search_100 (fun t7 => ?_)
      refine j_pop hC (pc := 103) dX10_search_103 rfl ?_
      refine j_aload_n hC (pc := 104) dX10_search_104 0 rfl rfl ?_
      refine j_getR hC (pc := 105) dX10_search_105 kf_RX10_21 lX_0 (Nat.le_of_ble_eq_true rfl) rfl ?_
      refine j_callV_I hC hR (ctX1_lostInAll hC.l hC.cn t7.2) kc_RX10_206 (Nat.le_of_ble_eq_true rfl) (Nat.le_of_ble_eq_true rfl) lX_41 (Nat.le_of_ble_eq_true rfl) rfl (As := []) (rest := []) rfl rfl (Nat.le_of_ble_eq_true rfl) hm (pc := 108) dX10_search_108 (fun t8 => ?_)
      refine j_iload hC (pc := 111) dX10_search_111 4 rfl ?_
      refine j_icmp_ge hC (pc := 113) dX10_search_113 (tgt := 131) rfl ?_ ?_
      · refine j_aload_n hC (pc := 116) dX10_search_116 0 rfl rfl ?_
        refine j_getR hC (pc := 117) dX10_search_117 kf_RX10_21 lX_0 (Nat.le_of_ble_eq_true rfl) rfl ?_
        refine j_callV_I hC hR (ctX1_lostInAll hC.l hC.cn t7.2) kc_RX10_206 (Nat.le_of_ble_eq_true rfl) (Nat.le_of_ble_eq_true rfl) lX_41 (Nat.le_of_ble_eq_true rfl) rfl (As := []) (rest := []) rfl rfl (Nat.le_of_ble_eq_true rfl) hm (pc := 120) dX10_search_120 (fun t9 => ?_)
        refine j_istore hC (pc := 123) dX10_search_123 (Nat.le_of_ble_eq_true rfl) (loc' := [(4, .int t9), (0, .ref (gad Γ 0)), (1, .int v1), (2, .int v2), (3, .int v3), (5, .int v5), (6, .int v6)]) rfl ?_
        refine j_iload_n hC (pc := 125) dX10_search_125 2 rfl rfl ?_
        refine j_iload hC (pc := 126) dX10_search_126 6 rfl ?_
        refine j_iadd hC (pc := 128) dX10_search_128 ?_
        refine j_nmi (fun x10 => ?_)
        refine j_istore hC (pc := 129) dX10_search_129 (Nat.le_of_ble_eq_true rfl) (loc' := [(5, .int x10), (4, .int t9), (0, .ref (gad Γ 0)), (1, .int v1), (2, .int v2), (3, .int v3), (6, .int v6)]) rfl ?_
        refine j_sub [2, 3, 4, 5, 1, 0, 6] (loc' := [(0, .ref (gad Γ 0)), (1, .int v1), (2, .int v2), (3, .int v3), (4, .int t9), (5, .int x10), (6, .int v6)]) rfl ?_
        exact wX10_search_131 hC hR hm F t7.2 v1 v2 v3 t9 x10 v6 (pX10_search_72 F v1 v2 v3 fu) ih
      · exact wX10_search_131 hC hR hm F t7.2 v1 v2 v3 v4 v5 v6 (pX10_search_72 F v1 v2 v3 fu) ih
    · refine j_aload_n hC (pc := 137) dX10_search_137 0 rfl rfl ?_
      refine j_getR hC (pc := 138) dX10_search_138 kf_RX10_10 lX_0 (Nat.le_of_ble_eq_true rfl) rfl ?_
      refine j_aload_n hC (pc := 141) dX10_search_141 0 rfl rfl ?_
      refine j_getR hC (pc := 142) dX10_search_142 kf_RX10_82 lX_0 (Nat.le_of_ble_eq_true rfl) rfl ?_
      refine j_callV_V hC hR (ctX2_copy hC.l hC.cn 1 isG_1 5 isG_5 κ) kc_RX10_120 (Nat.le_of_ble_eq_true rfl) (Nat.le_of_ble_eq_true rfl) lX_1 (Nat.le_of_ble_eq_true rfl) rfl (As := [.ref (gad Γ 5)]) (rest := []) rfl rfl (Nat.le_of_ble_eq_true rfl) hm (pc := 145) dX10_search_145 (fun t11 => ?_)
      refine j_aload_n hC (pc := 148) dX10_search_148 0 rfl rfl ?_
      refine j_getR hC (pc := 149) dX10_search_149 kf_RX10_21 lX_0 (Nat.le_of_ble_eq_true rfl) rfl ?_
      refine j_callV_V hC hR (ctX1_judgeAll hC.l hC.cn F t11) kc_RX10_307 (Nat.le_of_ble_eq_true rfl) (Nat.le_of_ble_eq_true rfl) lX_41 (Nat.le_of_ble_eq_true rfl) rfl (As := []) (rest := []) rfl rfl (Nat.le_of_ble_eq_true rfl) hm (pc := 152) dX10_search_152 (fun t12 => ?_)
      refine j_aload_n hC (pc := 155) dX10_search_155 0 rfl rfl ?_
      refine j_iload_n hC (pc := 156) dX10_search_156 3 rfl rfl ?_
      refine j_if_ne hC (pc := 157) dX10_search_157 (tgt := 165) rfl ?_ ?_
      · refine j_iload hC (pc := 160) dX10_search_160 4 rfl ?_
        refine j_goto hC (pc := 162) dX10_search_162 (tgt := 167) rfl ?_
        refine j_sub [] (loc' := []) rfl ?_
        exact wX10_search_167 hC hR hm F t12 v4
      · refine j_iload hC (pc := 165) dX10_search_165 5 rfl ?_
        refine j_sub [] (loc' := []) rfl ?_
        exact wX10_search_167 hC hR hm F t12 v5
set_option maxRecDepth 20000 in
theorem wX10_search {Γ : JCtx} (hC : jC Γ cX10_search 7 RX10 (some .int) layX 147) (hR : gR Γ = rmH 5) (hm : gcells Γ ≤ (gR Γ).cells ∧ gslots Γ ≤ (gR Γ).slots) (F : Nat) (κ : Mem) (v1 : Int32) (v2 : Int32) (v3 : Int32) : JP Γ (qf Γ oE) (pX10_search F κ v1 v2 v3) κ 0 [(0, .ref (gad Γ 0)), (1, .int v1), (2, .int v2), (3, .int v3)] [] := by
  unfold pX10_search
  refine j_aload_n hC (pc := 0) dX10_search_0 0 rfl rfl ?_
  refine j_iload_n hC (pc := 1) dX10_search_1 1 rfl rfl ?_
  refine j_callV_I hC hR (ctX10_noSeed hC.l hC.cn κ v1) kc_RX10_301 (Nat.le_of_ble_eq_true rfl) (Nat.le_of_ble_eq_true rfl) lX_0 (Nat.le_of_ble_eq_true rfl) rfl (As := [.int v1]) (rest := []) rfl rfl (Nat.le_of_ble_eq_true rfl) hm (pc := 2) dX10_search_2 (fun t1 => ?_)
  refine j_if_ne hC (pc := 5) dX10_search_5 (tgt := 28) rfl ?_ ?_
  · refine j_iload_n hC (pc := 8) dX10_search_8 2 rfl rfl ?_
    refine j_iconst hC (pc := 9) dX10_search_9 ki_1 ?_
    refine j_icmp_lt hC (pc := 10) dX10_search_10 (tgt := 28) rfl ?_ ?_
    · refine j_sub [0] (loc' := [(0, .ref (gad Γ 0))]) rfl ?_
      exact wX10_search_28 hC hR hm F κ
    · refine j_iload_n hC (pc := 13) dX10_search_13 2 rfl rfl ?_
      refine j_bipush hC (pc := 14) dX10_search_14 kb_10 ?_
      refine j_icmp_gt hC (pc := 16) dX10_search_16 (tgt := 28) rfl ?_ ?_
      · refine j_iload_n hC (pc := 19) dX10_search_19 3 rfl rfl ?_
        refine j_if_lt hC (pc := 20) dX10_search_20 (tgt := 28) rfl ?_ ?_
        · refine j_sub [0] (loc' := [(0, .ref (gad Γ 0))]) rfl ?_
          exact wX10_search_28 hC hR hm F κ
        · refine j_iload_n hC (pc := 23) dX10_search_23 3 rfl rfl ?_
          refine j_iconst hC (pc := 24) dX10_search_24 ki_1 ?_
          refine j_icmp_le hC (pc := 25) dX10_search_25 (tgt := 34) rfl ?_ ?_
          · refine j_aload_n hC (pc := 34) dX10_search_34 0 rfl rfl ?_
            refine j_getR hC (pc := 35) dX10_search_35 kf_RX10_10 lX_0 (Nat.le_of_ble_eq_true rfl) rfl ?_
            refine j_getI hC (pc := 38) dX10_search_38 kf_RX10_129 lX_1 (Nat.le_of_ble_eq_true rfl) rfl ?_
            refine j_if_ne hC (pc := 41) dX10_search_41 (tgt := 50) rfl ?_ ?_
            · refine j_aload_n hC (pc := 44) dX10_search_44 0 rfl rfl ?_
              refine j_iconst hC (pc := 45) dX10_search_45 ki_5 ?_
              refine j_callV_E hC hR (ctX10_refuse hC.l hC.cn κ 5) kc_RX10_105 (Nat.le_of_ble_eq_true rfl) (Nat.le_of_ble_eq_true rfl) lX_0 (Nat.le_of_ble_eq_true rfl) rfl (As := [.int 5]) (rest := []) rfl rfl (Nat.le_of_ble_eq_true rfl) hm (pc := 46) dX10_search_46 (fun t3 => ?_)
              exact j_iret hC (pc := 49) dX10_search_49 rfl rfl rfl
            · refine j_aload_n hC (pc := 50) dX10_search_50 0 rfl rfl ?_
              refine j_getR hC (pc := 51) dX10_search_51 kf_RX10_82 lX_0 (Nat.le_of_ble_eq_true rfl) rfl ?_
              refine j_aload_n hC (pc := 54) dX10_search_54 0 rfl rfl ?_
              refine j_getR hC (pc := 55) dX10_search_55 kf_RX10_10 lX_0 (Nat.le_of_ble_eq_true rfl) rfl ?_
              refine j_callV_V hC hR (ctX2_copy hC.l hC.cn 5 isG_5 1 isG_1 κ) kc_RX10_120 (Nat.le_of_ble_eq_true rfl) (Nat.le_of_ble_eq_true rfl) lX_5 (Nat.le_of_ble_eq_true rfl) rfl (As := [.ref (gad Γ 1)]) (rest := []) rfl rfl (Nat.le_of_ble_eq_true rfl) hm (pc := 58) dX10_search_58 (fun t4 => ?_)
              refine j_sipush hC (pc := 61) dX10_search_61 ks_4097 ?_
              refine j_istore hC (pc := 64) dX10_search_64 (Nat.le_of_ble_eq_true rfl) (loc' := [(4, .int 4097), (0, .ref (gad Γ 0)), (1, .int v1), (2, .int v2), (3, .int v3)]) rfl ?_
              refine j_iload_n hC (pc := 66) dX10_search_66 2 rfl rfl ?_
              refine j_istore hC (pc := 67) dX10_search_67 (Nat.le_of_ble_eq_true rfl) (loc' := [(5, .int v1), (4, .int 4097), (0, .ref (gad Γ 0)), (1, .int v1), (2, .int v2), (3, .int v3)]) rfl ?_
              refine j_iconst hC (pc := 69) dX10_search_69 ki_0 ?_
              refine j_istore hC (pc := 70) dX10_search_70 (Nat.le_of_ble_eq_true rfl) (loc' := [(6, .int 0), (5, .int v1), (4, .int 4097), (0, .ref (gad Γ 0)), (1, .int v1), (2, .int v2), (3, .int v3)]) rfl ?_
              refine j_sub [3, 4, 5, 6, 2, 1, 0] (loc' := [(0, .ref (gad Γ 0)), (1, .int v1), (2, .int v2), (3, .int v3), (4, .int 4097), (5, .int v1), (6, .int 0)]) rfl ?_
              exact wX10_search_72 hC hR hm F v1 v2 v3 F t4 4097 v1 0
          · refine j_sub [0] (loc' := [(0, .ref (gad Γ 0))]) rfl ?_
            exact wX10_search_28 hC hR hm F κ
      · refine j_sub [0] (loc' := [(0, .ref (gad Γ 0))]) rfl ?_
        exact wX10_search_28 hC hR hm F κ
  · refine j_sub [0] (loc' := [(0, .ref (gad Γ 0))]) rfl ?_
    exact wX10_search_28 hC hR hm F κ
theorem ctX10_search {Δ : DCtx} {l : Launch} (hl : dlay Δ = layX) (hN : dN Δ = 147) (F : Nat) (κ : Mem) (v1 : Int32) (v2 : Int32) (v3 : Int32) : ∀ r, pX10_search F κ v1 v2 v3 = some r → CT Δ l yX10_search cX10_search 7 (some .int) (rmH 5) [.ref (dad Δ 0), .int v1, .int v2, .int v3] κ (some (.int r.1)) r.2 :=
  ct_of (nL := 7) (ret := (some .int)) (lay := layX) (N := 147) (by decide +kernel) (fun Δ => [.ref (dad Δ 0), .int v1, .int v2, .int v3]) (fun _ => oE) (fun _ => (Nat.le_of_ble_eq_true rfl)) (fun Γ hR hm hC => wX10_search hC hR hm F κ v1 v2 v3) Δ l hl hN
set_option maxRecDepth 20000 in
theorem wX10_renumber_9 {Γ : JCtx} (hC : jC Γ cX10_renumber 2 RX10 (some .int) layX 147) (hR : gR Γ = rmH 6) (hm : gcells Γ ≤ (gR Γ).cells ∧ gslots Γ ≤ (gR Γ).slots) (F : Nat) (κ : Mem) : JP Γ (qf Γ oE) (pX10_renumber_9 F κ) κ 9 [(0, .ref (gad Γ 0))] [] := by
  unfold pX10_renumber_9
  refine j_aload_n hC (pc := 9) dX10_renumber_9 0 rfl rfl ?_
  refine j_iconst hC (pc := 10) dX10_renumber_10 ki_1 ?_
  refine j_callV_E hC hR (ctX10_refuse hC.l hC.cn κ 1) kc_RX10_105 (Nat.le_of_ble_eq_true rfl) (Nat.le_of_ble_eq_true rfl) lX_0 (Nat.le_of_ble_eq_true rfl) rfl (As := [.int 1]) (rest := []) rfl rfl (Nat.le_of_ble_eq_true rfl) hm (pc := 11) dX10_renumber_11 (fun t1 => ?_)
  exact j_iret hC (pc := 14) dX10_renumber_14 rfl rfl rfl
set_option maxRecDepth 20000 in
theorem wX10_renumber_30 {Γ : JCtx} (hC : jC Γ cX10_renumber 2 RX10 (some .int) layX 147) (hR : gR Γ = rmH 6) (hm : gcells Γ ≤ (gR Γ).cells ∧ gslots Γ ≤ (gR Γ).slots) (F : Nat) (κ : Mem) (y0 : Int32) : JP Γ (qf Γ oE) (pX10_renumber_30 F κ y0) κ 30 [] [.int y0, .ref (gad Γ 55), .ref (gad Γ 0)] := by
  unfold pX10_renumber_30
  refine j_callV_E hC hR (ctX7_howMany hC.l hC.cn F κ y0) kc_RX10_313 (Nat.le_of_ble_eq_true rfl) (Nat.le_of_ble_eq_true rfl) lX_55 (Nat.le_of_ble_eq_true rfl) rfl (As := [.int y0]) (rest := [.ref (gad Γ 0)]) rfl rfl (Nat.le_of_ble_eq_true rfl) hm (pc := 30) dX10_renumber_30 (fun t2 => ?_)
  refine j_callV_E hC hR (ctX10_give hC.l hC.cn t2.2 t2.1) kc_RX10_132 (Nat.le_of_ble_eq_true rfl) (Nat.le_of_ble_eq_true rfl) lX_0 (Nat.le_of_ble_eq_true rfl) rfl (As := [.int (t2.1)]) (rest := []) rfl rfl (Nat.le_of_ble_eq_true rfl) hm (pc := 33) dX10_renumber_33 (fun t3 => ?_)
  exact j_iret hC (pc := 36) dX10_renumber_36 rfl rfl rfl
set_option maxRecDepth 20000 in
theorem wX10_renumber {Γ : JCtx} (hC : jC Γ cX10_renumber 2 RX10 (some .int) layX 147) (hR : gR Γ = rmH 6) (hm : gcells Γ ≤ (gR Γ).cells ∧ gslots Γ ≤ (gR Γ).slots) (F : Nat) (κ : Mem) (v1 : Int32) : JP Γ (qf Γ oE) (pX10_renumber F κ v1) κ 0 [(0, .ref (gad Γ 0)), (1, .int v1)] [] := by
  unfold pX10_renumber
  refine j_iload_n hC (pc := 0) dX10_renumber_0 1 rfl rfl ?_
  refine j_if_lt hC (pc := 1) dX10_renumber_1 (tgt := 9) rfl ?_ ?_
  · refine j_sub [0] (loc' := [(0, .ref (gad Γ 0))]) rfl ?_
    exact wX10_renumber_9 hC hR hm F κ
  · refine j_iload_n hC (pc := 4) dX10_renumber_4 1 rfl rfl ?_
    refine j_iconst hC (pc := 5) dX10_renumber_5 ki_1 ?_
    refine j_icmp_le hC (pc := 6) dX10_renumber_6 (tgt := 15) rfl ?_ ?_
    · refine j_aload_n hC (pc := 15) dX10_renumber_15 0 rfl rfl ?_
      refine j_aload_n hC (pc := 16) dX10_renumber_16 0 rfl rfl ?_
      refine j_getR hC (pc := 17) dX10_renumber_17 kf_RX10_35 lX_0 (Nat.le_of_ble_eq_true rfl) rfl ?_
      refine j_iload_n hC (pc := 20) dX10_renumber_20 1 rfl rfl ?_
      refine j_iconst hC (pc := 21) dX10_renumber_21 ki_1 ?_
      refine j_icmp_ne hC (pc := 22) dX10_renumber_22 (tgt := 29) rfl ?_ ?_
      · refine j_iconst hC (pc := 25) dX10_renumber_25 ki_1 ?_
        refine j_goto hC (pc := 26) dX10_renumber_26 (tgt := 30) rfl ?_
        refine j_sub [] (loc' := []) rfl ?_
        exact wX10_renumber_30 hC hR hm F κ 1
      · refine j_iconst hC (pc := 29) dX10_renumber_29 ki_0 ?_
        refine j_sub [] (loc' := []) rfl ?_
        exact wX10_renumber_30 hC hR hm F κ 0
    · refine j_sub [0] (loc' := [(0, .ref (gad Γ 0))]) rfl ?_
      exact wX10_renumber_9 hC hR hm F κ
theorem ctX10_renumber {Δ : DCtx} {l : Launch} (hl : dlay Δ = layX) (hN : dN Δ = 147) (F : Nat) (κ : Mem) (v1 : Int32) : ∀ r, pX10_renumber F κ v1 = some r → CT Δ l yX10_renumber cX10_renumber 2 (some .int) (rmH 6) [.ref (dad Δ 0), .int v1] κ (some (.int r.1)) r.2 :=
  ct_of (nL := 2) (ret := (some .int)) (lay := layX) (N := 147) (by decide +kernel) (fun Δ => [.ref (dad Δ 0), .int v1]) (fun _ => oE) (fun _ => (Nat.le_of_ble_eq_true rfl)) (fun Γ hR hm hC => wX10_renumber hC hR hm F κ v1) Δ l hl hN
set_option maxRecDepth 20000 in
theorem wX10_alike_35 {Γ : JCtx} (hC : jC Γ cX10_alike 4 RX10 (some .int) layX 147) (hR : gR Γ = rmH 5) (hm : gcells Γ ≤ (gR Γ).cells ∧ gslots Γ ≤ (gR Γ).slots) (F : Nat) (κ : Mem) (y0 : Int32) : JP Γ (qf Γ oE) (pX10_alike_35 F κ y0) κ 35 [] [.int y0, .ref (gad Γ 0)] := by
  unfold pX10_alike_35
  refine j_callV_E hC hR (ctX10_give hC.l hC.cn κ y0) kc_RX10_132 (Nat.le_of_ble_eq_true rfl) (Nat.le_of_ble_eq_true rfl) lX_0 (Nat.le_of_ble_eq_true rfl) rfl (As := [.int y0]) (rest := []) rfl rfl (Nat.le_of_ble_eq_true rfl) hm (pc := 35) dX10_alike_35 (fun t3 => ?_)
  exact j_iret hC (pc := 38) dX10_alike_38 rfl rfl rfl
set_option maxRecDepth 20000 in
theorem wX10_alike {Γ : JCtx} (hC : jC Γ cX10_alike 4 RX10 (some .int) layX 147) (hR : gR Γ = rmH 5) (hm : gcells Γ ≤ (gR Γ).cells ∧ gslots Γ ≤ (gR Γ).slots) (F : Nat) (κ : Mem) (v1 : Int32) (v2 : Int32) : JP Γ (qf Γ oE) (pX10_alike F κ v1 v2) κ 0 [(0, .ref (gad Γ 0)), (1, .int v1), (2, .int v2)] [] := by
  unfold pX10_alike
  refine j_aload_n hC (pc := 0) dX10_alike_0 0 rfl rfl ?_
  refine j_iload_n hC (pc := 1) dX10_alike_1 1 rfl rfl ?_
  refine j_iload_n hC (pc := 2) dX10_alike_2 2 rfl rfl ?_
  refine j_callV_I hC hR (ctX10_pairTrouble hC.l hC.cn κ v1 v2) kc_RX10_221 (Nat.le_of_ble_eq_true rfl) (Nat.le_of_ble_eq_true rfl) lX_0 (Nat.le_of_ble_eq_true rfl) rfl (As := [.int v1, .int v2]) (rest := []) rfl rfl (Nat.le_of_ble_eq_true rfl) hm (pc := 3) dX10_alike_3 (fun t1 => ?_)
  refine j_istore_n hC (pc := 6) dX10_alike_6 rfl (Nat.le_of_ble_eq_true rfl) (loc' := [(3, .int t1), (0, .ref (gad Γ 0)), (1, .int v1), (2, .int v2)]) rfl ?_
  refine j_iload_n hC (pc := 7) dX10_alike_7 0 rfl rfl ?_
  refine j_if_eq hC (pc := 8) dX10_alike_8 (tgt := 17) rfl ?_ ?_
  · refine j_aload_n hC (pc := 17) dX10_alike_17 1 rfl rfl ?_
    refine j_aload_n hC (pc := 18) dX10_alike_18 1 rfl rfl ?_
    refine j_getR hC (pc := 19) dX10_alike_19 kf_RX10_35 lX_0 (Nat.le_of_ble_eq_true rfl) rfl ?_
    refine j_iload_n hC (pc := 22) dX10_alike_22 2 rfl rfl ?_
    refine j_iload_n hC (pc := 23) dX10_alike_23 3 rfl rfl ?_
    refine j_callV_E hC hR (ctX7_swapKeeps hC.l hC.cn F κ v1 v2) kc_RX10_317 (Nat.le_of_ble_eq_true rfl) (Nat.le_of_ble_eq_true rfl) lX_55 (Nat.le_of_ble_eq_true rfl) rfl (As := [.int v1, .int v2]) (rest := [.ref (gad Γ 0)]) rfl rfl (Nat.le_of_ble_eq_true rfl) hm (pc := 24) dX10_alike_24 (fun t2 => ?_)
    refine j_if_eq hC (pc := 27) dX10_alike_27 (tgt := 34) rfl ?_ ?_
    · refine j_iconst hC (pc := 34) dX10_alike_34 ki_0 ?_
      refine j_sub [] (loc' := []) rfl ?_
      exact wX10_alike_35 hC hR hm F t2.2 0
    · refine j_iconst hC (pc := 30) dX10_alike_30 ki_1 ?_
      refine j_goto hC (pc := 31) dX10_alike_31 (tgt := 35) rfl ?_
      refine j_sub [] (loc' := []) rfl ?_
      exact wX10_alike_35 hC hR hm F t2.2 1
  · refine j_aload_n hC (pc := 11) dX10_alike_11 1 rfl rfl ?_
    refine j_iload_n hC (pc := 12) dX10_alike_12 0 rfl rfl ?_
    refine j_callV_E hC hR (ctX10_refuse hC.l hC.cn κ t1) kc_RX10_105 (Nat.le_of_ble_eq_true rfl) (Nat.le_of_ble_eq_true rfl) lX_0 (Nat.le_of_ble_eq_true rfl) rfl (As := [.int t1]) (rest := []) rfl rfl (Nat.le_of_ble_eq_true rfl) hm (pc := 13) dX10_alike_13 (fun t4 => ?_)
    exact j_iret hC (pc := 16) dX10_alike_16 rfl rfl rfl
theorem ctX10_alike {Δ : DCtx} {l : Launch} (hl : dlay Δ = layX) (hN : dN Δ = 147) (F : Nat) (κ : Mem) (v1 : Int32) (v2 : Int32) : ∀ r, pX10_alike F κ v1 v2 = some r → CT Δ l yX10_alike cX10_alike 4 (some .int) (rmH 5) [.ref (dad Δ 0), .int v1, .int v2] κ (some (.int r.1)) r.2 :=
  ct_of (nL := 4) (ret := (some .int)) (lay := layX) (N := 147) (by decide +kernel) (fun Δ => [.ref (dad Δ 0), .int v1, .int v2]) (fun _ => oE) (fun _ => (Nat.le_of_ble_eq_true rfl)) (fun Γ hR hm hC => wX10_alike hC hR hm F κ v1 v2) Δ l hl hN
set_option maxRecDepth 20000 in
theorem wX10_far_50 {Γ : JCtx} (hC : jC Γ cX10_far 4 RX10 (some .int) layX 147) (hR : gR Γ = rmH 1) (hm : gcells Γ ≤ (gR Γ).cells ∧ gslots Γ ≤ (gR Γ).slots) (F : Nat) (κ : Mem) (y0 : Int32) : JP Γ (qf Γ oE) (pX10_far_50 F κ y0) κ 50 [] [.int y0] := by
  unfold pX10_far_50
  exact j_iret hC (pc := 50) dX10_far_50 rfl rfl rfl
set_option maxRecDepth 20000 in
theorem wX10_far_16 {Γ : JCtx} (hC : jC Γ cX10_far 4 RX10 (some .int) layX 147) (hR : gR Γ = rmH 1) (hm : gcells Γ ≤ (gR Γ).cells ∧ gslots Γ ≤ (gR Γ).slots) (F : Nat) (κ : Mem) : JP Γ (qf Γ oE) (pX10_far_16 F κ) κ 16 [(0, .ref (gad Γ 0))] [] := by
  unfold pX10_far_16
  refine j_aload_n hC (pc := 16) dX10_far_16 0 rfl rfl ?_
  refine j_iconst hC (pc := 17) dX10_far_17 ki_2 ?_
  refine j_callV_E hC hR (ctX10_refuse hC.l hC.cn κ 2) kc_RX10_105 (Nat.le_of_ble_eq_true rfl) (Nat.le_of_ble_eq_true rfl) lX_0 (Nat.le_of_ble_eq_true rfl) rfl (As := [.int 2]) (rest := []) rfl rfl (Nat.le_of_ble_eq_true rfl) hm (pc := 18) dX10_far_18 (fun t6 => ?_)
  exact j_iret hC (pc := 21) dX10_far_21 rfl rfl rfl
set_option maxRecDepth 20000 in
theorem wX10_far {Γ : JCtx} (hC : jC Γ cX10_far 4 RX10 (some .int) layX 147) (hR : gR Γ = rmH 1) (hm : gcells Γ ≤ (gR Γ).cells ∧ gslots Γ ≤ (gR Γ).slots) (F : Nat) (κ : Mem) (v1 : Int32) (v2 : Int32) : JP Γ (qf Γ oE) (pX10_far F κ v1 v2) κ 0 [(0, .ref (gad Γ 0)), (1, .int v1), (2, .int v2)] [] := by
  unfold pX10_far
  refine j_aload_n hC (pc := 0) dX10_far_0 0 rfl rfl ?_
  refine j_iload_n hC (pc := 1) dX10_far_1 1 rfl rfl ?_
  refine j_callV_I hC hR (ctX10_noPlayer hC.l hC.cn κ v1) kc_RX10_152 (Nat.le_of_ble_eq_true rfl) (Nat.le_of_ble_eq_true rfl) lX_0 (Nat.le_of_ble_eq_true rfl) rfl (As := [.int v1]) (rest := []) rfl rfl (Nat.le_of_ble_eq_true rfl) hm (pc := 2) dX10_far_2 (fun t1 => ?_)
  refine j_if_ne hC (pc := 5) dX10_far_5 (tgt := 16) rfl ?_ ?_
  · refine j_aload_n hC (pc := 8) dX10_far_8 0 rfl rfl ?_
    refine j_iload_n hC (pc := 9) dX10_far_9 2 rfl rfl ?_
    refine j_callV_I hC hR (ctX10_noPlayer hC.l hC.cn κ v2) kc_RX10_152 (Nat.le_of_ble_eq_true rfl) (Nat.le_of_ble_eq_true rfl) lX_0 (Nat.le_of_ble_eq_true rfl) rfl (As := [.int v2]) (rest := []) rfl rfl (Nat.le_of_ble_eq_true rfl) hm (pc := 10) dX10_far_10 (fun t2 => ?_)
    refine j_if_eq hC (pc := 13) dX10_far_13 (tgt := 22) rfl ?_ ?_
    · refine j_aload_n hC (pc := 22) dX10_far_22 0 rfl rfl ?_
      refine j_getR hC (pc := 23) dX10_far_23 kf_RX10_28 lX_0 (Nat.le_of_ble_eq_true rfl) rfl ?_
      refine j_iload_n hC (pc := 26) dX10_far_26 1 rfl rfl ?_
      refine j_iload_n hC (pc := 27) dX10_far_27 2 rfl rfl ?_
      refine j_callV_I hC hR (ctX4_stepsTo hC.l hC.cn F κ v1 v2) kc_RX10_320 (Nat.le_of_ble_eq_true rfl) (Nat.le_of_ble_eq_true rfl) lX_54 (Nat.le_of_ble_eq_true rfl) rfl (As := [.int v1, .int v2]) (rest := []) rfl rfl (Nat.le_of_ble_eq_true rfl) hm (pc := 28) dX10_far_28 (fun t3 => ?_)
      refine j_istore_n hC (pc := 31) dX10_far_31 rfl (Nat.le_of_ble_eq_true rfl) (loc' := [(3, .int t3), (0, .ref (gad Γ 0)), (1, .int v1), (2, .int v2)]) rfl ?_
      refine j_iload_n hC (pc := 32) dX10_far_32 0 rfl rfl ?_
      refine j_iconst hC (pc := 33) dX10_far_33 ki_m1 ?_
      refine j_icmp_ne hC (pc := 34) dX10_far_34 (tgt := 45) rfl ?_ ?_
      · refine j_aload_n hC (pc := 37) dX10_far_37 1 rfl rfl ?_
        refine j_iconst hC (pc := 38) dX10_far_38 ki_5 ?_
        refine j_callV_E hC hR (ctX10_refuse hC.l hC.cn κ 5) kc_RX10_105 (Nat.le_of_ble_eq_true rfl) (Nat.le_of_ble_eq_true rfl) lX_0 (Nat.le_of_ble_eq_true rfl) rfl (As := [.int 5]) (rest := []) rfl rfl (Nat.le_of_ble_eq_true rfl) hm (pc := 39) dX10_far_39 (fun t4 => ?_)
        refine j_goto hC (pc := 42) dX10_far_42 (tgt := 50) rfl ?_
        refine j_sub [] (loc' := []) rfl ?_
        exact wX10_far_50 hC hR hm F t4.2 t4.1
      · refine j_aload_n hC (pc := 45) dX10_far_45 1 rfl rfl ?_
        refine j_iload_n hC (pc := 46) dX10_far_46 0 rfl rfl ?_
        refine j_callV_E hC hR (ctX10_give hC.l hC.cn κ t3) kc_RX10_132 (Nat.le_of_ble_eq_true rfl) (Nat.le_of_ble_eq_true rfl) lX_0 (Nat.le_of_ble_eq_true rfl) rfl (As := [.int t3]) (rest := []) rfl rfl (Nat.le_of_ble_eq_true rfl) hm (pc := 47) dX10_far_47 (fun t5 => ?_)
        refine j_sub [] (loc' := []) rfl ?_
        exact wX10_far_50 hC hR hm F t5.2 t5.1
    · refine j_sub [0] (loc' := [(0, .ref (gad Γ 0))]) rfl ?_
      exact wX10_far_16 hC hR hm F κ
  · refine j_sub [0] (loc' := [(0, .ref (gad Γ 0))]) rfl ?_
    exact wX10_far_16 hC hR hm F κ
theorem ctX10_far {Δ : DCtx} {l : Launch} (hl : dlay Δ = layX) (hN : dN Δ = 147) (F : Nat) (κ : Mem) (v1 : Int32) (v2 : Int32) : ∀ r, pX10_far F κ v1 v2 = some r → CT Δ l yX10_far cX10_far 4 (some .int) (rmH 1) [.ref (dad Δ 0), .int v1, .int v2] κ (some (.int r.1)) r.2 :=
  ct_of (nL := 4) (ret := (some .int)) (lay := layX) (N := 147) (by decide +kernel) (fun Δ => [.ref (dad Δ 0), .int v1, .int v2]) (fun _ => oE) (fun _ => (Nat.le_of_ble_eq_true rfl)) (fun Γ hR hm hC => wX10_far hC hR hm F κ v1 v2) Δ l hl hN
set_option maxRecDepth 20000 in
theorem wX10_shape_29 {Γ : JCtx} (hC : jC Γ cX10_shape 1 RX10 (some .int) layX 147) (hR : gR Γ = rmH 6) (hm : gcells Γ ≤ (gR Γ).cells ∧ gslots Γ ≤ (gR Γ).slots) (F : Nat) (κ : Mem) (y0 : Int32) : JP Γ (qf Γ oE) (pX10_shape_29 F κ y0) κ 29 [] [.int y0] := by
  unfold pX10_shape_29
  exact j_iret hC (pc := 29) dX10_shape_29 rfl rfl rfl
set_option maxRecDepth 20000 in
theorem wX10_shape {Γ : JCtx} (hC : jC Γ cX10_shape 1 RX10 (some .int) layX 147) (hR : gR Γ = rmH 6) (hm : gcells Γ ≤ (gR Γ).cells ∧ gslots Γ ≤ (gR Γ).slots) (F : Nat) (κ : Mem) : JP Γ (qf Γ oE) (pX10_shape F κ) κ 0 [(0, .ref (gad Γ 0))] [] := by
  unfold pX10_shape
  refine j_aload_n hC (pc := 0) dX10_shape_0 0 rfl rfl ?_
  refine j_getR hC (pc := 1) dX10_shape_1 kf_RX10_10 lX_0 (Nat.le_of_ble_eq_true rfl) rfl ?_
  refine j_getI hC (pc := 4) dX10_shape_4 kf_RX10_129 lX_1 (Nat.le_of_ble_eq_true rfl) rfl ?_
  refine j_if_ne hC (pc := 7) dX10_shape_7 (tgt := 18) rfl ?_ ?_
  · refine j_aload_n hC (pc := 10) dX10_shape_10 0 rfl rfl ?_
    refine j_iconst hC (pc := 11) dX10_shape_11 ki_5 ?_
    refine j_callV_E hC hR (ctX10_refuse hC.l hC.cn κ 5) kc_RX10_105 (Nat.le_of_ble_eq_true rfl) (Nat.le_of_ble_eq_true rfl) lX_0 (Nat.le_of_ble_eq_true rfl) rfl (As := [.int 5]) (rest := []) rfl rfl (Nat.le_of_ble_eq_true rfl) hm (pc := 12) dX10_shape_12 (fun t1 => ?_)
    refine j_goto hC (pc := 15) dX10_shape_15 (tgt := 29) rfl ?_
    refine j_sub [] (loc' := []) rfl ?_
    exact wX10_shape_29 hC hR hm F t1.2 t1.1
  · refine j_aload_n hC (pc := 18) dX10_shape_18 0 rfl rfl ?_
    refine j_aload_n hC (pc := 19) dX10_shape_19 0 rfl rfl ?_
    refine j_getR hC (pc := 20) dX10_shape_20 kf_RX10_28 lX_0 (Nat.le_of_ble_eq_true rfl) rfl ?_
    refine j_callV_I hC hR (ctX4_kind hC.l hC.cn F κ) kc_RX10_323 (Nat.le_of_ble_eq_true rfl) (Nat.le_of_ble_eq_true rfl) lX_54 (Nat.le_of_ble_eq_true rfl) rfl (As := []) (rest := [.ref (gad Γ 0)]) rfl rfl (Nat.le_of_ble_eq_true rfl) hm (pc := 23) dX10_shape_23 (fun t2 => ?_)
    refine j_callV_E hC hR (ctX10_give hC.l hC.cn κ t2) kc_RX10_132 (Nat.le_of_ble_eq_true rfl) (Nat.le_of_ble_eq_true rfl) lX_0 (Nat.le_of_ble_eq_true rfl) rfl (As := [.int t2]) (rest := []) rfl rfl (Nat.le_of_ble_eq_true rfl) hm (pc := 26) dX10_shape_26 (fun t3 => ?_)
    refine j_sub [] (loc' := []) rfl ?_
    exact wX10_shape_29 hC hR hm F t3.2 t3.1
theorem ctX10_shape {Δ : DCtx} {l : Launch} (hl : dlay Δ = layX) (hN : dN Δ = 147) (F : Nat) (κ : Mem) : ∀ r, pX10_shape F κ = some r → CT Δ l yX10_shape cX10_shape 1 (some .int) (rmH 6) [.ref (dad Δ 0)] κ (some (.int r.1)) r.2 :=
  ct_of (nL := 1) (ret := (some .int)) (lay := layX) (N := 147) (by decide +kernel) (fun Δ => [.ref (dad Δ 0)]) (fun _ => oE) (fun _ => (Nat.le_of_ble_eq_true rfl)) (fun Γ hR hm hC => wX10_shape hC hR hm F κ) Δ l hl hN
set_option maxRecDepth 20000 in
theorem wX10_hub_26 {Γ : JCtx} (hC : jC Γ cX10_hub 2 RX10 (some .int) layX 147) (hR : gR Γ = rmH 5) (hm : gcells Γ ≤ (gR Γ).cells ∧ gslots Γ ≤ (gR Γ).slots) (F : Nat) (κ : Mem) (y0 : Int32) : JP Γ (qf Γ oE) (pX10_hub_26 F κ y0) κ 26 [] [.int y0] := by
  unfold pX10_hub_26
  exact j_iret hC (pc := 26) dX10_hub_26 rfl rfl rfl
set_option maxRecDepth 20000 in
theorem wX10_hub {Γ : JCtx} (hC : jC Γ cX10_hub 2 RX10 (some .int) layX 147) (hR : gR Γ = rmH 5) (hm : gcells Γ ≤ (gR Γ).cells ∧ gslots Γ ≤ (gR Γ).slots) (F : Nat) (κ : Mem) : JP Γ (qf Γ oE) (pX10_hub F κ) κ 0 [(0, .ref (gad Γ 0))] [] := by
  unfold pX10_hub
  refine j_aload_n hC (pc := 0) dX10_hub_0 0 rfl rfl ?_
  refine j_getR hC (pc := 1) dX10_hub_1 kf_RX10_28 lX_0 (Nat.le_of_ble_eq_true rfl) rfl ?_
  refine j_callV_I hC hR (ctX4_firstHub hC.l hC.cn F κ) kc_RX10_326 (Nat.le_of_ble_eq_true rfl) (Nat.le_of_ble_eq_true rfl) lX_54 (Nat.le_of_ble_eq_true rfl) rfl (As := []) (rest := []) rfl rfl (Nat.le_of_ble_eq_true rfl) hm (pc := 4) dX10_hub_4 (fun t1 => ?_)
  refine j_istore_n hC (pc := 7) dX10_hub_7 rfl (Nat.le_of_ble_eq_true rfl) (loc' := [(1, .int t1), (0, .ref (gad Γ 0))]) rfl ?_
  refine j_iload_n hC (pc := 8) dX10_hub_8 0 rfl rfl ?_
  refine j_iconst hC (pc := 9) dX10_hub_9 ki_m1 ?_
  refine j_icmp_ne hC (pc := 10) dX10_hub_10 (tgt := 21) rfl ?_ ?_
  · refine j_aload_n hC (pc := 13) dX10_hub_13 1 rfl rfl ?_
    refine j_iconst hC (pc := 14) dX10_hub_14 ki_5 ?_
    refine j_callV_E hC hR (ctX10_refuse hC.l hC.cn κ 5) kc_RX10_105 (Nat.le_of_ble_eq_true rfl) (Nat.le_of_ble_eq_true rfl) lX_0 (Nat.le_of_ble_eq_true rfl) rfl (As := [.int 5]) (rest := []) rfl rfl (Nat.le_of_ble_eq_true rfl) hm (pc := 15) dX10_hub_15 (fun t2 => ?_)
    refine j_goto hC (pc := 18) dX10_hub_18 (tgt := 26) rfl ?_
    refine j_sub [] (loc' := []) rfl ?_
    exact wX10_hub_26 hC hR hm F t2.2 t2.1
  · refine j_aload_n hC (pc := 21) dX10_hub_21 1 rfl rfl ?_
    refine j_iload_n hC (pc := 22) dX10_hub_22 0 rfl rfl ?_
    refine j_callV_E hC hR (ctX10_give hC.l hC.cn κ t1) kc_RX10_132 (Nat.le_of_ble_eq_true rfl) (Nat.le_of_ble_eq_true rfl) lX_0 (Nat.le_of_ble_eq_true rfl) rfl (As := [.int t1]) (rest := []) rfl rfl (Nat.le_of_ble_eq_true rfl) hm (pc := 23) dX10_hub_23 (fun t3 => ?_)
    refine j_sub [] (loc' := []) rfl ?_
    exact wX10_hub_26 hC hR hm F t3.2 t3.1
theorem ctX10_hub {Δ : DCtx} {l : Launch} (hl : dlay Δ = layX) (hN : dN Δ = 147) (F : Nat) (κ : Mem) : ∀ r, pX10_hub F κ = some r → CT Δ l yX10_hub cX10_hub 2 (some .int) (rmH 5) [.ref (dad Δ 0)] κ (some (.int r.1)) r.2 :=
  ct_of (nL := 2) (ret := (some .int)) (lay := layX) (N := 147) (by decide +kernel) (fun Δ => [.ref (dad Δ 0)]) (fun _ => oE) (fun _ => (Nat.le_of_ble_eq_true rfl)) (fun Γ hR hm hC => wX10_hub hC hR hm F κ) Δ l hl hN
set_option maxRecDepth 20000 in
theorem wX10_part_35 {Γ : JCtx} (hC : jC Γ cX10_part 2 RX10 (some .int) layX 147) (hR : gR Γ = rmH 3) (hm : gcells Γ ≤ (gR Γ).cells ∧ gslots Γ ≤ (gR Γ).slots) (F : Nat) (κ : Mem) (y0 : Int32) : JP Γ (qf Γ oE) (pX10_part_35 F κ y0) κ 35 [] [.int y0] := by
  unfold pX10_part_35
  exact j_iret hC (pc := 35) dX10_part_35 rfl rfl rfl
set_option maxRecDepth 20000 in
theorem wX10_part {Γ : JCtx} (hC : jC Γ cX10_part 2 RX10 (some .int) layX 147) (hR : gR Γ = rmH 3) (hm : gcells Γ ≤ (gR Γ).cells ∧ gslots Γ ≤ (gR Γ).slots) (F : Nat) (κ : Mem) (v1 : Int32) : JP Γ (qf Γ oE) (pX10_part F κ v1) κ 0 [(0, .ref (gad Γ 0)), (1, .int v1)] [] := by
  unfold pX10_part
  refine j_aload_n hC (pc := 0) dX10_part_0 0 rfl rfl ?_
  refine j_iload_n hC (pc := 1) dX10_part_1 1 rfl rfl ?_
  refine j_callV_I hC hR (ctX10_noPlayer hC.l hC.cn κ v1) kc_RX10_152 (Nat.le_of_ble_eq_true rfl) (Nat.le_of_ble_eq_true rfl) lX_0 (Nat.le_of_ble_eq_true rfl) rfl (As := [.int v1]) (rest := []) rfl rfl (Nat.le_of_ble_eq_true rfl) hm (pc := 2) dX10_part_2 (fun t1 => ?_)
  refine j_if_eq hC (pc := 5) dX10_part_5 (tgt := 16) rfl ?_ ?_
  · refine j_aload_n hC (pc := 16) dX10_part_16 0 rfl rfl ?_
    refine j_aload_n hC (pc := 17) dX10_part_17 0 rfl rfl ?_
    refine j_getR hC (pc := 18) dX10_part_18 kf_RX10_28 lX_0 (Nat.le_of_ble_eq_true rfl) rfl ?_
    refine j_iload_n hC (pc := 21) dX10_part_21 1 rfl rfl ?_
    refine j_aload_n hC (pc := 22) dX10_part_22 0 rfl rfl ?_
    refine j_getR hC (pc := 23) dX10_part_23 kf_RX10_28 lX_0 (Nat.le_of_ble_eq_true rfl) rfl ?_
    refine j_callV_I hC hR (ctX4_everybody hC.l hC.cn κ) kc_RX10_329 (Nat.le_of_ble_eq_true rfl) (Nat.le_of_ble_eq_true rfl) lX_54 (Nat.le_of_ble_eq_true rfl) rfl (As := []) (rest := [.int v1, .ref (gad Γ 54), .ref (gad Γ 0)]) rfl rfl (Nat.le_of_ble_eq_true rfl) hm (pc := 26) dX10_part_26 (fun t2 => ?_)
    refine j_callV_I hC hR (ctX4_linkedWith hC.l hC.cn F κ v1 t2) kc_RX10_332 (Nat.le_of_ble_eq_true rfl) (Nat.le_of_ble_eq_true rfl) lX_54 (Nat.le_of_ble_eq_true rfl) rfl (As := [.int v1, .int t2]) (rest := [.ref (gad Γ 0)]) rfl rfl (Nat.le_of_ble_eq_true rfl) hm (pc := 29) dX10_part_29 (fun t3 => ?_)
    refine j_callV_E hC hR (ctX10_give hC.l hC.cn κ t3) kc_RX10_132 (Nat.le_of_ble_eq_true rfl) (Nat.le_of_ble_eq_true rfl) lX_0 (Nat.le_of_ble_eq_true rfl) rfl (As := [.int t3]) (rest := []) rfl rfl (Nat.le_of_ble_eq_true rfl) hm (pc := 32) dX10_part_32 (fun t4 => ?_)
    refine j_sub [] (loc' := []) rfl ?_
    exact wX10_part_35 hC hR hm F t4.2 t4.1
  · refine j_aload_n hC (pc := 8) dX10_part_8 0 rfl rfl ?_
    refine j_iconst hC (pc := 9) dX10_part_9 ki_2 ?_
    refine j_callV_E hC hR (ctX10_refuse hC.l hC.cn κ 2) kc_RX10_105 (Nat.le_of_ble_eq_true rfl) (Nat.le_of_ble_eq_true rfl) lX_0 (Nat.le_of_ble_eq_true rfl) rfl (As := [.int 2]) (rest := []) rfl rfl (Nat.le_of_ble_eq_true rfl) hm (pc := 10) dX10_part_10 (fun t5 => ?_)
    refine j_goto hC (pc := 13) dX10_part_13 (tgt := 35) rfl ?_
    refine j_sub [] (loc' := []) rfl ?_
    exact wX10_part_35 hC hR hm F t5.2 t5.1
theorem ctX10_part {Δ : DCtx} {l : Launch} (hl : dlay Δ = layX) (hN : dN Δ = 147) (F : Nat) (κ : Mem) (v1 : Int32) : ∀ r, pX10_part F κ v1 = some r → CT Δ l yX10_part cX10_part 2 (some .int) (rmH 3) [.ref (dad Δ 0), .int v1] κ (some (.int r.1)) r.2 :=
  ct_of (nL := 2) (ret := (some .int)) (lay := layX) (N := 147) (by decide +kernel) (fun Δ => [.ref (dad Δ 0), .int v1]) (fun _ => oE) (fun _ => (Nat.le_of_ble_eq_true rfl)) (fun Γ hR hm hC => wX10_part hC hR hm F κ v1) Δ l hl hN
set_option maxRecDepth 20000 in
theorem wX10_set_18 {Γ : JCtx} (hC : jC Γ cX10_set 4 RX10 (some .int) layX 147) (hR : gR Γ = rmH 3) (hm : gcells Γ ≤ (gR Γ).cells ∧ gslots Γ ≤ (gR Γ).slots) (F : Nat) (κ : Mem) : JP Γ (qf Γ oE) (pX10_set_18 F κ) κ 18 [(0, .ref (gad Γ 0))] [] := by
  unfold pX10_set_18
  refine j_aload_n hC (pc := 18) dX10_set_18 0 rfl rfl ?_
  refine j_iconst hC (pc := 19) dX10_set_19 ki_2 ?_
  refine j_callV_E hC hR (ctX10_refuse hC.l hC.cn κ 2) kc_RX10_105 (Nat.le_of_ble_eq_true rfl) (Nat.le_of_ble_eq_true rfl) lX_0 (Nat.le_of_ble_eq_true rfl) rfl (As := [.int 2]) (rest := []) rfl rfl (Nat.le_of_ble_eq_true rfl) hm (pc := 20) dX10_set_20 (fun t11 => ?_)
  exact j_iret hC (pc := 23) dX10_set_23 rfl rfl rfl
set_option maxRecDepth 20000 in
theorem wX10_set {Γ : JCtx} (hC : jC Γ cX10_set 4 RX10 (some .int) layX 147) (hR : gR Γ = rmH 3) (hm : gcells Γ ≤ (gR Γ).cells ∧ gslots Γ ≤ (gR Γ).slots) (F : Nat) (κ : Mem) (v1 : Int32) (v2 : Int32) (v3 : Int32) : JP Γ (qf Γ oE) (pX10_set F κ v1 v2 v3) κ 0 [(0, .ref (gad Γ 0)), (1, .int v1), (2, .int v2), (3, .int v3)] [] := by
  unfold pX10_set
  refine j_aload_n hC (pc := 0) dX10_set_0 0 rfl rfl ?_
  refine j_iload_n hC (pc := 1) dX10_set_1 1 rfl rfl ?_
  refine j_iload_n hC (pc := 2) dX10_set_2 2 rfl rfl ?_
  refine j_callV_I hC hR (ctX10_noSituation hC.l hC.cn F κ v1 v2) kc_RX10_168 (Nat.le_of_ble_eq_true rfl) (Nat.le_of_ble_eq_true rfl) lX_0 (Nat.le_of_ble_eq_true rfl) rfl (As := [.int v1, .int v2]) (rest := []) rfl rfl (Nat.le_of_ble_eq_true rfl) hm (pc := 3) dX10_set_3 (fun t1 => ?_)
  refine j_if_ne hC (pc := 6) dX10_set_6 (tgt := 18) rfl ?_ ?_
  · refine j_aload_n hC (pc := 9) dX10_set_9 0 rfl rfl ?_
    refine j_iload_n hC (pc := 10) dX10_set_10 1 rfl rfl ?_
    refine j_iload_n hC (pc := 11) dX10_set_11 3 rfl rfl ?_
    refine j_callV_I hC hR (ctX10_noColour hC.l hC.cn κ v1 v3) kc_RX10_185 (Nat.le_of_ble_eq_true rfl) (Nat.le_of_ble_eq_true rfl) lX_0 (Nat.le_of_ble_eq_true rfl) rfl (As := [.int v1, .int v3]) (rest := []) rfl rfl (Nat.le_of_ble_eq_true rfl) hm (pc := 12) dX10_set_12 (fun t2 => ?_)
    refine j_if_eq hC (pc := 15) dX10_set_15 (tgt := 24) rfl ?_ ?_
    · refine j_aload_n hC (pc := 24) dX10_set_24 0 rfl rfl ?_
      refine j_getR hC (pc := 25) dX10_set_25 kf_RX10_10 lX_0 (Nat.le_of_ble_eq_true rfl) rfl ?_
      refine j_iload_n hC (pc := 28) dX10_set_28 1 rfl rfl ?_
      refine j_iload_n hC (pc := 29) dX10_set_29 2 rfl rfl ?_
      refine j_callV_I hC hR (ctX2_told hC.l hC.cn 1 isG_1 κ v1 v2) kc_RX10_172 (Nat.le_of_ble_eq_true rfl) (Nat.le_of_ble_eq_true rfl) lX_1 (Nat.le_of_ble_eq_true rfl) rfl (As := [.int v1, .int v2]) (rest := []) rfl rfl (Nat.le_of_ble_eq_true rfl) hm (pc := 30) dX10_set_30 (fun t3 => ?_)
      refine j_iload_n hC (pc := 33) dX10_set_33 3 rfl rfl ?_
      refine j_icmp_ne hC (pc := 34) dX10_set_34 (tgt := 43) rfl ?_ ?_
      · refine j_aload_n hC (pc := 37) dX10_set_37 0 rfl rfl ?_
        refine j_iconst hC (pc := 38) dX10_set_38 ki_4 ?_
        refine j_callV_E hC hR (ctX10_refuse hC.l hC.cn κ 4) kc_RX10_105 (Nat.le_of_ble_eq_true rfl) (Nat.le_of_ble_eq_true rfl) lX_0 (Nat.le_of_ble_eq_true rfl) rfl (As := [.int 4]) (rest := []) rfl rfl (Nat.le_of_ble_eq_true rfl) hm (pc := 39) dX10_set_39 (fun t4 => ?_)
        exact j_iret hC (pc := 42) dX10_set_42 rfl rfl rfl
      · refine j_aload_n hC (pc := 43) dX10_set_43 0 rfl rfl ?_
        refine j_getR hC (pc := 44) dX10_set_44 kf_RX10_58 lX_0 (Nat.le_of_ble_eq_true rfl) rfl ?_
        refine j_aload_n hC (pc := 47) dX10_set_47 0 rfl rfl ?_
        refine j_getR hC (pc := 48) dX10_set_48 kf_RX10_10 lX_0 (Nat.le_of_ble_eq_true rfl) rfl ?_
        refine j_callV_V hC hR (ctX3_note hC.l hC.cn 1 isG_1 κ) kc_RX10_335 (Nat.le_of_ble_eq_true rfl) (Nat.le_of_ble_eq_true rfl) lX_135 (Nat.le_of_ble_eq_true rfl) rfl (As := [.ref (gad Γ 1)]) (rest := []) rfl rfl (Nat.le_of_ble_eq_true rfl) hm (pc := 51) dX10_set_51 (fun t5 => ?_)
        refine j_aload_n hC (pc := 54) dX10_set_54 0 rfl rfl ?_
        refine j_getR hC (pc := 55) dX10_set_55 kf_RX10_10 lX_0 (Nat.le_of_ble_eq_true rfl) rfl ?_
        refine j_iload_n hC (pc := 58) dX10_set_58 1 rfl rfl ?_
        refine j_iload_n hC (pc := 59) dX10_set_59 2 rfl rfl ?_
        refine j_iload_n hC (pc := 60) dX10_set_60 3 rfl rfl ?_
        refine j_callV_V hC hR (ctX2_tell hC.l hC.cn 1 isG_1 t5 v1 v2 v3) kc_RX10_338 (Nat.le_of_ble_eq_true rfl) (Nat.le_of_ble_eq_true rfl) lX_1 (Nat.le_of_ble_eq_true rfl) rfl (As := [.int v1, .int v2, .int v3]) (rest := []) rfl rfl (Nat.le_of_ble_eq_true rfl) hm (pc := 61) dX10_set_61 (fun t6 => ?_)
        refine j_aload_n hC (pc := 64) dX10_set_64 0 rfl rfl ?_
        refine j_getR hC (pc := 65) dX10_set_65 kf_RX10_58 lX_0 (Nat.le_of_ble_eq_true rfl) rfl ?_
        refine j_callV_V hC hR (ctX3_keep hC.l hC.cn t6) kc_RX10_342 (Nat.le_of_ble_eq_true rfl) (Nat.le_of_ble_eq_true rfl) lX_135 (Nat.le_of_ble_eq_true rfl) rfl (As := []) (rest := []) rfl rfl (Nat.le_of_ble_eq_true rfl) hm (pc := 68) dX10_set_68 (fun t7 => ?_)
        refine j_aload_n hC (pc := 71) dX10_set_71 0 rfl rfl ?_
        refine j_getR hC (pc := 72) dX10_set_72 kf_RX10_21 lX_0 (Nat.le_of_ble_eq_true rfl) rfl ?_
        refine j_iload_n hC (pc := 75) dX10_set_75 1 rfl rfl ?_
        refine j_callV_V hC hR (ctX1_judgeAgain hC.l hC.cn F t7 v1) kc_RX10_345 (Nat.le_of_ble_eq_true rfl) (Nat.le_of_ble_eq_true rfl) lX_41 (Nat.le_of_ble_eq_true rfl) rfl (As := [.int v1]) (rest := []) rfl rfl (Nat.le_of_ble_eq_true rfl) hm (pc := 76) dX10_set_76 (fun t8 => ?_)
        refine j_aload_n hC (pc := 79) dX10_set_79 0 rfl rfl ?_
        refine j_aload_n hC (pc := 80) dX10_set_80 0 rfl rfl ?_
        refine j_getR hC (pc := 81) dX10_set_81 kf_RX10_21 lX_0 (Nat.le_of_ble_eq_true rfl) rfl ?_
        refine j_callV_I hC hR (ctX1_lostInAll hC.l hC.cn t8) kc_RX10_206 (Nat.le_of_ble_eq_true rfl) (Nat.le_of_ble_eq_true rfl) lX_41 (Nat.le_of_ble_eq_true rfl) rfl (As := []) (rest := [.ref (gad Γ 0)]) rfl rfl (Nat.le_of_ble_eq_true rfl) hm (pc := 84) dX10_set_84 (fun t9 => ?_)
        refine j_callV_E hC hR (ctX10_give hC.l hC.cn t8 t9) kc_RX10_132 (Nat.le_of_ble_eq_true rfl) (Nat.le_of_ble_eq_true rfl) lX_0 (Nat.le_of_ble_eq_true rfl) rfl (As := [.int t9]) (rest := []) rfl rfl (Nat.le_of_ble_eq_true rfl) hm (pc := 87) dX10_set_87 (fun t10 => ?_)
        exact j_iret hC (pc := 90) dX10_set_90 rfl rfl rfl
    · refine j_sub [0] (loc' := [(0, .ref (gad Γ 0))]) rfl ?_
      exact wX10_set_18 hC hR hm F κ
  · refine j_sub [0] (loc' := [(0, .ref (gad Γ 0))]) rfl ?_
    exact wX10_set_18 hC hR hm F κ
theorem ctX10_set {Δ : DCtx} {l : Launch} (hl : dlay Δ = layX) (hN : dN Δ = 147) (F : Nat) (κ : Mem) (v1 : Int32) (v2 : Int32) (v3 : Int32) : ∀ r, pX10_set F κ v1 v2 v3 = some r → CT Δ l yX10_set cX10_set 4 (some .int) (rmH 3) [.ref (dad Δ 0), .int v1, .int v2, .int v3] κ (some (.int r.1)) r.2 :=
  ct_of (nL := 4) (ret := (some .int)) (lay := layX) (N := 147) (by decide +kernel) (fun Δ => [.ref (dad Δ 0), .int v1, .int v2, .int v3]) (fun _ => oE) (fun _ => (Nat.le_of_ble_eq_true rfl)) (fun Γ hR hm hC => wX10_set hC hR hm F κ v1 v2 v3) Δ l hl hN
set_option maxRecDepth 20000 in
theorem wX10_take {Γ : JCtx} (hC : jC Γ cX10_take 3 RX10 (some .int) layX 147) (hR : gR Γ = rmH 4) (hm : gcells Γ ≤ (gR Γ).cells ∧ gslots Γ ≤ (gR Γ).slots) (F : Nat) (κ : Mem) (v1 : Int32) : JP Γ (qf Γ oE) (pX10_take F κ v1) κ 0 [(0, .ref (gad Γ 0)), (1, .int v1)] [] := by
  unfold pX10_take
  refine j_aload_n hC (pc := 0) dX10_take_0 0 rfl rfl ?_
  refine j_iload_n hC (pc := 1) dX10_take_1 1 rfl rfl ?_
  refine j_callV_I hC hR (ctX10_noPlayer hC.l hC.cn κ v1) kc_RX10_152 (Nat.le_of_ble_eq_true rfl) (Nat.le_of_ble_eq_true rfl) lX_0 (Nat.le_of_ble_eq_true rfl) rfl (As := [.int v1]) (rest := []) rfl rfl (Nat.le_of_ble_eq_true rfl) hm (pc := 2) dX10_take_2 (fun t1 => ?_)
  refine j_if_eq hC (pc := 5) dX10_take_5 (tgt := 14) rfl ?_ ?_
  · refine j_aload_n hC (pc := 14) dX10_take_14 0 rfl rfl ?_
    refine j_getR hC (pc := 15) dX10_take_15 kf_RX10_58 lX_0 (Nat.le_of_ble_eq_true rfl) rfl ?_
    refine j_aload_n hC (pc := 18) dX10_take_18 0 rfl rfl ?_
    refine j_getR hC (pc := 19) dX10_take_19 kf_RX10_10 lX_0 (Nat.le_of_ble_eq_true rfl) rfl ?_
    refine j_callV_V hC hR (ctX3_note hC.l hC.cn 1 isG_1 κ) kc_RX10_335 (Nat.le_of_ble_eq_true rfl) (Nat.le_of_ble_eq_true rfl) lX_135 (Nat.le_of_ble_eq_true rfl) rfl (As := [.ref (gad Γ 1)]) (rest := []) rfl rfl (Nat.le_of_ble_eq_true rfl) hm (pc := 22) dX10_take_22 (fun t2 => ?_)
    refine j_aload_n hC (pc := 25) dX10_take_25 0 rfl rfl ?_
    refine j_getR hC (pc := 26) dX10_take_26 kf_RX10_21 lX_0 (Nat.le_of_ble_eq_true rfl) rfl ?_
    refine j_iload_n hC (pc := 29) dX10_take_29 1 rfl rfl ?_
    refine j_callV_E hC hR (ctX1_weighBest hC.l hC.cn F t2 v1) kc_RX10_283 (Nat.le_of_ble_eq_true rfl) (Nat.le_of_ble_eq_true rfl) lX_41 (Nat.le_of_ble_eq_true rfl) rfl (As := [.int v1]) (rest := []) rfl rfl (Nat.le_of_ble_eq_true rfl) hm (pc := 30) dX10_take_30 (fun t3 => ?_)
    refine j_pop hC (pc := 33) dX10_take_33 rfl ?_
    refine j_aload_n hC (pc := 34) dX10_take_34 0 rfl rfl ?_
    refine j_getR hC (pc := 35) dX10_take_35 kf_RX10_21 lX_0 (Nat.le_of_ble_eq_true rfl) rfl ?_
    refine j_iload_n hC (pc := 38) dX10_take_38 1 rfl rfl ?_
    refine j_callV_E hC hR (ctX1_takeBest hC.l hC.cn F t3.2 v1) kc_RX10_348 (Nat.le_of_ble_eq_true rfl) (Nat.le_of_ble_eq_true rfl) lX_41 (Nat.le_of_ble_eq_true rfl) rfl (As := [.int v1]) (rest := []) rfl rfl (Nat.le_of_ble_eq_true rfl) hm (pc := 39) dX10_take_39 (fun t4 => ?_)
    refine j_istore_n hC (pc := 42) dX10_take_42 rfl (Nat.le_of_ble_eq_true rfl) (loc' := [(2, .int (t4.1)), (0, .ref (gad Γ 0)), (1, .int v1)]) rfl ?_
    refine j_iload_n hC (pc := 43) dX10_take_43 0 rfl rfl ?_
    refine j_if_ne hC (pc := 44) dX10_take_44 (tgt := 53) rfl ?_ ?_
    · refine j_aload_n hC (pc := 47) dX10_take_47 1 rfl rfl ?_
      refine j_iconst hC (pc := 48) dX10_take_48 ki_4 ?_
      refine j_callV_E hC hR (ctX10_refuse hC.l hC.cn t4.2 4) kc_RX10_105 (Nat.le_of_ble_eq_true rfl) (Nat.le_of_ble_eq_true rfl) lX_0 (Nat.le_of_ble_eq_true rfl) rfl (As := [.int 4]) (rest := []) rfl rfl (Nat.le_of_ble_eq_true rfl) hm (pc := 49) dX10_take_49 (fun t5 => ?_)
      exact j_iret hC (pc := 52) dX10_take_52 rfl rfl rfl
    · refine j_aload_n hC (pc := 53) dX10_take_53 1 rfl rfl ?_
      refine j_getR hC (pc := 54) dX10_take_54 kf_RX10_58 lX_0 (Nat.le_of_ble_eq_true rfl) rfl ?_
      refine j_callV_V hC hR (ctX3_keep hC.l hC.cn t4.2) kc_RX10_342 (Nat.le_of_ble_eq_true rfl) (Nat.le_of_ble_eq_true rfl) lX_135 (Nat.le_of_ble_eq_true rfl) rfl (As := []) (rest := []) rfl rfl (Nat.le_of_ble_eq_true rfl) hm (pc := 57) dX10_take_57 (fun t6 => ?_)
      refine j_aload_n hC (pc := 60) dX10_take_60 1 rfl rfl ?_
      refine j_iload_n hC (pc := 61) dX10_take_61 0 rfl rfl ?_
      refine j_callV_E hC hR (ctX10_give hC.l hC.cn t6 t4.1) kc_RX10_132 (Nat.le_of_ble_eq_true rfl) (Nat.le_of_ble_eq_true rfl) lX_0 (Nat.le_of_ble_eq_true rfl) rfl (As := [.int (t4.1)]) (rest := []) rfl rfl (Nat.le_of_ble_eq_true rfl) hm (pc := 62) dX10_take_62 (fun t7 => ?_)
      exact j_iret hC (pc := 65) dX10_take_65 rfl rfl rfl
  · refine j_aload_n hC (pc := 8) dX10_take_8 0 rfl rfl ?_
    refine j_iconst hC (pc := 9) dX10_take_9 ki_2 ?_
    refine j_callV_E hC hR (ctX10_refuse hC.l hC.cn κ 2) kc_RX10_105 (Nat.le_of_ble_eq_true rfl) (Nat.le_of_ble_eq_true rfl) lX_0 (Nat.le_of_ble_eq_true rfl) rfl (As := [.int 2]) (rest := []) rfl rfl (Nat.le_of_ble_eq_true rfl) hm (pc := 10) dX10_take_10 (fun t8 => ?_)
    exact j_iret hC (pc := 13) dX10_take_13 rfl rfl rfl
theorem ctX10_take {Δ : DCtx} {l : Launch} (hl : dlay Δ = layX) (hN : dN Δ = 147) (F : Nat) (κ : Mem) (v1 : Int32) : ∀ r, pX10_take F κ v1 = some r → CT Δ l yX10_take cX10_take 3 (some .int) (rmH 4) [.ref (dad Δ 0), .int v1] κ (some (.int r.1)) r.2 :=
  ct_of (nL := 3) (ret := (some .int)) (lay := layX) (N := 147) (by decide +kernel) (fun Δ => [.ref (dad Δ 0), .int v1]) (fun _ => oE) (fun _ => (Nat.le_of_ble_eq_true rfl)) (fun Γ hR hm hC => wX10_take hC hR hm F κ v1) Δ l hl hN
set_option maxRecDepth 20000 in
theorem wX10_better {Γ : JCtx} (hC : jC Γ cX10_better 2 RX10 (some .int) layX 147) (hR : gR Γ = rmH 5) (hm : gcells Γ ≤ (gR Γ).cells ∧ gslots Γ ≤ (gR Γ).slots) (F : Nat) (κ : Mem) : JP Γ (qf Γ oE) (pX10_better F κ) κ 0 [(0, .ref (gad Γ 0))] [] := by
  unfold pX10_better
  refine j_aload_n hC (pc := 0) dX10_better_0 0 rfl rfl ?_
  refine j_getR hC (pc := 1) dX10_better_1 kf_RX10_58 lX_0 (Nat.le_of_ble_eq_true rfl) rfl ?_
  refine j_aload_n hC (pc := 4) dX10_better_4 0 rfl rfl ?_
  refine j_getR hC (pc := 5) dX10_better_5 kf_RX10_10 lX_0 (Nat.le_of_ble_eq_true rfl) rfl ?_
  refine j_callV_V hC hR (ctX3_note hC.l hC.cn 1 isG_1 κ) kc_RX10_335 (Nat.le_of_ble_eq_true rfl) (Nat.le_of_ble_eq_true rfl) lX_135 (Nat.le_of_ble_eq_true rfl) rfl (As := [.ref (gad Γ 1)]) (rest := []) rfl rfl (Nat.le_of_ble_eq_true rfl) hm (pc := 8) dX10_better_8 (fun t1 => ?_)
  refine j_aload_n hC (pc := 11) dX10_better_11 0 rfl rfl ?_
  refine j_getR hC (pc := 12) dX10_better_12 kf_RX10_21 lX_0 (Nat.le_of_ble_eq_true rfl) rfl ?_
  refine j_callV_E hC hR (ctX1_improve hC.l hC.cn F t1) kc_RX10_310 (Nat.le_of_ble_eq_true rfl) (Nat.le_of_ble_eq_true rfl) lX_41 (Nat.le_of_ble_eq_true rfl) rfl (As := []) (rest := []) rfl rfl (Nat.le_of_ble_eq_true rfl) hm (pc := 15) dX10_better_15 (fun t2 => ?_)
  refine j_istore_n hC (pc := 18) dX10_better_18 rfl (Nat.le_of_ble_eq_true rfl) (loc' := [(1, .int (t2.1)), (0, .ref (gad Γ 0))]) rfl ?_
  refine j_iload_n hC (pc := 19) dX10_better_19 0 rfl rfl ?_
  refine j_if_ne hC (pc := 20) dX10_better_20 (tgt := 29) rfl ?_ ?_
  · refine j_aload_n hC (pc := 23) dX10_better_23 1 rfl rfl ?_
    refine j_iconst hC (pc := 24) dX10_better_24 ki_4 ?_
    refine j_callV_E hC hR (ctX10_refuse hC.l hC.cn t2.2 4) kc_RX10_105 (Nat.le_of_ble_eq_true rfl) (Nat.le_of_ble_eq_true rfl) lX_0 (Nat.le_of_ble_eq_true rfl) rfl (As := [.int 4]) (rest := []) rfl rfl (Nat.le_of_ble_eq_true rfl) hm (pc := 25) dX10_better_25 (fun t3 => ?_)
    exact j_iret hC (pc := 28) dX10_better_28 rfl rfl rfl
  · refine j_aload_n hC (pc := 29) dX10_better_29 1 rfl rfl ?_
    refine j_getR hC (pc := 30) dX10_better_30 kf_RX10_58 lX_0 (Nat.le_of_ble_eq_true rfl) rfl ?_
    refine j_callV_V hC hR (ctX3_keep hC.l hC.cn t2.2) kc_RX10_342 (Nat.le_of_ble_eq_true rfl) (Nat.le_of_ble_eq_true rfl) lX_135 (Nat.le_of_ble_eq_true rfl) rfl (As := []) (rest := []) rfl rfl (Nat.le_of_ble_eq_true rfl) hm (pc := 33) dX10_better_33 (fun t4 => ?_)
    refine j_aload_n hC (pc := 36) dX10_better_36 1 rfl rfl ?_
    refine j_iload_n hC (pc := 37) dX10_better_37 0 rfl rfl ?_
    refine j_callV_E hC hR (ctX10_give hC.l hC.cn t4 t2.1) kc_RX10_132 (Nat.le_of_ble_eq_true rfl) (Nat.le_of_ble_eq_true rfl) lX_0 (Nat.le_of_ble_eq_true rfl) rfl (As := [.int (t2.1)]) (rest := []) rfl rfl (Nat.le_of_ble_eq_true rfl) hm (pc := 38) dX10_better_38 (fun t5 => ?_)
    exact j_iret hC (pc := 41) dX10_better_41 rfl rfl rfl
theorem ctX10_better {Δ : DCtx} {l : Launch} (hl : dlay Δ = layX) (hN : dN Δ = 147) (F : Nat) (κ : Mem) : ∀ r, pX10_better F κ = some r → CT Δ l yX10_better cX10_better 2 (some .int) (rmH 5) [.ref (dad Δ 0)] κ (some (.int r.1)) r.2 :=
  ct_of (nL := 2) (ret := (some .int)) (lay := layX) (N := 147) (by decide +kernel) (fun Δ => [.ref (dad Δ 0)]) (fun _ => oE) (fun _ => (Nat.le_of_ble_eq_true rfl)) (fun Γ hR hm hC => wX10_better hC hR hm F κ) Δ l hl hN
set_option maxRecDepth 20000 in
theorem wX10_build {Γ : JCtx} (hC : jC Γ cX10_build 2 RX10 (some .int) layX 147) (hR : gR Γ = rmH 5) (hm : gcells Γ ≤ (gR Γ).cells ∧ gslots Γ ≤ (gR Γ).slots) (F : Nat) (κ : Mem) (v1 : Int32) : JP Γ (qf Γ oE) (pX10_build F κ v1) κ 0 [(0, .ref (gad Γ 0)), (1, .int v1)] [] := by
  unfold pX10_build
  refine j_aload_n hC (pc := 0) dX10_build_0 0 rfl rfl ?_
  refine j_iload_n hC (pc := 1) dX10_build_1 1 rfl rfl ?_
  refine j_callV_I hC hR (ctX10_noSet hC.l hC.cn κ v1) kc_RX10_227 (Nat.le_of_ble_eq_true rfl) (Nat.le_of_ble_eq_true rfl) lX_0 (Nat.le_of_ble_eq_true rfl) rfl (As := [.int v1]) (rest := []) rfl rfl (Nat.le_of_ble_eq_true rfl) hm (pc := 2) dX10_build_2 (fun t1 => ?_)
  refine j_if_eq hC (pc := 5) dX10_build_5 (tgt := 14) rfl ?_ ?_
  · refine j_aload_n hC (pc := 14) dX10_build_14 0 rfl rfl ?_
    refine j_getR hC (pc := 15) dX10_build_15 kf_RX10_28 lX_0 (Nat.le_of_ble_eq_true rfl) rfl ?_
    refine j_iload_n hC (pc := 18) dX10_build_18 1 rfl rfl ?_
    refine j_callV_I hC hR (ctX4_isClique hC.l hC.cn F κ v1) kc_RX10_351 (Nat.le_of_ble_eq_true rfl) (Nat.le_of_ble_eq_true rfl) lX_54 (Nat.le_of_ble_eq_true rfl) rfl (As := [.int v1]) (rest := []) rfl rfl (Nat.le_of_ble_eq_true rfl) hm (pc := 19) dX10_build_19 (fun t2 => ?_)
    refine j_if_ne hC (pc := 22) dX10_build_22 (tgt := 32) rfl ?_ ?_
    · refine j_aload_n hC (pc := 25) dX10_build_25 0 rfl rfl ?_
      refine j_bipush hC (pc := 26) dX10_build_26 kb_7 ?_
      refine j_callV_E hC hR (ctX10_refuse hC.l hC.cn κ 7) kc_RX10_105 (Nat.le_of_ble_eq_true rfl) (Nat.le_of_ble_eq_true rfl) lX_0 (Nat.le_of_ble_eq_true rfl) rfl (As := [.int 7]) (rest := []) rfl rfl (Nat.le_of_ble_eq_true rfl) hm (pc := 28) dX10_build_28 (fun t3 => ?_)
      exact j_iret hC (pc := 31) dX10_build_31 rfl rfl rfl
    · refine j_aload_n hC (pc := 32) dX10_build_32 0 rfl rfl ?_
      refine j_getR hC (pc := 33) dX10_build_33 kf_RX10_58 lX_0 (Nat.le_of_ble_eq_true rfl) rfl ?_
      refine j_aload_n hC (pc := 36) dX10_build_36 0 rfl rfl ?_
      refine j_getR hC (pc := 37) dX10_build_37 kf_RX10_10 lX_0 (Nat.le_of_ble_eq_true rfl) rfl ?_
      refine j_callV_V hC hR (ctX3_note hC.l hC.cn 1 isG_1 κ) kc_RX10_335 (Nat.le_of_ble_eq_true rfl) (Nat.le_of_ble_eq_true rfl) lX_135 (Nat.le_of_ble_eq_true rfl) rfl (As := [.ref (gad Γ 1)]) (rest := []) rfl rfl (Nat.le_of_ble_eq_true rfl) hm (pc := 40) dX10_build_40 (fun t4 => ?_)
      refine j_aload_n hC (pc := 43) dX10_build_43 0 rfl rfl ?_
      refine j_getR hC (pc := 44) dX10_build_44 kf_RX10_42 lX_0 (Nat.le_of_ble_eq_true rfl) rfl ?_
      refine j_iload_n hC (pc := 47) dX10_build_47 1 rfl rfl ?_
      refine j_callV_E hC hR (ctX0_tellClique hC.l hC.cn F t4 v1) kc_RX10_354 (Nat.le_of_ble_eq_true rfl) (Nat.le_of_ble_eq_true rfl) lX_58 (Nat.le_of_ble_eq_true rfl) rfl (As := [.int v1]) (rest := []) rfl rfl (Nat.le_of_ble_eq_true rfl) hm (pc := 48) dX10_build_48 (fun t5 => ?_)
      refine j_if_ne hC (pc := 51) dX10_build_51 (tgt := 60) rfl ?_ ?_
      · refine j_aload_n hC (pc := 54) dX10_build_54 0 rfl rfl ?_
        refine j_iconst hC (pc := 55) dX10_build_55 ki_4 ?_
        refine j_callV_E hC hR (ctX10_refuse hC.l hC.cn t5.2 4) kc_RX10_105 (Nat.le_of_ble_eq_true rfl) (Nat.le_of_ble_eq_true rfl) lX_0 (Nat.le_of_ble_eq_true rfl) rfl (As := [.int 4]) (rest := []) rfl rfl (Nat.le_of_ble_eq_true rfl) hm (pc := 56) dX10_build_56 (fun t6 => ?_)
        exact j_iret hC (pc := 59) dX10_build_59 rfl rfl rfl
      · refine j_aload_n hC (pc := 60) dX10_build_60 0 rfl rfl ?_
        refine j_getR hC (pc := 61) dX10_build_61 kf_RX10_58 lX_0 (Nat.le_of_ble_eq_true rfl) rfl ?_
        refine j_callV_V hC hR (ctX3_keep hC.l hC.cn t5.2) kc_RX10_342 (Nat.le_of_ble_eq_true rfl) (Nat.le_of_ble_eq_true rfl) lX_135 (Nat.le_of_ble_eq_true rfl) rfl (As := []) (rest := []) rfl rfl (Nat.le_of_ble_eq_true rfl) hm (pc := 64) dX10_build_64 (fun t7 => ?_)
        refine j_aload_n hC (pc := 67) dX10_build_67 0 rfl rfl ?_
        refine j_getR hC (pc := 68) dX10_build_68 kf_RX10_21 lX_0 (Nat.le_of_ble_eq_true rfl) rfl ?_
        refine j_callV_V hC hR (ctX1_judgeAll hC.l hC.cn F t7) kc_RX10_307 (Nat.le_of_ble_eq_true rfl) (Nat.le_of_ble_eq_true rfl) lX_41 (Nat.le_of_ble_eq_true rfl) rfl (As := []) (rest := []) rfl rfl (Nat.le_of_ble_eq_true rfl) hm (pc := 71) dX10_build_71 (fun t8 => ?_)
        refine j_aload_n hC (pc := 74) dX10_build_74 0 rfl rfl ?_
        refine j_aload_n hC (pc := 75) dX10_build_75 0 rfl rfl ?_
        refine j_getR hC (pc := 76) dX10_build_76 kf_RX10_21 lX_0 (Nat.le_of_ble_eq_true rfl) rfl ?_
        refine j_callV_I hC hR (ctX1_lostInAll hC.l hC.cn t8) kc_RX10_206 (Nat.le_of_ble_eq_true rfl) (Nat.le_of_ble_eq_true rfl) lX_41 (Nat.le_of_ble_eq_true rfl) rfl (As := []) (rest := [.ref (gad Γ 0)]) rfl rfl (Nat.le_of_ble_eq_true rfl) hm (pc := 79) dX10_build_79 (fun t9 => ?_)
        refine j_callV_E hC hR (ctX10_give hC.l hC.cn t8 t9) kc_RX10_132 (Nat.le_of_ble_eq_true rfl) (Nat.le_of_ble_eq_true rfl) lX_0 (Nat.le_of_ble_eq_true rfl) rfl (As := [.int t9]) (rest := []) rfl rfl (Nat.le_of_ble_eq_true rfl) hm (pc := 82) dX10_build_82 (fun t10 => ?_)
        exact j_iret hC (pc := 85) dX10_build_85 rfl rfl rfl
  · refine j_aload_n hC (pc := 8) dX10_build_8 0 rfl rfl ?_
    refine j_iconst hC (pc := 9) dX10_build_9 ki_2 ?_
    refine j_callV_E hC hR (ctX10_refuse hC.l hC.cn κ 2) kc_RX10_105 (Nat.le_of_ble_eq_true rfl) (Nat.le_of_ble_eq_true rfl) lX_0 (Nat.le_of_ble_eq_true rfl) rfl (As := [.int 2]) (rest := []) rfl rfl (Nat.le_of_ble_eq_true rfl) hm (pc := 10) dX10_build_10 (fun t11 => ?_)
    exact j_iret hC (pc := 13) dX10_build_13 rfl rfl rfl
theorem ctX10_build {Δ : DCtx} {l : Launch} (hl : dlay Δ = layX) (hN : dN Δ = 147) (F : Nat) (κ : Mem) (v1 : Int32) : ∀ r, pX10_build F κ v1 = some r → CT Δ l yX10_build cX10_build 2 (some .int) (rmH 5) [.ref (dad Δ 0), .int v1] κ (some (.int r.1)) r.2 :=
  ct_of (nL := 2) (ret := (some .int)) (lay := layX) (N := 147) (by decide +kernel) (fun Δ => [.ref (dad Δ 0), .int v1]) (fun _ => oE) (fun _ => (Nat.le_of_ble_eq_true rfl)) (fun Γ hR hm hC => wX10_build hC hR hm F κ v1) Δ l hl hN
set_option maxRecDepth 20000 in
theorem wX10_rename_18 {Γ : JCtx} (hC : jC Γ cX10_rename 5 RX10 (some .int) layX 147) (hR : gR Γ = rmH 4) (hm : gcells Γ ≤ (gR Γ).cells ∧ gslots Γ ≤ (gR Γ).slots) (F : Nat) (κ : Mem) : JP Γ (qf Γ oE) (pX10_rename_18 F κ) κ 18 [(0, .ref (gad Γ 0))] [] := by
  unfold pX10_rename_18
  refine j_aload_n hC (pc := 18) dX10_rename_18 0 rfl rfl ?_
  refine j_iconst hC (pc := 19) dX10_rename_19 ki_2 ?_
  refine j_callV_E hC hR (ctX10_refuse hC.l hC.cn κ 2) kc_RX10_105 (Nat.le_of_ble_eq_true rfl) (Nat.le_of_ble_eq_true rfl) lX_0 (Nat.le_of_ble_eq_true rfl) rfl (As := [.int 2]) (rest := []) rfl rfl (Nat.le_of_ble_eq_true rfl) hm (pc := 20) dX10_rename_20 (fun t9 => ?_)
  exact j_iret hC (pc := 23) dX10_rename_23 rfl rfl rfl
set_option maxRecDepth 20000 in
theorem wX10_rename {Γ : JCtx} (hC : jC Γ cX10_rename 5 RX10 (some .int) layX 147) (hR : gR Γ = rmH 4) (hm : gcells Γ ≤ (gR Γ).cells ∧ gslots Γ ≤ (gR Γ).slots) (F : Nat) (κ : Mem) (v1 : Int32) (v2 : Int32) (v3 : Int32) : JP Γ (qf Γ oE) (pX10_rename F κ v1 v2 v3) κ 0 [(0, .ref (gad Γ 0)), (1, .int v1), (2, .int v2), (3, .int v3)] [] := by
  unfold pX10_rename
  refine j_aload_n hC (pc := 0) dX10_rename_0 0 rfl rfl ?_
  refine j_iload_n hC (pc := 1) dX10_rename_1 1 rfl rfl ?_
  refine j_iload_n hC (pc := 2) dX10_rename_2 2 rfl rfl ?_
  refine j_callV_I hC hR (ctX10_noColour hC.l hC.cn κ v1 v2) kc_RX10_185 (Nat.le_of_ble_eq_true rfl) (Nat.le_of_ble_eq_true rfl) lX_0 (Nat.le_of_ble_eq_true rfl) rfl (As := [.int v1, .int v2]) (rest := []) rfl rfl (Nat.le_of_ble_eq_true rfl) hm (pc := 3) dX10_rename_3 (fun t1 => ?_)
  refine j_if_ne hC (pc := 6) dX10_rename_6 (tgt := 18) rfl ?_ ?_
  · refine j_aload_n hC (pc := 9) dX10_rename_9 0 rfl rfl ?_
    refine j_iload_n hC (pc := 10) dX10_rename_10 1 rfl rfl ?_
    refine j_iload_n hC (pc := 11) dX10_rename_11 3 rfl rfl ?_
    refine j_callV_I hC hR (ctX10_noColour hC.l hC.cn κ v1 v3) kc_RX10_185 (Nat.le_of_ble_eq_true rfl) (Nat.le_of_ble_eq_true rfl) lX_0 (Nat.le_of_ble_eq_true rfl) rfl (As := [.int v1, .int v3]) (rest := []) rfl rfl (Nat.le_of_ble_eq_true rfl) hm (pc := 12) dX10_rename_12 (fun t2 => ?_)
    refine j_if_eq hC (pc := 15) dX10_rename_15 (tgt := 24) rfl ?_ ?_
    · refine j_iload_n hC (pc := 24) dX10_rename_24 2 rfl rfl ?_
      refine j_iload_n hC (pc := 25) dX10_rename_25 3 rfl rfl ?_
      refine j_icmp_ne hC (pc := 26) dX10_rename_26 (tgt := 35) rfl ?_ ?_
      · refine j_aload_n hC (pc := 29) dX10_rename_29 0 rfl rfl ?_
        refine j_iconst hC (pc := 30) dX10_rename_30 ki_4 ?_
        refine j_callV_E hC hR (ctX10_refuse hC.l hC.cn κ 4) kc_RX10_105 (Nat.le_of_ble_eq_true rfl) (Nat.le_of_ble_eq_true rfl) lX_0 (Nat.le_of_ble_eq_true rfl) rfl (As := [.int 4]) (rest := []) rfl rfl (Nat.le_of_ble_eq_true rfl) hm (pc := 31) dX10_rename_31 (fun t3 => ?_)
        exact j_iret hC (pc := 34) dX10_rename_34 rfl rfl rfl
      · refine j_aload_n hC (pc := 35) dX10_rename_35 0 rfl rfl ?_
        refine j_getR hC (pc := 36) dX10_rename_36 kf_RX10_58 lX_0 (Nat.le_of_ble_eq_true rfl) rfl ?_
        refine j_aload_n hC (pc := 39) dX10_rename_39 0 rfl rfl ?_
        refine j_getR hC (pc := 40) dX10_rename_40 kf_RX10_10 lX_0 (Nat.le_of_ble_eq_true rfl) rfl ?_
        refine j_callV_V hC hR (ctX3_note hC.l hC.cn 1 isG_1 κ) kc_RX10_335 (Nat.le_of_ble_eq_true rfl) (Nat.le_of_ble_eq_true rfl) lX_135 (Nat.le_of_ble_eq_true rfl) rfl (As := [.ref (gad Γ 1)]) (rest := []) rfl rfl (Nat.le_of_ble_eq_true rfl) hm (pc := 43) dX10_rename_43 (fun t4 => ?_)
        refine j_aload_n hC (pc := 46) dX10_rename_46 0 rfl rfl ?_
        refine j_getR hC (pc := 47) dX10_rename_47 kf_RX10_42 lX_0 (Nat.le_of_ble_eq_true rfl) rfl ?_
        refine j_iload_n hC (pc := 50) dX10_rename_50 1 rfl rfl ?_
        refine j_iload_n hC (pc := 51) dX10_rename_51 2 rfl rfl ?_
        refine j_iload_n hC (pc := 52) dX10_rename_52 3 rfl rfl ?_
        refine j_callV_E hC hR (ctX0_swapNames hC.l hC.cn F t4 v1 v2 v3) kc_RX10_357 (Nat.le_of_ble_eq_true rfl) (Nat.le_of_ble_eq_true rfl) lX_58 (Nat.le_of_ble_eq_true rfl) rfl (As := [.int v1, .int v2, .int v3]) (rest := []) rfl rfl (Nat.le_of_ble_eq_true rfl) hm (pc := 53) dX10_rename_53 (fun t5 => ?_)
        refine j_istore hC (pc := 56) dX10_rename_56 (Nat.le_of_ble_eq_true rfl) (loc' := [(4, .int (t5.1)), (0, .ref (gad Γ 0)), (1, .int v1), (2, .int v2), (3, .int v3)]) rfl ?_
        refine j_aload_n hC (pc := 58) dX10_rename_58 1 rfl rfl ?_
        refine j_getR hC (pc := 59) dX10_rename_59 kf_RX10_58 lX_0 (Nat.le_of_ble_eq_true rfl) rfl ?_
        refine j_callV_V hC hR (ctX3_keep hC.l hC.cn t5.2) kc_RX10_342 (Nat.le_of_ble_eq_true rfl) (Nat.le_of_ble_eq_true rfl) lX_135 (Nat.le_of_ble_eq_true rfl) rfl (As := []) (rest := []) rfl rfl (Nat.le_of_ble_eq_true rfl) hm (pc := 62) dX10_rename_62 (fun t6 => ?_)
        refine j_aload_n hC (pc := 65) dX10_rename_65 1 rfl rfl ?_
        refine j_getR hC (pc := 66) dX10_rename_66 kf_RX10_21 lX_0 (Nat.le_of_ble_eq_true rfl) rfl ?_
        refine j_callV_V hC hR (ctX1_judgeAll hC.l hC.cn F t6) kc_RX10_307 (Nat.le_of_ble_eq_true rfl) (Nat.le_of_ble_eq_true rfl) lX_41 (Nat.le_of_ble_eq_true rfl) rfl (As := []) (rest := []) rfl rfl (Nat.le_of_ble_eq_true rfl) hm (pc := 69) dX10_rename_69 (fun t7 => ?_)
        refine j_aload_n hC (pc := 72) dX10_rename_72 1 rfl rfl ?_
        refine j_iload hC (pc := 73) dX10_rename_73 0 rfl ?_
        refine j_callV_E hC hR (ctX10_give hC.l hC.cn t7 t5.1) kc_RX10_132 (Nat.le_of_ble_eq_true rfl) (Nat.le_of_ble_eq_true rfl) lX_0 (Nat.le_of_ble_eq_true rfl) rfl (As := [.int (t5.1)]) (rest := []) rfl rfl (Nat.le_of_ble_eq_true rfl) hm (pc := 75) dX10_rename_75 (fun t8 => ?_)
        exact j_iret hC (pc := 78) dX10_rename_78 rfl rfl rfl
    · refine j_sub [0] (loc' := [(0, .ref (gad Γ 0))]) rfl ?_
      exact wX10_rename_18 hC hR hm F κ
  · refine j_sub [0] (loc' := [(0, .ref (gad Γ 0))]) rfl ?_
    exact wX10_rename_18 hC hR hm F κ
theorem ctX10_rename {Δ : DCtx} {l : Launch} (hl : dlay Δ = layX) (hN : dN Δ = 147) (F : Nat) (κ : Mem) (v1 : Int32) (v2 : Int32) (v3 : Int32) : ∀ r, pX10_rename F κ v1 v2 v3 = some r → CT Δ l yX10_rename cX10_rename 5 (some .int) (rmH 4) [.ref (dad Δ 0), .int v1, .int v2, .int v3] κ (some (.int r.1)) r.2 :=
  ct_of (nL := 5) (ret := (some .int)) (lay := layX) (N := 147) (by decide +kernel) (fun Δ => [.ref (dad Δ 0), .int v1, .int v2, .int v3]) (fun _ => oE) (fun _ => (Nat.le_of_ble_eq_true rfl)) (fun Γ hR hm hC => wX10_rename hC hR hm F κ v1 v2 v3) Δ l hl hN
set_option maxRecDepth 20000 in
theorem wX10_see_75 {Γ : JCtx} (hC : jC Γ cX10_see 5 RX10 (some .int) layX 147) (hR : gR Γ = rmH 4) (hm : gcells Γ ≤ (gR Γ).cells ∧ gslots Γ ≤ (gR Γ).slots) (F : Nat) (κ : Mem) (v1 : Int32) : JP Γ (qf Γ oE) (pX10_see_75 F κ v1) κ 75 [(0, .ref (gad Γ 0)), (1, .int v1)] [] := by
  unfold pX10_see_75
  refine j_aload_n hC (pc := 75) dX10_see_75 0 rfl rfl ?_
  refine j_getR hC (pc := 76) dX10_see_76 kf_RX10_58 lX_0 (Nat.le_of_ble_eq_true rfl) rfl ?_
  refine j_callV_V hC hR (ctX3_keep hC.l hC.cn κ) kc_RX10_342 (Nat.le_of_ble_eq_true rfl) (Nat.le_of_ble_eq_true rfl) lX_135 (Nat.le_of_ble_eq_true rfl) rfl (As := []) (rest := []) rfl rfl (Nat.le_of_ble_eq_true rfl) hm (pc := 79) dX10_see_79 (fun t6 => ?_)
  refine j_aload_n hC (pc := 82) dX10_see_82 0 rfl rfl ?_
  refine j_getR hC (pc := 83) dX10_see_83 kf_RX10_21 lX_0 (Nat.le_of_ble_eq_true rfl) rfl ?_
  refine j_callV_V hC hR (ctX1_arrange hC.l hC.cn F t6) kc_RX10_126 (Nat.le_of_ble_eq_true rfl) (Nat.le_of_ble_eq_true rfl) lX_41 (Nat.le_of_ble_eq_true rfl) rfl (As := []) (rest := []) rfl rfl (Nat.le_of_ble_eq_true rfl) hm (pc := 86) dX10_see_86 (fun t7 => ?_)
  refine j_aload_n hC (pc := 89) dX10_see_89 0 rfl rfl ?_
  refine j_aload_n hC (pc := 90) dX10_see_90 0 rfl rfl ?_
  refine j_getR hC (pc := 91) dX10_see_91 kf_RX10_10 lX_0 (Nat.le_of_ble_eq_true rfl) rfl ?_
  refine j_iload_n hC (pc := 94) dX10_see_94 1 rfl rfl ?_
  refine j_callV_I hC hR (ctX2_situations hC.l hC.cn 1 isG_1 F t7 v1) kc_RX10_165 (Nat.le_of_ble_eq_true rfl) (Nat.le_of_ble_eq_true rfl) lX_1 (Nat.le_of_ble_eq_true rfl) rfl (As := [.int v1]) (rest := [.ref (gad Γ 0)]) rfl rfl (Nat.le_of_ble_eq_true rfl) hm (pc := 95) dX10_see_95 (fun t8 => ?_)
  refine j_callV_E hC hR (ctX10_give hC.l hC.cn t7 t8) kc_RX10_132 (Nat.le_of_ble_eq_true rfl) (Nat.le_of_ble_eq_true rfl) lX_0 (Nat.le_of_ble_eq_true rfl) rfl (As := [.int t8]) (rest := []) rfl rfl (Nat.le_of_ble_eq_true rfl) hm (pc := 98) dX10_see_98 (fun t9 => ?_)
  exact j_iret hC (pc := 101) dX10_see_101 rfl rfl rfl
set_option maxRecDepth 20000 in
theorem wX10_see {Γ : JCtx} (hC : jC Γ cX10_see 5 RX10 (some .int) layX 147) (hR : gR Γ = rmH 4) (hm : gcells Γ ≤ (gR Γ).cells ∧ gslots Γ ≤ (gR Γ).slots) (F : Nat) (κ : Mem) (v1 : Int32) (v2 : Int32) (v3 : Int32) : JP Γ (qf Γ oE) (pX10_see F κ v1 v2 v3) κ 0 [(0, .ref (gad Γ 0)), (1, .int v1), (2, .int v2), (3, .int v3)] [] := by
  unfold pX10_see
  refine j_aload_n hC (pc := 0) dX10_see_0 0 rfl rfl ?_
  refine j_iload_n hC (pc := 1) dX10_see_1 1 rfl rfl ?_
  refine j_iload_n hC (pc := 2) dX10_see_2 2 rfl rfl ?_
  refine j_callV_I hC hR (ctX10_pairTrouble hC.l hC.cn κ v1 v2) kc_RX10_221 (Nat.le_of_ble_eq_true rfl) (Nat.le_of_ble_eq_true rfl) lX_0 (Nat.le_of_ble_eq_true rfl) rfl (As := [.int v1, .int v2]) (rest := []) rfl rfl (Nat.le_of_ble_eq_true rfl) hm (pc := 3) dX10_see_3 (fun t1 => ?_)
  refine j_istore hC (pc := 6) dX10_see_6 (Nat.le_of_ble_eq_true rfl) (loc' := [(4, .int t1), (0, .ref (gad Γ 0)), (1, .int v1), (2, .int v2), (3, .int v3)]) rfl ?_
  refine j_iload hC (pc := 8) dX10_see_8 0 rfl ?_
  refine j_if_eq hC (pc := 10) dX10_see_10 (tgt := 20) rfl ?_ ?_
  · refine j_aload_n hC (pc := 20) dX10_see_20 1 rfl rfl ?_
    refine j_getR hC (pc := 21) dX10_see_21 kf_RX10_10 lX_0 (Nat.le_of_ble_eq_true rfl) rfl ?_
    refine j_iload_n hC (pc := 24) dX10_see_24 2 rfl rfl ?_
    refine j_iload_n hC (pc := 25) dX10_see_25 3 rfl rfl ?_
    refine j_callV_I hC hR (ctX2_watches hC.l hC.cn 1 isG_1 κ v1 v2) kc_RX10_197 (Nat.le_of_ble_eq_true rfl) (Nat.le_of_ble_eq_true rfl) lX_1 (Nat.le_of_ble_eq_true rfl) rfl (As := [.int v1, .int v2]) (rest := []) rfl rfl (Nat.le_of_ble_eq_true rfl) hm (pc := 26) dX10_see_26 (fun t2 => ?_)
    refine j_iload_n hC (pc := 29) dX10_see_29 4 rfl rfl ?_
    refine j_icmp_ne hC (pc := 30) dX10_see_30 (tgt := 39) rfl ?_ ?_
    · refine j_aload_n hC (pc := 33) dX10_see_33 1 rfl rfl ?_
      refine j_iconst hC (pc := 34) dX10_see_34 ki_4 ?_
      refine j_callV_E hC hR (ctX10_refuse hC.l hC.cn κ 4) kc_RX10_105 (Nat.le_of_ble_eq_true rfl) (Nat.le_of_ble_eq_true rfl) lX_0 (Nat.le_of_ble_eq_true rfl) rfl (As := [.int 4]) (rest := []) rfl rfl (Nat.le_of_ble_eq_true rfl) hm (pc := 35) dX10_see_35 (fun t3 => ?_)
      exact j_iret hC (pc := 38) dX10_see_38 rfl rfl rfl
    · refine j_aload_n hC (pc := 39) dX10_see_39 1 rfl rfl ?_
      refine j_getR hC (pc := 40) dX10_see_40 kf_RX10_58 lX_0 (Nat.le_of_ble_eq_true rfl) rfl ?_
      refine j_aload_n hC (pc := 43) dX10_see_43 1 rfl rfl ?_
      refine j_getR hC (pc := 44) dX10_see_44 kf_RX10_10 lX_0 (Nat.le_of_ble_eq_true rfl) rfl ?_
      refine j_callV_V hC hR (ctX3_note hC.l hC.cn 1 isG_1 κ) kc_RX10_335 (Nat.le_of_ble_eq_true rfl) (Nat.le_of_ble_eq_true rfl) lX_135 (Nat.le_of_ble_eq_true rfl) rfl (As := [.ref (gad Γ 1)]) (rest := []) rfl rfl (Nat.le_of_ble_eq_true rfl) hm (pc := 47) dX10_see_47 (fun t4 => ?_)
      refine j_iload_n hC (pc := 50) dX10_see_50 4 rfl rfl ?_
      refine j_if_eq hC (pc := 51) dX10_see_51 (tgt := 66) rfl ?_ ?_
      · refine j_aload_n hC (pc := 66) dX10_see_66 1 rfl rfl ?_
        refine j_getR hC (pc := 67) dX10_see_67 kf_RX10_42 lX_0 (Nat.le_of_ble_eq_true rfl) rfl ?_
        refine j_iload_n hC (pc := 70) dX10_see_70 2 rfl rfl ?_
        refine j_iload_n hC (pc := 71) dX10_see_71 3 rfl rfl ?_
        refine j_callV_V hC hR (ctX0_closeEyes hC.l hC.cn F t4 v1 v2) kc_RX10_365 (Nat.le_of_ble_eq_true rfl) (Nat.le_of_ble_eq_true rfl) lX_58 (Nat.le_of_ble_eq_true rfl) rfl (As := [.int v1, .int v2]) (rest := []) rfl rfl (Nat.le_of_ble_eq_true rfl) hm (pc := 72) dX10_see_72 (fun t5 => ?_)
        refine j_sub [1, 2] (loc' := [(0, .ref (gad Γ 0)), (1, .int v1)]) rfl ?_
        exact wX10_see_75 hC hR hm F t5 v1
      · refine j_aload_n hC (pc := 54) dX10_see_54 1 rfl rfl ?_
        refine j_getR hC (pc := 55) dX10_see_55 kf_RX10_42 lX_0 (Nat.le_of_ble_eq_true rfl) rfl ?_
        refine j_iload_n hC (pc := 58) dX10_see_58 2 rfl rfl ?_
        refine j_iload_n hC (pc := 59) dX10_see_59 3 rfl rfl ?_
        refine j_callV_V hC hR (ctX0_openEyes hC.l hC.cn F t4 v1 v2) kc_RX10_361 (Nat.le_of_ble_eq_true rfl) (Nat.le_of_ble_eq_true rfl) lX_58 (Nat.le_of_ble_eq_true rfl) rfl (As := [.int v1, .int v2]) (rest := []) rfl rfl (Nat.le_of_ble_eq_true rfl) hm (pc := 60) dX10_see_60 (fun t10 => ?_)
        refine j_goto hC (pc := 63) dX10_see_63 (tgt := 75) rfl ?_
        refine j_sub [1, 2] (loc' := [(0, .ref (gad Γ 0)), (1, .int v1)]) rfl ?_
        exact wX10_see_75 hC hR hm F t10 v1
  · refine j_aload_n hC (pc := 13) dX10_see_13 1 rfl rfl ?_
    refine j_iload hC (pc := 14) dX10_see_14 0 rfl ?_
    refine j_callV_E hC hR (ctX10_refuse hC.l hC.cn κ t1) kc_RX10_105 (Nat.le_of_ble_eq_true rfl) (Nat.le_of_ble_eq_true rfl) lX_0 (Nat.le_of_ble_eq_true rfl) rfl (As := [.int t1]) (rest := []) rfl rfl (Nat.le_of_ble_eq_true rfl) hm (pc := 16) dX10_see_16 (fun t11 => ?_)
    exact j_iret hC (pc := 19) dX10_see_19 rfl rfl rfl
theorem ctX10_see {Δ : DCtx} {l : Launch} (hl : dlay Δ = layX) (hN : dN Δ = 147) (F : Nat) (κ : Mem) (v1 : Int32) (v2 : Int32) (v3 : Int32) : ∀ r, pX10_see F κ v1 v2 v3 = some r → CT Δ l yX10_see cX10_see 5 (some .int) (rmH 4) [.ref (dad Δ 0), .int v1, .int v2, .int v3] κ (some (.int r.1)) r.2 :=
  ct_of (nL := 5) (ret := (some .int)) (lay := layX) (N := 147) (by decide +kernel) (fun Δ => [.ref (dad Δ 0), .int v1, .int v2, .int v3]) (fun _ => oE) (fun _ => (Nat.le_of_ble_eq_true rfl)) (fun Γ hR hm hC => wX10_see hC hR hm F κ v1 v2 v3) Δ l hl hN
set_option maxRecDepth 20000 in
theorem wX10_shuffle {Γ : JCtx} (hC : jC Γ cX10_shuffle 2 RX10 (some .int) layX 147) (hR : gR Γ = rmH 3) (hm : gcells Γ ≤ (gR Γ).cells ∧ gslots Γ ≤ (gR Γ).slots) (F : Nat) (κ : Mem) (v1 : Int32) : JP Γ (qf Γ oE) (pX10_shuffle F κ v1) κ 0 [(0, .ref (gad Γ 0)), (1, .int v1)] [] := by
  unfold pX10_shuffle
  refine j_aload_n hC (pc := 0) dX10_shuffle_0 0 rfl rfl ?_
  refine j_iload_n hC (pc := 1) dX10_shuffle_1 1 rfl rfl ?_
  refine j_callV_I hC hR (ctX10_noSeed hC.l hC.cn κ v1) kc_RX10_301 (Nat.le_of_ble_eq_true rfl) (Nat.le_of_ble_eq_true rfl) lX_0 (Nat.le_of_ble_eq_true rfl) rfl (As := [.int v1]) (rest := []) rfl rfl (Nat.le_of_ble_eq_true rfl) hm (pc := 2) dX10_shuffle_2 (fun t1 => ?_)
  refine j_if_eq hC (pc := 5) dX10_shuffle_5 (tgt := 14) rfl ?_ ?_
  · refine j_aload_n hC (pc := 14) dX10_shuffle_14 0 rfl rfl ?_
    refine j_getR hC (pc := 15) dX10_shuffle_15 kf_RX10_10 lX_0 (Nat.le_of_ble_eq_true rfl) rfl ?_
    refine j_getI hC (pc := 18) dX10_shuffle_18 kf_RX10_129 lX_1 (Nat.le_of_ble_eq_true rfl) rfl ?_
    refine j_if_ne hC (pc := 21) dX10_shuffle_21 (tgt := 30) rfl ?_ ?_
    · refine j_aload_n hC (pc := 24) dX10_shuffle_24 0 rfl rfl ?_
      refine j_iconst hC (pc := 25) dX10_shuffle_25 ki_5 ?_
      refine j_callV_E hC hR (ctX10_refuse hC.l hC.cn κ 5) kc_RX10_105 (Nat.le_of_ble_eq_true rfl) (Nat.le_of_ble_eq_true rfl) lX_0 (Nat.le_of_ble_eq_true rfl) rfl (As := [.int 5]) (rest := []) rfl rfl (Nat.le_of_ble_eq_true rfl) hm (pc := 26) dX10_shuffle_26 (fun t2 => ?_)
      exact j_iret hC (pc := 29) dX10_shuffle_29 rfl rfl rfl
    · refine j_aload_n hC (pc := 30) dX10_shuffle_30 0 rfl rfl ?_
      refine j_getR hC (pc := 31) dX10_shuffle_31 kf_RX10_58 lX_0 (Nat.le_of_ble_eq_true rfl) rfl ?_
      refine j_aload_n hC (pc := 34) dX10_shuffle_34 0 rfl rfl ?_
      refine j_getR hC (pc := 35) dX10_shuffle_35 kf_RX10_10 lX_0 (Nat.le_of_ble_eq_true rfl) rfl ?_
      refine j_callV_V hC hR (ctX3_note hC.l hC.cn 1 isG_1 κ) kc_RX10_335 (Nat.le_of_ble_eq_true rfl) (Nat.le_of_ble_eq_true rfl) lX_135 (Nat.le_of_ble_eq_true rfl) rfl (As := [.ref (gad Γ 1)]) (rest := []) rfl rfl (Nat.le_of_ble_eq_true rfl) hm (pc := 38) dX10_shuffle_38 (fun t3 => ?_)
      refine j_aload_n hC (pc := 41) dX10_shuffle_41 0 rfl rfl ?_
      refine j_getR hC (pc := 42) dX10_shuffle_42 kf_RX10_10 lX_0 (Nat.le_of_ble_eq_true rfl) rfl ?_
      refine j_iload_n hC (pc := 45) dX10_shuffle_45 1 rfl rfl ?_
      refine j_callV_V hC hR (ctX2_draw hC.l hC.cn 1 isG_1 F t3 v1) kc_RX10_304 (Nat.le_of_ble_eq_true rfl) (Nat.le_of_ble_eq_true rfl) lX_1 (Nat.le_of_ble_eq_true rfl) rfl (As := [.int v1]) (rest := []) rfl rfl (Nat.le_of_ble_eq_true rfl) hm (pc := 46) dX10_shuffle_46 (fun t4 => ?_)
      refine j_aload_n hC (pc := 49) dX10_shuffle_49 0 rfl rfl ?_
      refine j_getR hC (pc := 50) dX10_shuffle_50 kf_RX10_58 lX_0 (Nat.le_of_ble_eq_true rfl) rfl ?_
      refine j_callV_V hC hR (ctX3_keep hC.l hC.cn t4) kc_RX10_342 (Nat.le_of_ble_eq_true rfl) (Nat.le_of_ble_eq_true rfl) lX_135 (Nat.le_of_ble_eq_true rfl) rfl (As := []) (rest := []) rfl rfl (Nat.le_of_ble_eq_true rfl) hm (pc := 53) dX10_shuffle_53 (fun t5 => ?_)
      refine j_aload_n hC (pc := 56) dX10_shuffle_56 0 rfl rfl ?_
      refine j_getR hC (pc := 57) dX10_shuffle_57 kf_RX10_21 lX_0 (Nat.le_of_ble_eq_true rfl) rfl ?_
      refine j_callV_V hC hR (ctX1_judgeAll hC.l hC.cn F t5) kc_RX10_307 (Nat.le_of_ble_eq_true rfl) (Nat.le_of_ble_eq_true rfl) lX_41 (Nat.le_of_ble_eq_true rfl) rfl (As := []) (rest := []) rfl rfl (Nat.le_of_ble_eq_true rfl) hm (pc := 60) dX10_shuffle_60 (fun t6 => ?_)
      refine j_aload_n hC (pc := 63) dX10_shuffle_63 0 rfl rfl ?_
      refine j_aload_n hC (pc := 64) dX10_shuffle_64 0 rfl rfl ?_
      refine j_getR hC (pc := 65) dX10_shuffle_65 kf_RX10_21 lX_0 (Nat.le_of_ble_eq_true rfl) rfl ?_
      refine j_callV_I hC hR (ctX1_lostInAll hC.l hC.cn t6) kc_RX10_206 (Nat.le_of_ble_eq_true rfl) (Nat.le_of_ble_eq_true rfl) lX_41 (Nat.le_of_ble_eq_true rfl) rfl (As := []) (rest := [.ref (gad Γ 0)]) rfl rfl (Nat.le_of_ble_eq_true rfl) hm (pc := 68) dX10_shuffle_68 (fun t7 => ?_)
      refine j_callV_E hC hR (ctX10_give hC.l hC.cn t6 t7) kc_RX10_132 (Nat.le_of_ble_eq_true rfl) (Nat.le_of_ble_eq_true rfl) lX_0 (Nat.le_of_ble_eq_true rfl) rfl (As := [.int t7]) (rest := []) rfl rfl (Nat.le_of_ble_eq_true rfl) hm (pc := 71) dX10_shuffle_71 (fun t8 => ?_)
      exact j_iret hC (pc := 74) dX10_shuffle_74 rfl rfl rfl
  · refine j_aload_n hC (pc := 8) dX10_shuffle_8 0 rfl rfl ?_
    refine j_iconst hC (pc := 9) dX10_shuffle_9 ki_1 ?_
    refine j_callV_E hC hR (ctX10_refuse hC.l hC.cn κ 1) kc_RX10_105 (Nat.le_of_ble_eq_true rfl) (Nat.le_of_ble_eq_true rfl) lX_0 (Nat.le_of_ble_eq_true rfl) rfl (As := [.int 1]) (rest := []) rfl rfl (Nat.le_of_ble_eq_true rfl) hm (pc := 10) dX10_shuffle_10 (fun t9 => ?_)
    exact j_iret hC (pc := 13) dX10_shuffle_13 rfl rfl rfl
theorem ctX10_shuffle {Δ : DCtx} {l : Launch} (hl : dlay Δ = layX) (hN : dN Δ = 147) (F : Nat) (κ : Mem) (v1 : Int32) : ∀ r, pX10_shuffle F κ v1 = some r → CT Δ l yX10_shuffle cX10_shuffle 2 (some .int) (rmH 3) [.ref (dad Δ 0), .int v1] κ (some (.int r.1)) r.2 :=
  ct_of (nL := 2) (ret := (some .int)) (lay := layX) (N := 147) (by decide +kernel) (fun Δ => [.ref (dad Δ 0), .int v1]) (fun _ => oE) (fun _ => (Nat.le_of_ble_eq_true rfl)) (fun Γ hR hm hC => wX10_shuffle hC hR hm F κ v1) Δ l hl hN
set_option maxRecDepth 20000 in
theorem wX10_undo {Γ : JCtx} (hC : jC Γ cX10_undo 1 RX10 (some .int) layX 147) (hR : gR Γ = rmH 4) (hm : gcells Γ ≤ (gR Γ).cells ∧ gslots Γ ≤ (gR Γ).slots) (F : Nat) (κ : Mem) : JP Γ (qf Γ oE) (pX10_undo F κ) κ 0 [(0, .ref (gad Γ 0))] [] := by
  unfold pX10_undo
  refine j_aload_n hC (pc := 0) dX10_undo_0 0 rfl rfl ?_
  refine j_getR hC (pc := 1) dX10_undo_1 kf_RX10_58 lX_0 (Nat.le_of_ble_eq_true rfl) rfl ?_
  refine j_getI hC (pc := 4) dX10_undo_4 kf_RX10_145 lX_135 (Nat.le_of_ble_eq_true rfl) rfl ?_
  refine j_if_ne hC (pc := 7) dX10_undo_7 (tgt := 16) rfl ?_ ?_
  · refine j_aload_n hC (pc := 10) dX10_undo_10 0 rfl rfl ?_
    refine j_iconst hC (pc := 11) dX10_undo_11 ki_5 ?_
    refine j_callV_E hC hR (ctX10_refuse hC.l hC.cn κ 5) kc_RX10_105 (Nat.le_of_ble_eq_true rfl) (Nat.le_of_ble_eq_true rfl) lX_0 (Nat.le_of_ble_eq_true rfl) rfl (As := [.int 5]) (rest := []) rfl rfl (Nat.le_of_ble_eq_true rfl) hm (pc := 12) dX10_undo_12 (fun t1 => ?_)
    exact j_iret hC (pc := 15) dX10_undo_15 rfl rfl rfl
  · refine j_aload_n hC (pc := 16) dX10_undo_16 0 rfl rfl ?_
    refine j_getR hC (pc := 17) dX10_undo_17 kf_RX10_58 lX_0 (Nat.le_of_ble_eq_true rfl) rfl ?_
    refine j_aload_n hC (pc := 20) dX10_undo_20 0 rfl rfl ?_
    refine j_getR hC (pc := 21) dX10_undo_21 kf_RX10_10 lX_0 (Nat.le_of_ble_eq_true rfl) rfl ?_
    refine j_callV_V hC hR (ctX3_goBack hC.l hC.cn 1 isG_1 κ) kc_RX10_368 (Nat.le_of_ble_eq_true rfl) (Nat.le_of_ble_eq_true rfl) lX_135 (Nat.le_of_ble_eq_true rfl) rfl (As := [.ref (gad Γ 1)]) (rest := []) rfl rfl (Nat.le_of_ble_eq_true rfl) hm (pc := 24) dX10_undo_24 (fun t2 => ?_)
    refine j_aload_n hC (pc := 27) dX10_undo_27 0 rfl rfl ?_
    refine j_getR hC (pc := 28) dX10_undo_28 kf_RX10_21 lX_0 (Nat.le_of_ble_eq_true rfl) rfl ?_
    refine j_callV_V hC hR (ctX1_arrange hC.l hC.cn F t2) kc_RX10_126 (Nat.le_of_ble_eq_true rfl) (Nat.le_of_ble_eq_true rfl) lX_41 (Nat.le_of_ble_eq_true rfl) rfl (As := []) (rest := []) rfl rfl (Nat.le_of_ble_eq_true rfl) hm (pc := 31) dX10_undo_31 (fun t3 => ?_)
    refine j_aload_n hC (pc := 34) dX10_undo_34 0 rfl rfl ?_
    refine j_aload_n hC (pc := 35) dX10_undo_35 0 rfl rfl ?_
    refine j_getR hC (pc := 36) dX10_undo_36 kf_RX10_58 lX_0 (Nat.le_of_ble_eq_true rfl) rfl ?_
    refine j_getI hC (pc := 39) dX10_undo_39 kf_RX10_145 lX_135 (Nat.le_of_ble_eq_true rfl) rfl ?_
    refine j_callV_E hC hR (ctX10_give hC.l hC.cn t3 (mi t3 135 2)) kc_RX10_132 (Nat.le_of_ble_eq_true rfl) (Nat.le_of_ble_eq_true rfl) lX_0 (Nat.le_of_ble_eq_true rfl) rfl (As := [.int (mi t3 135 2)]) (rest := []) rfl rfl (Nat.le_of_ble_eq_true rfl) hm (pc := 42) dX10_undo_42 (fun t4 => ?_)
    exact j_iret hC (pc := 45) dX10_undo_45 rfl rfl rfl
theorem ctX10_undo {Δ : DCtx} {l : Launch} (hl : dlay Δ = layX) (hN : dN Δ = 147) (F : Nat) (κ : Mem) : ∀ r, pX10_undo F κ = some r → CT Δ l yX10_undo cX10_undo 1 (some .int) (rmH 4) [.ref (dad Δ 0)] κ (some (.int r.1)) r.2 :=
  ct_of (nL := 1) (ret := (some .int)) (lay := layX) (N := 147) (by decide +kernel) (fun Δ => [.ref (dad Δ 0)]) (fun _ => oE) (fun _ => (Nat.le_of_ble_eq_true rfl)) (fun Γ hR hm hC => wX10_undo hC hR hm F κ) Δ l hl hN
set_option maxRecDepth 20000 in
theorem wX10_print_33 {Γ : JCtx} (hC : jC Γ cX10_print 1 RX10 (some .int) layX 147) (hR : gR Γ = rmH 7) (hm : gcells Γ ≤ (gR Γ).cells ∧ gslots Γ ≤ (gR Γ).slots) (F : Nat) (κ : Mem) (y0 : Int32) : JP Γ (qf Γ oE) (pX10_print_33 F κ y0) κ 33 [] [.int y0] := by
  unfold pX10_print_33
  exact j_iret hC (pc := 33) dX10_print_33 rfl rfl rfl
set_option maxRecDepth 20000 in
theorem wX10_print {Γ : JCtx} (hC : jC Γ cX10_print 1 RX10 (some .int) layX 147) (hR : gR Γ = rmH 7) (hm : gcells Γ ≤ (gR Γ).cells ∧ gslots Γ ≤ (gR Γ).slots) (F : Nat) (κ : Mem) : JP Γ (qf Γ oE) (pX10_print F κ) κ 0 [(0, .ref (gad Γ 0))] [] := by
  unfold pX10_print
  refine j_aload_n hC (pc := 0) dX10_print_0 0 rfl rfl ?_
  refine j_getR hC (pc := 1) dX10_print_1 kf_RX10_78 lX_0 (Nat.le_of_ble_eq_true rfl) rfl ?_
  refine j_aload_n hC (pc := 4) dX10_print_4 0 rfl rfl ?_
  refine j_getR hC (pc := 5) dX10_print_5 kf_RX10_10 lX_0 (Nat.le_of_ble_eq_true rfl) rfl ?_
  refine j_callV_E hC hR (ctX5_write hC.l hC.cn 1 isG_1 F κ) kc_RX10_371 (Nat.le_of_ble_eq_true rfl) (Nat.le_of_ble_eq_true rfl) lX_144 (Nat.le_of_ble_eq_true rfl) rfl (As := [.ref (gad Γ 1)]) (rest := []) rfl rfl (Nat.le_of_ble_eq_true rfl) hm (pc := 8) dX10_print_8 (fun t1 => ?_)
  refine j_if_eq hC (pc := 11) dX10_print_11 (tgt := 28) rfl ?_ ?_
  · refine j_aload_n hC (pc := 28) dX10_print_28 0 rfl rfl ?_
    refine j_iconst hC (pc := 29) dX10_print_29 ki_3 ?_
    refine j_callV_E hC hR (ctX10_refuse hC.l hC.cn t1.2 3) kc_RX10_105 (Nat.le_of_ble_eq_true rfl) (Nat.le_of_ble_eq_true rfl) lX_0 (Nat.le_of_ble_eq_true rfl) rfl (As := [.int 3]) (rest := []) rfl rfl (Nat.le_of_ble_eq_true rfl) hm (pc := 30) dX10_print_30 (fun t2 => ?_)
    refine j_sub [] (loc' := []) rfl ?_
    exact wX10_print_33 hC hR hm F t2.2 t2.1
  · refine j_aload_n hC (pc := 14) dX10_print_14 0 rfl rfl ?_
    refine j_aload_n hC (pc := 15) dX10_print_15 0 rfl rfl ?_
    refine j_getR hC (pc := 16) dX10_print_16 kf_RX10_78 lX_0 (Nat.le_of_ble_eq_true rfl) rfl ?_
    refine j_getI hC (pc := 19) dX10_print_19 kf_RX10_375 lX_144 (Nat.le_of_ble_eq_true rfl) rfl ?_
    refine j_callV_E hC hR (ctX10_give hC.l hC.cn t1.2 (mi t1.2 144 1)) kc_RX10_132 (Nat.le_of_ble_eq_true rfl) (Nat.le_of_ble_eq_true rfl) lX_0 (Nat.le_of_ble_eq_true rfl) rfl (As := [.int (mi t1.2 144 1)]) (rest := []) rfl rfl (Nat.le_of_ble_eq_true rfl) hm (pc := 22) dX10_print_22 (fun t3 => ?_)
    refine j_goto hC (pc := 25) dX10_print_25 (tgt := 33) rfl ?_
    refine j_sub [] (loc' := []) rfl ?_
    exact wX10_print_33 hC hR hm F t3.2 t3.1
theorem ctX10_print {Δ : DCtx} {l : Launch} (hl : dlay Δ = layX) (hN : dN Δ = 147) (F : Nat) (κ : Mem) : ∀ r, pX10_print F κ = some r → CT Δ l yX10_print cX10_print 1 (some .int) (rmH 7) [.ref (dad Δ 0)] κ (some (.int r.1)) r.2 :=
  ct_of (nL := 1) (ret := (some .int)) (lay := layX) (N := 147) (by decide +kernel) (fun Δ => [.ref (dad Δ 0)]) (fun _ => oE) (fun _ => (Nat.le_of_ble_eq_true rfl)) (fun Γ hR hm hC => wX10_print hC hR hm F κ) Δ l hl hN
set_option maxRecDepth 20000 in
theorem wX10_out_42 {Γ : JCtx} (hC : jC Γ cX10_out 2 RX10 (some .int) layX 147) (hR : gR Γ = rmH 1) (hm : gcells Γ ≤ (gR Γ).cells ∧ gslots Γ ≤ (gR Γ).slots) (κ : Mem) (y0 : Int32) : JP Γ (qf Γ oE) (pX10_out_42 κ y0) κ 42 [] [.int y0] := by
  unfold pX10_out_42
  exact j_iret hC (pc := 42) dX10_out_42 rfl rfl rfl
set_option maxRecDepth 20000 in
theorem wX10_out {Γ : JCtx} (hC : jC Γ cX10_out 2 RX10 (some .int) layX 147) (hR : gR Γ = rmH 1) (hm : gcells Γ ≤ (gR Γ).cells ∧ gslots Γ ≤ (gR Γ).slots) (κ : Mem) (v1 : Int32) : JP Γ (qf Γ oE) (pX10_out κ v1) κ 0 [(0, .ref (gad Γ 0)), (1, .int v1)] [] := by
  unfold pX10_out
  refine j_iload_n hC (pc := 0) dX10_out_0 1 rfl rfl ?_
  refine j_if_ge hC (pc := 1) dX10_out_1 (tgt := 10) rfl ?_ ?_
  · refine j_aload_n hC (pc := 4) dX10_out_4 0 rfl rfl ?_
    refine j_iconst hC (pc := 5) dX10_out_5 ki_1 ?_
    refine j_callV_E hC hR (ctX10_refuse hC.l hC.cn κ 1) kc_RX10_105 (Nat.le_of_ble_eq_true rfl) (Nat.le_of_ble_eq_true rfl) lX_0 (Nat.le_of_ble_eq_true rfl) rfl (As := [.int 1]) (rest := []) rfl rfl (Nat.le_of_ble_eq_true rfl) hm (pc := 6) dX10_out_6 (fun t1 => ?_)
    exact j_iret hC (pc := 9) dX10_out_9 rfl rfl rfl
  · refine j_iload_n hC (pc := 10) dX10_out_10 1 rfl rfl ?_
    refine j_aload_n hC (pc := 11) dX10_out_11 0 rfl rfl ?_
    refine j_getR hC (pc := 12) dX10_out_12 kf_RX10_78 lX_0 (Nat.le_of_ble_eq_true rfl) rfl ?_
    refine j_getI hC (pc := 15) dX10_out_15 kf_RX10_375 lX_144 (Nat.le_of_ble_eq_true rfl) rfl ?_
    refine j_icmp_lt hC (pc := 18) dX10_out_18 (tgt := 29) rfl ?_ ?_
    · refine j_aload_n hC (pc := 29) dX10_out_29 0 rfl rfl ?_
      refine j_aload_n hC (pc := 30) dX10_out_30 0 rfl rfl ?_
      refine j_getR hC (pc := 31) dX10_out_31 kf_RX10_78 lX_0 (Nat.le_of_ble_eq_true rfl) rfl ?_
      refine j_getD hC (pc := 34) dX10_out_34 kf_RX10_378 lX_144 (Nat.le_of_ble_eq_true rfl) rfl ?_
      refine j_ckP (fun hq2 => ?_)
      refine j_iload_n hC (pc := 37) dX10_out_37 1 rfl rfl ?_
      refine j_bald hC (pc := 38) dX10_out_38 (isPB_1 hq2) (isPB_2 hq2) ?_
      refine j_callV_E hC hR (ctX10_give hC.l hC.cn κ (mi κ (mr κ 144 0) v1.toNatClampNeg)) kc_RX10_132 (Nat.le_of_ble_eq_true rfl) (Nat.le_of_ble_eq_true rfl) lX_0 (Nat.le_of_ble_eq_true rfl) rfl (As := [.int (mi κ (mr κ 144 0) v1.toNatClampNeg)]) (rest := []) rfl rfl (Nat.le_of_ble_eq_true rfl) hm (pc := 39) dX10_out_39 (fun t3 => ?_)
      refine j_sub [] (loc' := []) rfl ?_
      exact wX10_out_42 hC hR hm t3.2 t3.1
    · refine j_aload_n hC (pc := 21) dX10_out_21 0 rfl rfl ?_
      refine j_iconst hC (pc := 22) dX10_out_22 ki_5 ?_
      refine j_callV_E hC hR (ctX10_refuse hC.l hC.cn κ 5) kc_RX10_105 (Nat.le_of_ble_eq_true rfl) (Nat.le_of_ble_eq_true rfl) lX_0 (Nat.le_of_ble_eq_true rfl) rfl (As := [.int 5]) (rest := []) rfl rfl (Nat.le_of_ble_eq_true rfl) hm (pc := 23) dX10_out_23 (fun t4 => ?_)
      refine j_goto hC (pc := 26) dX10_out_26 (tgt := 42) rfl ?_
      refine j_sub [] (loc' := []) rfl ?_
      exact wX10_out_42 hC hR hm t4.2 t4.1
theorem ctX10_out {Δ : DCtx} {l : Launch} (hl : dlay Δ = layX) (hN : dN Δ = 147) (κ : Mem) (v1 : Int32) : ∀ r, pX10_out κ v1 = some r → CT Δ l yX10_out cX10_out 2 (some .int) (rmH 1) [.ref (dad Δ 0), .int v1] κ (some (.int r.1)) r.2 :=
  ct_of (nL := 2) (ret := (some .int)) (lay := layX) (N := 147) (by decide +kernel) (fun Δ => [.ref (dad Δ 0), .int v1]) (fun _ => oE) (fun _ => (Nat.le_of_ble_eq_true rfl)) (fun Γ hR hm hC => wX10_out hC hR hm κ v1) Δ l hl hN
