set_option maxRecDepth 20000 in
theorem wX11_status {Γ : JCtx} (hC : jC Γ cX11_status 1 RX11 (some .int) layM 15) (hR : gR Γ = rmH 0) (hm : gcells Γ ≤ (gR Γ).cells ∧ gslots Γ ≤ (gR Γ).slots) (κ : Mem) : JP Γ (qf Γ oE) (pX11_status κ) κ 0 [(0, .ref (gad Γ 0))] [] := by
  unfold pX11_status
  refine j_aload_n hC (pc := 0) dX11_status_0 0 rfl rfl ?_
  refine j_iconst hC (pc := 1) dX11_status_1 ki_0 ?_
  refine j_putI hC (pc := 2) dX11_status_2 kp_RX11_82 lM_0 (Nat.le_of_ble_eq_true rfl) rfl rfl rfl (fun κ1 => ?_)
  refine j_aload_n hC (pc := 5) dX11_status_5 0 rfl rfl ?_
  refine j_getI hC (pc := 6) dX11_status_6 kf_RX11_85 lM_0 (Nat.le_of_ble_eq_true rfl) rfl ?_
  exact j_iret hC (pc := 9) dX11_status_9 rfl rfl rfl
theorem ctX11_status {Δ : DCtx} {l : Launch} (hl : dlay Δ = layM) (hN : dN Δ = 15) (κ : Mem) : ∀ r, pX11_status κ = some r → CT Δ l yX11_status cX11_status 1 (some .int) (rmH 0) [.ref (dad Δ 0)] κ (some (.int r.1)) r.2 :=
  ct_of (nL := 1) (ret := (some .int)) (lay := layM) (N := 15) (by decide +kernel) (fun Δ => [.ref (dad Δ 0)]) (fun _ => oE) (fun _ => (Nat.le_of_ble_eq_true rfl)) (fun Γ hR hm hC => wX11_status hC hR hm κ) Δ l hl hN
set_option maxRecDepth 20000 in
theorem wX11_refuse {Γ : JCtx} (hC : jC Γ cX11_refuse 2 RX11 (some .int) layM 15) (hR : gR Γ = rmH 0) (hm : gcells Γ ≤ (gR Γ).cells ∧ gslots Γ ≤ (gR Γ).slots) (κ : Mem) (v1 : Int32) : JP Γ (qf Γ oE) (pX11_refuse κ v1) κ 0 [(0, .ref (gad Γ 0)), (1, .int v1)] [] := by
  unfold pX11_refuse
  refine j_aload_n hC (pc := 0) dX11_refuse_0 0 rfl rfl ?_
  refine j_iload_n hC (pc := 1) dX11_refuse_1 1 rfl rfl ?_
  refine j_putI hC (pc := 2) dX11_refuse_2 kp_RX11_85 lM_0 (Nat.le_of_ble_eq_true rfl) rfl rfl rfl (fun κ1 => ?_)
  refine j_iconst hC (pc := 5) dX11_refuse_5 ki_m1 ?_
  exact j_iret hC (pc := 6) dX11_refuse_6 rfl rfl rfl
theorem ctX11_refuse {Δ : DCtx} {l : Launch} (hl : dlay Δ = layM) (hN : dN Δ = 15) (κ : Mem) (v1 : Int32) : ∀ r, pX11_refuse κ v1 = some r → CT Δ l yX11_refuse cX11_refuse 2 (some .int) (rmH 0) [.ref (dad Δ 0), .int v1] κ (some (.int r.1)) r.2 :=
  ct_of (nL := 2) (ret := (some .int)) (lay := layM) (N := 15) (by decide +kernel) (fun Δ => [.ref (dad Δ 0), .int v1]) (fun _ => oE) (fun _ => (Nat.le_of_ble_eq_true rfl)) (fun Γ hR hm hC => wX11_refuse hC hR hm κ v1) Δ l hl hN
set_option maxRecDepth 20000 in
theorem wX11_is_19 {Γ : JCtx} (hC : jC Γ cX11_is 2 RX11 (some .boolean) layM 15) (hR : gR Γ = rmH 0) (hm : gcells Γ ≤ (gR Γ).cells ∧ gslots Γ ≤ (gR Γ).slots) (κ : Mem) (y0 : Int32) : JP Γ (qf Γ oE) (pX11_is_19 κ y0) κ 19 [] [.int y0] := by
  unfold pX11_is_19
  refine j_ckP (fun hq3 => ?_)
  exact j_iret hC (pc := 19) dX11_is_19 rfl (isB_n hq3) rfl
set_option maxRecDepth 20000 in
theorem wX11_is {Γ : JCtx} (hC : jC Γ cX11_is 2 RX11 (some .boolean) layM 15) (hR : gR Γ = rmH 0) (hm : gcells Γ ≤ (gR Γ).cells ∧ gslots Γ ≤ (gR Γ).slots) (κ : Mem) (v1 : Int32) : JP Γ (qf Γ oE) (pX11_is κ v1) κ 0 [(0, .ref (gad Γ 0)), (1, .int v1)] [] := by
  unfold pX11_is
  refine j_aload_n hC (pc := 0) dX11_is_0 0 rfl rfl ?_
  refine j_iconst hC (pc := 1) dX11_is_1 ki_0 ?_
  refine j_putI hC (pc := 2) dX11_is_2 kp_RX11_82 lM_0 (Nat.le_of_ble_eq_true rfl) rfl rfl rfl (fun κ1 => ?_)
  refine j_aload_n hC (pc := 5) dX11_is_5 0 rfl rfl ?_
  refine j_iload_n hC (pc := 6) dX11_is_6 1 rfl rfl ?_
  refine j_putI hC (pc := 7) dX11_is_7 kp_RX11_85 lM_0 (Nat.le_of_ble_eq_true rfl) rfl rfl rfl (fun κ2 => ?_)
  refine j_iload_n hC (pc := 10) dX11_is_10 1 rfl rfl ?_
  refine j_if_ne hC (pc := 11) dX11_is_11 (tgt := 18) rfl ?_ ?_
  · refine j_iconst hC (pc := 14) dX11_is_14 ki_1 ?_
    refine j_goto hC (pc := 15) dX11_is_15 (tgt := 19) rfl ?_
    refine j_sub [] (loc' := []) rfl ?_
    exact wX11_is_19 hC hR hm κ2 1
  · refine j_iconst hC (pc := 18) dX11_is_18 ki_0 ?_
    refine j_sub [] (loc' := []) rfl ?_
    exact wX11_is_19 hC hR hm κ2 0
theorem ctX11_is {Δ : DCtx} {l : Launch} (hl : dlay Δ = layM) (hN : dN Δ = 15) (κ : Mem) (v1 : Int32) : ∀ r, pX11_is κ v1 = some r → CT Δ l yX11_is cX11_is 2 (some .boolean) (rmH 0) [.ref (dad Δ 0), .int v1] κ (some (.int r.1)) r.2 :=
  ct_of (nL := 2) (ret := (some .boolean)) (lay := layM) (N := 15) (by decide +kernel) (fun Δ => [.ref (dad Δ 0), .int v1]) (fun _ => oE) (fun _ => (Nat.le_of_ble_eq_true rfl)) (fun Γ hR hm hC => wX11_is hC hR hm κ v1) Δ l hl hN
set_option maxRecDepth 20000 in
theorem wX11_isIn_18 {Γ : JCtx} (hC : jC Γ cX11_isIn 6 RX11 (some .boolean) layM 15) (hR : gR Γ = rmH 0) (hm : gcells Γ ≤ (gR Γ).cells ∧ gslots Γ ≤ (gR Γ).slots) (κ : Mem) (y0 : Int32) : JP Γ (qf Γ (oI κ)) (pX11_isIn_18 κ y0) κ 18 [] [.int y0] := by
  unfold pX11_isIn_18
  refine j_ckP (fun hq1 => ?_)
  exact j_iret hC (pc := 18) dX11_isIn_18 rfl (isB_n hq1) rfl
set_option maxRecDepth 20000 in
theorem wX11_isIn_17 {Γ : JCtx} (hC : jC Γ cX11_isIn 6 RX11 (some .boolean) layM 15) (hR : gR Γ = rmH 0) (hm : gcells Γ ≤ (gR Γ).cells ∧ gslots Γ ≤ (gR Γ).slots) (κ : Mem) : JP Γ (qf Γ (oI κ)) (pX11_isIn_17 κ) κ 17 [] [] := by
  unfold pX11_isIn_17
  refine j_iconst hC (pc := 17) dX11_isIn_17 ki_0 ?_
  exact wX11_isIn_18 hC hR hm κ 0
set_option maxRecDepth 20000 in
theorem wX11_isIn {Γ : JCtx} (hC : jC Γ cX11_isIn 6 RX11 (some .boolean) layM 15) (hR : gR Γ = rmH 0) (hm : gcells Γ ≤ (gR Γ).cells ∧ gslots Γ ≤ (gR Γ).slots) (κ : Mem) (v0 : Int64) (v2 : Int64) (v4 : Int64) : JP Γ (qf Γ (oI κ)) (pX11_isIn κ v0 v2 v4) κ 0 [(0, .long v0), (2, .long v2), (4, .long v4)] [] := by
  unfold pX11_isIn
  refine j_lload_n hC (pc := 0) dX11_isIn_0 0 rfl rfl ?_
  refine j_lload_n hC (pc := 1) dX11_isIn_1 1 rfl rfl ?_
  refine j_lcmp hC (pc := 2) dX11_isIn_2 ?_
  refine j_if_lt hC (pc := 3) dX11_isIn_3 (tgt := 17) rfl ?_ ?_
  · refine j_sub [] (loc' := []) rfl ?_
    exact wX11_isIn_17 hC hR hm κ
  · refine j_lload_n hC (pc := 6) dX11_isIn_6 0 rfl rfl ?_
    refine j_lload hC (pc := 7) dX11_isIn_7 2 rfl ?_
    refine j_lcmp hC (pc := 9) dX11_isIn_9 ?_
    refine j_if_gt hC (pc := 10) dX11_isIn_10 (tgt := 17) rfl ?_ ?_
    · refine j_iconst hC (pc := 13) dX11_isIn_13 ki_1 ?_
      refine j_goto hC (pc := 14) dX11_isIn_14 (tgt := 18) rfl ?_
      refine j_sub [] (loc' := []) rfl ?_
      exact wX11_isIn_18 hC hR hm κ 1
    · refine j_sub [] (loc' := []) rfl ?_
      exact wX11_isIn_17 hC hR hm κ
theorem ctX11_isIn {Δ : DCtx} {l : Launch} (hl : dlay Δ = layM) (hN : dN Δ = 15) (κ : Mem) (v0 : Int64) (v2 : Int64) (v4 : Int64) : ∀ r, pX11_isIn κ v0 v2 v4 = some r → CT Δ l yX11_isIn cX11_isIn 6 (some .boolean) (rmH 0) [.long v0, .long v2, .long v4] κ (some (.int r)) κ :=
  ct_of (nL := 6) (ret := (some .boolean)) (lay := layM) (N := 15) (by decide +kernel) (fun Δ => [.long v0, .long v2, .long v4]) (fun _ => oI κ) (fun _ => (Nat.le_of_ble_eq_true rfl)) (fun Γ hR hm hC => wX11_isIn hC hR hm κ v0 v2 v4) Δ l hl hN
set_option maxRecDepth 20000 in
theorem wX11_has_14 {Γ : JCtx} (hC : jC Γ cX11_has 2 RX11 (some .boolean) layM 15) (hR : gR Γ = rmH 0) (hm : gcells Γ ≤ (gR Γ).cells ∧ gslots Γ ≤ (gR Γ).slots) (κ : Mem) (y0 : Int32) : JP Γ (qf Γ (oI κ)) (pX11_has_14 κ y0) κ 14 [] [.int y0] := by
  unfold pX11_has_14
  refine j_ckP (fun hq1 => ?_)
  exact j_iret hC (pc := 14) dX11_has_14 rfl (isB_n hq1) rfl
set_option maxRecDepth 20000 in
theorem wX11_has {Γ : JCtx} (hC : jC Γ cX11_has 2 RX11 (some .boolean) layM 15) (hR : gR Γ = rmH 0) (hm : gcells Γ ≤ (gR Γ).cells ∧ gslots Γ ≤ (gR Γ).slots) (κ : Mem) (v0 : Int32) (v1 : Int32) : JP Γ (qf Γ (oI κ)) (pX11_has κ v0 v1) κ 0 [(0, .int v0), (1, .int v1)] [] := by
  unfold pX11_has
  refine j_iload_n hC (pc := 0) dX11_has_0 0 rfl rfl ?_
  refine j_iload_n hC (pc := 1) dX11_has_1 1 rfl rfl ?_
  refine j_ishr hC (pc := 2) dX11_has_2 ?_
  refine j_iconst hC (pc := 3) dX11_has_3 ki_1 ?_
  refine j_iand hC (pc := 4) dX11_has_4 ?_
  refine j_iconst hC (pc := 5) dX11_has_5 ki_1 ?_
  refine j_icmp_ne hC (pc := 6) dX11_has_6 (tgt := 13) rfl ?_ ?_
  · refine j_iconst hC (pc := 9) dX11_has_9 ki_1 ?_
    refine j_goto hC (pc := 10) dX11_has_10 (tgt := 14) rfl ?_
    refine j_sub [] (loc' := []) rfl ?_
    exact wX11_has_14 hC hR hm κ 1
  · refine j_iconst hC (pc := 13) dX11_has_13 ki_0 ?_
    refine j_sub [] (loc' := []) rfl ?_
    exact wX11_has_14 hC hR hm κ 0
theorem ctX11_has {Δ : DCtx} {l : Launch} (hl : dlay Δ = layM) (hN : dN Δ = 15) (κ : Mem) (v0 : Int32) (v1 : Int32) : ∀ r, pX11_has κ v0 v1 = some r → CT Δ l yX11_has cX11_has 2 (some .boolean) (rmH 0) [.int v0, .int v1] κ (some (.int r)) κ :=
  ct_of (nL := 2) (ret := (some .boolean)) (lay := layM) (N := 15) (by decide +kernel) (fun Δ => [.int v0, .int v1]) (fun _ => oI κ) (fun _ => (Nat.le_of_ble_eq_true rfl)) (fun Γ hR hm hC => wX11_has hC hR hm κ v0 v1) Δ l hl hN
set_option maxRecDepth 20000 in
theorem wX11_ones_4 {Γ : JCtx} (hC : jC Γ cX11_ones 3 RX11 (some .int) layM 15) (hR : gR Γ = rmH 0) (hm : gcells Γ ≤ (gR Γ).cells ∧ gslots Γ ≤ (gR Γ).slots) (F : Nat) (κ : Mem) (v0 : Int32) : ∀ (n : Nat) (v1 : Int32) (v2 : Int32), JP Γ (qf Γ (oI κ)) (pX11_ones_4 F κ v0 n v1 v2) κ 4 [(0, .int v0), (1, .int v1), (2, .int v2)] [] := by
  intro n
  induction n with
  | zero =>
    intro v1 v2
    rw [pX11_ones_4]
    exact j_none
  | succ fu ih =>
    intro v1 v2
    rw [pX11_ones_4]
    refine j_iload_n hC (pc := 4) dX11_ones_4 2 rfl rfl ?_
    refine j_bipush hC (pc := 5) dX11_ones_5 kb_6 ?_
    refine j_icmp_ge hC (pc := 7) dX11_ones_7 (tgt := 24) rfl ?_ ?_
    · refine j_iload_n hC (pc := 10) dX11_ones_10 1 rfl rfl ?_
      refine j_iload_n hC (pc := 11) dX11_ones_11 0 rfl rfl ?_
      refine j_iload_n hC (pc := 12) dX11_ones_12 2 rfl rfl ?_
      refine j_ishr hC (pc := 13) dX11_ones_13 ?_
      refine j_iconst hC (pc := 14) dX11_ones_14 ki_1 ?_
      refine j_iand hC (pc := 15) dX11_ones_15 ?_
      refine j_iadd hC (pc := 16) dX11_ones_16 ?_
      refine j_nmi (fun x1 => ?_)
      refine j_istore_n hC (pc := 17) dX11_ones_17 rfl (Nat.le_of_ble_eq_true rfl) (loc' := [(1, .int x1), (0, .int v0), (2, .int v2)]) rfl ?_
      refine j_iinc hC (pc := 18) dX11_ones_18 2 rfl ki_1 (Nat.le_of_ble_eq_true rfl) (loc' := [(2, .int (v2 + 1)), (1, .int x1), (0, .int v0)]) rfl ?_
      refine j_goto hC (pc := 21) dX11_ones_21 (tgt := 4) rfl ?_
      refine j_sub [2, 1, 0] (loc' := [(0, .int v0), (1, .int x1), (2, .int (v2 + 1))]) rfl ?_
      exact ih x1 (v2 + 1)
    · refine j_iload_n hC (pc := 24) dX11_ones_24 1 rfl rfl ?_
      exact j_iret hC (pc := 25) dX11_ones_25 rfl rfl rfl
set_option maxRecDepth 20000 in
theorem wX11_ones {Γ : JCtx} (hC : jC Γ cX11_ones 3 RX11 (some .int) layM 15) (hR : gR Γ = rmH 0) (hm : gcells Γ ≤ (gR Γ).cells ∧ gslots Γ ≤ (gR Γ).slots) (F : Nat) (κ : Mem) (v0 : Int32) : JP Γ (qf Γ (oI κ)) (pX11_ones F κ v0) κ 0 [(0, .int v0)] [] := by
  unfold pX11_ones
  refine j_iconst hC (pc := 0) dX11_ones_0 ki_0 ?_
  refine j_istore_n hC (pc := 1) dX11_ones_1 rfl (Nat.le_of_ble_eq_true rfl) (loc' := [(1, .int 0), (0, .int v0)]) rfl ?_
  refine j_iconst hC (pc := 2) dX11_ones_2 ki_0 ?_
  refine j_istore_n hC (pc := 3) dX11_ones_3 rfl (Nat.le_of_ble_eq_true rfl) (loc' := [(2, .int 0), (1, .int 0), (0, .int v0)]) rfl ?_
  refine j_sub [2, 1, 0] (loc' := [(0, .int v0), (1, .int 0), (2, .int 0)]) rfl ?_
  exact wX11_ones_4 hC hR hm F κ v0 F 0 0
theorem ctX11_ones {Δ : DCtx} {l : Launch} (hl : dlay Δ = layM) (hN : dN Δ = 15) (F : Nat) (κ : Mem) (v0 : Int32) : ∀ r, pX11_ones F κ v0 = some r → CT Δ l yX11_ones cX11_ones 3 (some .int) (rmH 0) [.int v0] κ (some (.int r)) κ :=
  ct_of (nL := 3) (ret := (some .int)) (lay := layM) (N := 15) (by decide +kernel) (fun Δ => [.int v0]) (fun _ => oI κ) (fun _ => (Nat.le_of_ble_eq_true rfl)) (fun Γ hR hm hC => wX11_ones hC hR hm F κ v0) Δ l hl hN
set_option maxRecDepth 20000 in
theorem wX11_players {Γ : JCtx} (hC : jC Γ cX11_players 1 RX11 (some .int) layM 15) (hR : gR Γ = rmH 0) (hm : gcells Γ ≤ (gR Γ).cells ∧ gslots Γ ≤ (gR Γ).slots) (κ : Mem) : JP Γ (qf Γ (oI κ)) (pX11_players κ) κ 0 [(0, .ref (gad Γ 0))] [] := by
  unfold pX11_players
  refine j_aload_n hC (pc := 0) dX11_players_0 0 rfl rfl ?_
  refine j_getR hC (pc := 1) dX11_players_1 kf_RX11_7 lM_0 (Nat.le_of_ble_eq_true rfl) rfl ?_
  refine j_iconst hC (pc := 4) dX11_players_4 ki_0 ?_
  refine j_iald hC (pc := 5) dX11_players_5 lM_1 (Nat.le_of_ble_eq_true rfl) ?_
  exact j_iret hC (pc := 6) dX11_players_6 rfl rfl rfl
theorem ctX11_players {Δ : DCtx} {l : Launch} (hl : dlay Δ = layM) (hN : dN Δ = 15) (κ : Mem) : ∀ r, pX11_players κ = some r → CT Δ l yX11_players cX11_players 1 (some .int) (rmH 0) [.ref (dad Δ 0)] κ (some (.int r)) κ :=
  ct_of (nL := 1) (ret := (some .int)) (lay := layM) (N := 15) (by decide +kernel) (fun Δ => [.ref (dad Δ 0)]) (fun _ => oI κ) (fun _ => (Nat.le_of_ble_eq_true rfl)) (fun Γ hR hm hC => wX11_players hC hR hm κ) Δ l hl hN
set_option maxRecDepth 20000 in
theorem wX11_hats {Γ : JCtx} (hC : jC Γ cX11_hats 2 RX11 (some .int) layM 15) (hR : gR Γ = rmH 0) (hm : gcells Γ ≤ (gR Γ).cells ∧ gslots Γ ≤ (gR Γ).slots) (κ : Mem) (v1 : Int32) : JP Γ (qf Γ (oI κ)) (pX11_hats κ v1) κ 0 [(0, .ref (gad Γ 0)), (1, .int v1)] [] := by
  unfold pX11_hats
  refine j_aload_n hC (pc := 0) dX11_hats_0 0 rfl rfl ?_
  refine j_getR hC (pc := 1) dX11_hats_1 kf_RX11_7 lM_0 (Nat.le_of_ble_eq_true rfl) rfl ?_
  refine j_iconst hC (pc := 4) dX11_hats_4 ki_1 ?_
  refine j_iload_n hC (pc := 5) dX11_hats_5 1 rfl rfl ?_
  refine j_iadd hC (pc := 6) dX11_hats_6 ?_
  refine j_iald hC (pc := 7) dX11_hats_7 lM_1 (Nat.le_of_ble_eq_true rfl) ?_
  exact j_iret hC (pc := 8) dX11_hats_8 rfl rfl rfl
theorem ctX11_hats {Δ : DCtx} {l : Launch} (hl : dlay Δ = layM) (hN : dN Δ = 15) (κ : Mem) (v1 : Int32) : ∀ r, pX11_hats κ v1 = some r → CT Δ l yX11_hats cX11_hats 2 (some .int) (rmH 0) [.ref (dad Δ 0), .int v1] κ (some (.int r)) κ :=
  ct_of (nL := 2) (ret := (some .int)) (lay := layM) (N := 15) (by decide +kernel) (fun Δ => [.ref (dad Δ 0), .int v1]) (fun _ => oI κ) (fun _ => (Nat.le_of_ble_eq_true rfl)) (fun Γ hR hm hC => wX11_hats hC hR hm κ v1) Δ l hl hN
set_option maxRecDepth 20000 in
theorem wX11_sees {Γ : JCtx} (hC : jC Γ cX11_sees 3 RX11 (some .boolean) layM 15) (hR : gR Γ = rmH 1) (hm : gcells Γ ≤ (gR Γ).cells ∧ gslots Γ ≤ (gR Γ).slots) (κ : Mem) (v1 : Int32) (v2 : Int32) : JP Γ (qf Γ (oI κ)) (pX11_sees κ v1 v2) κ 0 [(0, .ref (gad Γ 0)), (1, .int v1), (2, .int v2)] [] := by
  unfold pX11_sees
  refine j_aload_n hC (pc := 0) dX11_sees_0 0 rfl rfl ?_
  refine j_getR hC (pc := 1) dX11_sees_1 kf_RX11_7 lM_0 (Nat.le_of_ble_eq_true rfl) rfl ?_
  refine j_bipush hC (pc := 4) dX11_sees_4 kb_7 ?_
  refine j_iload_n hC (pc := 6) dX11_sees_6 1 rfl rfl ?_
  refine j_iadd hC (pc := 7) dX11_sees_7 ?_
  refine j_iald hC (pc := 8) dX11_sees_8 lM_1 (Nat.le_of_ble_eq_true rfl) ?_
  refine j_iload_n hC (pc := 9) dX11_sees_9 2 rfl rfl ?_
  refine j_callS_I hC hR (ctX11_has hC.l hC.cn κ (mi κ 1 (7 + v1).toNatClampNeg) v2) kc_RX11_88 (Nat.le_of_ble_eq_true rfl) (Nat.le_of_ble_eq_true rfl) (As := [.int (mi κ 1 (7 + v1).toNatClampNeg), .int v2]) (rest := []) rfl rfl (Nat.le_of_ble_eq_true rfl) hm (pc := 10) dX11_sees_10 (fun t1 => ?_)
  refine j_ckP (fun hq2 => ?_)
  exact j_iret hC (pc := 13) dX11_sees_13 rfl (isB_n hq2) rfl
theorem ctX11_sees {Δ : DCtx} {l : Launch} (hl : dlay Δ = layM) (hN : dN Δ = 15) (κ : Mem) (v1 : Int32) (v2 : Int32) : ∀ r, pX11_sees κ v1 v2 = some r → CT Δ l yX11_sees cX11_sees 3 (some .boolean) (rmH 1) [.ref (dad Δ 0), .int v1, .int v2] κ (some (.int r)) κ :=
  ct_of (nL := 3) (ret := (some .boolean)) (lay := layM) (N := 15) (by decide +kernel) (fun Δ => [.ref (dad Δ 0), .int v1, .int v2]) (fun _ => oI κ) (fun _ => (Nat.le_of_ble_eq_true rfl)) (fun Γ hR hm hC => wX11_sees hC hR hm κ v1 v2) Δ l hl hN
set_option maxRecDepth 20000 in
theorem wX11_all {Γ : JCtx} (hC : jC Γ cX11_all 1 RX11 (some .int) layM 15) (hR : gR Γ = rmH 0) (hm : gcells Γ ≤ (gR Γ).cells ∧ gslots Γ ≤ (gR Γ).slots) (κ : Mem) : JP Γ (qf Γ (oI κ)) (pX11_all κ) κ 0 [(0, .ref (gad Γ 0))] [] := by
  unfold pX11_all
  refine j_iconst hC (pc := 0) dX11_all_0 ki_1 ?_
  refine j_aload_n hC (pc := 1) dX11_all_1 0 rfl rfl ?_
  refine j_getR hC (pc := 2) dX11_all_2 kf_RX11_7 lM_0 (Nat.le_of_ble_eq_true rfl) rfl ?_
  refine j_iconst hC (pc := 5) dX11_all_5 ki_0 ?_
  refine j_iald hC (pc := 6) dX11_all_6 lM_1 (Nat.le_of_ble_eq_true rfl) ?_
  refine j_ishl hC (pc := 7) dX11_all_7 ?_
  refine j_iconst hC (pc := 8) dX11_all_8 ki_1 ?_
  refine j_isub hC (pc := 9) dX11_all_9 ?_
  exact j_iret hC (pc := 10) dX11_all_10 rfl rfl rfl
theorem ctX11_all {Δ : DCtx} {l : Launch} (hl : dlay Δ = layM) (hN : dN Δ = 15) (κ : Mem) : ∀ r, pX11_all κ = some r → CT Δ l yX11_all cX11_all 1 (some .int) (rmH 0) [.ref (dad Δ 0)] κ (some (.int r)) κ :=
  ct_of (nL := 1) (ret := (some .int)) (lay := layM) (N := 15) (by decide +kernel) (fun Δ => [.ref (dad Δ 0)]) (fun _ => oI κ) (fun _ => (Nat.le_of_ble_eq_true rfl)) (fun Γ hR hm hC => wX11_all hC hR hm κ) Δ l hl hN
set_option maxRecDepth 20000 in
theorem wX11_isPlayer {Γ : JCtx} (hC : jC Γ cX11_isPlayer 2 RX11 (some .boolean) layM 15) (hR : gR Γ = rmH 1) (hm : gcells Γ ≤ (gR Γ).cells ∧ gslots Γ ≤ (gR Γ).slots) (κ : Mem) (v1 : Int32) : JP Γ (qf Γ (oI κ)) (pX11_isPlayer κ v1) κ 0 [(0, .ref (gad Γ 0)), (1, .int v1)] [] := by
  unfold pX11_isPlayer
  refine j_iload_n hC (pc := 0) dX11_isPlayer_0 1 rfl rfl ?_
  refine j_i2l hC (pc := 1) dX11_isPlayer_1 ?_
  refine j_lconst hC (pc := 2) dX11_isPlayer_2 rfl ?_
  refine j_aload_n hC (pc := 3) dX11_isPlayer_3 0 rfl rfl ?_
  refine j_getR hC (pc := 4) dX11_isPlayer_4 kf_RX11_7 lM_0 (Nat.le_of_ble_eq_true rfl) rfl ?_
  refine j_iconst hC (pc := 7) dX11_isPlayer_7 ki_0 ?_
  refine j_iald hC (pc := 8) dX11_isPlayer_8 lM_1 (Nat.le_of_ble_eq_true rfl) ?_
  refine j_iconst hC (pc := 9) dX11_isPlayer_9 ki_1 ?_
  refine j_isub hC (pc := 10) dX11_isPlayer_10 ?_
  refine j_i2l hC (pc := 11) dX11_isPlayer_11 ?_
  refine j_callS_I hC hR (ctX11_isIn hC.l hC.cn κ v1.toInt64 0 (((mi κ 1 (0 : Int32).toNatClampNeg) - 1).toInt64)) kc_RX11_92 (Nat.le_of_ble_eq_true rfl) (Nat.le_of_ble_eq_true rfl) (As := [.long (v1.toInt64), .long 0, .long (((mi κ 1 (0 : Int32).toNatClampNeg) - 1).toInt64)]) (rest := []) rfl rfl (Nat.le_of_ble_eq_true rfl) hm (pc := 12) dX11_isPlayer_12 (fun t1 => ?_)
  refine j_ckP (fun hq2 => ?_)
  exact j_iret hC (pc := 15) dX11_isPlayer_15 rfl (isB_n hq2) rfl
theorem ctX11_isPlayer {Δ : DCtx} {l : Launch} (hl : dlay Δ = layM) (hN : dN Δ = 15) (κ : Mem) (v1 : Int32) : ∀ r, pX11_isPlayer κ v1 = some r → CT Δ l yX11_isPlayer cX11_isPlayer 2 (some .boolean) (rmH 1) [.ref (dad Δ 0), .int v1] κ (some (.int r)) κ :=
  ct_of (nL := 2) (ret := (some .boolean)) (lay := layM) (N := 15) (by decide +kernel) (fun Δ => [.ref (dad Δ 0), .int v1]) (fun _ => oI κ) (fun _ => (Nat.le_of_ble_eq_true rfl)) (fun Γ hR hm hC => wX11_isPlayer hC hR hm κ v1) Δ l hl hN
set_option maxRecDepth 20000 in
theorem wX11_isSet {Γ : JCtx} (hC : jC Γ cX11_isSet 2 RX11 (some .boolean) layM 15) (hR : gR Γ = rmH 1) (hm : gcells Γ ≤ (gR Γ).cells ∧ gslots Γ ≤ (gR Γ).slots) (κ : Mem) (v1 : Int32) : JP Γ (qf Γ (oI κ)) (pX11_isSet κ v1) κ 0 [(0, .ref (gad Γ 0)), (1, .int v1)] [] := by
  unfold pX11_isSet
  refine j_iload_n hC (pc := 0) dX11_isSet_0 1 rfl rfl ?_
  refine j_i2l hC (pc := 1) dX11_isSet_1 ?_
  refine j_lconst hC (pc := 2) dX11_isSet_2 rfl ?_
  refine j_aload_n hC (pc := 3) dX11_isSet_3 0 rfl rfl ?_
  refine j_callV_I hC hR (ctX11_all hC.l hC.cn κ) kc_RX11_96 (Nat.le_of_ble_eq_true rfl) (Nat.le_of_ble_eq_true rfl) lM_0 (Nat.le_of_ble_eq_true rfl) rfl (As := []) (rest := [.long 1, .long (v1.toInt64)]) rfl rfl (Nat.le_of_ble_eq_true rfl) hm (pc := 4) dX11_isSet_4 (fun t1 => ?_)
  refine j_i2l hC (pc := 7) dX11_isSet_7 ?_
  refine j_callS_I hC hR (ctX11_isIn hC.l hC.cn κ v1.toInt64 1 t1.toInt64) kc_RX11_92 (Nat.le_of_ble_eq_true rfl) (Nat.le_of_ble_eq_true rfl) (As := [.long (v1.toInt64), .long 1, .long (t1.toInt64)]) (rest := []) rfl rfl (Nat.le_of_ble_eq_true rfl) hm (pc := 8) dX11_isSet_8 (fun t2 => ?_)
  refine j_ckP (fun hq3 => ?_)
  exact j_iret hC (pc := 11) dX11_isSet_11 rfl (isB_n hq3) rfl
theorem ctX11_isSet {Δ : DCtx} {l : Launch} (hl : dlay Δ = layM) (hN : dN Δ = 15) (κ : Mem) (v1 : Int32) : ∀ r, pX11_isSet κ v1 = some r → CT Δ l yX11_isSet cX11_isSet 2 (some .boolean) (rmH 1) [.ref (dad Δ 0), .int v1] κ (some (.int r)) κ :=
  ct_of (nL := 2) (ret := (some .boolean)) (lay := layM) (N := 15) (by decide +kernel) (fun Δ => [.ref (dad Δ 0), .int v1]) (fun _ => oI κ) (fun _ => (Nat.le_of_ble_eq_true rfl)) (fun Γ hR hm hC => wX11_isSet hC hR hm κ v1) Δ l hl hN
set_option maxRecDepth 20000 in
theorem wX11_entry {Γ : JCtx} (hC : jC Γ cX11_entry 3 RX11 (some .int) layM 15) (hR : gR Γ = rmH 0) (hm : gcells Γ ≤ (gR Γ).cells ∧ gslots Γ ≤ (gR Γ).slots) (κ : Mem) (v1 : Int32) (v2 : Int32) : JP Γ (qf Γ (oI κ)) (pX11_entry κ v1 v2) κ 0 [(0, .ref (gad Γ 0)), (1, .int v1), (2, .int v2)] [] := by
  unfold pX11_entry
  refine j_aload_n hC (pc := 0) dX11_entry_0 0 rfl rfl ?_
  refine j_getR hC (pc := 1) dX11_entry_1 kf_RX11_7 lM_0 (Nat.le_of_ble_eq_true rfl) rfl ?_
  refine j_bipush hC (pc := 4) dX11_entry_4 kb_13 ?_
  refine j_sipush hC (pc := 6) dX11_entry_6 ks_1024 ?_
  refine j_iload_n hC (pc := 9) dX11_entry_9 1 rfl rfl ?_
  refine j_imul hC (pc := 10) dX11_entry_10 ?_
  refine j_iadd hC (pc := 11) dX11_entry_11 ?_
  refine j_iload_n hC (pc := 12) dX11_entry_12 2 rfl rfl ?_
  refine j_iadd hC (pc := 13) dX11_entry_13 ?_
  refine j_iald hC (pc := 14) dX11_entry_14 lM_1 (Nat.le_of_ble_eq_true rfl) ?_
  exact j_iret hC (pc := 15) dX11_entry_15 rfl rfl rfl
theorem ctX11_entry {Δ : DCtx} {l : Launch} (hl : dlay Δ = layM) (hN : dN Δ = 15) (κ : Mem) (v1 : Int32) (v2 : Int32) : ∀ r, pX11_entry κ v1 v2 = some r → CT Δ l yX11_entry cX11_entry 3 (some .int) (rmH 0) [.ref (dad Δ 0), .int v1, .int v2] κ (some (.int r)) κ :=
  ct_of (nL := 3) (ret := (some .int)) (lay := layM) (N := 15) (by decide +kernel) (fun Δ => [.ref (dad Δ 0), .int v1, .int v2]) (fun _ => oI κ) (fun _ => (Nat.le_of_ble_eq_true rfl)) (fun Γ hR hm hC => wX11_entry hC hR hm κ v1 v2) Δ l hl hN
set_option maxRecDepth 20000 in
theorem wX11_enters {Γ : JCtx} (hC : jC Γ cX11_enters 4 RX11 none layM 15) (hR : gR Γ = rmH 0) (hm : gcells Γ ≤ (gR Γ).cells ∧ gslots Γ ≤ (gR Γ).slots) (κ : Mem) (v1 : Int32) (v2 : Int32) (v3 : Int32) : JP Γ (qf Γ oV) (pX11_enters κ v1 v2 v3) κ 0 [(0, .ref (gad Γ 0)), (1, .int v1), (2, .int v2), (3, .int v3)] [] := by
  unfold pX11_enters
  refine j_aload_n hC (pc := 0) dX11_enters_0 0 rfl rfl ?_
  refine j_getR hC (pc := 1) dX11_enters_1 kf_RX11_7 lM_0 (Nat.le_of_ble_eq_true rfl) rfl ?_
  refine j_bipush hC (pc := 4) dX11_enters_4 kb_13 ?_
  refine j_sipush hC (pc := 6) dX11_enters_6 ks_1024 ?_
  refine j_iload_n hC (pc := 9) dX11_enters_9 1 rfl rfl ?_
  refine j_imul hC (pc := 10) dX11_enters_10 ?_
  refine j_iadd hC (pc := 11) dX11_enters_11 ?_
  refine j_iload_n hC (pc := 12) dX11_enters_12 2 rfl rfl ?_
  refine j_iadd hC (pc := 13) dX11_enters_13 ?_
  refine j_iload_n hC (pc := 14) dX11_enters_14 3 rfl rfl ?_
  refine j_iast hC (pc := 15) dX11_enters_15 lM_1 (Nat.le_of_ble_eq_true rfl) (fun κ1 => ?_)
  exact j_vret hC (pc := 16) dX11_enters_16 rfl rfl
theorem ctX11_enters {Δ : DCtx} {l : Launch} (hl : dlay Δ = layM) (hN : dN Δ = 15) (κ : Mem) (v1 : Int32) (v2 : Int32) (v3 : Int32) : ∀ r, pX11_enters κ v1 v2 v3 = some r → CT Δ l yX11_enters cX11_enters 4 none (rmH 0) [.ref (dad Δ 0), .int v1, .int v2, .int v3] κ none r :=
  ct_of (nL := 4) (ret := none) (lay := layM) (N := 15) (by decide +kernel) (fun Δ => [.ref (dad Δ 0), .int v1, .int v2, .int v3]) (fun _ => oV) (fun _ => (Nat.le_of_ble_eq_true rfl)) (fun Γ hR hm hC => wX11_enters hC hR hm κ v1 v2 v3) Δ l hl hN
set_option maxRecDepth 20000 in
theorem wX11_colourings_14 {Γ : JCtx} (hC : jC Γ cX11_colourings 3 RX11 (some .int) layM 15) (hR : gR Γ = rmH 0) (hm : gcells Γ ≤ (gR Γ).cells ∧ gslots Γ ≤ (gR Γ).slots) (r0 : Nat) (hr0 : layM r0 = kIA (lenM r0)) (nr0 : r0 < 15) (F : Nat) (κ : Mem) : ∀ (n : Nat) (v1 : Int32) (v2 : Int32), JP Γ (qf Γ (oI κ)) (pX11_colourings_14 F r0 κ n v1 v2) κ 14 [(0, .ref (gad Γ r0)), (1, .int v1), (2, .int v2)] [] := by
  intro n
  induction n with
  | zero =>
    intro v1 v2
    rw [pX11_colourings_14]
    exact j_none
  | succ fu ih =>
    intro v1 v2
    rw [pX11_colourings_14]
    refine j_iload_n hC (pc := 14) dX11_colourings_14 2 rfl rfl ?_
    refine j_aload_n hC (pc := 15) dX11_colourings_15 0 rfl rfl ?_
    refine j_iconst hC (pc := 16) dX11_colourings_16 ki_0 ?_
    refine j_iald hC (pc := 17) dX11_colourings_17 hr0 nr0 ?_
    refine j_icmp_ge hC (pc := 18) dX11_colourings_18 (tgt := 35) rfl ?_ ?_
    · refine j_iload_n hC (pc := 21) dX11_colourings_21 1 rfl rfl ?_
      refine j_aload_n hC (pc := 22) dX11_colourings_22 0 rfl rfl ?_
      refine j_iconst hC (pc := 23) dX11_colourings_23 ki_1 ?_
      refine j_iload_n hC (pc := 24) dX11_colourings_24 2 rfl rfl ?_
      refine j_iadd hC (pc := 25) dX11_colourings_25 ?_
      refine j_iald hC (pc := 26) dX11_colourings_26 hr0 nr0 ?_
      refine j_imul hC (pc := 27) dX11_colourings_27 ?_
      refine j_nmi (fun x1 => ?_)
      refine j_istore_n hC (pc := 28) dX11_colourings_28 rfl (Nat.le_of_ble_eq_true rfl) (loc' := [(1, .int x1), (0, .ref (gad Γ r0)), (2, .int v2)]) rfl ?_
      refine j_iinc hC (pc := 29) dX11_colourings_29 2 rfl ki_1 (Nat.le_of_ble_eq_true rfl) (loc' := [(2, .int (v2 + 1)), (1, .int x1), (0, .ref (gad Γ r0))]) rfl ?_
      refine j_goto hC (pc := 32) dX11_colourings_32 (tgt := 14) rfl ?_
      refine j_sub [2, 1, 0] (loc' := [(0, .ref (gad Γ r0)), (1, .int x1), (2, .int (v2 + 1))]) rfl ?_
      exact ih x1 (v2 + 1)
    · refine j_iload_n hC (pc := 35) dX11_colourings_35 1 rfl rfl ?_
      exact j_iret hC (pc := 36) dX11_colourings_36 rfl rfl rfl
set_option maxRecDepth 20000 in
theorem wX11_colourings_11 {Γ : JCtx} (hC : jC Γ cX11_colourings 3 RX11 (some .int) layM 15) (hR : gR Γ = rmH 0) (hm : gcells Γ ≤ (gR Γ).cells ∧ gslots Γ ≤ (gR Γ).slots) (r0 : Nat) (hr0 : layM r0 = kIA (lenM r0)) (nr0 : r0 < 15) (F : Nat) (κ : Mem) (y0 : Int32) : JP Γ (qf Γ (oI κ)) (pX11_colourings_11 F r0 κ y0) κ 11 [(0, .ref (gad Γ r0))] [.int y0] := by
  unfold pX11_colourings_11
  refine j_istore_n hC (pc := 11) dX11_colourings_11 rfl (Nat.le_of_ble_eq_true rfl) (loc' := [(1, .int y0), (0, .ref (gad Γ r0))]) rfl ?_
  refine j_iconst hC (pc := 12) dX11_colourings_12 ki_0 ?_
  refine j_istore_n hC (pc := 13) dX11_colourings_13 rfl (Nat.le_of_ble_eq_true rfl) (loc' := [(2, .int 0), (1, .int y0), (0, .ref (gad Γ r0))]) rfl ?_
  refine j_sub [2, 1, 0] (loc' := [(0, .ref (gad Γ r0)), (1, .int y0), (2, .int 0)]) rfl ?_
  exact wX11_colourings_14 hC hR hm r0 hr0 nr0 F κ F y0 0
set_option maxRecDepth 20000 in
theorem wX11_colourings {Γ : JCtx} (hC : jC Γ cX11_colourings 3 RX11 (some .int) layM 15) (hR : gR Γ = rmH 0) (hm : gcells Γ ≤ (gR Γ).cells ∧ gslots Γ ≤ (gR Γ).slots) (r0 : Nat) (hr0 : layM r0 = kIA (lenM r0)) (nr0 : r0 < 15) (F : Nat) (κ : Mem) : JP Γ (qf Γ (oI κ)) (pX11_colourings F r0 κ) κ 0 [(0, .ref (gad Γ r0))] [] := by
  unfold pX11_colourings
  refine j_aload_n hC (pc := 0) dX11_colourings_0 0 rfl rfl ?_
  refine j_iconst hC (pc := 1) dX11_colourings_1 ki_0 ?_
  refine j_iald hC (pc := 2) dX11_colourings_2 hr0 nr0 ?_
  refine j_if_ne hC (pc := 3) dX11_colourings_3 (tgt := 10) rfl ?_ ?_
  · refine j_iconst hC (pc := 6) dX11_colourings_6 ki_0 ?_
    refine j_goto hC (pc := 7) dX11_colourings_7 (tgt := 11) rfl ?_
    exact wX11_colourings_11 hC hR hm r0 hr0 nr0 F κ 0
  · refine j_iconst hC (pc := 10) dX11_colourings_10 ki_1 ?_
    exact wX11_colourings_11 hC hR hm r0 hr0 nr0 F κ 1
theorem ctX11_colourings {Δ : DCtx} {l : Launch} (hl : dlay Δ = layM) (hN : dN Δ = 15) (r0 : Nat) (hr0 : layM r0 = kIA (lenM r0)) (nr0 : r0 < 15) (F : Nat) (κ : Mem) : ∀ r, pX11_colourings F r0 κ = some r → CT Δ l yX11_colourings cX11_colourings 3 (some .int) (rmH 0) [.ref (dad Δ r0)] κ (some (.int r)) κ :=
  ct_of (nL := 3) (ret := (some .int)) (lay := layM) (N := 15) (by decide +kernel) (fun Δ => [.ref (dad Δ r0)]) (fun _ => oI κ) (fun _ => (Nat.le_of_ble_eq_true rfl)) (fun Γ hR hm hC => wX11_colourings hC hR hm r0 hr0 nr0 F κ) Δ l hl hN
set_option maxRecDepth 20000 in
theorem wX11_colourings_ {Γ : JCtx} (hC : jC Γ cX11_colourings_ 1 RX11 (some .int) layM 15) (hR : gR Γ = rmH 1) (hm : gcells Γ ≤ (gR Γ).cells ∧ gslots Γ ≤ (gR Γ).slots) (F : Nat) (κ : Mem) : JP Γ (qf Γ (oI κ)) (pX11_colourings_ F κ) κ 0 [(0, .ref (gad Γ 0))] [] := by
  unfold pX11_colourings_
  refine j_aload_n hC (pc := 0) dX11_colourings__0 0 rfl rfl ?_
  refine j_getR hC (pc := 1) dX11_colourings__1 kf_RX11_7 lM_0 (Nat.le_of_ble_eq_true rfl) rfl ?_
  refine j_callS_I hC hR (ctX11_colourings hC.l hC.cn 1 (lenM_ok lM_1) (Nat.le_of_ble_eq_true rfl) F κ) kc_RX11_100 (Nat.le_of_ble_eq_true rfl) (Nat.le_of_ble_eq_true rfl) (As := [.ref (gad Γ 1)]) (rest := []) rfl rfl (Nat.le_of_ble_eq_true rfl) hm (pc := 4) dX11_colourings__4 (fun t1 => ?_)
  exact j_iret hC (pc := 7) dX11_colourings__7 rfl rfl rfl
theorem ctX11_colourings_ {Δ : DCtx} {l : Launch} (hl : dlay Δ = layM) (hN : dN Δ = 15) (F : Nat) (κ : Mem) : ∀ r, pX11_colourings_ F κ = some r → CT Δ l yX11_colourings_ cX11_colourings_ 1 (some .int) (rmH 1) [.ref (dad Δ 0)] κ (some (.int r)) κ :=
  ct_of (nL := 1) (ret := (some .int)) (lay := layM) (N := 15) (by decide +kernel) (fun Δ => [.ref (dad Δ 0)]) (fun _ => oI κ) (fun _ => (Nat.le_of_ble_eq_true rfl)) (fun Γ hR hm hC => wX11_colourings_ hC hR hm F κ) Δ l hl hN
set_option maxRecDepth 20000 in
theorem wX11_situations_34 {Γ : JCtx} (hC : jC Γ cX11_situations 4 RX11 (some .int) layM 15) (hR : gR Γ = rmH 1) (hm : gcells Γ ≤ (gR Γ).cells ∧ gslots Γ ≤ (gR Γ).slots) (r0 : Nat) (hr0 : layM r0 = kIA (lenM r0)) (nr0 : r0 < 15) (F : Nat) (κ : Mem) (v1 : Int32) (v3 : Int32) (y0 : Int32) (y1 : Int32) (k4 : Int32 → Int32 → Option Int32) (hk4 : ∀ (v2 : Int32) (v3 : Int32), JP Γ (qf Γ (oI κ)) (k4 v2 v3) κ 4 [(0, .ref (gad Γ r0)), (1, .int v1), (2, .int v2), (3, .int v3)] []) : JP Γ (qf Γ (oI κ)) (pX11_situations_34 F r0 κ k4 v1 v3 y0 y1) κ 34 [(0, .ref (gad Γ r0)), (1, .int v1), (3, .int v3)] [.int y0, .int y1] := by
  unfold pX11_situations_34
  refine j_imul hC (pc := 34) dX11_situations_34 ?_
  refine j_nmi (fun x2 => ?_)
  refine j_istore_n hC (pc := 35) dX11_situations_35 rfl (Nat.le_of_ble_eq_true rfl) (loc' := [(2, .int x2), (0, .ref (gad Γ r0)), (1, .int v1), (3, .int v3)]) rfl ?_
  refine j_iinc hC (pc := 36) dX11_situations_36 3 rfl ki_1 (Nat.le_of_ble_eq_true rfl) (loc' := [(3, .int (v3 + 1)), (2, .int x2), (0, .ref (gad Γ r0)), (1, .int v1)]) rfl ?_
  refine j_goto hC (pc := 39) dX11_situations_39 (tgt := 4) rfl ?_
  refine j_sub [2, 3, 1, 0] (loc' := [(0, .ref (gad Γ r0)), (1, .int v1), (2, .int x2), (3, .int (v3 + 1))]) rfl ?_
  exact hk4 x2 (v3 + 1)
set_option maxRecDepth 20000 in
theorem wX11_situations_4 {Γ : JCtx} (hC : jC Γ cX11_situations 4 RX11 (some .int) layM 15) (hR : gR Γ = rmH 1) (hm : gcells Γ ≤ (gR Γ).cells ∧ gslots Γ ≤ (gR Γ).slots) (r0 : Nat) (hr0 : layM r0 = kIA (lenM r0)) (nr0 : r0 < 15) (F : Nat) (κ : Mem) (v1 : Int32) : ∀ (n : Nat) (v2 : Int32) (v3 : Int32), JP Γ (qf Γ (oI κ)) (pX11_situations_4 F r0 κ v1 n v2 v3) κ 4 [(0, .ref (gad Γ r0)), (1, .int v1), (2, .int v2), (3, .int v3)] [] := by
  intro n
  induction n with
  | zero =>
    intro v2 v3
    rw [pX11_situations_4]
    exact j_none
  | succ fu ih =>
    intro v2 v3
    rw [pX11_situations_4]
    refine j_iload_n hC (pc := 4) dX11_situations_4 3 rfl rfl ?_
    refine j_aload_n hC (pc := 5) dX11_situations_5 0 rfl rfl ?_
    refine j_iconst hC (pc := 6) dX11_situations_6 ki_0 ?_
    refine j_iald hC (pc := 7) dX11_situations_7 hr0 nr0 ?_
    refine j_icmp_ge hC (pc := 8) dX11_situations_8 (tgt := 42) rfl ?_ ?_
    · refine j_iload_n hC (pc := 11) dX11_situations_11 2 rfl rfl ?_
      refine j_aload_n hC (pc := 12) dX11_situations_12 0 rfl rfl ?_
      refine j_bipush hC (pc := 13) dX11_situations_13 kb_7 ?_
      refine j_iload_n hC (pc := 15) dX11_situations_15 1 rfl rfl ?_
      refine j_iadd hC (pc := 16) dX11_situations_16 ?_
      refine j_iald hC (pc := 17) dX11_situations_17 hr0 nr0 ?_
      refine j_iload_n hC (pc := 18) dX11_situations_18 3 rfl rfl ?_
      refine j_callS_I hC hR (ctX11_has hC.l hC.cn κ (mi κ r0 (7 + v1).toNatClampNeg) v3) kc_RX11_88 (Nat.le_of_ble_eq_true rfl) (Nat.le_of_ble_eq_true rfl) (As := [.int (mi κ r0 (7 + v1).toNatClampNeg), .int v3]) (rest := [.int v2]) rfl rfl (Nat.le_of_ble_eq_true rfl) hm (pc := 19) dX11_situations_19 (fun t1 => ?_)
      refine j_if_eq hC (pc := 22) dX11_situations_22 (tgt := 33) rfl ?_ ?_
      · refine j_iconst hC (pc := 33) dX11_situations_33 ki_1 ?_
        refine j_sub [0, 1, 3] (loc' := [(0, .ref (gad Γ r0)), (1, .int v1), (3, .int v3)]) rfl ?_
        exact wX11_situations_34 hC hR hm r0 hr0 nr0 F κ v1 v3 1 v2 (pX11_situations_4 F r0 κ v1 fu) ih
      · refine j_aload_n hC (pc := 25) dX11_situations_25 0 rfl rfl ?_
        refine j_iconst hC (pc := 26) dX11_situations_26 ki_1 ?_
        refine j_iload_n hC (pc := 27) dX11_situations_27 3 rfl rfl ?_
        refine j_iadd hC (pc := 28) dX11_situations_28 ?_
        refine j_iald hC (pc := 29) dX11_situations_29 hr0 nr0 ?_
        refine j_goto hC (pc := 30) dX11_situations_30 (tgt := 34) rfl ?_
        refine j_sub [0, 1, 3] (loc' := [(0, .ref (gad Γ r0)), (1, .int v1), (3, .int v3)]) rfl ?_
        exact wX11_situations_34 hC hR hm r0 hr0 nr0 F κ v1 v3 (mi κ r0 (1 + v3).toNatClampNeg) v2 (pX11_situations_4 F r0 κ v1 fu) ih
    · refine j_iload_n hC (pc := 42) dX11_situations_42 2 rfl rfl ?_
      exact j_iret hC (pc := 43) dX11_situations_43 rfl rfl rfl
set_option maxRecDepth 20000 in
theorem wX11_situations {Γ : JCtx} (hC : jC Γ cX11_situations 4 RX11 (some .int) layM 15) (hR : gR Γ = rmH 1) (hm : gcells Γ ≤ (gR Γ).cells ∧ gslots Γ ≤ (gR Γ).slots) (r0 : Nat) (hr0 : layM r0 = kIA (lenM r0)) (nr0 : r0 < 15) (F : Nat) (κ : Mem) (v1 : Int32) : JP Γ (qf Γ (oI κ)) (pX11_situations F r0 κ v1) κ 0 [(0, .ref (gad Γ r0)), (1, .int v1)] [] := by
  unfold pX11_situations
  refine j_iconst hC (pc := 0) dX11_situations_0 ki_1 ?_
  refine j_istore_n hC (pc := 1) dX11_situations_1 rfl (Nat.le_of_ble_eq_true rfl) (loc' := [(2, .int 1), (0, .ref (gad Γ r0)), (1, .int v1)]) rfl ?_
  refine j_iconst hC (pc := 2) dX11_situations_2 ki_0 ?_
  refine j_istore_n hC (pc := 3) dX11_situations_3 rfl (Nat.le_of_ble_eq_true rfl) (loc' := [(3, .int 0), (2, .int 1), (0, .ref (gad Γ r0)), (1, .int v1)]) rfl ?_
  refine j_sub [2, 3, 1, 0] (loc' := [(0, .ref (gad Γ r0)), (1, .int v1), (2, .int 1), (3, .int 0)]) rfl ?_
  exact wX11_situations_4 hC hR hm r0 hr0 nr0 F κ v1 F 1 0
theorem ctX11_situations {Δ : DCtx} {l : Launch} (hl : dlay Δ = layM) (hN : dN Δ = 15) (r0 : Nat) (hr0 : layM r0 = kIA (lenM r0)) (nr0 : r0 < 15) (F : Nat) (κ : Mem) (v1 : Int32) : ∀ r, pX11_situations F r0 κ v1 = some r → CT Δ l yX11_situations cX11_situations 4 (some .int) (rmH 1) [.ref (dad Δ r0), .int v1] κ (some (.int r)) κ :=
  ct_of (nL := 4) (ret := (some .int)) (lay := layM) (N := 15) (by decide +kernel) (fun Δ => [.ref (dad Δ r0), .int v1]) (fun _ => oI κ) (fun _ => (Nat.le_of_ble_eq_true rfl)) (fun Γ hR hm hC => wX11_situations hC hR hm r0 hr0 nr0 F κ v1) Δ l hl hN
set_option maxRecDepth 20000 in
theorem wX11_situations_ {Γ : JCtx} (hC : jC Γ cX11_situations_ 2 RX11 (some .int) layM 15) (hR : gR Γ = rmH 2) (hm : gcells Γ ≤ (gR Γ).cells ∧ gslots Γ ≤ (gR Γ).slots) (F : Nat) (κ : Mem) (v1 : Int32) : JP Γ (qf Γ (oI κ)) (pX11_situations_ F κ v1) κ 0 [(0, .ref (gad Γ 0)), (1, .int v1)] [] := by
  unfold pX11_situations_
  refine j_aload_n hC (pc := 0) dX11_situations__0 0 rfl rfl ?_
  refine j_getR hC (pc := 1) dX11_situations__1 kf_RX11_7 lM_0 (Nat.le_of_ble_eq_true rfl) rfl ?_
  refine j_iload_n hC (pc := 4) dX11_situations__4 1 rfl rfl ?_
  refine j_callS_I hC hR (ctX11_situations hC.l hC.cn 1 (lenM_ok lM_1) (Nat.le_of_ble_eq_true rfl) F κ v1) kc_RX11_104 (Nat.le_of_ble_eq_true rfl) (Nat.le_of_ble_eq_true rfl) (As := [.ref (gad Γ 1), .int v1]) (rest := []) rfl rfl (Nat.le_of_ble_eq_true rfl) hm (pc := 5) dX11_situations__5 (fun t1 => ?_)
  exact j_iret hC (pc := 8) dX11_situations__8 rfl rfl rfl
theorem ctX11_situations_ {Δ : DCtx} {l : Launch} (hl : dlay Δ = layM) (hN : dN Δ = 15) (F : Nat) (κ : Mem) (v1 : Int32) : ∀ r, pX11_situations_ F κ v1 = some r → CT Δ l yX11_situations_ cX11_situations_ 2 (some .int) (rmH 2) [.ref (dad Δ 0), .int v1] κ (some (.int r)) κ :=
  ct_of (nL := 2) (ret := (some .int)) (lay := layM) (N := 15) (by decide +kernel) (fun Δ => [.ref (dad Δ 0), .int v1]) (fun _ => oI κ) (fun _ => (Nat.le_of_ble_eq_true rfl)) (fun Γ hR hm hC => wX11_situations_ hC hR hm F κ v1) Δ l hl hN
set_option maxRecDepth 20000 in
theorem wX11_lays_9 {Γ : JCtx} (hC : jC Γ cX11_lays 4 RX11 none layM 15) (hR : gR Γ = rmH 1) (hm : gcells Γ ≤ (gR Γ).cells ∧ gslots Γ ≤ (gR Γ).slots) (F : Nat) : ∀ (n : Nat) (κ : Mem) (v2 : Int32) (v3 : Int32), JP Γ (qf Γ oV) (pX11_lays_9 F n κ v2 v3) κ 9 [(0, .ref (gad Γ 0)), (2, .int v2), (3, .int v3)] [] := by
  intro n
  induction n with
  | zero =>
    intro κ v2 v3
    rw [pX11_lays_9]
    exact j_none
  | succ fu ih =>
    intro κ v2 v3
    rw [pX11_lays_9]
    refine j_iload_n hC (pc := 9) dX11_lays_9 2 rfl rfl ?_
    refine j_if_lt hC (pc := 10) dX11_lays_10 (tgt := 40) rfl ?_ ?_
    · exact j_vret hC (pc := 40) dX11_lays_40 rfl rfl
    · refine j_aload_n hC (pc := 13) dX11_lays_13 0 rfl rfl ?_
      refine j_getR hC (pc := 14) dX11_lays_14 kf_RX11_23 lM_0 (Nat.le_of_ble_eq_true rfl) rfl ?_
      refine j_iload_n hC (pc := 17) dX11_lays_17 2 rfl rfl ?_
      refine j_iload_n hC (pc := 18) dX11_lays_18 1 rfl rfl ?_
      refine j_aload_n hC (pc := 19) dX11_lays_19 0 rfl rfl ?_
      refine j_iload_n hC (pc := 20) dX11_lays_20 2 rfl rfl ?_
      refine j_callV_I hC hR (ctX11_hats hC.l hC.cn κ v3) kc_RX11_111 (Nat.le_of_ble_eq_true rfl) (Nat.le_of_ble_eq_true rfl) lM_0 (Nat.le_of_ble_eq_true rfl) rfl (As := [.int v3]) (rest := [.int v2, .int v3, .ref (gad Γ 5)]) rfl rfl (Nat.le_of_ble_eq_true rfl) hm (pc := 21) dX11_lays_21 (fun t3 => ?_)
      refine j_irem hC (pc := 24) dX11_lays_24 ?_
      refine j_iast hC (pc := 25) dX11_lays_25 lM_5 (Nat.le_of_ble_eq_true rfl) (fun κ4 => ?_)
      refine j_iload_n hC (pc := 26) dX11_lays_26 1 rfl rfl ?_
      refine j_aload_n hC (pc := 27) dX11_lays_27 0 rfl rfl ?_
      refine j_iload_n hC (pc := 28) dX11_lays_28 2 rfl rfl ?_
      refine j_callV_I hC hR (ctX11_hats hC.l hC.cn κ4 v3) kc_RX11_111 (Nat.le_of_ble_eq_true rfl) (Nat.le_of_ble_eq_true rfl) lM_0 (Nat.le_of_ble_eq_true rfl) rfl (As := [.int v3]) (rest := [.int v2]) rfl rfl (Nat.le_of_ble_eq_true rfl) hm (pc := 29) dX11_lays_29 (fun t5 => ?_)
      refine j_idiv hC (pc := 32) dX11_lays_32 ?_
      refine j_nmi (fun x6 => ?_)
      refine j_istore_n hC (pc := 33) dX11_lays_33 rfl (Nat.le_of_ble_eq_true rfl) (loc' := [(2, .int x6), (0, .ref (gad Γ 0)), (3, .int v3)]) rfl ?_
      refine j_iinc hC (pc := 34) dX11_lays_34 2 rfl ki_m1 (Nat.le_of_ble_eq_true rfl) (loc' := [(3, .int (v3 + (-1))), (2, .int x6), (0, .ref (gad Γ 0))]) rfl ?_
      refine j_goto hC (pc := 37) dX11_lays_37 (tgt := 9) rfl ?_
      refine j_sub [2, 1, 0] (loc' := [(0, .ref (gad Γ 0)), (2, .int x6), (3, .int (v3 + (-1)))]) rfl ?_
      exact ih κ4 x6 (v3 + (-1))
set_option maxRecDepth 20000 in
theorem wX11_lays {Γ : JCtx} (hC : jC Γ cX11_lays 4 RX11 none layM 15) (hR : gR Γ = rmH 1) (hm : gcells Γ ≤ (gR Γ).cells ∧ gslots Γ ≤ (gR Γ).slots) (F : Nat) (κ : Mem) (v1 : Int32) : JP Γ (qf Γ oV) (pX11_lays F κ v1) κ 0 [(0, .ref (gad Γ 0)), (1, .int v1)] [] := by
  unfold pX11_lays
  refine j_iload_n hC (pc := 0) dX11_lays_0 1 rfl rfl ?_
  refine j_istore_n hC (pc := 1) dX11_lays_1 rfl (Nat.le_of_ble_eq_true rfl) (loc' := [(2, .int v1), (0, .ref (gad Γ 0)), (1, .int v1)]) rfl ?_
  refine j_aload_n hC (pc := 2) dX11_lays_2 1 rfl rfl ?_
  refine j_callV_I hC hR (ctX11_players hC.l hC.cn κ) kc_RX11_108 (Nat.le_of_ble_eq_true rfl) (Nat.le_of_ble_eq_true rfl) lM_0 (Nat.le_of_ble_eq_true rfl) rfl (As := []) (rest := []) rfl rfl (Nat.le_of_ble_eq_true rfl) hm (pc := 3) dX11_lays_3 (fun t1 => ?_)
  refine j_iconst hC (pc := 6) dX11_lays_6 ki_1 ?_
  refine j_isub hC (pc := 7) dX11_lays_7 ?_
  refine j_nmi (fun x2 => ?_)
  refine j_istore_n hC (pc := 8) dX11_lays_8 rfl (Nat.le_of_ble_eq_true rfl) (loc' := [(3, .int x2), (2, .int v1), (0, .ref (gad Γ 0)), (1, .int v1)]) rfl ?_
  refine j_sub [2, 1, 0] (loc' := [(0, .ref (gad Γ 0)), (2, .int v1), (3, .int x2)]) rfl ?_
  exact wX11_lays_9 hC hR hm F F κ v1 x2
theorem ctX11_lays {Δ : DCtx} {l : Launch} (hl : dlay Δ = layM) (hN : dN Δ = 15) (F : Nat) (κ : Mem) (v1 : Int32) : ∀ r, pX11_lays F κ v1 = some r → CT Δ l yX11_lays cX11_lays 4 none (rmH 1) [.ref (dad Δ 0), .int v1] κ none r :=
  ct_of (nL := 4) (ret := none) (lay := layM) (N := 15) (by decide +kernel) (fun Δ => [.ref (dad Δ 0), .int v1]) (fun _ => oV) (fun _ => (Nat.le_of_ble_eq_true rfl)) (fun Γ hR hm hC => wX11_lays hC hR hm F κ v1) Δ l hl hN
set_option maxRecDepth 20000 in
theorem wX11_situationOf_39 {Γ : JCtx} (hC : jC Γ cX11_situationOf 4 RX11 (some .int) layM 15) (hR : gR Γ = rmH 2) (hm : gcells Γ ≤ (gR Γ).cells ∧ gslots Γ ≤ (gR Γ).slots) (F : Nat) (κ : Mem) (v1 : Int32) (v3 : Int32) (y0 : Int32) (k4 : Int32 → Int32 → Option Int32) (hk4 : ∀ (v2 : Int32) (v3 : Int32), JP Γ (qf Γ (oI κ)) (k4 v2 v3) κ 4 [(0, .ref (gad Γ 0)), (1, .int v1), (2, .int v2), (3, .int v3)] []) : JP Γ (qf Γ (oI κ)) (pX11_situationOf_39 F κ k4 v1 v3 y0) κ 39 [(0, .ref (gad Γ 0)), (1, .int v1), (3, .int v3)] [.int y0] := by
  unfold pX11_situationOf_39
  refine j_istore_n hC (pc := 39) dX11_situationOf_39 rfl (Nat.le_of_ble_eq_true rfl) (loc' := [(2, .int y0), (0, .ref (gad Γ 0)), (1, .int v1), (3, .int v3)]) rfl ?_
  refine j_iinc hC (pc := 40) dX11_situationOf_40 3 rfl ki_1 (Nat.le_of_ble_eq_true rfl) (loc' := [(3, .int (v3 + 1)), (2, .int y0), (0, .ref (gad Γ 0)), (1, .int v1)]) rfl ?_
  refine j_goto hC (pc := 43) dX11_situationOf_43 (tgt := 4) rfl ?_
  refine j_sub [2, 3, 1, 0] (loc' := [(0, .ref (gad Γ 0)), (1, .int v1), (2, .int y0), (3, .int (v3 + 1))]) rfl ?_
  exact hk4 y0 (v3 + 1)
set_option maxRecDepth 20000 in
theorem wX11_situationOf_4 {Γ : JCtx} (hC : jC Γ cX11_situationOf 4 RX11 (some .int) layM 15) (hR : gR Γ = rmH 2) (hm : gcells Γ ≤ (gR Γ).cells ∧ gslots Γ ≤ (gR Γ).slots) (F : Nat) (κ : Mem) (v1 : Int32) : ∀ (n : Nat) (v2 : Int32) (v3 : Int32), JP Γ (qf Γ (oI κ)) (pX11_situationOf_4 F κ v1 n v2 v3) κ 4 [(0, .ref (gad Γ 0)), (1, .int v1), (2, .int v2), (3, .int v3)] [] := by
  intro n
  induction n with
  | zero =>
    intro v2 v3
    rw [pX11_situationOf_4]
    exact j_none
  | succ fu ih =>
    intro v2 v3
    rw [pX11_situationOf_4]
    refine j_iload_n hC (pc := 4) dX11_situationOf_4 3 rfl rfl ?_
    refine j_aload_n hC (pc := 5) dX11_situationOf_5 0 rfl rfl ?_
    refine j_callV_I hC hR (ctX11_players hC.l hC.cn κ) kc_RX11_108 (Nat.le_of_ble_eq_true rfl) (Nat.le_of_ble_eq_true rfl) lM_0 (Nat.le_of_ble_eq_true rfl) rfl (As := []) (rest := [.int v3]) rfl rfl (Nat.le_of_ble_eq_true rfl) hm (pc := 6) dX11_situationOf_6 (fun t1 => ?_)
    refine j_icmp_ge hC (pc := 9) dX11_situationOf_9 (tgt := 46) rfl ?_ ?_
    · refine j_aload_n hC (pc := 12) dX11_situationOf_12 0 rfl rfl ?_
      refine j_iload_n hC (pc := 13) dX11_situationOf_13 1 rfl rfl ?_
      refine j_iload_n hC (pc := 14) dX11_situationOf_14 3 rfl rfl ?_
      refine j_callV_I hC hR (ctX11_sees hC.l hC.cn κ v1 v3) kc_RX11_115 (Nat.le_of_ble_eq_true rfl) (Nat.le_of_ble_eq_true rfl) lM_0 (Nat.le_of_ble_eq_true rfl) rfl (As := [.int v1, .int v3]) (rest := []) rfl rfl (Nat.le_of_ble_eq_true rfl) hm (pc := 15) dX11_situationOf_15 (fun t2 => ?_)
      refine j_if_eq hC (pc := 18) dX11_situationOf_18 (tgt := 38) rfl ?_ ?_
      · refine j_iload_n hC (pc := 38) dX11_situationOf_38 2 rfl rfl ?_
        refine j_sub [0, 1, 3] (loc' := [(0, .ref (gad Γ 0)), (1, .int v1), (3, .int v3)]) rfl ?_
        exact wX11_situationOf_39 hC hR hm F κ v1 v3 v2 (pX11_situationOf_4 F κ v1 fu) ih
      · refine j_iload_n hC (pc := 21) dX11_situationOf_21 2 rfl rfl ?_
        refine j_aload_n hC (pc := 22) dX11_situationOf_22 0 rfl rfl ?_
        refine j_iload_n hC (pc := 23) dX11_situationOf_23 3 rfl rfl ?_
        refine j_callV_I hC hR (ctX11_hats hC.l hC.cn κ v3) kc_RX11_111 (Nat.le_of_ble_eq_true rfl) (Nat.le_of_ble_eq_true rfl) lM_0 (Nat.le_of_ble_eq_true rfl) rfl (As := [.int v3]) (rest := [.int v2]) rfl rfl (Nat.le_of_ble_eq_true rfl) hm (pc := 24) dX11_situationOf_24 (fun t3 => ?_)
        refine j_imul hC (pc := 27) dX11_situationOf_27 ?_
        refine j_aload_n hC (pc := 28) dX11_situationOf_28 0 rfl rfl ?_
        refine j_getR hC (pc := 29) dX11_situationOf_29 kf_RX11_23 lM_0 (Nat.le_of_ble_eq_true rfl) rfl ?_
        refine j_iload_n hC (pc := 32) dX11_situationOf_32 3 rfl rfl ?_
        refine j_iald hC (pc := 33) dX11_situationOf_33 lM_5 (Nat.le_of_ble_eq_true rfl) ?_
        refine j_iadd hC (pc := 34) dX11_situationOf_34 ?_
        refine j_goto hC (pc := 35) dX11_situationOf_35 (tgt := 39) rfl ?_
        refine j_sub [0, 1, 3] (loc' := [(0, .ref (gad Γ 0)), (1, .int v1), (3, .int v3)]) rfl ?_
        exact wX11_situationOf_39 hC hR hm F κ v1 v3 ((v2 * t3) + (mi κ 5 v3.toNatClampNeg)) (pX11_situationOf_4 F κ v1 fu) ih
    · refine j_iload_n hC (pc := 46) dX11_situationOf_46 2 rfl rfl ?_
      exact j_iret hC (pc := 47) dX11_situationOf_47 rfl rfl rfl
set_option maxRecDepth 20000 in
theorem wX11_situationOf {Γ : JCtx} (hC : jC Γ cX11_situationOf 4 RX11 (some .int) layM 15) (hR : gR Γ = rmH 2) (hm : gcells Γ ≤ (gR Γ).cells ∧ gslots Γ ≤ (gR Γ).slots) (F : Nat) (κ : Mem) (v1 : Int32) : JP Γ (qf Γ (oI κ)) (pX11_situationOf F κ v1) κ 0 [(0, .ref (gad Γ 0)), (1, .int v1)] [] := by
  unfold pX11_situationOf
  refine j_iconst hC (pc := 0) dX11_situationOf_0 ki_0 ?_
  refine j_istore_n hC (pc := 1) dX11_situationOf_1 rfl (Nat.le_of_ble_eq_true rfl) (loc' := [(2, .int 0), (0, .ref (gad Γ 0)), (1, .int v1)]) rfl ?_
  refine j_iconst hC (pc := 2) dX11_situationOf_2 ki_0 ?_
  refine j_istore_n hC (pc := 3) dX11_situationOf_3 rfl (Nat.le_of_ble_eq_true rfl) (loc' := [(3, .int 0), (2, .int 0), (0, .ref (gad Γ 0)), (1, .int v1)]) rfl ?_
  refine j_sub [2, 3, 1, 0] (loc' := [(0, .ref (gad Γ 0)), (1, .int v1), (2, .int 0), (3, .int 0)]) rfl ?_
  exact wX11_situationOf_4 hC hR hm F κ v1 F 0 0
theorem ctX11_situationOf {Δ : DCtx} {l : Launch} (hl : dlay Δ = layM) (hN : dN Δ = 15) (F : Nat) (κ : Mem) (v1 : Int32) : ∀ r, pX11_situationOf F κ v1 = some r → CT Δ l yX11_situationOf cX11_situationOf 4 (some .int) (rmH 2) [.ref (dad Δ 0), .int v1] κ (some (.int r)) κ :=
  ct_of (nL := 4) (ret := (some .int)) (lay := layM) (N := 15) (by decide +kernel) (fun Δ => [.ref (dad Δ 0), .int v1]) (fun _ => oI κ) (fun _ => (Nat.le_of_ble_eq_true rfl)) (fun Γ hR hm hC => wX11_situationOf hC hR hm F κ v1) Δ l hl hN
set_option maxRecDepth 20000 in
theorem wX11_laysSeen_52 {Γ : JCtx} (hC : jC Γ cX11_laysSeen 5 RX11 none layM 15) (hR : gR Γ = rmH 2) (hm : gcells Γ ≤ (gR Γ).cells ∧ gslots Γ ≤ (gR Γ).slots) (F : Nat) (κ : Mem) (v1 : Int32) (v3 : Int32) (v4 : Int32) (k10 : Mem → Int32 → Int32 → Option Mem) (hk10 : ∀ (κ : Mem) (v3 : Int32) (v4 : Int32), JP Γ (qf Γ oV) (k10 κ v3 v4) κ 10 [(0, .ref (gad Γ 0)), (1, .int v1), (3, .int v3), (4, .int v4)] []) : JP Γ (qf Γ oV) (pX11_laysSeen_52 F k10 κ v1 v3 v4) κ 52 [(0, .ref (gad Γ 0)), (1, .int v1), (3, .int v3), (4, .int v4)] [] := by
  unfold pX11_laysSeen_52
  refine j_iinc hC (pc := 52) dX11_laysSeen_52 3 rfl ki_m1 (Nat.le_of_ble_eq_true rfl) (loc' := [(4, .int (v4 + (-1))), (0, .ref (gad Γ 0)), (1, .int v1), (3, .int v3)]) rfl ?_
  refine j_goto hC (pc := 55) dX11_laysSeen_55 (tgt := 10) rfl ?_
  refine j_sub [1, 2, 3, 0] (loc' := [(0, .ref (gad Γ 0)), (1, .int v1), (3, .int v3), (4, .int (v4 + (-1)))]) rfl ?_
  exact hk10 κ v3 (v4 + (-1))
set_option maxRecDepth 20000 in
theorem wX11_laysSeen_10 {Γ : JCtx} (hC : jC Γ cX11_laysSeen 5 RX11 none layM 15) (hR : gR Γ = rmH 2) (hm : gcells Γ ≤ (gR Γ).cells ∧ gslots Γ ≤ (gR Γ).slots) (F : Nat) (v1 : Int32) : ∀ (n : Nat) (κ : Mem) (v3 : Int32) (v4 : Int32), JP Γ (qf Γ oV) (pX11_laysSeen_10 F v1 n κ v3 v4) κ 10 [(0, .ref (gad Γ 0)), (1, .int v1), (3, .int v3), (4, .int v4)] [] := by
  intro n
  induction n with
  | zero =>
    intro κ v3 v4
    rw [pX11_laysSeen_10]
    exact j_none
  | succ fu ih =>
    intro κ v3 v4
    rw [pX11_laysSeen_10]
    refine j_iload hC (pc := 10) dX11_laysSeen_10 3 rfl ?_
    refine j_if_lt hC (pc := 12) dX11_laysSeen_12 (tgt := 58) rfl ?_ ?_
    · exact j_vret hC (pc := 58) dX11_laysSeen_58 rfl rfl
    · refine j_aload_n hC (pc := 15) dX11_laysSeen_15 0 rfl rfl ?_
      refine j_iload_n hC (pc := 16) dX11_laysSeen_16 1 rfl rfl ?_
      refine j_iload hC (pc := 17) dX11_laysSeen_17 3 rfl ?_
      refine j_callV_I hC hR (ctX11_sees hC.l hC.cn κ v1 v4) kc_RX11_115 (Nat.le_of_ble_eq_true rfl) (Nat.le_of_ble_eq_true rfl) lM_0 (Nat.le_of_ble_eq_true rfl) rfl (As := [.int v1, .int v4]) (rest := []) rfl rfl (Nat.le_of_ble_eq_true rfl) hm (pc := 19) dX11_laysSeen_19 (fun t3 => ?_)
      refine j_if_ne hC (pc := 22) dX11_laysSeen_22 (tgt := 28) rfl ?_ ?_
      · refine j_goto hC (pc := 25) dX11_laysSeen_25 (tgt := 52) rfl ?_
        exact wX11_laysSeen_52 hC hR hm F κ v1 v3 v4 (pX11_laysSeen_10 F v1 fu) ih
      · refine j_aload_n hC (pc := 28) dX11_laysSeen_28 0 rfl rfl ?_
        refine j_getR hC (pc := 29) dX11_laysSeen_29 kf_RX11_23 lM_0 (Nat.le_of_ble_eq_true rfl) rfl ?_
        refine j_iload hC (pc := 32) dX11_laysSeen_32 3 rfl ?_
        refine j_iload_n hC (pc := 34) dX11_laysSeen_34 2 rfl rfl ?_
        refine j_aload_n hC (pc := 35) dX11_laysSeen_35 0 rfl rfl ?_
        refine j_iload hC (pc := 36) dX11_laysSeen_36 3 rfl ?_
        refine j_callV_I hC hR (ctX11_hats hC.l hC.cn κ v4) kc_RX11_111 (Nat.le_of_ble_eq_true rfl) (Nat.le_of_ble_eq_true rfl) lM_0 (Nat.le_of_ble_eq_true rfl) rfl (As := [.int v4]) (rest := [.int v3, .int v4, .ref (gad Γ 5)]) rfl rfl (Nat.le_of_ble_eq_true rfl) hm (pc := 38) dX11_laysSeen_38 (fun t4 => ?_)
        refine j_irem hC (pc := 41) dX11_laysSeen_41 ?_
        refine j_iast hC (pc := 42) dX11_laysSeen_42 lM_5 (Nat.le_of_ble_eq_true rfl) (fun κ5 => ?_)
        refine j_iload_n hC (pc := 43) dX11_laysSeen_43 2 rfl rfl ?_
        refine j_aload_n hC (pc := 44) dX11_laysSeen_44 0 rfl rfl ?_
        refine j_iload hC (pc := 45) dX11_laysSeen_45 3 rfl ?_
        refine j_callV_I hC hR (ctX11_hats hC.l hC.cn κ5 v4) kc_RX11_111 (Nat.le_of_ble_eq_true rfl) (Nat.le_of_ble_eq_true rfl) lM_0 (Nat.le_of_ble_eq_true rfl) rfl (As := [.int v4]) (rest := [.int v3]) rfl rfl (Nat.le_of_ble_eq_true rfl) hm (pc := 47) dX11_laysSeen_47 (fun t6 => ?_)
        refine j_idiv hC (pc := 50) dX11_laysSeen_50 ?_
        refine j_nmi (fun x7 => ?_)
        refine j_istore_n hC (pc := 51) dX11_laysSeen_51 rfl (Nat.le_of_ble_eq_true rfl) (loc' := [(3, .int x7), (0, .ref (gad Γ 0)), (1, .int v1), (4, .int v4)]) rfl ?_
        refine j_sub [1, 2, 0, 3] (loc' := [(0, .ref (gad Γ 0)), (1, .int v1), (3, .int x7), (4, .int v4)]) rfl ?_
        exact wX11_laysSeen_52 hC hR hm F κ5 v1 x7 v4 (pX11_laysSeen_10 F v1 fu) ih
set_option maxRecDepth 20000 in
theorem wX11_laysSeen {Γ : JCtx} (hC : jC Γ cX11_laysSeen 5 RX11 none layM 15) (hR : gR Γ = rmH 2) (hm : gcells Γ ≤ (gR Γ).cells ∧ gslots Γ ≤ (gR Γ).slots) (F : Nat) (κ : Mem) (v1 : Int32) (v2 : Int32) : JP Γ (qf Γ oV) (pX11_laysSeen F κ v1 v2) κ 0 [(0, .ref (gad Γ 0)), (1, .int v1), (2, .int v2)] [] := by
  unfold pX11_laysSeen
  refine j_iload_n hC (pc := 0) dX11_laysSeen_0 2 rfl rfl ?_
  refine j_istore_n hC (pc := 1) dX11_laysSeen_1 rfl (Nat.le_of_ble_eq_true rfl) (loc' := [(3, .int v2), (0, .ref (gad Γ 0)), (1, .int v1), (2, .int v2)]) rfl ?_
  refine j_aload_n hC (pc := 2) dX11_laysSeen_2 1 rfl rfl ?_
  refine j_callV_I hC hR (ctX11_players hC.l hC.cn κ) kc_RX11_108 (Nat.le_of_ble_eq_true rfl) (Nat.le_of_ble_eq_true rfl) lM_0 (Nat.le_of_ble_eq_true rfl) rfl (As := []) (rest := []) rfl rfl (Nat.le_of_ble_eq_true rfl) hm (pc := 3) dX11_laysSeen_3 (fun t1 => ?_)
  refine j_iconst hC (pc := 6) dX11_laysSeen_6 ki_1 ?_
  refine j_isub hC (pc := 7) dX11_laysSeen_7 ?_
  refine j_nmi (fun x2 => ?_)
  refine j_istore hC (pc := 8) dX11_laysSeen_8 (Nat.le_of_ble_eq_true rfl) (loc' := [(4, .int x2), (3, .int v2), (0, .ref (gad Γ 0)), (1, .int v1), (2, .int v2)]) rfl ?_
  refine j_sub [2, 3, 1, 0] (loc' := [(0, .ref (gad Γ 0)), (1, .int v1), (3, .int v2), (4, .int x2)]) rfl ?_
  exact wX11_laysSeen_10 hC hR hm F v1 F κ v2 x2
theorem ctX11_laysSeen {Δ : DCtx} {l : Launch} (hl : dlay Δ = layM) (hN : dN Δ = 15) (F : Nat) (κ : Mem) (v1 : Int32) (v2 : Int32) : ∀ r, pX11_laysSeen F κ v1 v2 = some r → CT Δ l yX11_laysSeen cX11_laysSeen 5 none (rmH 2) [.ref (dad Δ 0), .int v1, .int v2] κ none r :=
  ct_of (nL := 5) (ret := none) (lay := layM) (N := 15) (by decide +kernel) (fun Δ => [.ref (dad Δ 0), .int v1, .int v2]) (fun _ => oV) (fun _ => (Nat.le_of_ble_eq_true rfl)) (fun Γ hR hm hC => wX11_laysSeen hC hR hm F κ v1 v2) Δ l hl hN
set_option maxRecDepth 20000 in
theorem wX11_rightNow_39 {Γ : JCtx} (hC : jC Γ cX11_rightNow 3 RX11 (some .int) layM 15) (hR : gR Γ = rmH 3) (hm : gcells Γ ≤ (gR Γ).cells ∧ gslots Γ ≤ (gR Γ).slots) (F : Nat) (κ : Mem) (v2 : Int32) (y0 : Int32) (y1 : Int32) (k4 : Int32 → Int32 → Option Int32) (hk4 : ∀ (v1 : Int32) (v2 : Int32), JP Γ (qf Γ (oI κ)) (k4 v1 v2) κ 4 [(0, .ref (gad Γ 0)), (1, .int v1), (2, .int v2)] []) : JP Γ (qf Γ (oI κ)) (pX11_rightNow_39 F κ k4 v2 y0 y1) κ 39 [(0, .ref (gad Γ 0)), (2, .int v2)] [.int y0, .int y1] := by
  unfold pX11_rightNow_39
  refine j_ior hC (pc := 39) dX11_rightNow_39 ?_
  refine j_nmi (fun x4 => ?_)
  refine j_istore_n hC (pc := 40) dX11_rightNow_40 rfl (Nat.le_of_ble_eq_true rfl) (loc' := [(1, .int x4), (0, .ref (gad Γ 0)), (2, .int v2)]) rfl ?_
  refine j_iinc hC (pc := 41) dX11_rightNow_41 2 rfl ki_1 (Nat.le_of_ble_eq_true rfl) (loc' := [(2, .int (v2 + 1)), (1, .int x4), (0, .ref (gad Γ 0))]) rfl ?_
  refine j_goto hC (pc := 44) dX11_rightNow_44 (tgt := 4) rfl ?_
  refine j_sub [2, 1, 0] (loc' := [(0, .ref (gad Γ 0)), (1, .int x4), (2, .int (v2 + 1))]) rfl ?_
  exact hk4 x4 (v2 + 1)
set_option maxRecDepth 20000 in
theorem wX11_rightNow_4 {Γ : JCtx} (hC : jC Γ cX11_rightNow 3 RX11 (some .int) layM 15) (hR : gR Γ = rmH 3) (hm : gcells Γ ≤ (gR Γ).cells ∧ gslots Γ ≤ (gR Γ).slots) (F : Nat) (κ : Mem) : ∀ (n : Nat) (v1 : Int32) (v2 : Int32), JP Γ (qf Γ (oI κ)) (pX11_rightNow_4 F κ n v1 v2) κ 4 [(0, .ref (gad Γ 0)), (1, .int v1), (2, .int v2)] [] := by
  intro n
  induction n with
  | zero =>
    intro v1 v2
    rw [pX11_rightNow_4]
    exact j_none
  | succ fu ih =>
    intro v1 v2
    rw [pX11_rightNow_4]
    refine j_iload_n hC (pc := 4) dX11_rightNow_4 2 rfl rfl ?_
    refine j_aload_n hC (pc := 5) dX11_rightNow_5 0 rfl rfl ?_
    refine j_callV_I hC hR (ctX11_players hC.l hC.cn κ) kc_RX11_108 (Nat.le_of_ble_eq_true rfl) (Nat.le_of_ble_eq_true rfl) lM_0 (Nat.le_of_ble_eq_true rfl) rfl (As := []) (rest := [.int v2]) rfl rfl (Nat.le_of_ble_eq_true rfl) hm (pc := 6) dX11_rightNow_6 (fun t1 => ?_)
    refine j_icmp_ge hC (pc := 9) dX11_rightNow_9 (tgt := 47) rfl ?_ ?_
    · refine j_iload_n hC (pc := 12) dX11_rightNow_12 1 rfl rfl ?_
      refine j_aload_n hC (pc := 13) dX11_rightNow_13 0 rfl rfl ?_
      refine j_iload_n hC (pc := 14) dX11_rightNow_14 2 rfl rfl ?_
      refine j_aload_n hC (pc := 15) dX11_rightNow_15 0 rfl rfl ?_
      refine j_iload_n hC (pc := 16) dX11_rightNow_16 2 rfl rfl ?_
      refine j_callV_I hC hR (ctX11_situationOf hC.l hC.cn F κ v2) kc_RX11_118 (Nat.le_of_ble_eq_true rfl) (Nat.le_of_ble_eq_true rfl) lM_0 (Nat.le_of_ble_eq_true rfl) rfl (As := [.int v2]) (rest := [.int v2, .ref (gad Γ 0), .int v1]) rfl rfl (Nat.le_of_ble_eq_true rfl) hm (pc := 17) dX11_rightNow_17 (fun t2 => ?_)
      refine j_callV_I hC hR (ctX11_entry hC.l hC.cn κ v2 t2) kc_RX11_121 (Nat.le_of_ble_eq_true rfl) (Nat.le_of_ble_eq_true rfl) lM_0 (Nat.le_of_ble_eq_true rfl) rfl (As := [.int v2, .int t2]) (rest := [.int v1]) rfl rfl (Nat.le_of_ble_eq_true rfl) hm (pc := 20) dX11_rightNow_20 (fun t3 => ?_)
      refine j_aload_n hC (pc := 23) dX11_rightNow_23 0 rfl rfl ?_
      refine j_getR hC (pc := 24) dX11_rightNow_24 kf_RX11_23 lM_0 (Nat.le_of_ble_eq_true rfl) rfl ?_
      refine j_iload_n hC (pc := 27) dX11_rightNow_27 2 rfl rfl ?_
      refine j_iald hC (pc := 28) dX11_rightNow_28 lM_5 (Nat.le_of_ble_eq_true rfl) ?_
      refine j_icmp_ne hC (pc := 29) dX11_rightNow_29 (tgt := 38) rfl ?_ ?_
      · refine j_iconst hC (pc := 32) dX11_rightNow_32 ki_1 ?_
        refine j_iload_n hC (pc := 33) dX11_rightNow_33 2 rfl rfl ?_
        refine j_ishl hC (pc := 34) dX11_rightNow_34 ?_
        refine j_goto hC (pc := 35) dX11_rightNow_35 (tgt := 39) rfl ?_
        refine j_sub [0, 2] (loc' := [(0, .ref (gad Γ 0)), (2, .int v2)]) rfl ?_
        exact wX11_rightNow_39 hC hR hm F κ v2 (1 <<< (v2 &&& 31)) v1 (pX11_rightNow_4 F κ fu) ih
      · refine j_iconst hC (pc := 38) dX11_rightNow_38 ki_0 ?_
        refine j_sub [0, 2] (loc' := [(0, .ref (gad Γ 0)), (2, .int v2)]) rfl ?_
        exact wX11_rightNow_39 hC hR hm F κ v2 0 v1 (pX11_rightNow_4 F κ fu) ih
    · refine j_iload_n hC (pc := 47) dX11_rightNow_47 1 rfl rfl ?_
      exact j_iret hC (pc := 48) dX11_rightNow_48 rfl rfl rfl
set_option maxRecDepth 20000 in
theorem wX11_rightNow {Γ : JCtx} (hC : jC Γ cX11_rightNow 3 RX11 (some .int) layM 15) (hR : gR Γ = rmH 3) (hm : gcells Γ ≤ (gR Γ).cells ∧ gslots Γ ≤ (gR Γ).slots) (F : Nat) (κ : Mem) : JP Γ (qf Γ (oI κ)) (pX11_rightNow F κ) κ 0 [(0, .ref (gad Γ 0))] [] := by
  unfold pX11_rightNow
  refine j_iconst hC (pc := 0) dX11_rightNow_0 ki_0 ?_
  refine j_istore_n hC (pc := 1) dX11_rightNow_1 rfl (Nat.le_of_ble_eq_true rfl) (loc' := [(1, .int 0), (0, .ref (gad Γ 0))]) rfl ?_
  refine j_iconst hC (pc := 2) dX11_rightNow_2 ki_0 ?_
  refine j_istore_n hC (pc := 3) dX11_rightNow_3 rfl (Nat.le_of_ble_eq_true rfl) (loc' := [(2, .int 0), (1, .int 0), (0, .ref (gad Γ 0))]) rfl ?_
  refine j_sub [2, 1, 0] (loc' := [(0, .ref (gad Γ 0)), (1, .int 0), (2, .int 0)]) rfl ?_
  exact wX11_rightNow_4 hC hR hm F κ F 0 0
theorem ctX11_rightNow {Δ : DCtx} {l : Launch} (hl : dlay Δ = layM) (hN : dN Δ = 15) (F : Nat) (κ : Mem) : ∀ r, pX11_rightNow F κ = some r → CT Δ l yX11_rightNow cX11_rightNow 3 (some .int) (rmH 3) [.ref (dad Δ 0)] κ (some (.int r)) κ :=
  ct_of (nL := 3) (ret := (some .int)) (lay := layM) (N := 15) (by decide +kernel) (fun Δ => [.ref (dad Δ 0)]) (fun _ => oI κ) (fun _ => (Nat.le_of_ble_eq_true rfl)) (fun Γ hR hm hC => wX11_rightNow hC hR hm F κ) Δ l hl hN
set_option maxRecDepth 20000 in
theorem wX11_laysRight_2 {Γ : JCtx} (hC : jC Γ cX11_laysRight 2 RX11 none layM 15) (hR : gR Γ = rmH 4) (hm : gcells Γ ≤ (gR Γ).cells ∧ gslots Γ ≤ (gR Γ).slots) (F : Nat) : ∀ (n : Nat) (κ : Mem) (v1 : Int32), JP Γ (qf Γ oV) (pX11_laysRight_2 F n κ v1) κ 2 [(0, .ref (gad Γ 0)), (1, .int v1)] [] := by
  intro n
  induction n with
  | zero =>
    intro κ v1
    rw [pX11_laysRight_2]
    exact j_none
  | succ fu ih =>
    intro κ v1
    rw [pX11_laysRight_2]
    refine j_iload_n hC (pc := 2) dX11_laysRight_2 1 rfl rfl ?_
    refine j_aload_n hC (pc := 3) dX11_laysRight_3 0 rfl rfl ?_
    refine j_callV_I hC hR (ctX11_colourings_ hC.l hC.cn F κ) kc_RX11_125 (Nat.le_of_ble_eq_true rfl) (Nat.le_of_ble_eq_true rfl) lM_0 (Nat.le_of_ble_eq_true rfl) rfl (As := []) (rest := [.int v1]) rfl rfl (Nat.le_of_ble_eq_true rfl) hm (pc := 4) dX11_laysRight_4 (fun t1 => ?_)
    refine j_icmp_ge hC (pc := 7) dX11_laysRight_7 (tgt := 31) rfl ?_ ?_
    · refine j_aload_n hC (pc := 10) dX11_laysRight_10 0 rfl rfl ?_
      refine j_iload_n hC (pc := 11) dX11_laysRight_11 1 rfl rfl ?_
      refine j_callV_V hC hR (ctX11_lays hC.l hC.cn F κ v1) kc_RX11_127 (Nat.le_of_ble_eq_true rfl) (Nat.le_of_ble_eq_true rfl) lM_0 (Nat.le_of_ble_eq_true rfl) rfl (As := [.int v1]) (rest := []) rfl rfl (Nat.le_of_ble_eq_true rfl) hm (pc := 12) dX11_laysRight_12 (fun t2 => ?_)
      refine j_aload_n hC (pc := 15) dX11_laysRight_15 0 rfl rfl ?_
      refine j_getR hC (pc := 16) dX11_laysRight_16 kf_RX11_26 lM_0 (Nat.le_of_ble_eq_true rfl) rfl ?_
      refine j_iload_n hC (pc := 19) dX11_laysRight_19 1 rfl rfl ?_
      refine j_aload_n hC (pc := 20) dX11_laysRight_20 0 rfl rfl ?_
      refine j_callV_I hC hR (ctX11_rightNow hC.l hC.cn F t2) kc_RX11_131 (Nat.le_of_ble_eq_true rfl) (Nat.le_of_ble_eq_true rfl) lM_0 (Nat.le_of_ble_eq_true rfl) rfl (As := []) (rest := [.int v1, .ref (gad Γ 6)]) rfl rfl (Nat.le_of_ble_eq_true rfl) hm (pc := 21) dX11_laysRight_21 (fun t3 => ?_)
      refine j_iast hC (pc := 24) dX11_laysRight_24 lM_6 (Nat.le_of_ble_eq_true rfl) (fun κ4 => ?_)
      refine j_iinc hC (pc := 25) dX11_laysRight_25 1 rfl ki_1 (Nat.le_of_ble_eq_true rfl) (loc' := [(1, .int (v1 + 1)), (0, .ref (gad Γ 0))]) rfl ?_
      refine j_goto hC (pc := 28) dX11_laysRight_28 (tgt := 2) rfl ?_
      refine j_sub [1, 0] (loc' := [(0, .ref (gad Γ 0)), (1, .int (v1 + 1))]) rfl ?_
      exact ih κ4 (v1 + 1)
    · exact j_vret hC (pc := 31) dX11_laysRight_31 rfl rfl
set_option maxRecDepth 20000 in
theorem wX11_laysRight {Γ : JCtx} (hC : jC Γ cX11_laysRight 2 RX11 none layM 15) (hR : gR Γ = rmH 4) (hm : gcells Γ ≤ (gR Γ).cells ∧ gslots Γ ≤ (gR Γ).slots) (F : Nat) (κ : Mem) : JP Γ (qf Γ oV) (pX11_laysRight F κ) κ 0 [(0, .ref (gad Γ 0))] [] := by
  unfold pX11_laysRight
  refine j_iconst hC (pc := 0) dX11_laysRight_0 ki_0 ?_
  refine j_istore_n hC (pc := 1) dX11_laysRight_1 rfl (Nat.le_of_ble_eq_true rfl) (loc' := [(1, .int 0), (0, .ref (gad Γ 0))]) rfl ?_
  refine j_sub [1, 0] (loc' := [(0, .ref (gad Γ 0)), (1, .int 0)]) rfl ?_
  exact wX11_laysRight_2 hC hR hm F F κ 0
theorem ctX11_laysRight {Δ : DCtx} {l : Launch} (hl : dlay Δ = layM) (hN : dN Δ = 15) (F : Nat) (κ : Mem) : ∀ r, pX11_laysRight F κ = some r → CT Δ l yX11_laysRight cX11_laysRight 2 none (rmH 4) [.ref (dad Δ 0)] κ none r :=
  ct_of (nL := 2) (ret := none) (lay := layM) (N := 15) (by decide +kernel) (fun Δ => [.ref (dad Δ 0)]) (fun _ => oV) (fun _ => (Nat.le_of_ble_eq_true rfl)) (fun Γ hR hm hC => wX11_laysRight hC hR hm F κ) Δ l hl hN
set_option maxRecDepth 20000 in
theorem wX11_lostBy_29 {Γ : JCtx} (hC : jC Γ cX11_lostBy 4 RX11 (some .int) layM 15) (hR : gR Γ = rmH 2) (hm : gcells Γ ≤ (gR Γ).cells ∧ gslots Γ ≤ (gR Γ).slots) (F : Nat) (κ : Mem) (v1 : Int32) (v3 : Int32) (y0 : Int32) (y1 : Int32) (k4 : Int32 → Int32 → Option Int32) (hk4 : ∀ (v2 : Int32) (v3 : Int32), JP Γ (qf Γ (oI κ)) (k4 v2 v3) κ 4 [(0, .ref (gad Γ 0)), (1, .int v1), (2, .int v2), (3, .int v3)] []) : JP Γ (qf Γ (oI κ)) (pX11_lostBy_29 F κ k4 v1 v3 y0 y1) κ 29 [(0, .ref (gad Γ 0)), (1, .int v1), (3, .int v3)] [.int y0, .int y1] := by
  unfold pX11_lostBy_29
  refine j_iadd hC (pc := 29) dX11_lostBy_29 ?_
  refine j_nmi (fun x2 => ?_)
  refine j_istore_n hC (pc := 30) dX11_lostBy_30 rfl (Nat.le_of_ble_eq_true rfl) (loc' := [(2, .int x2), (0, .ref (gad Γ 0)), (1, .int v1), (3, .int v3)]) rfl ?_
  refine j_iinc hC (pc := 31) dX11_lostBy_31 3 rfl ki_1 (Nat.le_of_ble_eq_true rfl) (loc' := [(3, .int (v3 + 1)), (2, .int x2), (0, .ref (gad Γ 0)), (1, .int v1)]) rfl ?_
  refine j_goto hC (pc := 34) dX11_lostBy_34 (tgt := 4) rfl ?_
  refine j_sub [2, 3, 1, 0] (loc' := [(0, .ref (gad Γ 0)), (1, .int v1), (2, .int x2), (3, .int (v3 + 1))]) rfl ?_
  exact hk4 x2 (v3 + 1)
set_option maxRecDepth 20000 in
theorem wX11_lostBy_4 {Γ : JCtx} (hC : jC Γ cX11_lostBy 4 RX11 (some .int) layM 15) (hR : gR Γ = rmH 2) (hm : gcells Γ ≤ (gR Γ).cells ∧ gslots Γ ≤ (gR Γ).slots) (F : Nat) (κ : Mem) (v1 : Int32) : ∀ (n : Nat) (v2 : Int32) (v3 : Int32), JP Γ (qf Γ (oI κ)) (pX11_lostBy_4 F κ v1 n v2 v3) κ 4 [(0, .ref (gad Γ 0)), (1, .int v1), (2, .int v2), (3, .int v3)] [] := by
  intro n
  induction n with
  | zero =>
    intro v2 v3
    rw [pX11_lostBy_4]
    exact j_none
  | succ fu ih =>
    intro v2 v3
    rw [pX11_lostBy_4]
    refine j_iload_n hC (pc := 4) dX11_lostBy_4 3 rfl rfl ?_
    refine j_aload_n hC (pc := 5) dX11_lostBy_5 0 rfl rfl ?_
    refine j_callV_I hC hR (ctX11_colourings_ hC.l hC.cn F κ) kc_RX11_125 (Nat.le_of_ble_eq_true rfl) (Nat.le_of_ble_eq_true rfl) lM_0 (Nat.le_of_ble_eq_true rfl) rfl (As := []) (rest := [.int v3]) rfl rfl (Nat.le_of_ble_eq_true rfl) hm (pc := 6) dX11_lostBy_6 (fun t1 => ?_)
    refine j_icmp_ge hC (pc := 9) dX11_lostBy_9 (tgt := 37) rfl ?_ ?_
    · refine j_iload_n hC (pc := 12) dX11_lostBy_12 2 rfl rfl ?_
      refine j_aload_n hC (pc := 13) dX11_lostBy_13 0 rfl rfl ?_
      refine j_getR hC (pc := 14) dX11_lostBy_14 kf_RX11_26 lM_0 (Nat.le_of_ble_eq_true rfl) rfl ?_
      refine j_iload_n hC (pc := 17) dX11_lostBy_17 3 rfl rfl ?_
      refine j_iald hC (pc := 18) dX11_lostBy_18 lM_6 (Nat.le_of_ble_eq_true rfl) ?_
      refine j_iload_n hC (pc := 19) dX11_lostBy_19 1 rfl rfl ?_
      refine j_iand hC (pc := 20) dX11_lostBy_20 ?_
      refine j_if_ne hC (pc := 21) dX11_lostBy_21 (tgt := 28) rfl ?_ ?_
      · refine j_iconst hC (pc := 24) dX11_lostBy_24 ki_1 ?_
        refine j_goto hC (pc := 25) dX11_lostBy_25 (tgt := 29) rfl ?_
        refine j_sub [0, 1, 3] (loc' := [(0, .ref (gad Γ 0)), (1, .int v1), (3, .int v3)]) rfl ?_
        exact wX11_lostBy_29 hC hR hm F κ v1 v3 1 v2 (pX11_lostBy_4 F κ v1 fu) ih
      · refine j_iconst hC (pc := 28) dX11_lostBy_28 ki_0 ?_
        refine j_sub [0, 1, 3] (loc' := [(0, .ref (gad Γ 0)), (1, .int v1), (3, .int v3)]) rfl ?_
        exact wX11_lostBy_29 hC hR hm F κ v1 v3 0 v2 (pX11_lostBy_4 F κ v1 fu) ih
    · refine j_iload_n hC (pc := 37) dX11_lostBy_37 2 rfl rfl ?_
      exact j_iret hC (pc := 38) dX11_lostBy_38 rfl rfl rfl
set_option maxRecDepth 20000 in
theorem wX11_lostBy {Γ : JCtx} (hC : jC Γ cX11_lostBy 4 RX11 (some .int) layM 15) (hR : gR Γ = rmH 2) (hm : gcells Γ ≤ (gR Γ).cells ∧ gslots Γ ≤ (gR Γ).slots) (F : Nat) (κ : Mem) (v1 : Int32) : JP Γ (qf Γ (oI κ)) (pX11_lostBy F κ v1) κ 0 [(0, .ref (gad Γ 0)), (1, .int v1)] [] := by
  unfold pX11_lostBy
  refine j_iconst hC (pc := 0) dX11_lostBy_0 ki_0 ?_
  refine j_istore_n hC (pc := 1) dX11_lostBy_1 rfl (Nat.le_of_ble_eq_true rfl) (loc' := [(2, .int 0), (0, .ref (gad Γ 0)), (1, .int v1)]) rfl ?_
  refine j_iconst hC (pc := 2) dX11_lostBy_2 ki_0 ?_
  refine j_istore_n hC (pc := 3) dX11_lostBy_3 rfl (Nat.le_of_ble_eq_true rfl) (loc' := [(3, .int 0), (2, .int 0), (0, .ref (gad Γ 0)), (1, .int v1)]) rfl ?_
  refine j_sub [2, 3, 1, 0] (loc' := [(0, .ref (gad Γ 0)), (1, .int v1), (2, .int 0), (3, .int 0)]) rfl ?_
  exact wX11_lostBy_4 hC hR hm F κ v1 F 0 0
theorem ctX11_lostBy {Δ : DCtx} {l : Launch} (hl : dlay Δ = layM) (hN : dN Δ = 15) (F : Nat) (κ : Mem) (v1 : Int32) : ∀ r, pX11_lostBy F κ v1 = some r → CT Δ l yX11_lostBy cX11_lostBy 4 (some .int) (rmH 2) [.ref (dad Δ 0), .int v1] κ (some (.int r)) κ :=
  ct_of (nL := 4) (ret := (some .int)) (lay := layM) (N := 15) (by decide +kernel) (fun Δ => [.ref (dad Δ 0), .int v1]) (fun _ => oI κ) (fun _ => (Nat.le_of_ble_eq_true rfl)) (fun Γ hR hm hC => wX11_lostBy hC hR hm F κ v1) Δ l hl hN
set_option maxRecDepth 20000 in
theorem wX11_lostNow {Γ : JCtx} (hC : jC Γ cX11_lostNow 1 RX11 (some .int) layM 15) (hR : gR Γ = rmH 5) (hm : gcells Γ ≤ (gR Γ).cells ∧ gslots Γ ≤ (gR Γ).slots) (F : Nat) (κ : Mem) : JP Γ (qf Γ oE) (pX11_lostNow F κ) κ 0 [(0, .ref (gad Γ 0))] [] := by
  unfold pX11_lostNow
  refine j_aload_n hC (pc := 0) dX11_lostNow_0 0 rfl rfl ?_
  refine j_callV_V hC hR (ctX11_laysRight hC.l hC.cn F κ) kc_RX11_134 (Nat.le_of_ble_eq_true rfl) (Nat.le_of_ble_eq_true rfl) lM_0 (Nat.le_of_ble_eq_true rfl) rfl (As := []) (rest := []) rfl rfl (Nat.le_of_ble_eq_true rfl) hm (pc := 1) dX11_lostNow_1 (fun t1 => ?_)
  refine j_aload_n hC (pc := 4) dX11_lostNow_4 0 rfl rfl ?_
  refine j_aload_n hC (pc := 5) dX11_lostNow_5 0 rfl rfl ?_
  refine j_callV_I hC hR (ctX11_all hC.l hC.cn t1) kc_RX11_96 (Nat.le_of_ble_eq_true rfl) (Nat.le_of_ble_eq_true rfl) lM_0 (Nat.le_of_ble_eq_true rfl) rfl (As := []) (rest := [.ref (gad Γ 0)]) rfl rfl (Nat.le_of_ble_eq_true rfl) hm (pc := 6) dX11_lostNow_6 (fun t2 => ?_)
  refine j_callV_I hC hR (ctX11_lostBy hC.l hC.cn F t1 t2) kc_RX11_137 (Nat.le_of_ble_eq_true rfl) (Nat.le_of_ble_eq_true rfl) lM_0 (Nat.le_of_ble_eq_true rfl) rfl (As := [.int t2]) (rest := []) rfl rfl (Nat.le_of_ble_eq_true rfl) hm (pc := 9) dX11_lostNow_9 (fun t3 => ?_)
  exact j_iret hC (pc := 12) dX11_lostNow_12 rfl rfl rfl
theorem ctX11_lostNow {Δ : DCtx} {l : Launch} (hl : dlay Δ = layM) (hN : dN Δ = 15) (F : Nat) (κ : Mem) : ∀ r, pX11_lostNow F κ = some r → CT Δ l yX11_lostNow cX11_lostNow 1 (some .int) (rmH 5) [.ref (dad Δ 0)] κ (some (.int r.1)) r.2 :=
  ct_of (nL := 1) (ret := (some .int)) (lay := layM) (N := 15) (by decide +kernel) (fun Δ => [.ref (dad Δ 0)]) (fun _ => oE) (fun _ => (Nat.le_of_ble_eq_true rfl)) (fun Γ hR hm hC => wX11_lostNow hC hR hm F κ) Δ l hl hN
set_option maxRecDepth 20000 in
theorem wX11_isMutual_12 {Γ : JCtx} (hC : jC Γ cX11_isMutual 3 RX11 (some .boolean) layM 15) (hR : gR Γ = rmH 2) (hm : gcells Γ ≤ (gR Γ).cells ∧ gslots Γ ≤ (gR Γ).slots) (F : Nat) (κ : Mem) (v1 : Int32) (k2 : Int32 → Option Int32) (hk2 : ∀ (v1 : Int32), JP Γ (qf Γ (oI κ)) (k2 v1) κ 2 [(0, .ref (gad Γ 0)), (1, .int v1)] []) : ∀ (n : Nat) (v2 : Int32), JP Γ (qf Γ (oI κ)) (pX11_isMutual_12 F κ k2 v1 n v2) κ 12 [(0, .ref (gad Γ 0)), (1, .int v1), (2, .int v2)] [] := by
  intro n
  induction n with
  | zero =>
    intro v2
    rw [pX11_isMutual_12]
    exact j_none
  | succ fu ih =>
    intro v2
    rw [pX11_isMutual_12]
    refine j_iload_n hC (pc := 12) dX11_isMutual_12 2 rfl rfl ?_
    refine j_aload_n hC (pc := 13) dX11_isMutual_13 0 rfl rfl ?_
    refine j_callV_I hC hR (ctX11_players hC.l hC.cn κ) kc_RX11_108 (Nat.le_of_ble_eq_true rfl) (Nat.le_of_ble_eq_true rfl) lM_0 (Nat.le_of_ble_eq_true rfl) rfl (As := []) (rest := [.int v2]) rfl rfl (Nat.le_of_ble_eq_true rfl) hm (pc := 14) dX11_isMutual_14 (fun t2 => ?_)
    refine j_icmp_ge hC (pc := 17) dX11_isMutual_17 (tgt := 43) rfl ?_ ?_
    · refine j_aload_n hC (pc := 20) dX11_isMutual_20 0 rfl rfl ?_
      refine j_iload_n hC (pc := 21) dX11_isMutual_21 1 rfl rfl ?_
      refine j_iload_n hC (pc := 22) dX11_isMutual_22 2 rfl rfl ?_
      refine j_callV_I hC hR (ctX11_sees hC.l hC.cn κ v1 v2) kc_RX11_115 (Nat.le_of_ble_eq_true rfl) (Nat.le_of_ble_eq_true rfl) lM_0 (Nat.le_of_ble_eq_true rfl) rfl (As := [.int v1, .int v2]) (rest := []) rfl rfl (Nat.le_of_ble_eq_true rfl) hm (pc := 23) dX11_isMutual_23 (fun t3 => ?_)
      refine j_aload_n hC (pc := 26) dX11_isMutual_26 0 rfl rfl ?_
      refine j_iload_n hC (pc := 27) dX11_isMutual_27 2 rfl rfl ?_
      refine j_iload_n hC (pc := 28) dX11_isMutual_28 1 rfl rfl ?_
      refine j_callV_I hC hR (ctX11_sees hC.l hC.cn κ v2 v1) kc_RX11_115 (Nat.le_of_ble_eq_true rfl) (Nat.le_of_ble_eq_true rfl) lM_0 (Nat.le_of_ble_eq_true rfl) rfl (As := [.int v2, .int v1]) (rest := [.int t3]) rfl rfl (Nat.le_of_ble_eq_true rfl) hm (pc := 29) dX11_isMutual_29 (fun t4 => ?_)
      refine j_icmp_eq hC (pc := 32) dX11_isMutual_32 (tgt := 37) rfl ?_ ?_
      · refine j_iinc hC (pc := 37) dX11_isMutual_37 2 rfl ki_1 (Nat.le_of_ble_eq_true rfl) (loc' := [(2, .int (v2 + 1)), (0, .ref (gad Γ 0)), (1, .int v1)]) rfl ?_
        refine j_goto hC (pc := 40) dX11_isMutual_40 (tgt := 12) rfl ?_
        refine j_sub [1, 2, 0] (loc' := [(0, .ref (gad Γ 0)), (1, .int v1), (2, .int (v2 + 1))]) rfl ?_
        exact ih (v2 + 1)
      · refine j_iconst hC (pc := 35) dX11_isMutual_35 ki_0 ?_
        exact j_iret hC (pc := 36) dX11_isMutual_36 rfl rfl rfl
    · refine j_iinc hC (pc := 43) dX11_isMutual_43 1 rfl ki_1 (Nat.le_of_ble_eq_true rfl) (loc' := [(1, .int (v1 + 1)), (0, .ref (gad Γ 0)), (2, .int v2)]) rfl ?_
      refine j_goto hC (pc := 46) dX11_isMutual_46 (tgt := 2) rfl ?_
      refine j_sub [1, 0] (loc' := [(0, .ref (gad Γ 0)), (1, .int (v1 + 1))]) rfl ?_
      exact hk2 (v1 + 1)
set_option maxRecDepth 20000 in
theorem wX11_isMutual_2 {Γ : JCtx} (hC : jC Γ cX11_isMutual 3 RX11 (some .boolean) layM 15) (hR : gR Γ = rmH 2) (hm : gcells Γ ≤ (gR Γ).cells ∧ gslots Γ ≤ (gR Γ).slots) (F : Nat) (κ : Mem) : ∀ (n : Nat) (v1 : Int32), JP Γ (qf Γ (oI κ)) (pX11_isMutual_2 F κ n v1) κ 2 [(0, .ref (gad Γ 0)), (1, .int v1)] [] := by
  intro n
  induction n with
  | zero =>
    intro v1
    rw [pX11_isMutual_2]
    exact j_none
  | succ fu ih =>
    intro v1
    rw [pX11_isMutual_2]
    refine j_iload_n hC (pc := 2) dX11_isMutual_2 1 rfl rfl ?_
    refine j_aload_n hC (pc := 3) dX11_isMutual_3 0 rfl rfl ?_
    refine j_callV_I hC hR (ctX11_players hC.l hC.cn κ) kc_RX11_108 (Nat.le_of_ble_eq_true rfl) (Nat.le_of_ble_eq_true rfl) lM_0 (Nat.le_of_ble_eq_true rfl) rfl (As := []) (rest := [.int v1]) rfl rfl (Nat.le_of_ble_eq_true rfl) hm (pc := 4) dX11_isMutual_4 (fun t1 => ?_)
    refine j_icmp_ge hC (pc := 7) dX11_isMutual_7 (tgt := 49) rfl ?_ ?_
    · refine j_iconst hC (pc := 10) dX11_isMutual_10 ki_0 ?_
      refine j_istore_n hC (pc := 11) dX11_isMutual_11 rfl (Nat.le_of_ble_eq_true rfl) (loc' := [(2, .int 0), (0, .ref (gad Γ 0)), (1, .int v1)]) rfl ?_
      refine j_sub [1, 2, 0] (loc' := [(0, .ref (gad Γ 0)), (1, .int v1), (2, .int 0)]) rfl ?_
      exact wX11_isMutual_12 hC hR hm F κ v1 (pX11_isMutual_2 F κ fu) ih F 0
    · refine j_iconst hC (pc := 49) dX11_isMutual_49 ki_1 ?_
      exact j_iret hC (pc := 50) dX11_isMutual_50 rfl rfl rfl
set_option maxRecDepth 20000 in
theorem wX11_isMutual {Γ : JCtx} (hC : jC Γ cX11_isMutual 3 RX11 (some .boolean) layM 15) (hR : gR Γ = rmH 2) (hm : gcells Γ ≤ (gR Γ).cells ∧ gslots Γ ≤ (gR Γ).slots) (F : Nat) (κ : Mem) : JP Γ (qf Γ (oI κ)) (pX11_isMutual F κ) κ 0 [(0, .ref (gad Γ 0))] [] := by
  unfold pX11_isMutual
  refine j_iconst hC (pc := 0) dX11_isMutual_0 ki_0 ?_
  refine j_istore_n hC (pc := 1) dX11_isMutual_1 rfl (Nat.le_of_ble_eq_true rfl) (loc' := [(1, .int 0), (0, .ref (gad Γ 0))]) rfl ?_
  refine j_sub [1, 0] (loc' := [(0, .ref (gad Γ 0)), (1, .int 0)]) rfl ?_
  exact wX11_isMutual_2 hC hR hm F κ F 0
theorem ctX11_isMutual {Δ : DCtx} {l : Launch} (hl : dlay Δ = layM) (hN : dN Δ = 15) (F : Nat) (κ : Mem) : ∀ r, pX11_isMutual F κ = some r → CT Δ l yX11_isMutual cX11_isMutual 3 (some .boolean) (rmH 2) [.ref (dad Δ 0)] κ (some (.int r)) κ :=
  ct_of (nL := 3) (ret := (some .boolean)) (lay := layM) (N := 15) (by decide +kernel) (fun Δ => [.ref (dad Δ 0)]) (fun _ => oI κ) (fun _ => (Nat.le_of_ble_eq_true rfl)) (fun Γ hR hm hC => wX11_isMutual hC hR hm F κ) Δ l hl hN
set_option maxRecDepth 20000 in
theorem wX11_isLink_23 {Γ : JCtx} (hC : jC Γ cX11_isLink 3 RX11 (some .boolean) layM 15) (hR : gR Γ = rmH 2) (hm : gcells Γ ≤ (gR Γ).cells ∧ gslots Γ ≤ (gR Γ).slots) (κ : Mem) (y0 : Int32) : JP Γ (qf Γ (oI κ)) (pX11_isLink_23 κ y0) κ 23 [] [.int y0] := by
  unfold pX11_isLink_23
  refine j_ckP (fun hq2 => ?_)
  exact j_iret hC (pc := 23) dX11_isLink_23 rfl (isB_n hq2) rfl
set_option maxRecDepth 20000 in
theorem wX11_isLink_22 {Γ : JCtx} (hC : jC Γ cX11_isLink 3 RX11 (some .boolean) layM 15) (hR : gR Γ = rmH 2) (hm : gcells Γ ≤ (gR Γ).cells ∧ gslots Γ ≤ (gR Γ).slots) (κ : Mem) : JP Γ (qf Γ (oI κ)) (pX11_isLink_22 κ) κ 22 [] [] := by
  unfold pX11_isLink_22
  refine j_iconst hC (pc := 22) dX11_isLink_22 ki_0 ?_
  exact wX11_isLink_23 hC hR hm κ 0
set_option maxRecDepth 20000 in
theorem wX11_isLink {Γ : JCtx} (hC : jC Γ cX11_isLink 3 RX11 (some .boolean) layM 15) (hR : gR Γ = rmH 2) (hm : gcells Γ ≤ (gR Γ).cells ∧ gslots Γ ≤ (gR Γ).slots) (κ : Mem) (v1 : Int32) (v2 : Int32) : JP Γ (qf Γ (oI κ)) (pX11_isLink κ v1 v2) κ 0 [(0, .ref (gad Γ 0)), (1, .int v1), (2, .int v2)] [] := by
  unfold pX11_isLink
  refine j_aload_n hC (pc := 0) dX11_isLink_0 0 rfl rfl ?_
  refine j_iload_n hC (pc := 1) dX11_isLink_1 1 rfl rfl ?_
  refine j_iload_n hC (pc := 2) dX11_isLink_2 2 rfl rfl ?_
  refine j_callV_I hC hR (ctX11_sees hC.l hC.cn κ v1 v2) kc_RX11_115 (Nat.le_of_ble_eq_true rfl) (Nat.le_of_ble_eq_true rfl) lM_0 (Nat.le_of_ble_eq_true rfl) rfl (As := [.int v1, .int v2]) (rest := []) rfl rfl (Nat.le_of_ble_eq_true rfl) hm (pc := 3) dX11_isLink_3 (fun t1 => ?_)
  refine j_if_eq hC (pc := 6) dX11_isLink_6 (tgt := 22) rfl ?_ ?_
  · refine j_sub [] (loc' := []) rfl ?_
    exact wX11_isLink_22 hC hR hm κ
  · refine j_aload_n hC (pc := 9) dX11_isLink_9 0 rfl rfl ?_
    refine j_iload_n hC (pc := 10) dX11_isLink_10 2 rfl rfl ?_
    refine j_iload_n hC (pc := 11) dX11_isLink_11 1 rfl rfl ?_
    refine j_callV_I hC hR (ctX11_sees hC.l hC.cn κ v2 v1) kc_RX11_115 (Nat.le_of_ble_eq_true rfl) (Nat.le_of_ble_eq_true rfl) lM_0 (Nat.le_of_ble_eq_true rfl) rfl (As := [.int v2, .int v1]) (rest := []) rfl rfl (Nat.le_of_ble_eq_true rfl) hm (pc := 12) dX11_isLink_12 (fun t3 => ?_)
    refine j_if_eq hC (pc := 15) dX11_isLink_15 (tgt := 22) rfl ?_ ?_
    · refine j_sub [] (loc' := []) rfl ?_
      exact wX11_isLink_22 hC hR hm κ
    · refine j_iconst hC (pc := 18) dX11_isLink_18 ki_1 ?_
      refine j_goto hC (pc := 19) dX11_isLink_19 (tgt := 23) rfl ?_
      refine j_sub [] (loc' := []) rfl ?_
      exact wX11_isLink_23 hC hR hm κ 1
theorem ctX11_isLink {Δ : DCtx} {l : Launch} (hl : dlay Δ = layM) (hN : dN Δ = 15) (κ : Mem) (v1 : Int32) (v2 : Int32) : ∀ r, pX11_isLink κ v1 v2 = some r → CT Δ l yX11_isLink cX11_isLink 3 (some .boolean) (rmH 2) [.ref (dad Δ 0), .int v1, .int v2] κ (some (.int r)) κ :=
  ct_of (nL := 3) (ret := (some .boolean)) (lay := layM) (N := 15) (by decide +kernel) (fun Δ => [.ref (dad Δ 0), .int v1, .int v2]) (fun _ => oI κ) (fun _ => (Nat.le_of_ble_eq_true rfl)) (fun Γ hR hm hC => wX11_isLink hC hR hm κ v1 v2) Δ l hl hN
set_option maxRecDepth 20000 in
theorem wX11_links_34 {Γ : JCtx} (hC : jC Γ cX11_links 4 RX11 (some .int) layM 15) (hR : gR Γ = rmH 3) (hm : gcells Γ ≤ (gR Γ).cells ∧ gslots Γ ≤ (gR Γ).slots) (F : Nat) (κ : Mem) (v2 : Int32) (v3 : Int32) (y0 : Int32) (y1 : Int32) (k14 : Int32 → Int32 → Option Int32) (hk14 : ∀ (v1 : Int32) (v3 : Int32), JP Γ (qf Γ (oI κ)) (k14 v1 v3) κ 14 [(0, .ref (gad Γ 0)), (1, .int v1), (2, .int v2), (3, .int v3)] []) : JP Γ (qf Γ (oI κ)) (pX11_links_34 F κ k14 v2 v3 y0 y1) κ 34 [(0, .ref (gad Γ 0)), (2, .int v2), (3, .int v3)] [.int y0, .int y1] := by
  unfold pX11_links_34
  refine j_iadd hC (pc := 34) dX11_links_34 ?_
  refine j_nmi (fun x3 => ?_)
  refine j_istore_n hC (pc := 35) dX11_links_35 rfl (Nat.le_of_ble_eq_true rfl) (loc' := [(1, .int x3), (0, .ref (gad Γ 0)), (2, .int v2), (3, .int v3)]) rfl ?_
  refine j_iinc hC (pc := 36) dX11_links_36 3 rfl ki_1 (Nat.le_of_ble_eq_true rfl) (loc' := [(3, .int (v3 + 1)), (1, .int x3), (0, .ref (gad Γ 0)), (2, .int v2)]) rfl ?_
  refine j_goto hC (pc := 39) dX11_links_39 (tgt := 14) rfl ?_
  refine j_sub [2, 1, 3, 0] (loc' := [(0, .ref (gad Γ 0)), (1, .int x3), (2, .int v2), (3, .int (v3 + 1))]) rfl ?_
  exact hk14 x3 (v3 + 1)
set_option maxRecDepth 20000 in
theorem wX11_links_14 {Γ : JCtx} (hC : jC Γ cX11_links 4 RX11 (some .int) layM 15) (hR : gR Γ = rmH 3) (hm : gcells Γ ≤ (gR Γ).cells ∧ gslots Γ ≤ (gR Γ).slots) (F : Nat) (κ : Mem) (v2 : Int32) (k4 : Int32 → Int32 → Option Int32) (hk4 : ∀ (v1 : Int32) (v2 : Int32), JP Γ (qf Γ (oI κ)) (k4 v1 v2) κ 4 [(0, .ref (gad Γ 0)), (1, .int v1), (2, .int v2)] []) : ∀ (n : Nat) (v1 : Int32) (v3 : Int32), JP Γ (qf Γ (oI κ)) (pX11_links_14 F κ k4 v2 n v1 v3) κ 14 [(0, .ref (gad Γ 0)), (1, .int v1), (2, .int v2), (3, .int v3)] [] := by
  intro n
  induction n with
  | zero =>
    intro v1 v3
    rw [pX11_links_14]
    exact j_none
  | succ fu ih =>
    intro v1 v3
    rw [pX11_links_14]
    refine j_iload_n hC (pc := 14) dX11_links_14 3 rfl rfl ?_
    refine j_iload_n hC (pc := 15) dX11_links_15 2 rfl rfl ?_
    refine j_icmp_ge hC (pc := 16) dX11_links_16 (tgt := 42) rfl ?_ ?_
    · refine j_iload_n hC (pc := 19) dX11_links_19 1 rfl rfl ?_
      refine j_aload_n hC (pc := 20) dX11_links_20 0 rfl rfl ?_
      refine j_iload_n hC (pc := 21) dX11_links_21 2 rfl rfl ?_
      refine j_iload_n hC (pc := 22) dX11_links_22 3 rfl rfl ?_
      refine j_callV_I hC hR (ctX11_isLink hC.l hC.cn κ v2 v3) kc_RX11_140 (Nat.le_of_ble_eq_true rfl) (Nat.le_of_ble_eq_true rfl) lM_0 (Nat.le_of_ble_eq_true rfl) rfl (As := [.int v2, .int v3]) (rest := [.int v1]) rfl rfl (Nat.le_of_ble_eq_true rfl) hm (pc := 23) dX11_links_23 (fun t2 => ?_)
      refine j_if_eq hC (pc := 26) dX11_links_26 (tgt := 33) rfl ?_ ?_
      · refine j_iconst hC (pc := 33) dX11_links_33 ki_0 ?_
        refine j_sub [0, 2, 3] (loc' := [(0, .ref (gad Γ 0)), (2, .int v2), (3, .int v3)]) rfl ?_
        exact wX11_links_34 hC hR hm F κ v2 v3 0 v1 (pX11_links_14 F κ k4 v2 fu) ih
      · refine j_iconst hC (pc := 29) dX11_links_29 ki_1 ?_
        refine j_goto hC (pc := 30) dX11_links_30 (tgt := 34) rfl ?_
        refine j_sub [0, 2, 3] (loc' := [(0, .ref (gad Γ 0)), (2, .int v2), (3, .int v3)]) rfl ?_
        exact wX11_links_34 hC hR hm F κ v2 v3 1 v1 (pX11_links_14 F κ k4 v2 fu) ih
    · refine j_iinc hC (pc := 42) dX11_links_42 2 rfl ki_1 (Nat.le_of_ble_eq_true rfl) (loc' := [(2, .int (v2 + 1)), (0, .ref (gad Γ 0)), (1, .int v1), (3, .int v3)]) rfl ?_
      refine j_goto hC (pc := 45) dX11_links_45 (tgt := 4) rfl ?_
      refine j_sub [1, 2, 0] (loc' := [(0, .ref (gad Γ 0)), (1, .int v1), (2, .int (v2 + 1))]) rfl ?_
      exact hk4 v1 (v2 + 1)
set_option maxRecDepth 20000 in
theorem wX11_links_4 {Γ : JCtx} (hC : jC Γ cX11_links 4 RX11 (some .int) layM 15) (hR : gR Γ = rmH 3) (hm : gcells Γ ≤ (gR Γ).cells ∧ gslots Γ ≤ (gR Γ).slots) (F : Nat) (κ : Mem) : ∀ (n : Nat) (v1 : Int32) (v2 : Int32), JP Γ (qf Γ (oI κ)) (pX11_links_4 F κ n v1 v2) κ 4 [(0, .ref (gad Γ 0)), (1, .int v1), (2, .int v2)] [] := by
  intro n
  induction n with
  | zero =>
    intro v1 v2
    rw [pX11_links_4]
    exact j_none
  | succ fu ih =>
    intro v1 v2
    rw [pX11_links_4]
    refine j_iload_n hC (pc := 4) dX11_links_4 2 rfl rfl ?_
    refine j_aload_n hC (pc := 5) dX11_links_5 0 rfl rfl ?_
    refine j_callV_I hC hR (ctX11_players hC.l hC.cn κ) kc_RX11_108 (Nat.le_of_ble_eq_true rfl) (Nat.le_of_ble_eq_true rfl) lM_0 (Nat.le_of_ble_eq_true rfl) rfl (As := []) (rest := [.int v2]) rfl rfl (Nat.le_of_ble_eq_true rfl) hm (pc := 6) dX11_links_6 (fun t1 => ?_)
    refine j_icmp_ge hC (pc := 9) dX11_links_9 (tgt := 48) rfl ?_ ?_
    · refine j_iconst hC (pc := 12) dX11_links_12 ki_0 ?_
      refine j_istore_n hC (pc := 13) dX11_links_13 rfl (Nat.le_of_ble_eq_true rfl) (loc' := [(3, .int 0), (0, .ref (gad Γ 0)), (1, .int v1), (2, .int v2)]) rfl ?_
      refine j_sub [1, 2, 3, 0] (loc' := [(0, .ref (gad Γ 0)), (1, .int v1), (2, .int v2), (3, .int 0)]) rfl ?_
      exact wX11_links_14 hC hR hm F κ v2 (pX11_links_4 F κ fu) ih F v1 0
    · refine j_iload_n hC (pc := 48) dX11_links_48 1 rfl rfl ?_
      exact j_iret hC (pc := 49) dX11_links_49 rfl rfl rfl
set_option maxRecDepth 20000 in
theorem wX11_links {Γ : JCtx} (hC : jC Γ cX11_links 4 RX11 (some .int) layM 15) (hR : gR Γ = rmH 3) (hm : gcells Γ ≤ (gR Γ).cells ∧ gslots Γ ≤ (gR Γ).slots) (F : Nat) (κ : Mem) : JP Γ (qf Γ (oI κ)) (pX11_links F κ) κ 0 [(0, .ref (gad Γ 0))] [] := by
  unfold pX11_links
  refine j_iconst hC (pc := 0) dX11_links_0 ki_0 ?_
  refine j_istore_n hC (pc := 1) dX11_links_1 rfl (Nat.le_of_ble_eq_true rfl) (loc' := [(1, .int 0), (0, .ref (gad Γ 0))]) rfl ?_
  refine j_iconst hC (pc := 2) dX11_links_2 ki_0 ?_
  refine j_istore_n hC (pc := 3) dX11_links_3 rfl (Nat.le_of_ble_eq_true rfl) (loc' := [(2, .int 0), (1, .int 0), (0, .ref (gad Γ 0))]) rfl ?_
  refine j_sub [2, 1, 0] (loc' := [(0, .ref (gad Γ 0)), (1, .int 0), (2, .int 0)]) rfl ?_
  exact wX11_links_4 hC hR hm F κ F 0 0
theorem ctX11_links {Δ : DCtx} {l : Launch} (hl : dlay Δ = layM) (hN : dN Δ = 15) (F : Nat) (κ : Mem) : ∀ r, pX11_links F κ = some r → CT Δ l yX11_links cX11_links 4 (some .int) (rmH 3) [.ref (dad Δ 0)] κ (some (.int r)) κ :=
  ct_of (nL := 4) (ret := (some .int)) (lay := layM) (N := 15) (by decide +kernel) (fun Δ => [.ref (dad Δ 0)]) (fun _ => oI κ) (fun _ => (Nat.le_of_ble_eq_true rfl)) (fun Γ hR hm hC => wX11_links hC hR hm F κ) Δ l hl hN
set_option maxRecDepth 20000 in
theorem wX11_many_130 {Γ : JCtx} (hC : jC Γ cX11_many 4 RX11 (some .int) layM 15) (hR : gR Γ = rmH 4) (hm : gcells Γ ≤ (gR Γ).cells ∧ gslots Γ ≤ (gR Γ).slots) (F : Nat) (κ : Mem) (y0 : Int32) : JP Γ (qf Γ oE) (pX11_many_130 F κ y0) κ 130 [] [.int y0] := by
  unfold pX11_many_130
  exact j_iret hC (pc := 130) dX11_many_130 rfl rfl rfl
set_option maxRecDepth 20000 in
theorem wX11_many_30 {Γ : JCtx} (hC : jC Γ cX11_many 4 RX11 (some .int) layM 15) (hR : gR Γ = rmH 4) (hm : gcells Γ ≤ (gR Γ).cells ∧ gslots Γ ≤ (gR Γ).slots) (F : Nat) (κ : Mem) (v1 : Int32) : ∀ (n : Nat) (v2 : Int32) (v3 : Int32), JP Γ (qf Γ oE) (pX11_many_30 F κ v1 n v2 v3) κ 30 [(0, .ref (gad Γ 0)), (1, .int v1), (2, .int v2), (3, .int v3)] [] := by
  intro n
  induction n with
  | zero =>
    intro v2 v3
    rw [pX11_many_30]
    exact j_none
  | succ fu ih =>
    intro v2 v3
    rw [pX11_many_30]
    refine j_iload_n hC (pc := 30) dX11_many_30 3 rfl rfl ?_
    refine j_aload_n hC (pc := 31) dX11_many_31 0 rfl rfl ?_
    refine j_callV_I hC hR (ctX11_players hC.l hC.cn κ) kc_RX11_108 (Nat.le_of_ble_eq_true rfl) (Nat.le_of_ble_eq_true rfl) lM_0 (Nat.le_of_ble_eq_true rfl) rfl (As := []) (rest := [.int v3]) rfl rfl (Nat.le_of_ble_eq_true rfl) hm (pc := 32) dX11_many_32 (fun t3 => ?_)
    refine j_icmp_ge hC (pc := 35) dX11_many_35 (tgt := 59) rfl ?_ ?_
    · refine j_iload_n hC (pc := 38) dX11_many_38 2 rfl rfl ?_
      refine j_aload_n hC (pc := 39) dX11_many_39 0 rfl rfl ?_
      refine j_getR hC (pc := 40) dX11_many_40 kf_RX11_7 lM_0 (Nat.le_of_ble_eq_true rfl) rfl ?_
      refine j_bipush hC (pc := 43) dX11_many_43 kb_7 ?_
      refine j_iload_n hC (pc := 45) dX11_many_45 3 rfl rfl ?_
      refine j_iadd hC (pc := 46) dX11_many_46 ?_
      refine j_iald hC (pc := 47) dX11_many_47 lM_1 (Nat.le_of_ble_eq_true rfl) ?_
      refine j_callS_I hC hR (ctX11_ones hC.l hC.cn F κ (mi κ 1 (7 + v3).toNatClampNeg)) kc_RX11_149 (Nat.le_of_ble_eq_true rfl) (Nat.le_of_ble_eq_true rfl) (As := [.int (mi κ 1 (7 + v3).toNatClampNeg)]) (rest := [.int v2]) rfl rfl (Nat.le_of_ble_eq_true rfl) hm (pc := 48) dX11_many_48 (fun t4 => ?_)
      refine j_iadd hC (pc := 51) dX11_many_51 ?_
      refine j_nmi (fun x5 => ?_)
      refine j_istore_n hC (pc := 52) dX11_many_52 rfl (Nat.le_of_ble_eq_true rfl) (loc' := [(2, .int x5), (0, .ref (gad Γ 0)), (1, .int v1), (3, .int v3)]) rfl ?_
      refine j_iinc hC (pc := 53) dX11_many_53 3 rfl ki_1 (Nat.le_of_ble_eq_true rfl) (loc' := [(3, .int (v3 + 1)), (2, .int x5), (0, .ref (gad Γ 0)), (1, .int v1)]) rfl ?_
      refine j_goto hC (pc := 56) dX11_many_56 (tgt := 30) rfl ?_
      refine j_sub [2, 3, 1, 0] (loc' := [(0, .ref (gad Γ 0)), (1, .int v1), (2, .int x5), (3, .int (v3 + 1))]) rfl ?_
      exact ih x5 (v3 + 1)
    · refine j_iload_n hC (pc := 59) dX11_many_59 1 rfl rfl ?_
      refine j_ite (fun hs10 => ?_) (fun hs10 => ?_)
      · refine j_tin hC (pc := 60) dX11_many_60 0 (by rw [hs10]; rfl) (by decide) (by decide) (off := 36) (tgt := 96) rfl rfl ?_
        refine j_aload_n hC (pc := 96) dX11_many_96 0 rfl rfl ?_
        refine j_callV_I hC hR (ctX11_players hC.l hC.cn κ) kc_RX11_108 (Nat.le_of_ble_eq_true rfl) (Nat.le_of_ble_eq_true rfl) lM_0 (Nat.le_of_ble_eq_true rfl) rfl (As := []) (rest := []) rfl rfl (Nat.le_of_ble_eq_true rfl) hm (pc := 97) dX11_many_97 (fun t6 => ?_)
        exact j_iret hC (pc := 100) dX11_many_100 rfl rfl rfl
      refine j_ite (fun hs11 => ?_) (fun hs11 => ?_)
      · refine j_tin hC (pc := 60) dX11_many_60 1 (by rw [hs11]; rfl) (by decide) (by decide) (off := 41) (tgt := 101) rfl rfl ?_
        refine j_aload_n hC (pc := 101) dX11_many_101 0 rfl rfl ?_
        refine j_callV_I hC hR (ctX11_colourings_ hC.l hC.cn F κ) kc_RX11_125 (Nat.le_of_ble_eq_true rfl) (Nat.le_of_ble_eq_true rfl) lM_0 (Nat.le_of_ble_eq_true rfl) rfl (As := []) (rest := []) rfl rfl (Nat.le_of_ble_eq_true rfl) hm (pc := 102) dX11_many_102 (fun t7 => ?_)
        exact j_iret hC (pc := 105) dX11_many_105 rfl rfl rfl
      refine j_ite (fun hs12 => ?_) (fun hs12 => ?_)
      · refine j_tin hC (pc := 60) dX11_many_60 2 (by rw [hs12]; rfl) (by decide) (by decide) (off := 46) (tgt := 106) rfl rfl ?_
        refine j_iload_n hC (pc := 106) dX11_many_106 2 rfl rfl ?_
        exact j_iret hC (pc := 107) dX11_many_107 rfl rfl rfl
      refine j_ite (fun hs13 => ?_) (fun hs13 => ?_)
      · refine j_tin hC (pc := 60) dX11_many_60 3 (by rw [hs13]; rfl) (by decide) (by decide) (off := 48) (tgt := 108) rfl rfl ?_
        refine j_aload_n hC (pc := 108) dX11_many_108 0 rfl rfl ?_
        refine j_callV_I hC hR (ctX11_links hC.l hC.cn F κ) kc_RX11_152 (Nat.le_of_ble_eq_true rfl) (Nat.le_of_ble_eq_true rfl) lM_0 (Nat.le_of_ble_eq_true rfl) rfl (As := []) (rest := []) rfl rfl (Nat.le_of_ble_eq_true rfl) hm (pc := 109) dX11_many_109 (fun t8 => ?_)
        exact j_iret hC (pc := 112) dX11_many_112 rfl rfl rfl
      refine j_ite (fun hs14 => ?_) (fun hs14 => ?_)
      · refine j_tin hC (pc := 60) dX11_many_60 4 (by rw [hs14]; rfl) (by decide) (by decide) (off := 53) (tgt := 113) rfl rfl ?_
        refine j_aload_n hC (pc := 113) dX11_many_113 0 rfl rfl ?_
        refine j_getI hC (pc := 114) dX11_many_114 kf_RX11_155 lM_0 (Nat.le_of_ble_eq_true rfl) rfl ?_
        exact j_iret hC (pc := 117) dX11_many_117 rfl rfl rfl
      refine j_tout hC (pc := 60) dX11_many_60 ?_ (tgt := 118) rfl ?_
      · have e0 : ¬ Int32.toInt v1 = 0 := fun z => hs10 (Int32.toInt_inj.mp (z.trans ti_0.symm))
        have e1 : ¬ Int32.toInt v1 = 1 := fun z => hs11 (Int32.toInt_inj.mp (z.trans ti_1.symm))
        have e2 : ¬ Int32.toInt v1 = 2 := fun z => hs12 (Int32.toInt_inj.mp (z.trans ti_2.symm))
        have e3 : ¬ Int32.toInt v1 = 3 := fun z => hs13 (Int32.toInt_inj.mp (z.trans ti_3.symm))
        have e4 : ¬ Int32.toInt v1 = 4 := fun z => hs14 (Int32.toInt_inj.mp (z.trans ti_4.symm))
        omega
      · refine j_aload_n hC (pc := 118) dX11_many_118 0 rfl rfl ?_
        refine j_callV_I hC hR (ctX11_isMutual hC.l hC.cn F κ) kc_RX11_158 (Nat.le_of_ble_eq_true rfl) (Nat.le_of_ble_eq_true rfl) lM_0 (Nat.le_of_ble_eq_true rfl) rfl (As := []) (rest := []) rfl rfl (Nat.le_of_ble_eq_true rfl) hm (pc := 119) dX11_many_119 (fun t9 => ?_)
        refine j_if_eq hC (pc := 122) dX11_many_122 (tgt := 129) rfl ?_ ?_
        · refine j_iconst hC (pc := 129) dX11_many_129 ki_0 ?_
          refine j_sub [] (loc' := []) rfl ?_
          exact wX11_many_130 hC hR hm F κ 0
        · refine j_iconst hC (pc := 125) dX11_many_125 ki_1 ?_
          refine j_goto hC (pc := 126) dX11_many_126 (tgt := 130) rfl ?_
          refine j_sub [] (loc' := []) rfl ?_
          exact wX11_many_130 hC hR hm F κ 1
set_option maxRecDepth 20000 in
theorem wX11_many_18 {Γ : JCtx} (hC : jC Γ cX11_many 4 RX11 (some .int) layM 15) (hR : gR Γ = rmH 4) (hm : gcells Γ ≤ (gR Γ).cells ∧ gslots Γ ≤ (gR Γ).slots) (F : Nat) (κ : Mem) (v1 : Int32) (y0 : Int32) : JP Γ (qf Γ oE) (pX11_many_18 F κ v1 y0) κ 18 [(0, .ref (gad Γ 0)), (1, .int v1)] [.int y0, .ref (gad Γ 0)] := by
  unfold pX11_many_18
  refine j_callV_E hC hR (ctX11_is hC.l hC.cn κ y0) kc_RX11_145 (Nat.le_of_ble_eq_true rfl) (Nat.le_of_ble_eq_true rfl) lM_0 (Nat.le_of_ble_eq_true rfl) rfl (As := [.int y0]) (rest := []) rfl rfl (Nat.le_of_ble_eq_true rfl) hm (pc := 18) dX11_many_18 (fun t2 => ?_)
  refine j_if_ne hC (pc := 21) dX11_many_21 (tgt := 26) rfl ?_ ?_
  · refine j_iconst hC (pc := 24) dX11_many_24 ki_m1 ?_
    exact j_iret hC (pc := 25) dX11_many_25 rfl rfl rfl
  · refine j_iconst hC (pc := 26) dX11_many_26 ki_0 ?_
    refine j_istore_n hC (pc := 27) dX11_many_27 rfl (Nat.le_of_ble_eq_true rfl) (loc' := [(2, .int 0), (0, .ref (gad Γ 0)), (1, .int v1)]) rfl ?_
    refine j_iconst hC (pc := 28) dX11_many_28 ki_0 ?_
    refine j_istore_n hC (pc := 29) dX11_many_29 rfl (Nat.le_of_ble_eq_true rfl) (loc' := [(3, .int 0), (2, .int 0), (0, .ref (gad Γ 0)), (1, .int v1)]) rfl ?_
    refine j_sub [2, 3, 1, 0] (loc' := [(0, .ref (gad Γ 0)), (1, .int v1), (2, .int 0), (3, .int 0)]) rfl ?_
    exact wX11_many_30 hC hR hm F t2.2 v1 F 0 0
set_option maxRecDepth 20000 in
theorem wX11_many {Γ : JCtx} (hC : jC Γ cX11_many 4 RX11 (some .int) layM 15) (hR : gR Γ = rmH 4) (hm : gcells Γ ≤ (gR Γ).cells ∧ gslots Γ ≤ (gR Γ).slots) (F : Nat) (κ : Mem) (v1 : Int32) : JP Γ (qf Γ oE) (pX11_many F κ v1) κ 0 [(0, .ref (gad Γ 0)), (1, .int v1)] [] := by
  unfold pX11_many
  refine j_aload_n hC (pc := 0) dX11_many_0 0 rfl rfl ?_
  refine j_iload_n hC (pc := 1) dX11_many_1 1 rfl rfl ?_
  refine j_i2l hC (pc := 2) dX11_many_2 ?_
  refine j_lconst hC (pc := 3) dX11_many_3 rfl ?_
  refine j_ldc2 hC (pc := 4) dX11_many_4 w_804 ?_
  refine j_callS_I hC hR (ctX11_isIn hC.l hC.cn κ v1.toInt64 0 5) kc_RX11_92 (Nat.le_of_ble_eq_true rfl) (Nat.le_of_ble_eq_true rfl) (As := [.long (v1.toInt64), .long 0, .long 5]) (rest := [.ref (gad Γ 0)]) rfl rfl (Nat.le_of_ble_eq_true rfl) hm (pc := 7) dX11_many_7 (fun t1 => ?_)
  refine j_if_eq hC (pc := 10) dX11_many_10 (tgt := 17) rfl ?_ ?_
  · refine j_iconst hC (pc := 17) dX11_many_17 ki_1 ?_
    exact wX11_many_18 hC hR hm F κ v1 1
  · refine j_iconst hC (pc := 13) dX11_many_13 ki_0 ?_
    refine j_goto hC (pc := 14) dX11_many_14 (tgt := 18) rfl ?_
    exact wX11_many_18 hC hR hm F κ v1 0
theorem ctX11_many {Δ : DCtx} {l : Launch} (hl : dlay Δ = layM) (hN : dN Δ = 15) (F : Nat) (κ : Mem) (v1 : Int32) : ∀ r, pX11_many F κ v1 = some r → CT Δ l yX11_many cX11_many 4 (some .int) (rmH 4) [.ref (dad Δ 0), .int v1] κ (some (.int r.1)) r.2 :=
  ct_of (nL := 4) (ret := (some .int)) (lay := layM) (N := 15) (by decide +kernel) (fun Δ => [.ref (dad Δ 0), .int v1]) (fun _ => oE) (fun _ => (Nat.le_of_ble_eq_true rfl)) (fun Γ hR hm hC => wX11_many hC hR hm F κ v1) Δ l hl hN
set_option maxRecDepth 20000 in
theorem wX11_seenBy_29 {Γ : JCtx} (hC : jC Γ cX11_seenBy 4 RX11 (some .int) layM 15) (hR : gR Γ = rmH 2) (hm : gcells Γ ≤ (gR Γ).cells ∧ gslots Γ ≤ (gR Γ).slots) (F : Nat) (κ : Mem) (v1 : Int32) (v3 : Int32) (y0 : Int32) (y1 : Int32) (k4 : Int32 → Int32 → Option Int32) (hk4 : ∀ (v2 : Int32) (v3 : Int32), JP Γ (qf Γ (oI κ)) (k4 v2 v3) κ 4 [(0, .ref (gad Γ 0)), (1, .int v1), (2, .int v2), (3, .int v3)] []) : JP Γ (qf Γ (oI κ)) (pX11_seenBy_29 F κ k4 v1 v3 y0 y1) κ 29 [(0, .ref (gad Γ 0)), (1, .int v1), (3, .int v3)] [.int y0, .int y1] := by
  unfold pX11_seenBy_29
  refine j_ior hC (pc := 29) dX11_seenBy_29 ?_
  refine j_nmi (fun x3 => ?_)
  refine j_istore_n hC (pc := 30) dX11_seenBy_30 rfl (Nat.le_of_ble_eq_true rfl) (loc' := [(2, .int x3), (0, .ref (gad Γ 0)), (1, .int v1), (3, .int v3)]) rfl ?_
  refine j_iinc hC (pc := 31) dX11_seenBy_31 3 rfl ki_1 (Nat.le_of_ble_eq_true rfl) (loc' := [(3, .int (v3 + 1)), (2, .int x3), (0, .ref (gad Γ 0)), (1, .int v1)]) rfl ?_
  refine j_goto hC (pc := 34) dX11_seenBy_34 (tgt := 4) rfl ?_
  refine j_sub [2, 3, 1, 0] (loc' := [(0, .ref (gad Γ 0)), (1, .int v1), (2, .int x3), (3, .int (v3 + 1))]) rfl ?_
  exact hk4 x3 (v3 + 1)
set_option maxRecDepth 20000 in
theorem wX11_seenBy_4 {Γ : JCtx} (hC : jC Γ cX11_seenBy 4 RX11 (some .int) layM 15) (hR : gR Γ = rmH 2) (hm : gcells Γ ≤ (gR Γ).cells ∧ gslots Γ ≤ (gR Γ).slots) (F : Nat) (κ : Mem) (v1 : Int32) : ∀ (n : Nat) (v2 : Int32) (v3 : Int32), JP Γ (qf Γ (oI κ)) (pX11_seenBy_4 F κ v1 n v2 v3) κ 4 [(0, .ref (gad Γ 0)), (1, .int v1), (2, .int v2), (3, .int v3)] [] := by
  intro n
  induction n with
  | zero =>
    intro v2 v3
    rw [pX11_seenBy_4]
    exact j_none
  | succ fu ih =>
    intro v2 v3
    rw [pX11_seenBy_4]
    refine j_iload_n hC (pc := 4) dX11_seenBy_4 3 rfl rfl ?_
    refine j_aload_n hC (pc := 5) dX11_seenBy_5 0 rfl rfl ?_
    refine j_callV_I hC hR (ctX11_players hC.l hC.cn κ) kc_RX11_108 (Nat.le_of_ble_eq_true rfl) (Nat.le_of_ble_eq_true rfl) lM_0 (Nat.le_of_ble_eq_true rfl) rfl (As := []) (rest := [.int v3]) rfl rfl (Nat.le_of_ble_eq_true rfl) hm (pc := 6) dX11_seenBy_6 (fun t1 => ?_)
    refine j_icmp_ge hC (pc := 9) dX11_seenBy_9 (tgt := 37) rfl ?_ ?_
    · refine j_iload_n hC (pc := 12) dX11_seenBy_12 2 rfl rfl ?_
      refine j_aload_n hC (pc := 13) dX11_seenBy_13 0 rfl rfl ?_
      refine j_iload_n hC (pc := 14) dX11_seenBy_14 3 rfl rfl ?_
      refine j_iload_n hC (pc := 15) dX11_seenBy_15 1 rfl rfl ?_
      refine j_callV_I hC hR (ctX11_sees hC.l hC.cn κ v3 v1) kc_RX11_115 (Nat.le_of_ble_eq_true rfl) (Nat.le_of_ble_eq_true rfl) lM_0 (Nat.le_of_ble_eq_true rfl) rfl (As := [.int v3, .int v1]) (rest := [.int v2]) rfl rfl (Nat.le_of_ble_eq_true rfl) hm (pc := 16) dX11_seenBy_16 (fun t2 => ?_)
      refine j_if_eq hC (pc := 19) dX11_seenBy_19 (tgt := 28) rfl ?_ ?_
      · refine j_iconst hC (pc := 28) dX11_seenBy_28 ki_0 ?_
        refine j_sub [0, 1, 3] (loc' := [(0, .ref (gad Γ 0)), (1, .int v1), (3, .int v3)]) rfl ?_
        exact wX11_seenBy_29 hC hR hm F κ v1 v3 0 v2 (pX11_seenBy_4 F κ v1 fu) ih
      · refine j_iconst hC (pc := 22) dX11_seenBy_22 ki_1 ?_
        refine j_iload_n hC (pc := 23) dX11_seenBy_23 3 rfl rfl ?_
        refine j_ishl hC (pc := 24) dX11_seenBy_24 ?_
        refine j_goto hC (pc := 25) dX11_seenBy_25 (tgt := 29) rfl ?_
        refine j_sub [0, 1, 3] (loc' := [(0, .ref (gad Γ 0)), (1, .int v1), (3, .int v3)]) rfl ?_
        exact wX11_seenBy_29 hC hR hm F κ v1 v3 (1 <<< (v3 &&& 31)) v2 (pX11_seenBy_4 F κ v1 fu) ih
    · refine j_iload_n hC (pc := 37) dX11_seenBy_37 2 rfl rfl ?_
      exact j_iret hC (pc := 38) dX11_seenBy_38 rfl rfl rfl
set_option maxRecDepth 20000 in
theorem wX11_seenBy {Γ : JCtx} (hC : jC Γ cX11_seenBy 4 RX11 (some .int) layM 15) (hR : gR Γ = rmH 2) (hm : gcells Γ ≤ (gR Γ).cells ∧ gslots Γ ≤ (gR Γ).slots) (F : Nat) (κ : Mem) (v1 : Int32) : JP Γ (qf Γ (oI κ)) (pX11_seenBy F κ v1) κ 0 [(0, .ref (gad Γ 0)), (1, .int v1)] [] := by
  unfold pX11_seenBy
  refine j_iconst hC (pc := 0) dX11_seenBy_0 ki_0 ?_
  refine j_istore_n hC (pc := 1) dX11_seenBy_1 rfl (Nat.le_of_ble_eq_true rfl) (loc' := [(2, .int 0), (0, .ref (gad Γ 0)), (1, .int v1)]) rfl ?_
  refine j_iconst hC (pc := 2) dX11_seenBy_2 ki_0 ?_
  refine j_istore_n hC (pc := 3) dX11_seenBy_3 rfl (Nat.le_of_ble_eq_true rfl) (loc' := [(3, .int 0), (2, .int 0), (0, .ref (gad Γ 0)), (1, .int v1)]) rfl ?_
  refine j_sub [2, 3, 1, 0] (loc' := [(0, .ref (gad Γ 0)), (1, .int v1), (2, .int 0), (3, .int 0)]) rfl ?_
  exact wX11_seenBy_4 hC hR hm F κ v1 F 0 0
theorem ctX11_seenBy {Δ : DCtx} {l : Launch} (hl : dlay Δ = layM) (hN : dN Δ = 15) (F : Nat) (κ : Mem) (v1 : Int32) : ∀ r, pX11_seenBy F κ v1 = some r → CT Δ l yX11_seenBy cX11_seenBy 4 (some .int) (rmH 2) [.ref (dad Δ 0), .int v1] κ (some (.int r)) κ :=
  ct_of (nL := 4) (ret := (some .int)) (lay := layM) (N := 15) (by decide +kernel) (fun Δ => [.ref (dad Δ 0), .int v1]) (fun _ => oI κ) (fun _ => (Nat.le_of_ble_eq_true rfl)) (fun Γ hR hm hC => wX11_seenBy hC hR hm F κ v1) Δ l hl hN
set_option maxRecDepth 20000 in
theorem wX11_why_17 {Γ : JCtx} (hC : jC Γ cX11_why 3 RX11 (some .int) layM 15) (hR : gR Γ = rmH 0) (hm : gcells Γ ≤ (gR Γ).cells ∧ gslots Γ ≤ (gR Γ).slots) (κ : Mem) (y0 : Int32) : JP Γ (qf Γ (oI κ)) (pX11_why_17 κ y0) κ 17 [] [.int y0] := by
  unfold pX11_why_17
  exact j_iret hC (pc := 17) dX11_why_17 rfl rfl rfl
set_option maxRecDepth 20000 in
theorem wX11_why {Γ : JCtx} (hC : jC Γ cX11_why 3 RX11 (some .int) layM 15) (hR : gR Γ = rmH 0) (hm : gcells Γ ≤ (gR Γ).cells ∧ gslots Γ ≤ (gR Γ).slots) (κ : Mem) (v1 : Int32) (v2 : Int32) : JP Γ (qf Γ (oI κ)) (pX11_why κ v1 v2) κ 0 [(0, .ref (gad Γ 0)), (1, .int v1), (2, .int v2)] [] := by
  unfold pX11_why
  refine j_iload_n hC (pc := 0) dX11_why_0 1 rfl rfl ?_
  refine j_if_ne hC (pc := 1) dX11_why_1 (tgt := 8) rfl ?_ ?_
  · refine j_iconst hC (pc := 4) dX11_why_4 ki_1 ?_
    refine j_goto hC (pc := 5) dX11_why_5 (tgt := 17) rfl ?_
    refine j_sub [] (loc' := []) rfl ?_
    exact wX11_why_17 hC hR hm κ 1
  · refine j_iload_n hC (pc := 8) dX11_why_8 2 rfl rfl ?_
    refine j_if_eq hC (pc := 9) dX11_why_9 (tgt := 16) rfl ?_ ?_
    · refine j_iconst hC (pc := 16) dX11_why_16 ki_2 ?_
      refine j_sub [] (loc' := []) rfl ?_
      exact wX11_why_17 hC hR hm κ 2
    · refine j_iconst hC (pc := 12) dX11_why_12 ki_0 ?_
      refine j_goto hC (pc := 13) dX11_why_13 (tgt := 17) rfl ?_
      refine j_sub [] (loc' := []) rfl ?_
      exact wX11_why_17 hC hR hm κ 0
theorem ctX11_why {Δ : DCtx} {l : Launch} (hl : dlay Δ = layM) (hN : dN Δ = 15) (κ : Mem) (v1 : Int32) (v2 : Int32) : ∀ r, pX11_why κ v1 v2 = some r → CT Δ l yX11_why cX11_why 3 (some .int) (rmH 0) [.ref (dad Δ 0), .int v1, .int v2] κ (some (.int r)) κ :=
  ct_of (nL := 3) (ret := (some .int)) (lay := layM) (N := 15) (by decide +kernel) (fun Δ => [.ref (dad Δ 0), .int v1, .int v2]) (fun _ => oI κ) (fun _ => (Nat.le_of_ble_eq_true rfl)) (fun Γ hR hm hC => wX11_why hC hR hm κ v1 v2) Δ l hl hN
set_option maxRecDepth 20000 in
theorem wX11_player_74 {Γ : JCtx} (hC : jC Γ cX11_player 3 RX11 (some .int) layM 15) (hR : gR Γ = rmH 3) (hm : gcells Γ ≤ (gR Γ).cells ∧ gslots Γ ≤ (gR Γ).slots) (F : Nat) (κ : Mem) (y0 : Int32) : JP Γ (qf Γ oE) (pX11_player_74 F κ y0) κ 74 [] [.int y0] := by
  unfold pX11_player_74
  exact j_iret hC (pc := 74) dX11_player_74 rfl rfl rfl
set_option maxRecDepth 20000 in
theorem wX11_player {Γ : JCtx} (hC : jC Γ cX11_player 3 RX11 (some .int) layM 15) (hR : gR Γ = rmH 3) (hm : gcells Γ ≤ (gR Γ).cells ∧ gslots Γ ≤ (gR Γ).slots) (F : Nat) (κ : Mem) (v1 : Int32) (v2 : Int32) : JP Γ (qf Γ oE) (pX11_player F κ v1 v2) κ 0 [(0, .ref (gad Γ 0)), (1, .int v1), (2, .int v2)] [] := by
  unfold pX11_player
  refine j_aload_n hC (pc := 0) dX11_player_0 0 rfl rfl ?_
  refine j_aload_n hC (pc := 1) dX11_player_1 0 rfl rfl ?_
  refine j_iload_n hC (pc := 2) dX11_player_2 2 rfl rfl ?_
  refine j_i2l hC (pc := 3) dX11_player_3 ?_
  refine j_lconst hC (pc := 4) dX11_player_4 rfl ?_
  refine j_ldc2 hC (pc := 5) dX11_player_5 w_821 ?_
  refine j_callS_I hC hR (ctX11_isIn hC.l hC.cn κ v2.toInt64 0 3) kc_RX11_92 (Nat.le_of_ble_eq_true rfl) (Nat.le_of_ble_eq_true rfl) (As := [.long (v2.toInt64), .long 0, .long 3]) (rest := [.ref (gad Γ 0), .ref (gad Γ 0)]) rfl rfl (Nat.le_of_ble_eq_true rfl) hm (pc := 8) dX11_player_8 (fun t1 => ?_)
  refine j_aload_n hC (pc := 11) dX11_player_11 0 rfl rfl ?_
  refine j_iload_n hC (pc := 12) dX11_player_12 1 rfl rfl ?_
  refine j_callV_I hC hR (ctX11_isPlayer hC.l hC.cn κ v1) kc_RX11_164 (Nat.le_of_ble_eq_true rfl) (Nat.le_of_ble_eq_true rfl) lM_0 (Nat.le_of_ble_eq_true rfl) rfl (As := [.int v1]) (rest := [.int t1, .ref (gad Γ 0), .ref (gad Γ 0)]) rfl rfl (Nat.le_of_ble_eq_true rfl) hm (pc := 13) dX11_player_13 (fun t2 => ?_)
  refine j_callV_I hC hR (ctX11_why hC.l hC.cn κ t1 t2) kc_RX11_167 (Nat.le_of_ble_eq_true rfl) (Nat.le_of_ble_eq_true rfl) lM_0 (Nat.le_of_ble_eq_true rfl) rfl (As := [.int t1, .int t2]) (rest := [.ref (gad Γ 0)]) rfl rfl (Nat.le_of_ble_eq_true rfl) hm (pc := 16) dX11_player_16 (fun t3 => ?_)
  refine j_callV_E hC hR (ctX11_is hC.l hC.cn κ t3) kc_RX11_145 (Nat.le_of_ble_eq_true rfl) (Nat.le_of_ble_eq_true rfl) lM_0 (Nat.le_of_ble_eq_true rfl) rfl (As := [.int t3]) (rest := []) rfl rfl (Nat.le_of_ble_eq_true rfl) hm (pc := 19) dX11_player_19 (fun t4 => ?_)
  refine j_if_ne hC (pc := 22) dX11_player_22 (tgt := 27) rfl ?_ ?_
  · refine j_iconst hC (pc := 25) dX11_player_25 ki_m1 ?_
    exact j_iret hC (pc := 26) dX11_player_26 rfl rfl rfl
  · refine j_iload_n hC (pc := 27) dX11_player_27 2 rfl rfl ?_
    refine j_if_ne hC (pc := 28) dX11_player_28 (tgt := 39) rfl ?_ ?_
    · refine j_aload_n hC (pc := 31) dX11_player_31 0 rfl rfl ?_
      refine j_iload_n hC (pc := 32) dX11_player_32 1 rfl rfl ?_
      refine j_callV_I hC hR (ctX11_hats hC.l hC.cn t4.2 v1) kc_RX11_111 (Nat.le_of_ble_eq_true rfl) (Nat.le_of_ble_eq_true rfl) lM_0 (Nat.le_of_ble_eq_true rfl) rfl (As := [.int v1]) (rest := []) rfl rfl (Nat.le_of_ble_eq_true rfl) hm (pc := 33) dX11_player_33 (fun t5 => ?_)
      refine j_goto hC (pc := 36) dX11_player_36 (tgt := 74) rfl ?_
      refine j_sub [] (loc' := []) rfl ?_
      exact wX11_player_74 hC hR hm F t4.2 t5
    · refine j_iload_n hC (pc := 39) dX11_player_39 2 rfl rfl ?_
      refine j_iconst hC (pc := 40) dX11_player_40 ki_1 ?_
      refine j_icmp_ne hC (pc := 41) dX11_player_41 (tgt := 56) rfl ?_ ?_
      · refine j_aload_n hC (pc := 44) dX11_player_44 0 rfl rfl ?_
        refine j_getR hC (pc := 45) dX11_player_45 kf_RX11_7 lM_0 (Nat.le_of_ble_eq_true rfl) rfl ?_
        refine j_bipush hC (pc := 48) dX11_player_48 kb_7 ?_
        refine j_iload_n hC (pc := 50) dX11_player_50 1 rfl rfl ?_
        refine j_iadd hC (pc := 51) dX11_player_51 ?_
        refine j_iald hC (pc := 52) dX11_player_52 lM_1 (Nat.le_of_ble_eq_true rfl) ?_
        refine j_goto hC (pc := 53) dX11_player_53 (tgt := 74) rfl ?_
        refine j_sub [] (loc' := []) rfl ?_
        exact wX11_player_74 hC hR hm F t4.2 (mi t4.2 1 (7 + v1).toNatClampNeg)
      · refine j_iload_n hC (pc := 56) dX11_player_56 2 rfl rfl ?_
        refine j_iconst hC (pc := 57) dX11_player_57 ki_2 ?_
        refine j_icmp_ne hC (pc := 58) dX11_player_58 (tgt := 69) rfl ?_ ?_
        · refine j_aload_n hC (pc := 61) dX11_player_61 0 rfl rfl ?_
          refine j_iload_n hC (pc := 62) dX11_player_62 1 rfl rfl ?_
          refine j_callV_I hC hR (ctX11_seenBy hC.l hC.cn F t4.2 v1) kc_RX11_171 (Nat.le_of_ble_eq_true rfl) (Nat.le_of_ble_eq_true rfl) lM_0 (Nat.le_of_ble_eq_true rfl) rfl (As := [.int v1]) (rest := []) rfl rfl (Nat.le_of_ble_eq_true rfl) hm (pc := 63) dX11_player_63 (fun t6 => ?_)
          refine j_goto hC (pc := 66) dX11_player_66 (tgt := 74) rfl ?_
          refine j_sub [] (loc' := []) rfl ?_
          exact wX11_player_74 hC hR hm F t4.2 t6
        · refine j_aload_n hC (pc := 69) dX11_player_69 0 rfl rfl ?_
          refine j_iload_n hC (pc := 70) dX11_player_70 1 rfl rfl ?_
          refine j_callV_I hC hR (ctX11_situations_ hC.l hC.cn F t4.2 v1) kc_RX11_174 (Nat.le_of_ble_eq_true rfl) (Nat.le_of_ble_eq_true rfl) lM_0 (Nat.le_of_ble_eq_true rfl) rfl (As := [.int v1]) (rest := []) rfl rfl (Nat.le_of_ble_eq_true rfl) hm (pc := 71) dX11_player_71 (fun t7 => ?_)
          refine j_sub [] (loc' := []) rfl ?_
          exact wX11_player_74 hC hR hm F t4.2 t7
theorem ctX11_player {Δ : DCtx} {l : Launch} (hl : dlay Δ = layM) (hN : dN Δ = 15) (F : Nat) (κ : Mem) (v1 : Int32) (v2 : Int32) : ∀ r, pX11_player F κ v1 v2 = some r → CT Δ l yX11_player cX11_player 3 (some .int) (rmH 3) [.ref (dad Δ 0), .int v1, .int v2] κ (some (.int r.1)) r.2 :=
  ct_of (nL := 3) (ret := (some .int)) (lay := layM) (N := 15) (by decide +kernel) (fun Δ => [.ref (dad Δ 0), .int v1, .int v2]) (fun _ => oE) (fun _ => (Nat.le_of_ble_eq_true rfl)) (fun Γ hR hm hC => wX11_player hC hR hm F κ v1 v2) Δ l hl hN
set_option maxRecDepth 20000 in
theorem wX11_isSituation_30 {Γ : JCtx} (hC : jC Γ cX11_isSituation 3 RX11 (some .boolean) layM 15) (hR : gR Γ = rmH 3) (hm : gcells Γ ≤ (gR Γ).cells ∧ gslots Γ ≤ (gR Γ).slots) (F : Nat) (κ : Mem) (y0 : Int32) : JP Γ (qf Γ (oI κ)) (pX11_isSituation_30 F κ y0) κ 30 [] [.int y0] := by
  unfold pX11_isSituation_30
  refine j_ckP (fun hq2 => ?_)
  exact j_iret hC (pc := 30) dX11_isSituation_30 rfl (isB_n hq2) rfl
set_option maxRecDepth 20000 in
theorem wX11_isSituation_29 {Γ : JCtx} (hC : jC Γ cX11_isSituation 3 RX11 (some .boolean) layM 15) (hR : gR Γ = rmH 3) (hm : gcells Γ ≤ (gR Γ).cells ∧ gslots Γ ≤ (gR Γ).slots) (F : Nat) (κ : Mem) : JP Γ (qf Γ (oI κ)) (pX11_isSituation_29 F κ) κ 29 [] [] := by
  unfold pX11_isSituation_29
  refine j_iconst hC (pc := 29) dX11_isSituation_29 ki_0 ?_
  exact wX11_isSituation_30 hC hR hm F κ 0
set_option maxRecDepth 20000 in
theorem wX11_isSituation {Γ : JCtx} (hC : jC Γ cX11_isSituation 3 RX11 (some .boolean) layM 15) (hR : gR Γ = rmH 3) (hm : gcells Γ ≤ (gR Γ).cells ∧ gslots Γ ≤ (gR Γ).slots) (F : Nat) (κ : Mem) (v1 : Int32) (v2 : Int32) : JP Γ (qf Γ (oI κ)) (pX11_isSituation F κ v1 v2) κ 0 [(0, .ref (gad Γ 0)), (1, .int v1), (2, .int v2)] [] := by
  unfold pX11_isSituation
  refine j_aload_n hC (pc := 0) dX11_isSituation_0 0 rfl rfl ?_
  refine j_iload_n hC (pc := 1) dX11_isSituation_1 1 rfl rfl ?_
  refine j_callV_I hC hR (ctX11_isPlayer hC.l hC.cn κ v1) kc_RX11_164 (Nat.le_of_ble_eq_true rfl) (Nat.le_of_ble_eq_true rfl) lM_0 (Nat.le_of_ble_eq_true rfl) rfl (As := [.int v1]) (rest := []) rfl rfl (Nat.le_of_ble_eq_true rfl) hm (pc := 2) dX11_isSituation_2 (fun t1 => ?_)
  refine j_if_eq hC (pc := 5) dX11_isSituation_5 (tgt := 29) rfl ?_ ?_
  · refine j_sub [] (loc' := []) rfl ?_
    exact wX11_isSituation_29 hC hR hm F κ
  · refine j_iload_n hC (pc := 8) dX11_isSituation_8 2 rfl rfl ?_
    refine j_i2l hC (pc := 9) dX11_isSituation_9 ?_
    refine j_lconst hC (pc := 10) dX11_isSituation_10 rfl ?_
    refine j_aload_n hC (pc := 11) dX11_isSituation_11 0 rfl rfl ?_
    refine j_iload_n hC (pc := 12) dX11_isSituation_12 1 rfl rfl ?_
    refine j_callV_I hC hR (ctX11_situations_ hC.l hC.cn F κ v1) kc_RX11_174 (Nat.le_of_ble_eq_true rfl) (Nat.le_of_ble_eq_true rfl) lM_0 (Nat.le_of_ble_eq_true rfl) rfl (As := [.int v1]) (rest := [.long 0, .long (v2.toInt64)]) rfl rfl (Nat.le_of_ble_eq_true rfl) hm (pc := 13) dX11_isSituation_13 (fun t3 => ?_)
    refine j_iconst hC (pc := 16) dX11_isSituation_16 ki_1 ?_
    refine j_isub hC (pc := 17) dX11_isSituation_17 ?_
    refine j_i2l hC (pc := 18) dX11_isSituation_18 ?_
    refine j_callS_I hC hR (ctX11_isIn hC.l hC.cn κ v2.toInt64 0 ((t3 - 1).toInt64)) kc_RX11_92 (Nat.le_of_ble_eq_true rfl) (Nat.le_of_ble_eq_true rfl) (As := [.long (v2.toInt64), .long 0, .long ((t3 - 1).toInt64)]) (rest := []) rfl rfl (Nat.le_of_ble_eq_true rfl) hm (pc := 19) dX11_isSituation_19 (fun t4 => ?_)
    refine j_if_eq hC (pc := 22) dX11_isSituation_22 (tgt := 29) rfl ?_ ?_
    · refine j_sub [] (loc' := []) rfl ?_
      exact wX11_isSituation_29 hC hR hm F κ
    · refine j_iconst hC (pc := 25) dX11_isSituation_25 ki_1 ?_
      refine j_goto hC (pc := 26) dX11_isSituation_26 (tgt := 30) rfl ?_
      refine j_sub [] (loc' := []) rfl ?_
      exact wX11_isSituation_30 hC hR hm F κ 1
theorem ctX11_isSituation {Δ : DCtx} {l : Launch} (hl : dlay Δ = layM) (hN : dN Δ = 15) (F : Nat) (κ : Mem) (v1 : Int32) (v2 : Int32) : ∀ r, pX11_isSituation F κ v1 v2 = some r → CT Δ l yX11_isSituation cX11_isSituation 3 (some .boolean) (rmH 3) [.ref (dad Δ 0), .int v1, .int v2] κ (some (.int r)) κ :=
  ct_of (nL := 3) (ret := (some .boolean)) (lay := layM) (N := 15) (by decide +kernel) (fun Δ => [.ref (dad Δ 0), .int v1, .int v2]) (fun _ => oI κ) (fun _ => (Nat.le_of_ble_eq_true rfl)) (fun Γ hR hm hC => wX11_isSituation hC hR hm F κ v1 v2) Δ l hl hN
set_option maxRecDepth 20000 in
theorem wX11_isColour_30 {Γ : JCtx} (hC : jC Γ cX11_isColour 3 RX11 (some .boolean) layM 15) (hR : gR Γ = rmH 2) (hm : gcells Γ ≤ (gR Γ).cells ∧ gslots Γ ≤ (gR Γ).slots) (κ : Mem) (y0 : Int32) : JP Γ (qf Γ (oI κ)) (pX11_isColour_30 κ y0) κ 30 [] [.int y0] := by
  unfold pX11_isColour_30
  refine j_ckP (fun hq2 => ?_)
  exact j_iret hC (pc := 30) dX11_isColour_30 rfl (isB_n hq2) rfl
set_option maxRecDepth 20000 in
theorem wX11_isColour_29 {Γ : JCtx} (hC : jC Γ cX11_isColour 3 RX11 (some .boolean) layM 15) (hR : gR Γ = rmH 2) (hm : gcells Γ ≤ (gR Γ).cells ∧ gslots Γ ≤ (gR Γ).slots) (κ : Mem) : JP Γ (qf Γ (oI κ)) (pX11_isColour_29 κ) κ 29 [] [] := by
  unfold pX11_isColour_29
  refine j_iconst hC (pc := 29) dX11_isColour_29 ki_0 ?_
  exact wX11_isColour_30 hC hR hm κ 0
set_option maxRecDepth 20000 in
theorem wX11_isColour {Γ : JCtx} (hC : jC Γ cX11_isColour 3 RX11 (some .boolean) layM 15) (hR : gR Γ = rmH 2) (hm : gcells Γ ≤ (gR Γ).cells ∧ gslots Γ ≤ (gR Γ).slots) (κ : Mem) (v1 : Int32) (v2 : Int32) : JP Γ (qf Γ (oI κ)) (pX11_isColour κ v1 v2) κ 0 [(0, .ref (gad Γ 0)), (1, .int v1), (2, .int v2)] [] := by
  unfold pX11_isColour
  refine j_aload_n hC (pc := 0) dX11_isColour_0 0 rfl rfl ?_
  refine j_iload_n hC (pc := 1) dX11_isColour_1 1 rfl rfl ?_
  refine j_callV_I hC hR (ctX11_isPlayer hC.l hC.cn κ v1) kc_RX11_164 (Nat.le_of_ble_eq_true rfl) (Nat.le_of_ble_eq_true rfl) lM_0 (Nat.le_of_ble_eq_true rfl) rfl (As := [.int v1]) (rest := []) rfl rfl (Nat.le_of_ble_eq_true rfl) hm (pc := 2) dX11_isColour_2 (fun t1 => ?_)
  refine j_if_eq hC (pc := 5) dX11_isColour_5 (tgt := 29) rfl ?_ ?_
  · refine j_sub [] (loc' := []) rfl ?_
    exact wX11_isColour_29 hC hR hm κ
  · refine j_iload_n hC (pc := 8) dX11_isColour_8 2 rfl rfl ?_
    refine j_i2l hC (pc := 9) dX11_isColour_9 ?_
    refine j_lconst hC (pc := 10) dX11_isColour_10 rfl ?_
    refine j_aload_n hC (pc := 11) dX11_isColour_11 0 rfl rfl ?_
    refine j_iload_n hC (pc := 12) dX11_isColour_12 1 rfl rfl ?_
    refine j_callV_I hC hR (ctX11_hats hC.l hC.cn κ v1) kc_RX11_111 (Nat.le_of_ble_eq_true rfl) (Nat.le_of_ble_eq_true rfl) lM_0 (Nat.le_of_ble_eq_true rfl) rfl (As := [.int v1]) (rest := [.long 0, .long (v2.toInt64)]) rfl rfl (Nat.le_of_ble_eq_true rfl) hm (pc := 13) dX11_isColour_13 (fun t3 => ?_)
    refine j_iconst hC (pc := 16) dX11_isColour_16 ki_1 ?_
    refine j_isub hC (pc := 17) dX11_isColour_17 ?_
    refine j_i2l hC (pc := 18) dX11_isColour_18 ?_
    refine j_callS_I hC hR (ctX11_isIn hC.l hC.cn κ v2.toInt64 0 ((t3 - 1).toInt64)) kc_RX11_92 (Nat.le_of_ble_eq_true rfl) (Nat.le_of_ble_eq_true rfl) (As := [.long (v2.toInt64), .long 0, .long ((t3 - 1).toInt64)]) (rest := []) rfl rfl (Nat.le_of_ble_eq_true rfl) hm (pc := 19) dX11_isColour_19 (fun t4 => ?_)
    refine j_if_eq hC (pc := 22) dX11_isColour_22 (tgt := 29) rfl ?_ ?_
    · refine j_sub [] (loc' := []) rfl ?_
      exact wX11_isColour_29 hC hR hm κ
    · refine j_iconst hC (pc := 25) dX11_isColour_25 ki_1 ?_
      refine j_goto hC (pc := 26) dX11_isColour_26 (tgt := 30) rfl ?_
      refine j_sub [] (loc' := []) rfl ?_
      exact wX11_isColour_30 hC hR hm κ 1
theorem ctX11_isColour {Δ : DCtx} {l : Launch} (hl : dlay Δ = layM) (hN : dN Δ = 15) (κ : Mem) (v1 : Int32) (v2 : Int32) : ∀ r, pX11_isColour κ v1 v2 = some r → CT Δ l yX11_isColour cX11_isColour 3 (some .boolean) (rmH 2) [.ref (dad Δ 0), .int v1, .int v2] κ (some (.int r)) κ :=
  ct_of (nL := 3) (ret := (some .boolean)) (lay := layM) (N := 15) (by decide +kernel) (fun Δ => [.ref (dad Δ 0), .int v1, .int v2]) (fun _ => oI κ) (fun _ => (Nat.le_of_ble_eq_true rfl)) (fun Γ hR hm hC => wX11_isColour hC hR hm κ v1 v2) Δ l hl hN
set_option maxRecDepth 20000 in
theorem wX11_isColouring {Γ : JCtx} (hC : jC Γ cX11_isColouring 2 RX11 (some .boolean) layM 15) (hR : gR Γ = rmH 2) (hm : gcells Γ ≤ (gR Γ).cells ∧ gslots Γ ≤ (gR Γ).slots) (F : Nat) (κ : Mem) (v1 : Int32) : JP Γ (qf Γ (oI κ)) (pX11_isColouring F κ v1) κ 0 [(0, .ref (gad Γ 0)), (1, .int v1)] [] := by
  unfold pX11_isColouring
  refine j_iload_n hC (pc := 0) dX11_isColouring_0 1 rfl rfl ?_
  refine j_i2l hC (pc := 1) dX11_isColouring_1 ?_
  refine j_lconst hC (pc := 2) dX11_isColouring_2 rfl ?_
  refine j_aload_n hC (pc := 3) dX11_isColouring_3 0 rfl rfl ?_
  refine j_callV_I hC hR (ctX11_colourings_ hC.l hC.cn F κ) kc_RX11_125 (Nat.le_of_ble_eq_true rfl) (Nat.le_of_ble_eq_true rfl) lM_0 (Nat.le_of_ble_eq_true rfl) rfl (As := []) (rest := [.long 0, .long (v1.toInt64)]) rfl rfl (Nat.le_of_ble_eq_true rfl) hm (pc := 4) dX11_isColouring_4 (fun t1 => ?_)
  refine j_iconst hC (pc := 7) dX11_isColouring_7 ki_1 ?_
  refine j_isub hC (pc := 8) dX11_isColouring_8 ?_
  refine j_i2l hC (pc := 9) dX11_isColouring_9 ?_
  refine j_callS_I hC hR (ctX11_isIn hC.l hC.cn κ v1.toInt64 0 ((t1 - 1).toInt64)) kc_RX11_92 (Nat.le_of_ble_eq_true rfl) (Nat.le_of_ble_eq_true rfl) (As := [.long (v1.toInt64), .long 0, .long ((t1 - 1).toInt64)]) (rest := []) rfl rfl (Nat.le_of_ble_eq_true rfl) hm (pc := 10) dX11_isColouring_10 (fun t2 => ?_)
  refine j_ckP (fun hq3 => ?_)
  exact j_iret hC (pc := 13) dX11_isColouring_13 rfl (isB_n hq3) rfl
theorem ctX11_isColouring {Δ : DCtx} {l : Launch} (hl : dlay Δ = layM) (hN : dN Δ = 15) (F : Nat) (κ : Mem) (v1 : Int32) : ∀ r, pX11_isColouring F κ v1 = some r → CT Δ l yX11_isColouring cX11_isColouring 2 (some .boolean) (rmH 2) [.ref (dad Δ 0), .int v1] κ (some (.int r)) κ :=
  ct_of (nL := 2) (ret := (some .boolean)) (lay := layM) (N := 15) (by decide +kernel) (fun Δ => [.ref (dad Δ 0), .int v1]) (fun _ => oI κ) (fun _ => (Nat.le_of_ble_eq_true rfl)) (fun Γ hR hm hC => wX11_isColouring hC hR hm F κ v1) Δ l hl hN
set_option maxRecDepth 20000 in
theorem wX11_guess_31 {Γ : JCtx} (hC : jC Γ cX11_guess 3 RX11 (some .int) layM 15) (hR : gR Γ = rmH 4) (hm : gcells Γ ≤ (gR Γ).cells ∧ gslots Γ ≤ (gR Γ).slots) (F : Nat) (κ : Mem) (y0 : Int32) : JP Γ (qf Γ oE) (pX11_guess_31 F κ y0) κ 31 [] [.int y0] := by
  unfold pX11_guess_31
  exact j_iret hC (pc := 31) dX11_guess_31 rfl rfl rfl
set_option maxRecDepth 20000 in
theorem wX11_guess_15 {Γ : JCtx} (hC : jC Γ cX11_guess 3 RX11 (some .int) layM 15) (hR : gR Γ = rmH 4) (hm : gcells Γ ≤ (gR Γ).cells ∧ gslots Γ ≤ (gR Γ).slots) (F : Nat) (κ : Mem) (v1 : Int32) (v2 : Int32) (y0 : Int32) : JP Γ (qf Γ oE) (pX11_guess_15 F κ v1 v2 y0) κ 15 [(0, .ref (gad Γ 0)), (1, .int v1), (2, .int v2)] [.int y0, .ref (gad Γ 0)] := by
  unfold pX11_guess_15
  refine j_callV_E hC hR (ctX11_is hC.l hC.cn κ y0) kc_RX11_145 (Nat.le_of_ble_eq_true rfl) (Nat.le_of_ble_eq_true rfl) lM_0 (Nat.le_of_ble_eq_true rfl) rfl (As := [.int y0]) (rest := []) rfl rfl (Nat.le_of_ble_eq_true rfl) hm (pc := 15) dX11_guess_15 (fun t2 => ?_)
  refine j_if_eq hC (pc := 18) dX11_guess_18 (tgt := 30) rfl ?_ ?_
  · refine j_iconst hC (pc := 30) dX11_guess_30 ki_m1 ?_
    refine j_sub [] (loc' := []) rfl ?_
    exact wX11_guess_31 hC hR hm F t2.2 (-1)
  · refine j_aload_n hC (pc := 21) dX11_guess_21 0 rfl rfl ?_
    refine j_iload_n hC (pc := 22) dX11_guess_22 1 rfl rfl ?_
    refine j_iload_n hC (pc := 23) dX11_guess_23 2 rfl rfl ?_
    refine j_callV_I hC hR (ctX11_entry hC.l hC.cn t2.2 v1 v2) kc_RX11_121 (Nat.le_of_ble_eq_true rfl) (Nat.le_of_ble_eq_true rfl) lM_0 (Nat.le_of_ble_eq_true rfl) rfl (As := [.int v1, .int v2]) (rest := []) rfl rfl (Nat.le_of_ble_eq_true rfl) hm (pc := 24) dX11_guess_24 (fun t3 => ?_)
    refine j_goto hC (pc := 27) dX11_guess_27 (tgt := 31) rfl ?_
    refine j_sub [] (loc' := []) rfl ?_
    exact wX11_guess_31 hC hR hm F t2.2 t3
set_option maxRecDepth 20000 in
theorem wX11_guess {Γ : JCtx} (hC : jC Γ cX11_guess 3 RX11 (some .int) layM 15) (hR : gR Γ = rmH 4) (hm : gcells Γ ≤ (gR Γ).cells ∧ gslots Γ ≤ (gR Γ).slots) (F : Nat) (κ : Mem) (v1 : Int32) (v2 : Int32) : JP Γ (qf Γ oE) (pX11_guess F κ v1 v2) κ 0 [(0, .ref (gad Γ 0)), (1, .int v1), (2, .int v2)] [] := by
  unfold pX11_guess
  refine j_aload_n hC (pc := 0) dX11_guess_0 0 rfl rfl ?_
  refine j_aload_n hC (pc := 1) dX11_guess_1 0 rfl rfl ?_
  refine j_iload_n hC (pc := 2) dX11_guess_2 1 rfl rfl ?_
  refine j_iload_n hC (pc := 3) dX11_guess_3 2 rfl rfl ?_
  refine j_callV_I hC hR (ctX11_isSituation hC.l hC.cn F κ v1 v2) kc_RX11_176 (Nat.le_of_ble_eq_true rfl) (Nat.le_of_ble_eq_true rfl) lM_0 (Nat.le_of_ble_eq_true rfl) rfl (As := [.int v1, .int v2]) (rest := [.ref (gad Γ 0)]) rfl rfl (Nat.le_of_ble_eq_true rfl) hm (pc := 4) dX11_guess_4 (fun t1 => ?_)
  refine j_if_eq hC (pc := 7) dX11_guess_7 (tgt := 14) rfl ?_ ?_
  · refine j_iconst hC (pc := 14) dX11_guess_14 ki_2 ?_
    exact wX11_guess_15 hC hR hm F κ v1 v2 2
  · refine j_iconst hC (pc := 10) dX11_guess_10 ki_0 ?_
    refine j_goto hC (pc := 11) dX11_guess_11 (tgt := 15) rfl ?_
    exact wX11_guess_15 hC hR hm F κ v1 v2 0
theorem ctX11_guess {Δ : DCtx} {l : Launch} (hl : dlay Δ = layM) (hN : dN Δ = 15) (F : Nat) (κ : Mem) (v1 : Int32) (v2 : Int32) : ∀ r, pX11_guess F κ v1 v2 = some r → CT Δ l yX11_guess cX11_guess 3 (some .int) (rmH 4) [.ref (dad Δ 0), .int v1, .int v2] κ (some (.int r.1)) r.2 :=
  ct_of (nL := 3) (ret := (some .int)) (lay := layM) (N := 15) (by decide +kernel) (fun Δ => [.ref (dad Δ 0), .int v1, .int v2]) (fun _ => oE) (fun _ => (Nat.le_of_ble_eq_true rfl)) (fun Γ hR hm hC => wX11_guess hC hR hm F κ v1 v2) Δ l hl hN
set_option maxRecDepth 20000 in
theorem wX11_situation_22 {Γ : JCtx} (hC : jC Γ cX11_situation 3 RX11 (some .int) layM 15) (hR : gR Γ = rmH 3) (hm : gcells Γ ≤ (gR Γ).cells ∧ gslots Γ ≤ (gR Γ).slots) (F : Nat) (κ : Mem) (v1 : Int32) (v2 : Int32) (y0 : Int32) : JP Γ (qf Γ oE) (pX11_situation_22 F κ v1 v2 y0) κ 22 [(0, .ref (gad Γ 0)), (1, .int v1), (2, .int v2)] [.int y0, .ref (gad Γ 0)] := by
  unfold pX11_situation_22
  refine j_callV_E hC hR (ctX11_is hC.l hC.cn κ y0) kc_RX11_145 (Nat.le_of_ble_eq_true rfl) (Nat.le_of_ble_eq_true rfl) lM_0 (Nat.le_of_ble_eq_true rfl) rfl (As := [.int y0]) (rest := []) rfl rfl (Nat.le_of_ble_eq_true rfl) hm (pc := 22) dX11_situation_22 (fun t2 => ?_)
  refine j_if_ne hC (pc := 25) dX11_situation_25 (tgt := 30) rfl ?_ ?_
  · refine j_iconst hC (pc := 28) dX11_situation_28 ki_m1 ?_
    exact j_iret hC (pc := 29) dX11_situation_29 rfl rfl rfl
  · refine j_aload_n hC (pc := 30) dX11_situation_30 0 rfl rfl ?_
    refine j_iload_n hC (pc := 31) dX11_situation_31 2 rfl rfl ?_
    refine j_callV_V hC hR (ctX11_lays hC.l hC.cn F t2.2 v2) kc_RX11_127 (Nat.le_of_ble_eq_true rfl) (Nat.le_of_ble_eq_true rfl) lM_0 (Nat.le_of_ble_eq_true rfl) rfl (As := [.int v2]) (rest := []) rfl rfl (Nat.le_of_ble_eq_true rfl) hm (pc := 32) dX11_situation_32 (fun t3 => ?_)
    refine j_aload_n hC (pc := 35) dX11_situation_35 0 rfl rfl ?_
    refine j_iload_n hC (pc := 36) dX11_situation_36 1 rfl rfl ?_
    refine j_callV_I hC hR (ctX11_situationOf hC.l hC.cn F t3 v1) kc_RX11_118 (Nat.le_of_ble_eq_true rfl) (Nat.le_of_ble_eq_true rfl) lM_0 (Nat.le_of_ble_eq_true rfl) rfl (As := [.int v1]) (rest := []) rfl rfl (Nat.le_of_ble_eq_true rfl) hm (pc := 37) dX11_situation_37 (fun t4 => ?_)
    exact j_iret hC (pc := 40) dX11_situation_40 rfl rfl rfl
set_option maxRecDepth 20000 in
theorem wX11_situation_21 {Γ : JCtx} (hC : jC Γ cX11_situation 3 RX11 (some .int) layM 15) (hR : gR Γ = rmH 3) (hm : gcells Γ ≤ (gR Γ).cells ∧ gslots Γ ≤ (gR Γ).slots) (F : Nat) (κ : Mem) (v1 : Int32) (v2 : Int32) : JP Γ (qf Γ oE) (pX11_situation_21 F κ v1 v2) κ 21 [(0, .ref (gad Γ 0)), (1, .int v1), (2, .int v2)] [.ref (gad Γ 0)] := by
  unfold pX11_situation_21
  refine j_iconst hC (pc := 21) dX11_situation_21 ki_2 ?_
  exact wX11_situation_22 hC hR hm F κ v1 v2 2
set_option maxRecDepth 20000 in
theorem wX11_situation {Γ : JCtx} (hC : jC Γ cX11_situation 3 RX11 (some .int) layM 15) (hR : gR Γ = rmH 3) (hm : gcells Γ ≤ (gR Γ).cells ∧ gslots Γ ≤ (gR Γ).slots) (F : Nat) (κ : Mem) (v1 : Int32) (v2 : Int32) : JP Γ (qf Γ oE) (pX11_situation F κ v1 v2) κ 0 [(0, .ref (gad Γ 0)), (1, .int v1), (2, .int v2)] [] := by
  unfold pX11_situation
  refine j_aload_n hC (pc := 0) dX11_situation_0 0 rfl rfl ?_
  refine j_aload_n hC (pc := 1) dX11_situation_1 0 rfl rfl ?_
  refine j_iload_n hC (pc := 2) dX11_situation_2 1 rfl rfl ?_
  refine j_callV_I hC hR (ctX11_isPlayer hC.l hC.cn κ v1) kc_RX11_164 (Nat.le_of_ble_eq_true rfl) (Nat.le_of_ble_eq_true rfl) lM_0 (Nat.le_of_ble_eq_true rfl) rfl (As := [.int v1]) (rest := [.ref (gad Γ 0)]) rfl rfl (Nat.le_of_ble_eq_true rfl) hm (pc := 3) dX11_situation_3 (fun t1 => ?_)
  refine j_if_eq hC (pc := 6) dX11_situation_6 (tgt := 21) rfl ?_ ?_
  · exact wX11_situation_21 hC hR hm F κ v1 v2
  · refine j_aload_n hC (pc := 9) dX11_situation_9 0 rfl rfl ?_
    refine j_iload_n hC (pc := 10) dX11_situation_10 2 rfl rfl ?_
    refine j_callV_I hC hR (ctX11_isColouring hC.l hC.cn F κ v2) kc_RX11_179 (Nat.le_of_ble_eq_true rfl) (Nat.le_of_ble_eq_true rfl) lM_0 (Nat.le_of_ble_eq_true rfl) rfl (As := [.int v2]) (rest := [.ref (gad Γ 0)]) rfl rfl (Nat.le_of_ble_eq_true rfl) hm (pc := 11) dX11_situation_11 (fun t5 => ?_)
    refine j_if_eq hC (pc := 14) dX11_situation_14 (tgt := 21) rfl ?_ ?_
    · exact wX11_situation_21 hC hR hm F κ v1 v2
    · refine j_iconst hC (pc := 17) dX11_situation_17 ki_0 ?_
      refine j_goto hC (pc := 18) dX11_situation_18 (tgt := 22) rfl ?_
      exact wX11_situation_22 hC hR hm F κ v1 v2 0
theorem ctX11_situation {Δ : DCtx} {l : Launch} (hl : dlay Δ = layM) (hN : dN Δ = 15) (F : Nat) (κ : Mem) (v1 : Int32) (v2 : Int32) : ∀ r, pX11_situation F κ v1 v2 = some r → CT Δ l yX11_situation cX11_situation 3 (some .int) (rmH 3) [.ref (dad Δ 0), .int v1, .int v2] κ (some (.int r.1)) r.2 :=
  ct_of (nL := 3) (ret := (some .int)) (lay := layM) (N := 15) (by decide +kernel) (fun Δ => [.ref (dad Δ 0), .int v1, .int v2]) (fun _ => oE) (fun _ => (Nat.le_of_ble_eq_true rfl)) (fun Γ hR hm hC => wX11_situation hC hR hm F κ v1 v2) Δ l hl hN
set_option maxRecDepth 20000 in
theorem wX11_colour_22 {Γ : JCtx} (hC : jC Γ cX11_colour 3 RX11 (some .int) layM 15) (hR : gR Γ = rmH 3) (hm : gcells Γ ≤ (gR Γ).cells ∧ gslots Γ ≤ (gR Γ).slots) (F : Nat) (κ : Mem) (v1 : Int32) (v2 : Int32) (y0 : Int32) : JP Γ (qf Γ oE) (pX11_colour_22 F κ v1 v2 y0) κ 22 [(0, .ref (gad Γ 0)), (1, .int v1), (2, .int v2)] [.int y0, .ref (gad Γ 0)] := by
  unfold pX11_colour_22
  refine j_callV_E hC hR (ctX11_is hC.l hC.cn κ y0) kc_RX11_145 (Nat.le_of_ble_eq_true rfl) (Nat.le_of_ble_eq_true rfl) lM_0 (Nat.le_of_ble_eq_true rfl) rfl (As := [.int y0]) (rest := []) rfl rfl (Nat.le_of_ble_eq_true rfl) hm (pc := 22) dX11_colour_22 (fun t2 => ?_)
  refine j_if_ne hC (pc := 25) dX11_colour_25 (tgt := 30) rfl ?_ ?_
  · refine j_iconst hC (pc := 28) dX11_colour_28 ki_m1 ?_
    exact j_iret hC (pc := 29) dX11_colour_29 rfl rfl rfl
  · refine j_aload_n hC (pc := 30) dX11_colour_30 0 rfl rfl ?_
    refine j_iload_n hC (pc := 31) dX11_colour_31 2 rfl rfl ?_
    refine j_callV_V hC hR (ctX11_lays hC.l hC.cn F t2.2 v2) kc_RX11_127 (Nat.le_of_ble_eq_true rfl) (Nat.le_of_ble_eq_true rfl) lM_0 (Nat.le_of_ble_eq_true rfl) rfl (As := [.int v2]) (rest := []) rfl rfl (Nat.le_of_ble_eq_true rfl) hm (pc := 32) dX11_colour_32 (fun t3 => ?_)
    refine j_aload_n hC (pc := 35) dX11_colour_35 0 rfl rfl ?_
    refine j_getR hC (pc := 36) dX11_colour_36 kf_RX11_23 lM_0 (Nat.le_of_ble_eq_true rfl) rfl ?_
    refine j_iload_n hC (pc := 39) dX11_colour_39 1 rfl rfl ?_
    refine j_iald hC (pc := 40) dX11_colour_40 lM_5 (Nat.le_of_ble_eq_true rfl) ?_
    exact j_iret hC (pc := 41) dX11_colour_41 rfl rfl rfl
set_option maxRecDepth 20000 in
theorem wX11_colour_21 {Γ : JCtx} (hC : jC Γ cX11_colour 3 RX11 (some .int) layM 15) (hR : gR Γ = rmH 3) (hm : gcells Γ ≤ (gR Γ).cells ∧ gslots Γ ≤ (gR Γ).slots) (F : Nat) (κ : Mem) (v1 : Int32) (v2 : Int32) : JP Γ (qf Γ oE) (pX11_colour_21 F κ v1 v2) κ 21 [(0, .ref (gad Γ 0)), (1, .int v1), (2, .int v2)] [.ref (gad Γ 0)] := by
  unfold pX11_colour_21
  refine j_iconst hC (pc := 21) dX11_colour_21 ki_2 ?_
  exact wX11_colour_22 hC hR hm F κ v1 v2 2
set_option maxRecDepth 20000 in
theorem wX11_colour {Γ : JCtx} (hC : jC Γ cX11_colour 3 RX11 (some .int) layM 15) (hR : gR Γ = rmH 3) (hm : gcells Γ ≤ (gR Γ).cells ∧ gslots Γ ≤ (gR Γ).slots) (F : Nat) (κ : Mem) (v1 : Int32) (v2 : Int32) : JP Γ (qf Γ oE) (pX11_colour F κ v1 v2) κ 0 [(0, .ref (gad Γ 0)), (1, .int v1), (2, .int v2)] [] := by
  unfold pX11_colour
  refine j_aload_n hC (pc := 0) dX11_colour_0 0 rfl rfl ?_
  refine j_aload_n hC (pc := 1) dX11_colour_1 0 rfl rfl ?_
  refine j_iload_n hC (pc := 2) dX11_colour_2 1 rfl rfl ?_
  refine j_callV_I hC hR (ctX11_isPlayer hC.l hC.cn κ v1) kc_RX11_164 (Nat.le_of_ble_eq_true rfl) (Nat.le_of_ble_eq_true rfl) lM_0 (Nat.le_of_ble_eq_true rfl) rfl (As := [.int v1]) (rest := [.ref (gad Γ 0)]) rfl rfl (Nat.le_of_ble_eq_true rfl) hm (pc := 3) dX11_colour_3 (fun t1 => ?_)
  refine j_if_eq hC (pc := 6) dX11_colour_6 (tgt := 21) rfl ?_ ?_
  · exact wX11_colour_21 hC hR hm F κ v1 v2
  · refine j_aload_n hC (pc := 9) dX11_colour_9 0 rfl rfl ?_
    refine j_iload_n hC (pc := 10) dX11_colour_10 2 rfl rfl ?_
    refine j_callV_I hC hR (ctX11_isColouring hC.l hC.cn F κ v2) kc_RX11_179 (Nat.le_of_ble_eq_true rfl) (Nat.le_of_ble_eq_true rfl) lM_0 (Nat.le_of_ble_eq_true rfl) rfl (As := [.int v2]) (rest := [.ref (gad Γ 0)]) rfl rfl (Nat.le_of_ble_eq_true rfl) hm (pc := 11) dX11_colour_11 (fun t4 => ?_)
    refine j_if_eq hC (pc := 14) dX11_colour_14 (tgt := 21) rfl ?_ ?_
    · exact wX11_colour_21 hC hR hm F κ v1 v2
    · refine j_iconst hC (pc := 17) dX11_colour_17 ki_0 ?_
      refine j_goto hC (pc := 18) dX11_colour_18 (tgt := 22) rfl ?_
      exact wX11_colour_22 hC hR hm F κ v1 v2 0
theorem ctX11_colour {Δ : DCtx} {l : Launch} (hl : dlay Δ = layM) (hN : dN Δ = 15) (F : Nat) (κ : Mem) (v1 : Int32) (v2 : Int32) : ∀ r, pX11_colour F κ v1 v2 = some r → CT Δ l yX11_colour cX11_colour 3 (some .int) (rmH 3) [.ref (dad Δ 0), .int v1, .int v2] κ (some (.int r.1)) r.2 :=
  ct_of (nL := 3) (ret := (some .int)) (lay := layM) (N := 15) (by decide +kernel) (fun Δ => [.ref (dad Δ 0), .int v1, .int v2]) (fun _ => oE) (fun _ => (Nat.le_of_ble_eq_true rfl)) (fun Γ hR hm hC => wX11_colour hC hR hm F κ v1 v2) Δ l hl hN
set_option maxRecDepth 20000 in
theorem wX11_often_55 {Γ : JCtx} (hC : jC Γ cX11_often 5 RX11 (some .int) layM 15) (hR : gR Γ = rmH 3) (hm : gcells Γ ≤ (gR Γ).cells ∧ gslots Γ ≤ (gR Γ).slots) (F : Nat) (κ : Mem) (v1 : Int32) (v2 : Int32) (v4 : Int32) (y0 : Int32) (y1 : Int32) (k28 : Int32 → Int32 → Option (Int32 × Mem)) (hk28 : ∀ (v3 : Int32) (v4 : Int32), JP Γ (qf Γ oE) (k28 v3 v4) κ 28 [(0, .ref (gad Γ 0)), (1, .int v1), (2, .int v2), (3, .int v3), (4, .int v4)] []) : JP Γ (qf Γ oE) (pX11_often_55 F k28 κ v1 v2 v4 y0 y1) κ 55 [(0, .ref (gad Γ 0)), (1, .int v1), (2, .int v2), (4, .int v4)] [.int y0, .int y1] := by
  unfold pX11_often_55
  refine j_iadd hC (pc := 55) dX11_often_55 ?_
  refine j_nmi (fun x5 => ?_)
  refine j_istore_n hC (pc := 56) dX11_often_56 rfl (Nat.le_of_ble_eq_true rfl) (loc' := [(3, .int x5), (0, .ref (gad Γ 0)), (1, .int v1), (2, .int v2), (4, .int v4)]) rfl ?_
  refine j_iinc hC (pc := 57) dX11_often_57 4 rfl ki_1 (Nat.le_of_ble_eq_true rfl) (loc' := [(4, .int (v4 + 1)), (3, .int x5), (0, .ref (gad Γ 0)), (1, .int v1), (2, .int v2)]) rfl ?_
  refine j_goto hC (pc := 60) dX11_often_60 (tgt := 28) rfl ?_
  refine j_sub [2, 3, 4, 1, 0] (loc' := [(0, .ref (gad Γ 0)), (1, .int v1), (2, .int v2), (3, .int x5), (4, .int (v4 + 1))]) rfl ?_
  exact hk28 x5 (v4 + 1)
set_option maxRecDepth 20000 in
theorem wX11_often_28 {Γ : JCtx} (hC : jC Γ cX11_often 5 RX11 (some .int) layM 15) (hR : gR Γ = rmH 3) (hm : gcells Γ ≤ (gR Γ).cells ∧ gslots Γ ≤ (gR Γ).slots) (F : Nat) (κ : Mem) (v1 : Int32) (v2 : Int32) : ∀ (n : Nat) (v3 : Int32) (v4 : Int32), JP Γ (qf Γ oE) (pX11_often_28 F κ v1 v2 n v3 v4) κ 28 [(0, .ref (gad Γ 0)), (1, .int v1), (2, .int v2), (3, .int v3), (4, .int v4)] [] := by
  intro n
  induction n with
  | zero =>
    intro v3 v4
    rw [pX11_often_28]
    exact j_none
  | succ fu ih =>
    intro v3 v4
    rw [pX11_often_28]
    refine j_iload hC (pc := 28) dX11_often_28 4 rfl ?_
    refine j_aload_n hC (pc := 30) dX11_often_30 0 rfl rfl ?_
    refine j_iload_n hC (pc := 31) dX11_often_31 1 rfl rfl ?_
    refine j_callV_I hC hR (ctX11_situations_ hC.l hC.cn F κ v1) kc_RX11_174 (Nat.le_of_ble_eq_true rfl) (Nat.le_of_ble_eq_true rfl) lM_0 (Nat.le_of_ble_eq_true rfl) rfl (As := [.int v1]) (rest := [.int v4]) rfl rfl (Nat.le_of_ble_eq_true rfl) hm (pc := 32) dX11_often_32 (fun t3 => ?_)
    refine j_icmp_ge hC (pc := 35) dX11_often_35 (tgt := 63) rfl ?_ ?_
    · refine j_iload_n hC (pc := 38) dX11_often_38 3 rfl rfl ?_
      refine j_aload_n hC (pc := 39) dX11_often_39 0 rfl rfl ?_
      refine j_iload_n hC (pc := 40) dX11_often_40 1 rfl rfl ?_
      refine j_iload hC (pc := 41) dX11_often_41 4 rfl ?_
      refine j_callV_I hC hR (ctX11_entry hC.l hC.cn κ v1 v4) kc_RX11_121 (Nat.le_of_ble_eq_true rfl) (Nat.le_of_ble_eq_true rfl) lM_0 (Nat.le_of_ble_eq_true rfl) rfl (As := [.int v1, .int v4]) (rest := [.int v3]) rfl rfl (Nat.le_of_ble_eq_true rfl) hm (pc := 43) dX11_often_43 (fun t4 => ?_)
      refine j_iload_n hC (pc := 46) dX11_often_46 2 rfl rfl ?_
      refine j_icmp_ne hC (pc := 47) dX11_often_47 (tgt := 54) rfl ?_ ?_
      · refine j_iconst hC (pc := 50) dX11_often_50 ki_1 ?_
        refine j_goto hC (pc := 51) dX11_often_51 (tgt := 55) rfl ?_
        refine j_sub [0, 1, 2, 4] (loc' := [(0, .ref (gad Γ 0)), (1, .int v1), (2, .int v2), (4, .int v4)]) rfl ?_
        exact wX11_often_55 hC hR hm F κ v1 v2 v4 1 v3 (pX11_often_28 F κ v1 v2 fu) ih
      · refine j_iconst hC (pc := 54) dX11_often_54 ki_0 ?_
        refine j_sub [0, 1, 2, 4] (loc' := [(0, .ref (gad Γ 0)), (1, .int v1), (2, .int v2), (4, .int v4)]) rfl ?_
        exact wX11_often_55 hC hR hm F κ v1 v2 v4 0 v3 (pX11_often_28 F κ v1 v2 fu) ih
    · refine j_iload_n hC (pc := 63) dX11_often_63 3 rfl rfl ?_
      exact j_iret hC (pc := 64) dX11_often_64 rfl rfl rfl
set_option maxRecDepth 20000 in
theorem wX11_often_15 {Γ : JCtx} (hC : jC Γ cX11_often 5 RX11 (some .int) layM 15) (hR : gR Γ = rmH 3) (hm : gcells Γ ≤ (gR Γ).cells ∧ gslots Γ ≤ (gR Γ).slots) (F : Nat) (κ : Mem) (v1 : Int32) (v2 : Int32) (y0 : Int32) : JP Γ (qf Γ oE) (pX11_often_15 F κ v1 v2 y0) κ 15 [(0, .ref (gad Γ 0)), (1, .int v1), (2, .int v2)] [.int y0, .ref (gad Γ 0)] := by
  unfold pX11_often_15
  refine j_callV_E hC hR (ctX11_is hC.l hC.cn κ y0) kc_RX11_145 (Nat.le_of_ble_eq_true rfl) (Nat.le_of_ble_eq_true rfl) lM_0 (Nat.le_of_ble_eq_true rfl) rfl (As := [.int y0]) (rest := []) rfl rfl (Nat.le_of_ble_eq_true rfl) hm (pc := 15) dX11_often_15 (fun t2 => ?_)
  refine j_if_ne hC (pc := 18) dX11_often_18 (tgt := 23) rfl ?_ ?_
  · refine j_iconst hC (pc := 21) dX11_often_21 ki_m1 ?_
    exact j_iret hC (pc := 22) dX11_often_22 rfl rfl rfl
  · refine j_iconst hC (pc := 23) dX11_often_23 ki_0 ?_
    refine j_istore_n hC (pc := 24) dX11_often_24 rfl (Nat.le_of_ble_eq_true rfl) (loc' := [(3, .int 0), (0, .ref (gad Γ 0)), (1, .int v1), (2, .int v2)]) rfl ?_
    refine j_iconst hC (pc := 25) dX11_often_25 ki_0 ?_
    refine j_istore hC (pc := 26) dX11_often_26 (Nat.le_of_ble_eq_true rfl) (loc' := [(4, .int 0), (3, .int 0), (0, .ref (gad Γ 0)), (1, .int v1), (2, .int v2)]) rfl ?_
    refine j_sub [2, 3, 4, 1, 0] (loc' := [(0, .ref (gad Γ 0)), (1, .int v1), (2, .int v2), (3, .int 0), (4, .int 0)]) rfl ?_
    exact wX11_often_28 hC hR hm F t2.2 v1 v2 F 0 0
set_option maxRecDepth 20000 in
theorem wX11_often {Γ : JCtx} (hC : jC Γ cX11_often 5 RX11 (some .int) layM 15) (hR : gR Γ = rmH 3) (hm : gcells Γ ≤ (gR Γ).cells ∧ gslots Γ ≤ (gR Γ).slots) (F : Nat) (κ : Mem) (v1 : Int32) (v2 : Int32) : JP Γ (qf Γ oE) (pX11_often F κ v1 v2) κ 0 [(0, .ref (gad Γ 0)), (1, .int v1), (2, .int v2)] [] := by
  unfold pX11_often
  refine j_aload_n hC (pc := 0) dX11_often_0 0 rfl rfl ?_
  refine j_aload_n hC (pc := 1) dX11_often_1 0 rfl rfl ?_
  refine j_iload_n hC (pc := 2) dX11_often_2 1 rfl rfl ?_
  refine j_iload_n hC (pc := 3) dX11_often_3 2 rfl rfl ?_
  refine j_callV_I hC hR (ctX11_isColour hC.l hC.cn κ v1 v2) kc_RX11_182 (Nat.le_of_ble_eq_true rfl) (Nat.le_of_ble_eq_true rfl) lM_0 (Nat.le_of_ble_eq_true rfl) rfl (As := [.int v1, .int v2]) (rest := [.ref (gad Γ 0)]) rfl rfl (Nat.le_of_ble_eq_true rfl) hm (pc := 4) dX11_often_4 (fun t1 => ?_)
  refine j_if_eq hC (pc := 7) dX11_often_7 (tgt := 14) rfl ?_ ?_
  · refine j_iconst hC (pc := 14) dX11_often_14 ki_2 ?_
    exact wX11_often_15 hC hR hm F κ v1 v2 2
  · refine j_iconst hC (pc := 10) dX11_often_10 ki_0 ?_
    refine j_goto hC (pc := 11) dX11_often_11 (tgt := 15) rfl ?_
    exact wX11_often_15 hC hR hm F κ v1 v2 0
theorem ctX11_often {Δ : DCtx} {l : Launch} (hl : dlay Δ = layM) (hN : dN Δ = 15) (F : Nat) (κ : Mem) (v1 : Int32) (v2 : Int32) : ∀ r, pX11_often F κ v1 v2 = some r → CT Δ l yX11_often cX11_often 5 (some .int) (rmH 3) [.ref (dad Δ 0), .int v1, .int v2] κ (some (.int r.1)) r.2 :=
  ct_of (nL := 5) (ret := (some .int)) (lay := layM) (N := 15) (by decide +kernel) (fun Δ => [.ref (dad Δ 0), .int v1, .int v2]) (fun _ => oE) (fun _ => (Nat.le_of_ble_eq_true rfl)) (fun Γ hR hm hC => wX11_often hC hR hm F κ v1 v2) Δ l hl hN
set_option maxRecDepth 20000 in
theorem wX11_isHeeding_2 {Γ : JCtx} (hC : jC Γ cX11_isHeeding 4 RX11 (some .boolean) layM 15) (hR : gR Γ = rmH 3) (hm : gcells Γ ≤ (gR Γ).cells ∧ gslots Γ ≤ (gR Γ).slots) (F : Nat) (v1 : Int32) (v2 : Int32) : ∀ (n : Nat) (κ : Mem) (v3 : Int32), JP Γ (qf Γ oE) (pX11_isHeeding_2 F v1 v2 n κ v3) κ 2 [(0, .ref (gad Γ 0)), (1, .int v1), (2, .int v2), (3, .int v3)] [] := by
  intro n
  induction n with
  | zero =>
    intro κ v3
    rw [pX11_isHeeding_2]
    exact j_none
  | succ fu ih =>
    intro κ v3
    rw [pX11_isHeeding_2]
    refine j_iload_n hC (pc := 2) dX11_isHeeding_2 3 rfl rfl ?_
    refine j_aload_n hC (pc := 3) dX11_isHeeding_3 0 rfl rfl ?_
    refine j_iload_n hC (pc := 4) dX11_isHeeding_4 1 rfl rfl ?_
    refine j_callV_I hC hR (ctX11_situations_ hC.l hC.cn F κ v1) kc_RX11_174 (Nat.le_of_ble_eq_true rfl) (Nat.le_of_ble_eq_true rfl) lM_0 (Nat.le_of_ble_eq_true rfl) rfl (As := [.int v1]) (rest := [.int v3]) rfl rfl (Nat.le_of_ble_eq_true rfl) hm (pc := 5) dX11_isHeeding_5 (fun t1 => ?_)
    refine j_icmp_ge hC (pc := 8) dX11_isHeeding_8 (tgt := 51) rfl ?_ ?_
    · refine j_aload_n hC (pc := 11) dX11_isHeeding_11 0 rfl rfl ?_
      refine j_iload_n hC (pc := 12) dX11_isHeeding_12 1 rfl rfl ?_
      refine j_iload_n hC (pc := 13) dX11_isHeeding_13 3 rfl rfl ?_
      refine j_callV_V hC hR (ctX11_laysSeen hC.l hC.cn F κ v1 v3) kc_RX11_185 (Nat.le_of_ble_eq_true rfl) (Nat.le_of_ble_eq_true rfl) lM_0 (Nat.le_of_ble_eq_true rfl) rfl (As := [.int v1, .int v3]) (rest := []) rfl rfl (Nat.le_of_ble_eq_true rfl) hm (pc := 14) dX11_isHeeding_14 (fun t2 => ?_)
      refine j_aload_n hC (pc := 17) dX11_isHeeding_17 0 rfl rfl ?_
      refine j_getR hC (pc := 18) dX11_isHeeding_18 kf_RX11_23 lM_0 (Nat.le_of_ble_eq_true rfl) rfl ?_
      refine j_iload_n hC (pc := 21) dX11_isHeeding_21 2 rfl rfl ?_
      refine j_iconst hC (pc := 22) dX11_isHeeding_22 ki_0 ?_
      refine j_iast hC (pc := 23) dX11_isHeeding_23 lM_5 (Nat.le_of_ble_eq_true rfl) (fun κ3 => ?_)
      refine j_aload_n hC (pc := 24) dX11_isHeeding_24 0 rfl rfl ?_
      refine j_iload_n hC (pc := 25) dX11_isHeeding_25 1 rfl rfl ?_
      refine j_iload_n hC (pc := 26) dX11_isHeeding_26 3 rfl rfl ?_
      refine j_callV_I hC hR (ctX11_entry hC.l hC.cn κ3 v1 v3) kc_RX11_121 (Nat.le_of_ble_eq_true rfl) (Nat.le_of_ble_eq_true rfl) lM_0 (Nat.le_of_ble_eq_true rfl) rfl (As := [.int v1, .int v3]) (rest := []) rfl rfl (Nat.le_of_ble_eq_true rfl) hm (pc := 27) dX11_isHeeding_27 (fun t4 => ?_)
      refine j_aload_n hC (pc := 30) dX11_isHeeding_30 0 rfl rfl ?_
      refine j_iload_n hC (pc := 31) dX11_isHeeding_31 1 rfl rfl ?_
      refine j_aload_n hC (pc := 32) dX11_isHeeding_32 0 rfl rfl ?_
      refine j_iload_n hC (pc := 33) dX11_isHeeding_33 1 rfl rfl ?_
      refine j_callV_I hC hR (ctX11_situationOf hC.l hC.cn F κ3 v1) kc_RX11_118 (Nat.le_of_ble_eq_true rfl) (Nat.le_of_ble_eq_true rfl) lM_0 (Nat.le_of_ble_eq_true rfl) rfl (As := [.int v1]) (rest := [.int v1, .ref (gad Γ 0), .int t4]) rfl rfl (Nat.le_of_ble_eq_true rfl) hm (pc := 34) dX11_isHeeding_34 (fun t5 => ?_)
      refine j_callV_I hC hR (ctX11_entry hC.l hC.cn κ3 v1 t5) kc_RX11_121 (Nat.le_of_ble_eq_true rfl) (Nat.le_of_ble_eq_true rfl) lM_0 (Nat.le_of_ble_eq_true rfl) rfl (As := [.int v1, .int t5]) (rest := [.int t4]) rfl rfl (Nat.le_of_ble_eq_true rfl) hm (pc := 37) dX11_isHeeding_37 (fun t6 => ?_)
      refine j_icmp_eq hC (pc := 40) dX11_isHeeding_40 (tgt := 45) rfl ?_ ?_
      · refine j_iinc hC (pc := 45) dX11_isHeeding_45 3 rfl ki_1 (Nat.le_of_ble_eq_true rfl) (loc' := [(3, .int (v3 + 1)), (0, .ref (gad Γ 0)), (1, .int v1), (2, .int v2)]) rfl ?_
        refine j_goto hC (pc := 48) dX11_isHeeding_48 (tgt := 2) rfl ?_
        refine j_sub [1, 2, 3, 0] (loc' := [(0, .ref (gad Γ 0)), (1, .int v1), (2, .int v2), (3, .int (v3 + 1))]) rfl ?_
        exact ih κ3 (v3 + 1)
      · refine j_iconst hC (pc := 43) dX11_isHeeding_43 ki_1 ?_
        exact j_iret hC (pc := 44) dX11_isHeeding_44 rfl rfl rfl
    · refine j_iconst hC (pc := 51) dX11_isHeeding_51 ki_0 ?_
      exact j_iret hC (pc := 52) dX11_isHeeding_52 rfl rfl rfl
set_option maxRecDepth 20000 in
theorem wX11_isHeeding {Γ : JCtx} (hC : jC Γ cX11_isHeeding 4 RX11 (some .boolean) layM 15) (hR : gR Γ = rmH 3) (hm : gcells Γ ≤ (gR Γ).cells ∧ gslots Γ ≤ (gR Γ).slots) (F : Nat) (κ : Mem) (v1 : Int32) (v2 : Int32) : JP Γ (qf Γ oE) (pX11_isHeeding F κ v1 v2) κ 0 [(0, .ref (gad Γ 0)), (1, .int v1), (2, .int v2)] [] := by
  unfold pX11_isHeeding
  refine j_iconst hC (pc := 0) dX11_isHeeding_0 ki_0 ?_
  refine j_istore_n hC (pc := 1) dX11_isHeeding_1 rfl (Nat.le_of_ble_eq_true rfl) (loc' := [(3, .int 0), (0, .ref (gad Γ 0)), (1, .int v1), (2, .int v2)]) rfl ?_
  refine j_sub [1, 2, 3, 0] (loc' := [(0, .ref (gad Γ 0)), (1, .int v1), (2, .int v2), (3, .int 0)]) rfl ?_
  exact wX11_isHeeding_2 hC hR hm F v1 v2 F κ 0
theorem ctX11_isHeeding {Δ : DCtx} {l : Launch} (hl : dlay Δ = layM) (hN : dN Δ = 15) (F : Nat) (κ : Mem) (v1 : Int32) (v2 : Int32) : ∀ r, pX11_isHeeding F κ v1 v2 = some r → CT Δ l yX11_isHeeding cX11_isHeeding 4 (some .boolean) (rmH 3) [.ref (dad Δ 0), .int v1, .int v2] κ (some (.int r.1)) r.2 :=
  ct_of (nL := 4) (ret := (some .boolean)) (lay := layM) (N := 15) (by decide +kernel) (fun Δ => [.ref (dad Δ 0), .int v1, .int v2]) (fun _ => oE) (fun _ => (Nat.le_of_ble_eq_true rfl)) (fun Γ hR hm hC => wX11_isHeeding hC hR hm F κ v1 v2) Δ l hl hN
set_option maxRecDepth 20000 in
theorem wX11_whySight_44 {Γ : JCtx} (hC : jC Γ cX11_whySight 3 RX11 (some .int) layM 15) (hR : gR Γ = rmH 2) (hm : gcells Γ ≤ (gR Γ).cells ∧ gslots Γ ≤ (gR Γ).slots) (κ : Mem) (y0 : Int32) : JP Γ (qf Γ (oI κ)) (pX11_whySight_44 κ y0) κ 44 [] [.int y0] := by
  unfold pX11_whySight_44
  exact j_iret hC (pc := 44) dX11_whySight_44 rfl rfl rfl
set_option maxRecDepth 20000 in
theorem wX11_whySight_16 {Γ : JCtx} (hC : jC Γ cX11_whySight 3 RX11 (some .int) layM 15) (hR : gR Γ = rmH 2) (hm : gcells Γ ≤ (gR Γ).cells ∧ gslots Γ ≤ (gR Γ).slots) (κ : Mem) : JP Γ (qf Γ (oI κ)) (pX11_whySight_16 κ) κ 16 [] [] := by
  unfold pX11_whySight_16
  refine j_iconst hC (pc := 16) dX11_whySight_16 ki_2 ?_
  refine j_goto hC (pc := 17) dX11_whySight_17 (tgt := 44) rfl ?_
  exact wX11_whySight_44 hC hR hm κ 2
set_option maxRecDepth 20000 in
theorem wX11_whySight {Γ : JCtx} (hC : jC Γ cX11_whySight 3 RX11 (some .int) layM 15) (hR : gR Γ = rmH 2) (hm : gcells Γ ≤ (gR Γ).cells ∧ gslots Γ ≤ (gR Γ).slots) (κ : Mem) (v1 : Int32) (v2 : Int32) : JP Γ (qf Γ (oI κ)) (pX11_whySight κ v1 v2) κ 0 [(0, .ref (gad Γ 0)), (1, .int v1), (2, .int v2)] [] := by
  unfold pX11_whySight
  refine j_aload_n hC (pc := 0) dX11_whySight_0 0 rfl rfl ?_
  refine j_iload_n hC (pc := 1) dX11_whySight_1 1 rfl rfl ?_
  refine j_callV_I hC hR (ctX11_isPlayer hC.l hC.cn κ v1) kc_RX11_164 (Nat.le_of_ble_eq_true rfl) (Nat.le_of_ble_eq_true rfl) lM_0 (Nat.le_of_ble_eq_true rfl) rfl (As := [.int v1]) (rest := []) rfl rfl (Nat.le_of_ble_eq_true rfl) hm (pc := 2) dX11_whySight_2 (fun t1 => ?_)
  refine j_if_eq hC (pc := 5) dX11_whySight_5 (tgt := 16) rfl ?_ ?_
  · refine j_sub [] (loc' := []) rfl ?_
    exact wX11_whySight_16 hC hR hm κ
  · refine j_aload_n hC (pc := 8) dX11_whySight_8 0 rfl rfl ?_
    refine j_iload_n hC (pc := 9) dX11_whySight_9 2 rfl rfl ?_
    refine j_callV_I hC hR (ctX11_isPlayer hC.l hC.cn κ v2) kc_RX11_164 (Nat.le_of_ble_eq_true rfl) (Nat.le_of_ble_eq_true rfl) lM_0 (Nat.le_of_ble_eq_true rfl) rfl (As := [.int v2]) (rest := []) rfl rfl (Nat.le_of_ble_eq_true rfl) hm (pc := 10) dX11_whySight_10 (fun t2 => ?_)
    refine j_if_ne hC (pc := 13) dX11_whySight_13 (tgt := 20) rfl ?_ ?_
    · refine j_sub [] (loc' := []) rfl ?_
      exact wX11_whySight_16 hC hR hm κ
    · refine j_iload_n hC (pc := 20) dX11_whySight_20 1 rfl rfl ?_
      refine j_iload_n hC (pc := 21) dX11_whySight_21 2 rfl rfl ?_
      refine j_icmp_ne hC (pc := 22) dX11_whySight_22 (tgt := 29) rfl ?_ ?_
      · refine j_iconst hC (pc := 25) dX11_whySight_25 ki_4 ?_
        refine j_goto hC (pc := 26) dX11_whySight_26 (tgt := 44) rfl ?_
        refine j_sub [] (loc' := []) rfl ?_
        exact wX11_whySight_44 hC hR hm κ 4
      · refine j_aload_n hC (pc := 29) dX11_whySight_29 0 rfl rfl ?_
        refine j_iload_n hC (pc := 30) dX11_whySight_30 1 rfl rfl ?_
        refine j_iload_n hC (pc := 31) dX11_whySight_31 2 rfl rfl ?_
        refine j_callV_I hC hR (ctX11_sees hC.l hC.cn κ v1 v2) kc_RX11_115 (Nat.le_of_ble_eq_true rfl) (Nat.le_of_ble_eq_true rfl) lM_0 (Nat.le_of_ble_eq_true rfl) rfl (As := [.int v1, .int v2]) (rest := []) rfl rfl (Nat.le_of_ble_eq_true rfl) hm (pc := 32) dX11_whySight_32 (fun t3 => ?_)
        refine j_if_eq hC (pc := 35) dX11_whySight_35 (tgt := 42) rfl ?_ ?_
        · refine j_bipush hC (pc := 42) dX11_whySight_42 kb_7 ?_
          refine j_sub [] (loc' := []) rfl ?_
          exact wX11_whySight_44 hC hR hm κ 7
        · refine j_iconst hC (pc := 38) dX11_whySight_38 ki_0 ?_
          refine j_goto hC (pc := 39) dX11_whySight_39 (tgt := 44) rfl ?_
          refine j_sub [] (loc' := []) rfl ?_
          exact wX11_whySight_44 hC hR hm κ 0
theorem ctX11_whySight {Δ : DCtx} {l : Launch} (hl : dlay Δ = layM) (hN : dN Δ = 15) (κ : Mem) (v1 : Int32) (v2 : Int32) : ∀ r, pX11_whySight κ v1 v2 = some r → CT Δ l yX11_whySight cX11_whySight 3 (some .int) (rmH 2) [.ref (dad Δ 0), .int v1, .int v2] κ (some (.int r)) κ :=
  ct_of (nL := 3) (ret := (some .int)) (lay := layM) (N := 15) (by decide +kernel) (fun Δ => [.ref (dad Δ 0), .int v1, .int v2]) (fun _ => oI κ) (fun _ => (Nat.le_of_ble_eq_true rfl)) (fun Γ hR hm hC => wX11_whySight hC hR hm κ v1 v2) Δ l hl hN
set_option maxRecDepth 20000 in
theorem wX11_heeds_31 {Γ : JCtx} (hC : jC Γ cX11_heeds 3 RX11 (some .int) layM 15) (hR : gR Γ = rmH 4) (hm : gcells Γ ≤ (gR Γ).cells ∧ gslots Γ ≤ (gR Γ).slots) (F : Nat) (κ : Mem) (y0 : Int32) : JP Γ (qf Γ oE) (pX11_heeds_31 F κ y0) κ 31 [] [.int y0] := by
  unfold pX11_heeds_31
  exact j_iret hC (pc := 31) dX11_heeds_31 rfl rfl rfl
set_option maxRecDepth 20000 in
theorem wX11_heeds {Γ : JCtx} (hC : jC Γ cX11_heeds 3 RX11 (some .int) layM 15) (hR : gR Γ = rmH 4) (hm : gcells Γ ≤ (gR Γ).cells ∧ gslots Γ ≤ (gR Γ).slots) (F : Nat) (κ : Mem) (v1 : Int32) (v2 : Int32) : JP Γ (qf Γ oE) (pX11_heeds F κ v1 v2) κ 0 [(0, .ref (gad Γ 0)), (1, .int v1), (2, .int v2)] [] := by
  unfold pX11_heeds
  refine j_aload_n hC (pc := 0) dX11_heeds_0 0 rfl rfl ?_
  refine j_aload_n hC (pc := 1) dX11_heeds_1 0 rfl rfl ?_
  refine j_iload_n hC (pc := 2) dX11_heeds_2 1 rfl rfl ?_
  refine j_iload_n hC (pc := 3) dX11_heeds_3 2 rfl rfl ?_
  refine j_callV_I hC hR (ctX11_whySight hC.l hC.cn κ v1 v2) kc_RX11_189 (Nat.le_of_ble_eq_true rfl) (Nat.le_of_ble_eq_true rfl) lM_0 (Nat.le_of_ble_eq_true rfl) rfl (As := [.int v1, .int v2]) (rest := [.ref (gad Γ 0)]) rfl rfl (Nat.le_of_ble_eq_true rfl) hm (pc := 4) dX11_heeds_4 (fun t1 => ?_)
  refine j_callV_E hC hR (ctX11_is hC.l hC.cn κ t1) kc_RX11_145 (Nat.le_of_ble_eq_true rfl) (Nat.le_of_ble_eq_true rfl) lM_0 (Nat.le_of_ble_eq_true rfl) rfl (As := [.int t1]) (rest := []) rfl rfl (Nat.le_of_ble_eq_true rfl) hm (pc := 7) dX11_heeds_7 (fun t2 => ?_)
  refine j_if_eq hC (pc := 10) dX11_heeds_10 (tgt := 30) rfl ?_ ?_
  · refine j_iconst hC (pc := 30) dX11_heeds_30 ki_m1 ?_
    refine j_sub [] (loc' := []) rfl ?_
    exact wX11_heeds_31 hC hR hm F t2.2 (-1)
  · refine j_aload_n hC (pc := 13) dX11_heeds_13 0 rfl rfl ?_
    refine j_iload_n hC (pc := 14) dX11_heeds_14 1 rfl rfl ?_
    refine j_iload_n hC (pc := 15) dX11_heeds_15 2 rfl rfl ?_
    refine j_callV_E hC hR (ctX11_isHeeding hC.l hC.cn F t2.2 v1 v2) kc_RX11_192 (Nat.le_of_ble_eq_true rfl) (Nat.le_of_ble_eq_true rfl) lM_0 (Nat.le_of_ble_eq_true rfl) rfl (As := [.int v1, .int v2]) (rest := []) rfl rfl (Nat.le_of_ble_eq_true rfl) hm (pc := 16) dX11_heeds_16 (fun t3 => ?_)
    refine j_if_eq hC (pc := 19) dX11_heeds_19 (tgt := 26) rfl ?_ ?_
    · refine j_iconst hC (pc := 26) dX11_heeds_26 ki_0 ?_
      refine j_goto hC (pc := 27) dX11_heeds_27 (tgt := 31) rfl ?_
      refine j_sub [] (loc' := []) rfl ?_
      exact wX11_heeds_31 hC hR hm F t3.2 0
    · refine j_iconst hC (pc := 22) dX11_heeds_22 ki_1 ?_
      refine j_goto hC (pc := 23) dX11_heeds_23 (tgt := 31) rfl ?_
      refine j_sub [] (loc' := []) rfl ?_
      exact wX11_heeds_31 hC hR hm F t3.2 1
theorem ctX11_heeds {Δ : DCtx} {l : Launch} (hl : dlay Δ = layM) (hN : dN Δ = 15) (F : Nat) (κ : Mem) (v1 : Int32) (v2 : Int32) : ∀ r, pX11_heeds F κ v1 v2 = some r → CT Δ l yX11_heeds cX11_heeds 3 (some .int) (rmH 4) [.ref (dad Δ 0), .int v1, .int v2] κ (some (.int r.1)) r.2 :=
  ct_of (nL := 3) (ret := (some .int)) (lay := layM) (N := 15) (by decide +kernel) (fun Δ => [.ref (dad Δ 0), .int v1, .int v2]) (fun _ => oE) (fun _ => (Nat.le_of_ble_eq_true rfl)) (fun Γ hR hm hC => wX11_heeds hC hR hm F κ v1 v2) Δ l hl hN
set_option maxRecDepth 20000 in
theorem wX11_heeded_60 {Γ : JCtx} (hC : jC Γ cX11_heeded 4 RX11 (some .int) layM 15) (hR : gR Γ = rmH 4) (hm : gcells Γ ≤ (gR Γ).cells ∧ gslots Γ ≤ (gR Γ).slots) (F : Nat) (κ : Mem) (v1 : Int32) (v3 : Int32) (y0 : Int32) (y1 : Int32) (k26 : Mem → Int32 → Int32 → Option (Int32 × Mem)) (hk26 : ∀ (κ : Mem) (v2 : Int32) (v3 : Int32), JP Γ (qf Γ oE) (k26 κ v2 v3) κ 26 [(0, .ref (gad Γ 0)), (1, .int v1), (2, .int v2), (3, .int v3)] []) : JP Γ (qf Γ oE) (pX11_heeded_60 F k26 κ v1 v3 y0 y1) κ 60 [(0, .ref (gad Γ 0)), (1, .int v1), (3, .int v3)] [.int y0, .int y1] := by
  unfold pX11_heeded_60
  refine j_ior hC (pc := 60) dX11_heeded_60 ?_
  refine j_nmi (fun x5 => ?_)
  refine j_istore_n hC (pc := 61) dX11_heeded_61 rfl (Nat.le_of_ble_eq_true rfl) (loc' := [(2, .int x5), (0, .ref (gad Γ 0)), (1, .int v1), (3, .int v3)]) rfl ?_
  refine j_iinc hC (pc := 62) dX11_heeded_62 3 rfl ki_1 (Nat.le_of_ble_eq_true rfl) (loc' := [(3, .int (v3 + 1)), (2, .int x5), (0, .ref (gad Γ 0)), (1, .int v1)]) rfl ?_
  refine j_goto hC (pc := 65) dX11_heeded_65 (tgt := 26) rfl ?_
  refine j_sub [2, 3, 1, 0] (loc' := [(0, .ref (gad Γ 0)), (1, .int v1), (2, .int x5), (3, .int (v3 + 1))]) rfl ?_
  exact hk26 κ x5 (v3 + 1)
set_option maxRecDepth 20000 in
theorem wX11_heeded_59 {Γ : JCtx} (hC : jC Γ cX11_heeded 4 RX11 (some .int) layM 15) (hR : gR Γ = rmH 4) (hm : gcells Γ ≤ (gR Γ).cells ∧ gslots Γ ≤ (gR Γ).slots) (F : Nat) (κ : Mem) (v1 : Int32) (v3 : Int32) (y0 : Int32) (k26 : Mem → Int32 → Int32 → Option (Int32 × Mem)) (hk26 : ∀ (κ : Mem) (v2 : Int32) (v3 : Int32), JP Γ (qf Γ oE) (k26 κ v2 v3) κ 26 [(0, .ref (gad Γ 0)), (1, .int v1), (2, .int v2), (3, .int v3)] []) : JP Γ (qf Γ oE) (pX11_heeded_59 F k26 κ v1 v3 y0) κ 59 [(0, .ref (gad Γ 0)), (1, .int v1), (3, .int v3)] [.int y0] := by
  unfold pX11_heeded_59
  refine j_iconst hC (pc := 59) dX11_heeded_59 ki_0 ?_
  exact wX11_heeded_60 hC hR hm F κ v1 v3 0 y0 k26 hk26
set_option maxRecDepth 20000 in
theorem wX11_heeded_26 {Γ : JCtx} (hC : jC Γ cX11_heeded 4 RX11 (some .int) layM 15) (hR : gR Γ = rmH 4) (hm : gcells Γ ≤ (gR Γ).cells ∧ gslots Γ ≤ (gR Γ).slots) (F : Nat) (v1 : Int32) : ∀ (n : Nat) (κ : Mem) (v2 : Int32) (v3 : Int32), JP Γ (qf Γ oE) (pX11_heeded_26 F v1 n κ v2 v3) κ 26 [(0, .ref (gad Γ 0)), (1, .int v1), (2, .int v2), (3, .int v3)] [] := by
  intro n
  induction n with
  | zero =>
    intro κ v2 v3
    rw [pX11_heeded_26]
    exact j_none
  | succ fu ih =>
    intro κ v2 v3
    rw [pX11_heeded_26]
    refine j_iload_n hC (pc := 26) dX11_heeded_26 3 rfl rfl ?_
    refine j_aload_n hC (pc := 27) dX11_heeded_27 0 rfl rfl ?_
    refine j_callV_I hC hR (ctX11_players hC.l hC.cn κ) kc_RX11_108 (Nat.le_of_ble_eq_true rfl) (Nat.le_of_ble_eq_true rfl) lM_0 (Nat.le_of_ble_eq_true rfl) rfl (As := []) (rest := [.int v3]) rfl rfl (Nat.le_of_ble_eq_true rfl) hm (pc := 28) dX11_heeded_28 (fun t3 => ?_)
    refine j_icmp_ge hC (pc := 31) dX11_heeded_31 (tgt := 68) rfl ?_ ?_
    · refine j_iload_n hC (pc := 34) dX11_heeded_34 2 rfl rfl ?_
      refine j_aload_n hC (pc := 35) dX11_heeded_35 0 rfl rfl ?_
      refine j_iload_n hC (pc := 36) dX11_heeded_36 1 rfl rfl ?_
      refine j_iload_n hC (pc := 37) dX11_heeded_37 3 rfl rfl ?_
      refine j_callV_I hC hR (ctX11_sees hC.l hC.cn κ v1 v3) kc_RX11_115 (Nat.le_of_ble_eq_true rfl) (Nat.le_of_ble_eq_true rfl) lM_0 (Nat.le_of_ble_eq_true rfl) rfl (As := [.int v1, .int v3]) (rest := [.int v2]) rfl rfl (Nat.le_of_ble_eq_true rfl) hm (pc := 38) dX11_heeded_38 (fun t4 => ?_)
      refine j_if_eq hC (pc := 41) dX11_heeded_41 (tgt := 59) rfl ?_ ?_
      · refine j_sub [0, 1, 3] (loc' := [(0, .ref (gad Γ 0)), (1, .int v1), (3, .int v3)]) rfl ?_
        exact wX11_heeded_59 hC hR hm F κ v1 v3 v2 (pX11_heeded_26 F v1 fu) ih
      · refine j_aload_n hC (pc := 44) dX11_heeded_44 0 rfl rfl ?_
        refine j_iload_n hC (pc := 45) dX11_heeded_45 1 rfl rfl ?_
        refine j_iload_n hC (pc := 46) dX11_heeded_46 3 rfl rfl ?_
        refine j_callV_E hC hR (ctX11_isHeeding hC.l hC.cn F κ v1 v3) kc_RX11_192 (Nat.le_of_ble_eq_true rfl) (Nat.le_of_ble_eq_true rfl) lM_0 (Nat.le_of_ble_eq_true rfl) rfl (As := [.int v1, .int v3]) (rest := [.int v2]) rfl rfl (Nat.le_of_ble_eq_true rfl) hm (pc := 47) dX11_heeded_47 (fun t6 => ?_)
        refine j_if_eq hC (pc := 50) dX11_heeded_50 (tgt := 59) rfl ?_ ?_
        · refine j_sub [0, 1, 3] (loc' := [(0, .ref (gad Γ 0)), (1, .int v1), (3, .int v3)]) rfl ?_
          exact wX11_heeded_59 hC hR hm F t6.2 v1 v3 v2 (pX11_heeded_26 F v1 fu) ih
        · refine j_iconst hC (pc := 53) dX11_heeded_53 ki_1 ?_
          refine j_iload_n hC (pc := 54) dX11_heeded_54 3 rfl rfl ?_
          refine j_ishl hC (pc := 55) dX11_heeded_55 ?_
          refine j_goto hC (pc := 56) dX11_heeded_56 (tgt := 60) rfl ?_
          refine j_sub [0, 1, 3] (loc' := [(0, .ref (gad Γ 0)), (1, .int v1), (3, .int v3)]) rfl ?_
          exact wX11_heeded_60 hC hR hm F t6.2 v1 v3 (1 <<< (v3 &&& 31)) v2 (pX11_heeded_26 F v1 fu) ih
    · refine j_iload_n hC (pc := 68) dX11_heeded_68 2 rfl rfl ?_
      exact j_iret hC (pc := 69) dX11_heeded_69 rfl rfl rfl
set_option maxRecDepth 20000 in
theorem wX11_heeded_14 {Γ : JCtx} (hC : jC Γ cX11_heeded 4 RX11 (some .int) layM 15) (hR : gR Γ = rmH 4) (hm : gcells Γ ≤ (gR Γ).cells ∧ gslots Γ ≤ (gR Γ).slots) (F : Nat) (κ : Mem) (v1 : Int32) (y0 : Int32) : JP Γ (qf Γ oE) (pX11_heeded_14 F κ v1 y0) κ 14 [(0, .ref (gad Γ 0)), (1, .int v1)] [.int y0, .ref (gad Γ 0)] := by
  unfold pX11_heeded_14
  refine j_callV_E hC hR (ctX11_is hC.l hC.cn κ y0) kc_RX11_145 (Nat.le_of_ble_eq_true rfl) (Nat.le_of_ble_eq_true rfl) lM_0 (Nat.le_of_ble_eq_true rfl) rfl (As := [.int y0]) (rest := []) rfl rfl (Nat.le_of_ble_eq_true rfl) hm (pc := 14) dX11_heeded_14 (fun t2 => ?_)
  refine j_if_ne hC (pc := 17) dX11_heeded_17 (tgt := 22) rfl ?_ ?_
  · refine j_iconst hC (pc := 20) dX11_heeded_20 ki_m1 ?_
    exact j_iret hC (pc := 21) dX11_heeded_21 rfl rfl rfl
  · refine j_iconst hC (pc := 22) dX11_heeded_22 ki_0 ?_
    refine j_istore_n hC (pc := 23) dX11_heeded_23 rfl (Nat.le_of_ble_eq_true rfl) (loc' := [(2, .int 0), (0, .ref (gad Γ 0)), (1, .int v1)]) rfl ?_
    refine j_iconst hC (pc := 24) dX11_heeded_24 ki_0 ?_
    refine j_istore_n hC (pc := 25) dX11_heeded_25 rfl (Nat.le_of_ble_eq_true rfl) (loc' := [(3, .int 0), (2, .int 0), (0, .ref (gad Γ 0)), (1, .int v1)]) rfl ?_
    refine j_sub [2, 3, 1, 0] (loc' := [(0, .ref (gad Γ 0)), (1, .int v1), (2, .int 0), (3, .int 0)]) rfl ?_
    exact wX11_heeded_26 hC hR hm F v1 F t2.2 0 0
set_option maxRecDepth 20000 in
theorem wX11_heeded {Γ : JCtx} (hC : jC Γ cX11_heeded 4 RX11 (some .int) layM 15) (hR : gR Γ = rmH 4) (hm : gcells Γ ≤ (gR Γ).cells ∧ gslots Γ ≤ (gR Γ).slots) (F : Nat) (κ : Mem) (v1 : Int32) : JP Γ (qf Γ oE) (pX11_heeded F κ v1) κ 0 [(0, .ref (gad Γ 0)), (1, .int v1)] [] := by
  unfold pX11_heeded
  refine j_aload_n hC (pc := 0) dX11_heeded_0 0 rfl rfl ?_
  refine j_aload_n hC (pc := 1) dX11_heeded_1 0 rfl rfl ?_
  refine j_iload_n hC (pc := 2) dX11_heeded_2 1 rfl rfl ?_
  refine j_callV_I hC hR (ctX11_isPlayer hC.l hC.cn κ v1) kc_RX11_164 (Nat.le_of_ble_eq_true rfl) (Nat.le_of_ble_eq_true rfl) lM_0 (Nat.le_of_ble_eq_true rfl) rfl (As := [.int v1]) (rest := [.ref (gad Γ 0)]) rfl rfl (Nat.le_of_ble_eq_true rfl) hm (pc := 3) dX11_heeded_3 (fun t1 => ?_)
  refine j_if_eq hC (pc := 6) dX11_heeded_6 (tgt := 13) rfl ?_ ?_
  · refine j_iconst hC (pc := 13) dX11_heeded_13 ki_2 ?_
    exact wX11_heeded_14 hC hR hm F κ v1 2
  · refine j_iconst hC (pc := 9) dX11_heeded_9 ki_0 ?_
    refine j_goto hC (pc := 10) dX11_heeded_10 (tgt := 14) rfl ?_
    exact wX11_heeded_14 hC hR hm F κ v1 0
theorem ctX11_heeded {Δ : DCtx} {l : Launch} (hl : dlay Δ = layM) (hN : dN Δ = 15) (F : Nat) (κ : Mem) (v1 : Int32) : ∀ r, pX11_heeded F κ v1 = some r → CT Δ l yX11_heeded cX11_heeded 4 (some .int) (rmH 4) [.ref (dad Δ 0), .int v1] κ (some (.int r.1)) r.2 :=
  ct_of (nL := 4) (ret := (some .int)) (lay := layM) (N := 15) (by decide +kernel) (fun Δ => [.ref (dad Δ 0), .int v1]) (fun _ => oE) (fun _ => (Nat.le_of_ble_eq_true rfl)) (fun Γ hR hm hC => wX11_heeded hC hR hm F κ v1) Δ l hl hN
set_option maxRecDepth 20000 in
theorem wX11_fooled_96 {Γ : JCtx} (hC : jC Γ cX11_fooled 8 RX11 (some .int) layM 15) (hR : gR Γ = rmH 3) (hm : gcells Γ ≤ (gR Γ).cells ∧ gslots Γ ≤ (gR Γ).slots) (F : Nat) (κ : Mem) (v1 : Int32) (v2 : Int32) (v3 : Int32) (v4 : Int32) (v5 : Int32) (v7 : Int32) (y0 : Int32) (k53 : Mem → Int32 → Int32 → Option (Int32 × Mem)) (hk53 : ∀ (κ : Mem) (v6 : Int32) (v7 : Int32), JP Γ (qf Γ oE) (k53 κ v6 v7) κ 53 [(0, .ref (gad Γ 0)), (1, .int v1), (2, .int v2), (3, .int v3), (4, .int v4), (5, .int v5), (6, .int v6), (7, .int v7)] []) : JP Γ (qf Γ oE) (pX11_fooled_96 F k53 κ v1 v2 v3 v4 v5 v7 y0) κ 96 [(0, .ref (gad Γ 0)), (1, .int v1), (2, .int v2), (3, .int v3), (4, .int v4), (5, .int v5), (7, .int v7)] [.int y0] := by
  unfold pX11_fooled_96
  refine j_istore hC (pc := 96) dX11_fooled_96 (Nat.le_of_ble_eq_true rfl) (loc' := [(6, .int y0), (0, .ref (gad Γ 0)), (1, .int v1), (2, .int v2), (3, .int v3), (4, .int v4), (5, .int v5), (7, .int v7)]) rfl ?_
  refine j_iinc hC (pc := 98) dX11_fooled_98 7 rfl ki_1 (Nat.le_of_ble_eq_true rfl) (loc' := [(7, .int (v7 + 1)), (6, .int y0), (0, .ref (gad Γ 0)), (1, .int v1), (2, .int v2), (3, .int v3), (4, .int v4), (5, .int v5)]) rfl ?_
  refine j_goto hC (pc := 101) dX11_fooled_101 (tgt := 53) rfl ?_
  refine j_sub [2, 3, 4, 5, 6, 7, 1, 0] (loc' := [(0, .ref (gad Γ 0)), (1, .int v1), (2, .int v2), (3, .int v3), (4, .int v4), (5, .int v5), (6, .int y0), (7, .int (v7 + 1))]) rfl ?_
  exact hk53 κ y0 (v7 + 1)
set_option maxRecDepth 20000 in
theorem wX11_fooled_91 {Γ : JCtx} (hC : jC Γ cX11_fooled 8 RX11 (some .int) layM 15) (hR : gR Γ = rmH 3) (hm : gcells Γ ≤ (gR Γ).cells ∧ gslots Γ ≤ (gR Γ).slots) (F : Nat) (κ : Mem) (v1 : Int32) (v2 : Int32) (v3 : Int32) (v4 : Int32) (v5 : Int32) (v7 : Int32) (k53 : Mem → Int32 → Int32 → Option (Int32 × Mem)) (hk53 : ∀ (κ : Mem) (v6 : Int32) (v7 : Int32), JP Γ (qf Γ oE) (k53 κ v6 v7) κ 53 [(0, .ref (gad Γ 0)), (1, .int v1), (2, .int v2), (3, .int v3), (4, .int v4), (5, .int v5), (6, .int v6), (7, .int v7)] []) : JP Γ (qf Γ oE) (pX11_fooled_91 F k53 κ v1 v2 v3 v4 v5 v7) κ 91 [(0, .ref (gad Γ 0)), (1, .int v1), (2, .int v2), (3, .int v3), (4, .int v4), (5, .int v5), (7, .int v7)] [] := by
  unfold pX11_fooled_91
  refine j_iconst hC (pc := 91) dX11_fooled_91 ki_1 ?_
  refine j_goto hC (pc := 92) dX11_fooled_92 (tgt := 96) rfl ?_
  exact wX11_fooled_96 hC hR hm F κ v1 v2 v3 v4 v5 v7 1 k53 hk53
set_option maxRecDepth 20000 in
theorem wX11_fooled_115 {Γ : JCtx} (hC : jC Γ cX11_fooled 8 RX11 (some .int) layM 15) (hR : gR Γ = rmH 3) (hm : gcells Γ ≤ (gR Γ).cells ∧ gslots Γ ≤ (gR Γ).slots) (F : Nat) (κ : Mem) (v1 : Int32) (v2 : Int32) (v4 : Int32) (y0 : Int32) (y1 : Int32) (k20 : Mem → Int32 → Int32 → Option (Int32 × Mem)) (hk20 : ∀ (κ : Mem) (v3 : Int32) (v4 : Int32), JP Γ (qf Γ oE) (k20 κ v3 v4) κ 20 [(0, .ref (gad Γ 0)), (1, .int v1), (2, .int v2), (3, .int v3), (4, .int v4)] []) : JP Γ (qf Γ oE) (pX11_fooled_115 F k20 κ v1 v2 v4 y0 y1) κ 115 [(0, .ref (gad Γ 0)), (1, .int v1), (2, .int v2), (4, .int v4)] [.int y0, .int y1] := by
  unfold pX11_fooled_115
  refine j_iadd hC (pc := 115) dX11_fooled_115 ?_
  refine j_nmi (fun x11 => ?_)
  refine j_istore_n hC (pc := 116) dX11_fooled_116 rfl (Nat.le_of_ble_eq_true rfl) (loc' := [(3, .int x11), (0, .ref (gad Γ 0)), (1, .int v1), (2, .int v2), (4, .int v4)]) rfl ?_
  refine j_iinc hC (pc := 117) dX11_fooled_117 4 rfl ki_1 (Nat.le_of_ble_eq_true rfl) (loc' := [(4, .int (v4 + 1)), (3, .int x11), (0, .ref (gad Γ 0)), (1, .int v1), (2, .int v2)]) rfl ?_
  refine j_goto hC (pc := 120) dX11_fooled_120 (tgt := 20) rfl ?_
  refine j_sub [2, 3, 4, 1, 0] (loc' := [(0, .ref (gad Γ 0)), (1, .int v1), (2, .int v2), (3, .int x11), (4, .int (v4 + 1))]) rfl ?_
  exact hk20 κ x11 (v4 + 1)
set_option maxRecDepth 20000 in
theorem wX11_fooled_53 {Γ : JCtx} (hC : jC Γ cX11_fooled 8 RX11 (some .int) layM 15) (hR : gR Γ = rmH 3) (hm : gcells Γ ≤ (gR Γ).cells ∧ gslots Γ ≤ (gR Γ).slots) (F : Nat) (v1 : Int32) (v2 : Int32) (v3 : Int32) (v4 : Int32) (v5 : Int32) (k20 : Mem → Int32 → Int32 → Option (Int32 × Mem)) (hk20 : ∀ (κ : Mem) (v3 : Int32) (v4 : Int32), JP Γ (qf Γ oE) (k20 κ v3 v4) κ 20 [(0, .ref (gad Γ 0)), (1, .int v1), (2, .int v2), (3, .int v3), (4, .int v4)] []) : ∀ (n : Nat) (κ : Mem) (v6 : Int32) (v7 : Int32), JP Γ (qf Γ oE) (pX11_fooled_53 F k20 v1 v2 v3 v4 v5 n κ v6 v7) κ 53 [(0, .ref (gad Γ 0)), (1, .int v1), (2, .int v2), (3, .int v3), (4, .int v4), (5, .int v5), (6, .int v6), (7, .int v7)] [] := by
  intro n
  induction n with
  | zero =>
    intro κ v6 v7
    rw [pX11_fooled_53]
    exact j_none
  | succ fu ih =>
    intro κ v6 v7
    rw [pX11_fooled_53]
    refine j_iload hC (pc := 53) dX11_fooled_53 7 rfl ?_
    refine j_aload_n hC (pc := 55) dX11_fooled_55 0 rfl rfl ?_
    refine j_iload_n hC (pc := 56) dX11_fooled_56 2 rfl rfl ?_
    refine j_callV_I hC hR (ctX11_hats hC.l hC.cn κ v2) kc_RX11_111 (Nat.le_of_ble_eq_true rfl) (Nat.le_of_ble_eq_true rfl) lM_0 (Nat.le_of_ble_eq_true rfl) rfl (As := [.int v2]) (rest := [.int v7]) rfl rfl (Nat.le_of_ble_eq_true rfl) hm (pc := 57) dX11_fooled_57 (fun t7 => ?_)
    refine j_icmp_ge hC (pc := 60) dX11_fooled_60 (tgt := 104) rfl ?_ ?_
    · refine j_aload_n hC (pc := 63) dX11_fooled_63 0 rfl rfl ?_
      refine j_getR hC (pc := 64) dX11_fooled_64 kf_RX11_23 lM_0 (Nat.le_of_ble_eq_true rfl) rfl ?_
      refine j_iload_n hC (pc := 67) dX11_fooled_67 2 rfl rfl ?_
      refine j_iload hC (pc := 68) dX11_fooled_68 7 rfl ?_
      refine j_iast hC (pc := 70) dX11_fooled_70 lM_5 (Nat.le_of_ble_eq_true rfl) (fun κ8 => ?_)
      refine j_iload hC (pc := 71) dX11_fooled_71 6 rfl ?_
      refine j_if_ne hC (pc := 73) dX11_fooled_73 (tgt := 91) rfl ?_ ?_
      · refine j_aload_n hC (pc := 76) dX11_fooled_76 0 rfl rfl ?_
        refine j_iload_n hC (pc := 77) dX11_fooled_77 1 rfl rfl ?_
        refine j_aload_n hC (pc := 78) dX11_fooled_78 0 rfl rfl ?_
        refine j_iload_n hC (pc := 79) dX11_fooled_79 1 rfl rfl ?_
        refine j_callV_I hC hR (ctX11_situationOf hC.l hC.cn F κ8 v1) kc_RX11_118 (Nat.le_of_ble_eq_true rfl) (Nat.le_of_ble_eq_true rfl) lM_0 (Nat.le_of_ble_eq_true rfl) rfl (As := [.int v1]) (rest := [.int v1, .ref (gad Γ 0)]) rfl rfl (Nat.le_of_ble_eq_true rfl) hm (pc := 80) dX11_fooled_80 (fun t9 => ?_)
        refine j_callV_I hC hR (ctX11_entry hC.l hC.cn κ8 v1 t9) kc_RX11_121 (Nat.le_of_ble_eq_true rfl) (Nat.le_of_ble_eq_true rfl) lM_0 (Nat.le_of_ble_eq_true rfl) rfl (As := [.int v1, .int t9]) (rest := []) rfl rfl (Nat.le_of_ble_eq_true rfl) hm (pc := 83) dX11_fooled_83 (fun t10 => ?_)
        refine j_iload hC (pc := 86) dX11_fooled_86 5 rfl ?_
        refine j_icmp_eq hC (pc := 88) dX11_fooled_88 (tgt := 95) rfl ?_ ?_
        · refine j_iconst hC (pc := 95) dX11_fooled_95 ki_0 ?_
          refine j_sub [0, 1, 2, 3, 4, 5, 7] (loc' := [(0, .ref (gad Γ 0)), (1, .int v1), (2, .int v2), (3, .int v3), (4, .int v4), (5, .int v5), (7, .int v7)]) rfl ?_
          exact wX11_fooled_96 hC hR hm F κ8 v1 v2 v3 v4 v5 v7 0 (pX11_fooled_53 F k20 v1 v2 v3 v4 v5 fu) ih
        · refine j_sub [0, 1, 2, 3, 4, 5, 7] (loc' := [(0, .ref (gad Γ 0)), (1, .int v1), (2, .int v2), (3, .int v3), (4, .int v4), (5, .int v5), (7, .int v7)]) rfl ?_
          exact wX11_fooled_91 hC hR hm F κ8 v1 v2 v3 v4 v5 v7 (pX11_fooled_53 F k20 v1 v2 v3 v4 v5 fu) ih
      · refine j_sub [0, 1, 2, 3, 4, 5, 7] (loc' := [(0, .ref (gad Γ 0)), (1, .int v1), (2, .int v2), (3, .int v3), (4, .int v4), (5, .int v5), (7, .int v7)]) rfl ?_
        exact wX11_fooled_91 hC hR hm F κ8 v1 v2 v3 v4 v5 v7 (pX11_fooled_53 F k20 v1 v2 v3 v4 v5 fu) ih
    · refine j_iload_n hC (pc := 104) dX11_fooled_104 3 rfl rfl ?_
      refine j_iload hC (pc := 105) dX11_fooled_105 6 rfl ?_
      refine j_if_eq hC (pc := 107) dX11_fooled_107 (tgt := 114) rfl ?_ ?_
      · refine j_iconst hC (pc := 114) dX11_fooled_114 ki_0 ?_
        refine j_sub [0, 1, 2, 4] (loc' := [(0, .ref (gad Γ 0)), (1, .int v1), (2, .int v2), (4, .int v4)]) rfl ?_
        exact wX11_fooled_115 hC hR hm F κ v1 v2 v4 0 v3 k20 hk20
      · refine j_iconst hC (pc := 110) dX11_fooled_110 ki_1 ?_
        refine j_goto hC (pc := 111) dX11_fooled_111 (tgt := 115) rfl ?_
        refine j_sub [0, 1, 2, 4] (loc' := [(0, .ref (gad Γ 0)), (1, .int v1), (2, .int v2), (4, .int v4)]) rfl ?_
        exact wX11_fooled_115 hC hR hm F κ v1 v2 v4 1 v3 k20 hk20
set_option maxRecDepth 20000 in
theorem wX11_fooled_20 {Γ : JCtx} (hC : jC Γ cX11_fooled 8 RX11 (some .int) layM 15) (hR : gR Γ = rmH 3) (hm : gcells Γ ≤ (gR Γ).cells ∧ gslots Γ ≤ (gR Γ).slots) (F : Nat) (v1 : Int32) (v2 : Int32) : ∀ (n : Nat) (κ : Mem) (v3 : Int32) (v4 : Int32), JP Γ (qf Γ oE) (pX11_fooled_20 F v1 v2 n κ v3 v4) κ 20 [(0, .ref (gad Γ 0)), (1, .int v1), (2, .int v2), (3, .int v3), (4, .int v4)] [] := by
  intro n
  induction n with
  | zero =>
    intro κ v3 v4
    rw [pX11_fooled_20]
    exact j_none
  | succ fu ih =>
    intro κ v3 v4
    rw [pX11_fooled_20]
    refine j_iload hC (pc := 20) dX11_fooled_20 4 rfl ?_
    refine j_aload_n hC (pc := 22) dX11_fooled_22 0 rfl rfl ?_
    refine j_callV_I hC hR (ctX11_colourings_ hC.l hC.cn F κ) kc_RX11_125 (Nat.le_of_ble_eq_true rfl) (Nat.le_of_ble_eq_true rfl) lM_0 (Nat.le_of_ble_eq_true rfl) rfl (As := []) (rest := [.int v4]) rfl rfl (Nat.le_of_ble_eq_true rfl) hm (pc := 23) dX11_fooled_23 (fun t3 => ?_)
    refine j_icmp_ge hC (pc := 26) dX11_fooled_26 (tgt := 123) rfl ?_ ?_
    · refine j_aload_n hC (pc := 29) dX11_fooled_29 0 rfl rfl ?_
      refine j_iload hC (pc := 30) dX11_fooled_30 4 rfl ?_
      refine j_callV_V hC hR (ctX11_lays hC.l hC.cn F κ v4) kc_RX11_127 (Nat.le_of_ble_eq_true rfl) (Nat.le_of_ble_eq_true rfl) lM_0 (Nat.le_of_ble_eq_true rfl) rfl (As := [.int v4]) (rest := []) rfl rfl (Nat.le_of_ble_eq_true rfl) hm (pc := 32) dX11_fooled_32 (fun t4 => ?_)
      refine j_aload_n hC (pc := 35) dX11_fooled_35 0 rfl rfl ?_
      refine j_iload_n hC (pc := 36) dX11_fooled_36 1 rfl rfl ?_
      refine j_aload_n hC (pc := 37) dX11_fooled_37 0 rfl rfl ?_
      refine j_iload_n hC (pc := 38) dX11_fooled_38 1 rfl rfl ?_
      refine j_callV_I hC hR (ctX11_situationOf hC.l hC.cn F t4 v1) kc_RX11_118 (Nat.le_of_ble_eq_true rfl) (Nat.le_of_ble_eq_true rfl) lM_0 (Nat.le_of_ble_eq_true rfl) rfl (As := [.int v1]) (rest := [.int v1, .ref (gad Γ 0)]) rfl rfl (Nat.le_of_ble_eq_true rfl) hm (pc := 39) dX11_fooled_39 (fun t5 => ?_)
      refine j_callV_I hC hR (ctX11_entry hC.l hC.cn t4 v1 t5) kc_RX11_121 (Nat.le_of_ble_eq_true rfl) (Nat.le_of_ble_eq_true rfl) lM_0 (Nat.le_of_ble_eq_true rfl) rfl (As := [.int v1, .int t5]) (rest := []) rfl rfl (Nat.le_of_ble_eq_true rfl) hm (pc := 42) dX11_fooled_42 (fun t6 => ?_)
      refine j_istore hC (pc := 45) dX11_fooled_45 (Nat.le_of_ble_eq_true rfl) (loc' := [(5, .int t6), (0, .ref (gad Γ 0)), (1, .int v1), (2, .int v2), (3, .int v3), (4, .int v4)]) rfl ?_
      refine j_iconst hC (pc := 47) dX11_fooled_47 ki_0 ?_
      refine j_istore hC (pc := 48) dX11_fooled_48 (Nat.le_of_ble_eq_true rfl) (loc' := [(6, .int 0), (5, .int t6), (0, .ref (gad Γ 0)), (1, .int v1), (2, .int v2), (3, .int v3), (4, .int v4)]) rfl ?_
      refine j_iconst hC (pc := 50) dX11_fooled_50 ki_0 ?_
      refine j_istore hC (pc := 51) dX11_fooled_51 (Nat.le_of_ble_eq_true rfl) (loc' := [(7, .int 0), (6, .int 0), (5, .int t6), (0, .ref (gad Γ 0)), (1, .int v1), (2, .int v2), (3, .int v3), (4, .int v4)]) rfl ?_
      refine j_sub [3, 4, 5, 6, 7, 2, 1, 0] (loc' := [(0, .ref (gad Γ 0)), (1, .int v1), (2, .int v2), (3, .int v3), (4, .int v4), (5, .int t6), (6, .int 0), (7, .int 0)]) rfl ?_
      exact wX11_fooled_53 hC hR hm F v1 v2 v3 v4 t6 (pX11_fooled_20 F v1 v2 fu) ih F t4 0 0
    · refine j_iload_n hC (pc := 123) dX11_fooled_123 3 rfl rfl ?_
      exact j_iret hC (pc := 124) dX11_fooled_124 rfl rfl rfl
set_option maxRecDepth 20000 in
theorem wX11_fooled {Γ : JCtx} (hC : jC Γ cX11_fooled 8 RX11 (some .int) layM 15) (hR : gR Γ = rmH 3) (hm : gcells Γ ≤ (gR Γ).cells ∧ gslots Γ ≤ (gR Γ).slots) (F : Nat) (κ : Mem) (v1 : Int32) (v2 : Int32) : JP Γ (qf Γ oE) (pX11_fooled F κ v1 v2) κ 0 [(0, .ref (gad Γ 0)), (1, .int v1), (2, .int v2)] [] := by
  unfold pX11_fooled
  refine j_aload_n hC (pc := 0) dX11_fooled_0 0 rfl rfl ?_
  refine j_aload_n hC (pc := 1) dX11_fooled_1 0 rfl rfl ?_
  refine j_iload_n hC (pc := 2) dX11_fooled_2 1 rfl rfl ?_
  refine j_iload_n hC (pc := 3) dX11_fooled_3 2 rfl rfl ?_
  refine j_callV_I hC hR (ctX11_whySight hC.l hC.cn κ v1 v2) kc_RX11_189 (Nat.le_of_ble_eq_true rfl) (Nat.le_of_ble_eq_true rfl) lM_0 (Nat.le_of_ble_eq_true rfl) rfl (As := [.int v1, .int v2]) (rest := [.ref (gad Γ 0)]) rfl rfl (Nat.le_of_ble_eq_true rfl) hm (pc := 4) dX11_fooled_4 (fun t1 => ?_)
  refine j_callV_E hC hR (ctX11_is hC.l hC.cn κ t1) kc_RX11_145 (Nat.le_of_ble_eq_true rfl) (Nat.le_of_ble_eq_true rfl) lM_0 (Nat.le_of_ble_eq_true rfl) rfl (As := [.int t1]) (rest := []) rfl rfl (Nat.le_of_ble_eq_true rfl) hm (pc := 7) dX11_fooled_7 (fun t2 => ?_)
  refine j_if_ne hC (pc := 10) dX11_fooled_10 (tgt := 15) rfl ?_ ?_
  · refine j_iconst hC (pc := 13) dX11_fooled_13 ki_m1 ?_
    exact j_iret hC (pc := 14) dX11_fooled_14 rfl rfl rfl
  · refine j_iconst hC (pc := 15) dX11_fooled_15 ki_0 ?_
    refine j_istore_n hC (pc := 16) dX11_fooled_16 rfl (Nat.le_of_ble_eq_true rfl) (loc' := [(3, .int 0), (0, .ref (gad Γ 0)), (1, .int v1), (2, .int v2)]) rfl ?_
    refine j_iconst hC (pc := 17) dX11_fooled_17 ki_0 ?_
    refine j_istore hC (pc := 18) dX11_fooled_18 (Nat.le_of_ble_eq_true rfl) (loc' := [(4, .int 0), (3, .int 0), (0, .ref (gad Γ 0)), (1, .int v1), (2, .int v2)]) rfl ?_
    refine j_sub [2, 3, 4, 1, 0] (loc' := [(0, .ref (gad Γ 0)), (1, .int v1), (2, .int v2), (3, .int 0), (4, .int 0)]) rfl ?_
    exact wX11_fooled_20 hC hR hm F v1 v2 F t2.2 0 0
theorem ctX11_fooled {Δ : DCtx} {l : Launch} (hl : dlay Δ = layM) (hN : dN Δ = 15) (F : Nat) (κ : Mem) (v1 : Int32) (v2 : Int32) : ∀ r, pX11_fooled F κ v1 v2 = some r → CT Δ l yX11_fooled cX11_fooled 8 (some .int) (rmH 3) [.ref (dad Δ 0), .int v1, .int v2] κ (some (.int r.1)) r.2 :=
  ct_of (nL := 8) (ret := (some .int)) (lay := layM) (N := 15) (by decide +kernel) (fun Δ => [.ref (dad Δ 0), .int v1, .int v2]) (fun _ => oE) (fun _ => (Nat.le_of_ble_eq_true rfl)) (fun Γ hR hm hC => wX11_fooled hC hR hm F κ v1 v2) Δ l hl hN
set_option maxRecDepth 20000 in
theorem wX11_right_14 {Γ : JCtx} (hC : jC Γ cX11_right 2 RX11 (some .int) layM 15) (hR : gR Γ = rmH 4) (hm : gcells Γ ≤ (gR Γ).cells ∧ gslots Γ ≤ (gR Γ).slots) (F : Nat) (κ : Mem) (v1 : Int32) (y0 : Int32) : JP Γ (qf Γ oE) (pX11_right_14 F κ v1 y0) κ 14 [(0, .ref (gad Γ 0)), (1, .int v1)] [.int y0, .ref (gad Γ 0)] := by
  unfold pX11_right_14
  refine j_callV_E hC hR (ctX11_is hC.l hC.cn κ y0) kc_RX11_145 (Nat.le_of_ble_eq_true rfl) (Nat.le_of_ble_eq_true rfl) lM_0 (Nat.le_of_ble_eq_true rfl) rfl (As := [.int y0]) (rest := []) rfl rfl (Nat.le_of_ble_eq_true rfl) hm (pc := 14) dX11_right_14 (fun t2 => ?_)
  refine j_if_ne hC (pc := 17) dX11_right_17 (tgt := 22) rfl ?_ ?_
  · refine j_iconst hC (pc := 20) dX11_right_20 ki_m1 ?_
    exact j_iret hC (pc := 21) dX11_right_21 rfl rfl rfl
  · refine j_aload_n hC (pc := 22) dX11_right_22 0 rfl rfl ?_
    refine j_iload_n hC (pc := 23) dX11_right_23 1 rfl rfl ?_
    refine j_callV_V hC hR (ctX11_lays hC.l hC.cn F t2.2 v1) kc_RX11_127 (Nat.le_of_ble_eq_true rfl) (Nat.le_of_ble_eq_true rfl) lM_0 (Nat.le_of_ble_eq_true rfl) rfl (As := [.int v1]) (rest := []) rfl rfl (Nat.le_of_ble_eq_true rfl) hm (pc := 24) dX11_right_24 (fun t3 => ?_)
    refine j_aload_n hC (pc := 27) dX11_right_27 0 rfl rfl ?_
    refine j_callV_I hC hR (ctX11_rightNow hC.l hC.cn F t3) kc_RX11_131 (Nat.le_of_ble_eq_true rfl) (Nat.le_of_ble_eq_true rfl) lM_0 (Nat.le_of_ble_eq_true rfl) rfl (As := []) (rest := []) rfl rfl (Nat.le_of_ble_eq_true rfl) hm (pc := 28) dX11_right_28 (fun t4 => ?_)
    exact j_iret hC (pc := 31) dX11_right_31 rfl rfl rfl
set_option maxRecDepth 20000 in
theorem wX11_right {Γ : JCtx} (hC : jC Γ cX11_right 2 RX11 (some .int) layM 15) (hR : gR Γ = rmH 4) (hm : gcells Γ ≤ (gR Γ).cells ∧ gslots Γ ≤ (gR Γ).slots) (F : Nat) (κ : Mem) (v1 : Int32) : JP Γ (qf Γ oE) (pX11_right F κ v1) κ 0 [(0, .ref (gad Γ 0)), (1, .int v1)] [] := by
  unfold pX11_right
  refine j_aload_n hC (pc := 0) dX11_right_0 0 rfl rfl ?_
  refine j_aload_n hC (pc := 1) dX11_right_1 0 rfl rfl ?_
  refine j_iload_n hC (pc := 2) dX11_right_2 1 rfl rfl ?_
  refine j_callV_I hC hR (ctX11_isColouring hC.l hC.cn F κ v1) kc_RX11_179 (Nat.le_of_ble_eq_true rfl) (Nat.le_of_ble_eq_true rfl) lM_0 (Nat.le_of_ble_eq_true rfl) rfl (As := [.int v1]) (rest := [.ref (gad Γ 0)]) rfl rfl (Nat.le_of_ble_eq_true rfl) hm (pc := 3) dX11_right_3 (fun t1 => ?_)
  refine j_if_eq hC (pc := 6) dX11_right_6 (tgt := 13) rfl ?_ ?_
  · refine j_iconst hC (pc := 13) dX11_right_13 ki_2 ?_
    exact wX11_right_14 hC hR hm F κ v1 2
  · refine j_iconst hC (pc := 9) dX11_right_9 ki_0 ?_
    refine j_goto hC (pc := 10) dX11_right_10 (tgt := 14) rfl ?_
    exact wX11_right_14 hC hR hm F κ v1 0
theorem ctX11_right {Δ : DCtx} {l : Launch} (hl : dlay Δ = layM) (hN : dN Δ = 15) (F : Nat) (κ : Mem) (v1 : Int32) : ∀ r, pX11_right F κ v1 = some r → CT Δ l yX11_right cX11_right 2 (some .int) (rmH 4) [.ref (dad Δ 0), .int v1] κ (some (.int r.1)) r.2 :=
  ct_of (nL := 2) (ret := (some .int)) (lay := layM) (N := 15) (by decide +kernel) (fun Δ => [.ref (dad Δ 0), .int v1]) (fun _ => oE) (fun _ => (Nat.le_of_ble_eq_true rfl)) (fun Γ hR hm hC => wX11_right hC hR hm F κ v1) Δ l hl hN
set_option maxRecDepth 20000 in
theorem wX11_lost_57 {Γ : JCtx} (hC : jC Γ cX11_lost 4 RX11 (some .int) layM 15) (hR : gR Γ = rmH 5) (hm : gcells Γ ≤ (gR Γ).cells ∧ gslots Γ ≤ (gR Γ).slots) (F : Nat) (κ : Mem) (v1 : Int32) (v2 : Int32) (v3 : Int32) (k27 : Int32 → Int32 → Option (Int32 × Mem)) (hk27 : ∀ (v2 : Int32) (v3 : Int32), JP Γ (qf Γ oE) (k27 v2 v3) κ 27 [(0, .ref (gad Γ 0)), (1, .int v1), (2, .int v2), (3, .int v3)] []) : JP Γ (qf Γ oE) (pX11_lost_57 F k27 κ v1 v2 v3) κ 57 [(0, .ref (gad Γ 0)), (1, .int v1), (2, .int v2), (3, .int v3)] [] := by
  unfold pX11_lost_57
  refine j_iinc hC (pc := 57) dX11_lost_57 3 rfl ki_1 (Nat.le_of_ble_eq_true rfl) (loc' := [(3, .int (v3 + 1)), (0, .ref (gad Γ 0)), (1, .int v1), (2, .int v2)]) rfl ?_
  refine j_goto hC (pc := 60) dX11_lost_60 (tgt := 27) rfl ?_
  refine j_sub [1, 2, 3, 0] (loc' := [(0, .ref (gad Γ 0)), (1, .int v1), (2, .int v2), (3, .int (v3 + 1))]) rfl ?_
  exact hk27 v2 (v3 + 1)
set_option maxRecDepth 20000 in
theorem wX11_lost_77 {Γ : JCtx} (hC : jC Γ cX11_lost 4 RX11 (some .int) layM 15) (hR : gR Γ = rmH 5) (hm : gcells Γ ≤ (gR Γ).cells ∧ gslots Γ ≤ (gR Γ).slots) (F : Nat) (κ : Mem) (y0 : Int32) : JP Γ (qf Γ oE) (pX11_lost_77 F κ y0) κ 77 [] [.int y0] := by
  unfold pX11_lost_77
  exact j_iret hC (pc := 77) dX11_lost_77 rfl rfl rfl
set_option maxRecDepth 20000 in
theorem wX11_lost_27 {Γ : JCtx} (hC : jC Γ cX11_lost 4 RX11 (some .int) layM 15) (hR : gR Γ = rmH 5) (hm : gcells Γ ≤ (gR Γ).cells ∧ gslots Γ ≤ (gR Γ).slots) (F : Nat) (κ : Mem) (v1 : Int32) : ∀ (n : Nat) (v2 : Int32) (v3 : Int32), JP Γ (qf Γ oE) (pX11_lost_27 F κ v1 n v2 v3) κ 27 [(0, .ref (gad Γ 0)), (1, .int v1), (2, .int v2), (3, .int v3)] [] := by
  intro n
  induction n with
  | zero =>
    intro v2 v3
    rw [pX11_lost_27]
    exact j_none
  | succ fu ih =>
    intro v2 v3
    rw [pX11_lost_27]
    refine j_iload_n hC (pc := 27) dX11_lost_27 3 rfl rfl ?_
    refine j_aload_n hC (pc := 28) dX11_lost_28 0 rfl rfl ?_
    refine j_callV_I hC hR (ctX11_colourings_ hC.l hC.cn F κ) kc_RX11_125 (Nat.le_of_ble_eq_true rfl) (Nat.le_of_ble_eq_true rfl) lM_0 (Nat.le_of_ble_eq_true rfl) rfl (As := []) (rest := [.int v3]) rfl rfl (Nat.le_of_ble_eq_true rfl) hm (pc := 29) dX11_lost_29 (fun t3 => ?_)
    refine j_icmp_ge hC (pc := 32) dX11_lost_32 (tgt := 63) rfl ?_ ?_
    · refine j_aload_n hC (pc := 35) dX11_lost_35 0 rfl rfl ?_
      refine j_getR hC (pc := 36) dX11_lost_36 kf_RX11_26 lM_0 (Nat.le_of_ble_eq_true rfl) rfl ?_
      refine j_iload_n hC (pc := 39) dX11_lost_39 3 rfl rfl ?_
      refine j_iald hC (pc := 40) dX11_lost_40 lM_6 (Nat.le_of_ble_eq_true rfl) ?_
      refine j_if_eq hC (pc := 41) dX11_lost_41 (tgt := 47) rfl ?_ ?_
      · refine j_iload_n hC (pc := 47) dX11_lost_47 2 rfl rfl ?_
        refine j_iload_n hC (pc := 48) dX11_lost_48 1 rfl rfl ?_
        refine j_icmp_ne hC (pc := 49) dX11_lost_49 (tgt := 54) rfl ?_ ?_
        · refine j_iload_n hC (pc := 52) dX11_lost_52 3 rfl rfl ?_
          exact j_iret hC (pc := 53) dX11_lost_53 rfl rfl rfl
        · refine j_iinc hC (pc := 54) dX11_lost_54 2 rfl ki_1 (Nat.le_of_ble_eq_true rfl) (loc' := [(2, .int (v2 + 1)), (0, .ref (gad Γ 0)), (1, .int v1), (3, .int v3)]) rfl ?_
          refine j_sub [1, 2, 0, 3] (loc' := [(0, .ref (gad Γ 0)), (1, .int v1), (2, .int (v2 + 1)), (3, .int v3)]) rfl ?_
          exact wX11_lost_57 hC hR hm F κ v1 (v2 + 1) v3 (pX11_lost_27 F κ v1 fu) ih
      · refine j_goto hC (pc := 44) dX11_lost_44 (tgt := 57) rfl ?_
        exact wX11_lost_57 hC hR hm F κ v1 v2 v3 (pX11_lost_27 F κ v1 fu) ih
    · refine j_iload_n hC (pc := 63) dX11_lost_63 1 rfl rfl ?_
      refine j_iconst hC (pc := 64) dX11_lost_64 ki_m1 ?_
      refine j_icmp_ne hC (pc := 65) dX11_lost_65 (tgt := 72) rfl ?_ ?_
      · refine j_iload_n hC (pc := 68) dX11_lost_68 2 rfl rfl ?_
        refine j_goto hC (pc := 69) dX11_lost_69 (tgt := 77) rfl ?_
        refine j_sub [] (loc' := []) rfl ?_
        exact wX11_lost_77 hC hR hm F κ v2
      · refine j_aload_n hC (pc := 72) dX11_lost_72 0 rfl rfl ?_
        refine j_iconst hC (pc := 73) dX11_lost_73 ki_5 ?_
        refine j_callV_E hC hR (ctX11_refuse hC.l hC.cn κ 5) kc_RX11_195 (Nat.le_of_ble_eq_true rfl) (Nat.le_of_ble_eq_true rfl) lM_0 (Nat.le_of_ble_eq_true rfl) rfl (As := [.int 5]) (rest := []) rfl rfl (Nat.le_of_ble_eq_true rfl) hm (pc := 74) dX11_lost_74 (fun t4 => ?_)
        refine j_sub [] (loc' := []) rfl ?_
        exact wX11_lost_77 hC hR hm F t4.2 t4.1
set_option maxRecDepth 20000 in
theorem wX11_lost_11 {Γ : JCtx} (hC : jC Γ cX11_lost 4 RX11 (some .int) layM 15) (hR : gR Γ = rmH 5) (hm : gcells Γ ≤ (gR Γ).cells ∧ gslots Γ ≤ (gR Γ).slots) (F : Nat) (κ : Mem) (v1 : Int32) (y0 : Int32) : JP Γ (qf Γ oE) (pX11_lost_11 F κ v1 y0) κ 11 [(0, .ref (gad Γ 0)), (1, .int v1)] [.int y0, .ref (gad Γ 0)] := by
  unfold pX11_lost_11
  refine j_callV_E hC hR (ctX11_is hC.l hC.cn κ y0) kc_RX11_145 (Nat.le_of_ble_eq_true rfl) (Nat.le_of_ble_eq_true rfl) lM_0 (Nat.le_of_ble_eq_true rfl) rfl (As := [.int y0]) (rest := []) rfl rfl (Nat.le_of_ble_eq_true rfl) hm (pc := 11) dX11_lost_11 (fun t1 => ?_)
  refine j_if_ne hC (pc := 14) dX11_lost_14 (tgt := 19) rfl ?_ ?_
  · refine j_iconst hC (pc := 17) dX11_lost_17 ki_m1 ?_
    exact j_iret hC (pc := 18) dX11_lost_18 rfl rfl rfl
  · refine j_aload_n hC (pc := 19) dX11_lost_19 0 rfl rfl ?_
    refine j_callV_V hC hR (ctX11_laysRight hC.l hC.cn F t1.2) kc_RX11_134 (Nat.le_of_ble_eq_true rfl) (Nat.le_of_ble_eq_true rfl) lM_0 (Nat.le_of_ble_eq_true rfl) rfl (As := []) (rest := []) rfl rfl (Nat.le_of_ble_eq_true rfl) hm (pc := 20) dX11_lost_20 (fun t2 => ?_)
    refine j_iconst hC (pc := 23) dX11_lost_23 ki_0 ?_
    refine j_istore_n hC (pc := 24) dX11_lost_24 rfl (Nat.le_of_ble_eq_true rfl) (loc' := [(2, .int 0), (0, .ref (gad Γ 0)), (1, .int v1)]) rfl ?_
    refine j_iconst hC (pc := 25) dX11_lost_25 ki_0 ?_
    refine j_istore_n hC (pc := 26) dX11_lost_26 rfl (Nat.le_of_ble_eq_true rfl) (loc' := [(3, .int 0), (2, .int 0), (0, .ref (gad Γ 0)), (1, .int v1)]) rfl ?_
    refine j_sub [2, 3, 1, 0] (loc' := [(0, .ref (gad Γ 0)), (1, .int v1), (2, .int 0), (3, .int 0)]) rfl ?_
    exact wX11_lost_27 hC hR hm F t2 v1 F 0 0
set_option maxRecDepth 20000 in
theorem wX11_lost {Γ : JCtx} (hC : jC Γ cX11_lost 4 RX11 (some .int) layM 15) (hR : gR Γ = rmH 5) (hm : gcells Γ ≤ (gR Γ).cells ∧ gslots Γ ≤ (gR Γ).slots) (F : Nat) (κ : Mem) (v1 : Int32) : JP Γ (qf Γ oE) (pX11_lost F κ v1) κ 0 [(0, .ref (gad Γ 0)), (1, .int v1)] [] := by
  unfold pX11_lost
  refine j_aload_n hC (pc := 0) dX11_lost_0 0 rfl rfl ?_
  refine j_iload_n hC (pc := 1) dX11_lost_1 1 rfl rfl ?_
  refine j_iconst hC (pc := 2) dX11_lost_2 ki_m1 ?_
  refine j_icmp_lt hC (pc := 3) dX11_lost_3 (tgt := 10) rfl ?_ ?_
  · refine j_iconst hC (pc := 10) dX11_lost_10 ki_1 ?_
    exact wX11_lost_11 hC hR hm F κ v1 1
  · refine j_iconst hC (pc := 6) dX11_lost_6 ki_0 ?_
    refine j_goto hC (pc := 7) dX11_lost_7 (tgt := 11) rfl ?_
    exact wX11_lost_11 hC hR hm F κ v1 0
theorem ctX11_lost {Δ : DCtx} {l : Launch} (hl : dlay Δ = layM) (hN : dN Δ = 15) (F : Nat) (κ : Mem) (v1 : Int32) : ∀ r, pX11_lost F κ v1 = some r → CT Δ l yX11_lost cX11_lost 4 (some .int) (rmH 5) [.ref (dad Δ 0), .int v1] κ (some (.int r.1)) r.2 :=
  ct_of (nL := 4) (ret := (some .int)) (lay := layM) (N := 15) (by decide +kernel) (fun Δ => [.ref (dad Δ 0), .int v1]) (fun _ => oE) (fun _ => (Nat.le_of_ble_eq_true rfl)) (fun Γ hR hm hC => wX11_lost hC hR hm F κ v1) Δ l hl hN
set_option maxRecDepth 20000 in
theorem wX11_rightOf_45 {Γ : JCtx} (hC : jC Γ cX11_rightOf 5 RX11 (some .int) layM 15) (hR : gR Γ = rmH 5) (hm : gcells Γ ≤ (gR Γ).cells ∧ gslots Γ ≤ (gR Γ).slots) (F : Nat) (κ : Mem) (v1 : Int32) (v2 : Int32) (v4 : Int32) (y0 : Int32) (y1 : Int32) (k9 : Int32 → Int32 → Option (Int32 × Mem)) (hk9 : ∀ (v3 : Int32) (v4 : Int32), JP Γ (qf Γ oE) (k9 v3 v4) κ 9 [(0, .ref (gad Γ 0)), (1, .int v1), (2, .int v2), (3, .int v3), (4, .int v4)] []) : JP Γ (qf Γ oE) (pX11_rightOf_45 F k9 κ v1 v2 v4 y0 y1) κ 45 [(0, .ref (gad Γ 0)), (1, .int v1), (2, .int v2), (4, .int v4)] [.int y0, .int y1] := by
  unfold pX11_rightOf_45
  refine j_iadd hC (pc := 45) dX11_rightOf_45 ?_
  refine j_nmi (fun x5 => ?_)
  refine j_istore_n hC (pc := 46) dX11_rightOf_46 rfl (Nat.le_of_ble_eq_true rfl) (loc' := [(3, .int x5), (0, .ref (gad Γ 0)), (1, .int v1), (2, .int v2), (4, .int v4)]) rfl ?_
  refine j_iinc hC (pc := 47) dX11_rightOf_47 4 rfl ki_1 (Nat.le_of_ble_eq_true rfl) (loc' := [(4, .int (v4 + 1)), (3, .int x5), (0, .ref (gad Γ 0)), (1, .int v1), (2, .int v2)]) rfl ?_
  refine j_goto hC (pc := 50) dX11_rightOf_50 (tgt := 9) rfl ?_
  refine j_sub [2, 3, 4, 1, 0] (loc' := [(0, .ref (gad Γ 0)), (1, .int v1), (2, .int v2), (3, .int x5), (4, .int (v4 + 1))]) rfl ?_
  exact hk9 x5 (v4 + 1)
set_option maxRecDepth 20000 in
theorem wX11_rightOf_9 {Γ : JCtx} (hC : jC Γ cX11_rightOf 5 RX11 (some .int) layM 15) (hR : gR Γ = rmH 5) (hm : gcells Γ ≤ (gR Γ).cells ∧ gslots Γ ≤ (gR Γ).slots) (F : Nat) (κ : Mem) (v1 : Int32) (v2 : Int32) : ∀ (n : Nat) (v3 : Int32) (v4 : Int32), JP Γ (qf Γ oE) (pX11_rightOf_9 F κ v1 v2 n v3 v4) κ 9 [(0, .ref (gad Γ 0)), (1, .int v1), (2, .int v2), (3, .int v3), (4, .int v4)] [] := by
  intro n
  induction n with
  | zero =>
    intro v3 v4
    rw [pX11_rightOf_9]
    exact j_none
  | succ fu ih =>
    intro v3 v4
    rw [pX11_rightOf_9]
    refine j_iload hC (pc := 9) dX11_rightOf_9 4 rfl ?_
    refine j_aload_n hC (pc := 11) dX11_rightOf_11 0 rfl rfl ?_
    refine j_callV_I hC hR (ctX11_colourings_ hC.l hC.cn F κ) kc_RX11_125 (Nat.le_of_ble_eq_true rfl) (Nat.le_of_ble_eq_true rfl) lM_0 (Nat.le_of_ble_eq_true rfl) rfl (As := []) (rest := [.int v4]) rfl rfl (Nat.le_of_ble_eq_true rfl) hm (pc := 12) dX11_rightOf_12 (fun t2 => ?_)
    refine j_icmp_ge hC (pc := 15) dX11_rightOf_15 (tgt := 53) rfl ?_ ?_
    · refine j_iload_n hC (pc := 18) dX11_rightOf_18 3 rfl rfl ?_
      refine j_aload_n hC (pc := 19) dX11_rightOf_19 0 rfl rfl ?_
      refine j_getR hC (pc := 20) dX11_rightOf_20 kf_RX11_26 lM_0 (Nat.le_of_ble_eq_true rfl) rfl ?_
      refine j_iload hC (pc := 23) dX11_rightOf_23 4 rfl ?_
      refine j_iald hC (pc := 25) dX11_rightOf_25 lM_6 (Nat.le_of_ble_eq_true rfl) ?_
      refine j_callS_I hC hR (ctX11_ones hC.l hC.cn F κ (mi κ 6 v4.toNatClampNeg)) kc_RX11_149 (Nat.le_of_ble_eq_true rfl) (Nat.le_of_ble_eq_true rfl) (As := [.int (mi κ 6 v4.toNatClampNeg)]) (rest := [.int v3]) rfl rfl (Nat.le_of_ble_eq_true rfl) hm (pc := 26) dX11_rightOf_26 (fun t3 => ?_)
      refine j_i2l hC (pc := 29) dX11_rightOf_29 ?_
      refine j_iload_n hC (pc := 30) dX11_rightOf_30 1 rfl rfl ?_
      refine j_i2l hC (pc := 31) dX11_rightOf_31 ?_
      refine j_iload_n hC (pc := 32) dX11_rightOf_32 2 rfl rfl ?_
      refine j_i2l hC (pc := 33) dX11_rightOf_33 ?_
      refine j_callS_I hC hR (ctX11_isIn hC.l hC.cn κ t3.toInt64 v1.toInt64 v2.toInt64) kc_RX11_92 (Nat.le_of_ble_eq_true rfl) (Nat.le_of_ble_eq_true rfl) (As := [.long (t3.toInt64), .long (v1.toInt64), .long (v2.toInt64)]) (rest := [.int v3]) rfl rfl (Nat.le_of_ble_eq_true rfl) hm (pc := 34) dX11_rightOf_34 (fun t4 => ?_)
      refine j_if_eq hC (pc := 37) dX11_rightOf_37 (tgt := 44) rfl ?_ ?_
      · refine j_iconst hC (pc := 44) dX11_rightOf_44 ki_0 ?_
        refine j_sub [0, 1, 2, 4] (loc' := [(0, .ref (gad Γ 0)), (1, .int v1), (2, .int v2), (4, .int v4)]) rfl ?_
        exact wX11_rightOf_45 hC hR hm F κ v1 v2 v4 0 v3 (pX11_rightOf_9 F κ v1 v2 fu) ih
      · refine j_iconst hC (pc := 40) dX11_rightOf_40 ki_1 ?_
        refine j_goto hC (pc := 41) dX11_rightOf_41 (tgt := 45) rfl ?_
        refine j_sub [0, 1, 2, 4] (loc' := [(0, .ref (gad Γ 0)), (1, .int v1), (2, .int v2), (4, .int v4)]) rfl ?_
        exact wX11_rightOf_45 hC hR hm F κ v1 v2 v4 1 v3 (pX11_rightOf_9 F κ v1 v2 fu) ih
    · refine j_iload_n hC (pc := 53) dX11_rightOf_53 3 rfl rfl ?_
      exact j_iret hC (pc := 54) dX11_rightOf_54 rfl rfl rfl
set_option maxRecDepth 20000 in
theorem wX11_rightOf {Γ : JCtx} (hC : jC Γ cX11_rightOf 5 RX11 (some .int) layM 15) (hR : gR Γ = rmH 5) (hm : gcells Γ ≤ (gR Γ).cells ∧ gslots Γ ≤ (gR Γ).slots) (F : Nat) (κ : Mem) (v1 : Int32) (v2 : Int32) : JP Γ (qf Γ oE) (pX11_rightOf F κ v1 v2) κ 0 [(0, .ref (gad Γ 0)), (1, .int v1), (2, .int v2)] [] := by
  unfold pX11_rightOf
  refine j_aload_n hC (pc := 0) dX11_rightOf_0 0 rfl rfl ?_
  refine j_callV_V hC hR (ctX11_laysRight hC.l hC.cn F κ) kc_RX11_134 (Nat.le_of_ble_eq_true rfl) (Nat.le_of_ble_eq_true rfl) lM_0 (Nat.le_of_ble_eq_true rfl) rfl (As := []) (rest := []) rfl rfl (Nat.le_of_ble_eq_true rfl) hm (pc := 1) dX11_rightOf_1 (fun t1 => ?_)
  refine j_iconst hC (pc := 4) dX11_rightOf_4 ki_0 ?_
  refine j_istore_n hC (pc := 5) dX11_rightOf_5 rfl (Nat.le_of_ble_eq_true rfl) (loc' := [(3, .int 0), (0, .ref (gad Γ 0)), (1, .int v1), (2, .int v2)]) rfl ?_
  refine j_iconst hC (pc := 6) dX11_rightOf_6 ki_0 ?_
  refine j_istore hC (pc := 7) dX11_rightOf_7 (Nat.le_of_ble_eq_true rfl) (loc' := [(4, .int 0), (3, .int 0), (0, .ref (gad Γ 0)), (1, .int v1), (2, .int v2)]) rfl ?_
  refine j_sub [2, 3, 4, 1, 0] (loc' := [(0, .ref (gad Γ 0)), (1, .int v1), (2, .int v2), (3, .int 0), (4, .int 0)]) rfl ?_
  exact wX11_rightOf_9 hC hR hm F t1 v1 v2 F 0 0
theorem ctX11_rightOf {Δ : DCtx} {l : Launch} (hl : dlay Δ = layM) (hN : dN Δ = 15) (F : Nat) (κ : Mem) (v1 : Int32) (v2 : Int32) : ∀ r, pX11_rightOf F κ v1 v2 = some r → CT Δ l yX11_rightOf cX11_rightOf 5 (some .int) (rmH 5) [.ref (dad Δ 0), .int v1, .int v2] κ (some (.int r.1)) r.2 :=
  ct_of (nL := 5) (ret := (some .int)) (lay := layM) (N := 15) (by decide +kernel) (fun Δ => [.ref (dad Δ 0), .int v1, .int v2]) (fun _ => oE) (fun _ => (Nat.le_of_ble_eq_true rfl)) (fun Γ hR hm hC => wX11_rightOf hC hR hm F κ v1 v2) Δ l hl hN
set_option maxRecDepth 20000 in
theorem wX11_exact_34 {Γ : JCtx} (hC : jC Γ cX11_exact 2 RX11 (some .int) layM 15) (hR : gR Γ = rmH 6) (hm : gcells Γ ≤ (gR Γ).cells ∧ gslots Γ ≤ (gR Γ).slots) (F : Nat) (κ : Mem) (y0 : Int32) : JP Γ (qf Γ oE) (pX11_exact_34 F κ y0) κ 34 [] [.int y0] := by
  unfold pX11_exact_34
  exact j_iret hC (pc := 34) dX11_exact_34 rfl rfl rfl
set_option maxRecDepth 20000 in
theorem wX11_exact_18 {Γ : JCtx} (hC : jC Γ cX11_exact 2 RX11 (some .int) layM 15) (hR : gR Γ = rmH 6) (hm : gcells Γ ≤ (gR Γ).cells ∧ gslots Γ ≤ (gR Γ).slots) (F : Nat) (κ : Mem) (v1 : Int32) (y0 : Int32) : JP Γ (qf Γ oE) (pX11_exact_18 F κ v1 y0) κ 18 [(0, .ref (gad Γ 0)), (1, .int v1)] [.int y0, .ref (gad Γ 0)] := by
  unfold pX11_exact_18
  refine j_callV_E hC hR (ctX11_is hC.l hC.cn κ y0) kc_RX11_145 (Nat.le_of_ble_eq_true rfl) (Nat.le_of_ble_eq_true rfl) lM_0 (Nat.le_of_ble_eq_true rfl) rfl (As := [.int y0]) (rest := []) rfl rfl (Nat.le_of_ble_eq_true rfl) hm (pc := 18) dX11_exact_18 (fun t2 => ?_)
  refine j_if_eq hC (pc := 21) dX11_exact_21 (tgt := 33) rfl ?_ ?_
  · refine j_iconst hC (pc := 33) dX11_exact_33 ki_m1 ?_
    refine j_sub [] (loc' := []) rfl ?_
    exact wX11_exact_34 hC hR hm F t2.2 (-1)
  · refine j_aload_n hC (pc := 24) dX11_exact_24 0 rfl rfl ?_
    refine j_iload_n hC (pc := 25) dX11_exact_25 1 rfl rfl ?_
    refine j_iload_n hC (pc := 26) dX11_exact_26 1 rfl rfl ?_
    refine j_callV_E hC hR (ctX11_rightOf hC.l hC.cn F t2.2 v1 v1) kc_RX11_200 (Nat.le_of_ble_eq_true rfl) (Nat.le_of_ble_eq_true rfl) lM_0 (Nat.le_of_ble_eq_true rfl) rfl (As := [.int v1, .int v1]) (rest := []) rfl rfl (Nat.le_of_ble_eq_true rfl) hm (pc := 27) dX11_exact_27 (fun t3 => ?_)
    refine j_goto hC (pc := 30) dX11_exact_30 (tgt := 34) rfl ?_
    refine j_sub [] (loc' := []) rfl ?_
    exact wX11_exact_34 hC hR hm F t3.2 t3.1
set_option maxRecDepth 20000 in
theorem wX11_exact {Γ : JCtx} (hC : jC Γ cX11_exact 2 RX11 (some .int) layM 15) (hR : gR Γ = rmH 6) (hm : gcells Γ ≤ (gR Γ).cells ∧ gslots Γ ≤ (gR Γ).slots) (F : Nat) (κ : Mem) (v1 : Int32) : JP Γ (qf Γ oE) (pX11_exact F κ v1) κ 0 [(0, .ref (gad Γ 0)), (1, .int v1)] [] := by
  unfold pX11_exact
  refine j_aload_n hC (pc := 0) dX11_exact_0 0 rfl rfl ?_
  refine j_iload_n hC (pc := 1) dX11_exact_1 1 rfl rfl ?_
  refine j_i2l hC (pc := 2) dX11_exact_2 ?_
  refine j_lconst hC (pc := 3) dX11_exact_3 rfl ?_
  refine j_ldc2 hC (pc := 4) dX11_exact_4 w_866 ?_
  refine j_callS_I hC hR (ctX11_isIn hC.l hC.cn κ v1.toInt64 0 6) kc_RX11_92 (Nat.le_of_ble_eq_true rfl) (Nat.le_of_ble_eq_true rfl) (As := [.long (v1.toInt64), .long 0, .long 6]) (rest := [.ref (gad Γ 0)]) rfl rfl (Nat.le_of_ble_eq_true rfl) hm (pc := 7) dX11_exact_7 (fun t1 => ?_)
  refine j_if_eq hC (pc := 10) dX11_exact_10 (tgt := 17) rfl ?_ ?_
  · refine j_iconst hC (pc := 17) dX11_exact_17 ki_1 ?_
    exact wX11_exact_18 hC hR hm F κ v1 1
  · refine j_iconst hC (pc := 13) dX11_exact_13 ki_0 ?_
    refine j_goto hC (pc := 14) dX11_exact_14 (tgt := 18) rfl ?_
    exact wX11_exact_18 hC hR hm F κ v1 0
theorem ctX11_exact {Δ : DCtx} {l : Launch} (hl : dlay Δ = layM) (hN : dN Δ = 15) (F : Nat) (κ : Mem) (v1 : Int32) : ∀ r, pX11_exact F κ v1 = some r → CT Δ l yX11_exact cX11_exact 2 (some .int) (rmH 6) [.ref (dad Δ 0), .int v1] κ (some (.int r.1)) r.2 :=
  ct_of (nL := 2) (ret := (some .int)) (lay := layM) (N := 15) (by decide +kernel) (fun Δ => [.ref (dad Δ 0), .int v1]) (fun _ => oE) (fun _ => (Nat.le_of_ble_eq_true rfl)) (fun Γ hR hm hC => wX11_exact hC hR hm F κ v1) Δ l hl hN
set_option maxRecDepth 20000 in
theorem wX11_atLeast_35 {Γ : JCtx} (hC : jC Γ cX11_atLeast 2 RX11 (some .int) layM 15) (hR : gR Γ = rmH 6) (hm : gcells Γ ≤ (gR Γ).cells ∧ gslots Γ ≤ (gR Γ).slots) (F : Nat) (κ : Mem) (y0 : Int32) : JP Γ (qf Γ oE) (pX11_atLeast_35 F κ y0) κ 35 [] [.int y0] := by
  unfold pX11_atLeast_35
  exact j_iret hC (pc := 35) dX11_atLeast_35 rfl rfl rfl
set_option maxRecDepth 20000 in
theorem wX11_atLeast_18 {Γ : JCtx} (hC : jC Γ cX11_atLeast 2 RX11 (some .int) layM 15) (hR : gR Γ = rmH 6) (hm : gcells Γ ≤ (gR Γ).cells ∧ gslots Γ ≤ (gR Γ).slots) (F : Nat) (κ : Mem) (v1 : Int32) (y0 : Int32) : JP Γ (qf Γ oE) (pX11_atLeast_18 F κ v1 y0) κ 18 [(0, .ref (gad Γ 0)), (1, .int v1)] [.int y0, .ref (gad Γ 0)] := by
  unfold pX11_atLeast_18
  refine j_callV_E hC hR (ctX11_is hC.l hC.cn κ y0) kc_RX11_145 (Nat.le_of_ble_eq_true rfl) (Nat.le_of_ble_eq_true rfl) lM_0 (Nat.le_of_ble_eq_true rfl) rfl (As := [.int y0]) (rest := []) rfl rfl (Nat.le_of_ble_eq_true rfl) hm (pc := 18) dX11_atLeast_18 (fun t2 => ?_)
  refine j_if_eq hC (pc := 21) dX11_atLeast_21 (tgt := 34) rfl ?_ ?_
  · refine j_iconst hC (pc := 34) dX11_atLeast_34 ki_m1 ?_
    refine j_sub [] (loc' := []) rfl ?_
    exact wX11_atLeast_35 hC hR hm F t2.2 (-1)
  · refine j_aload_n hC (pc := 24) dX11_atLeast_24 0 rfl rfl ?_
    refine j_iload_n hC (pc := 25) dX11_atLeast_25 1 rfl rfl ?_
    refine j_bipush hC (pc := 26) dX11_atLeast_26 kb_6 ?_
    refine j_callV_E hC hR (ctX11_rightOf hC.l hC.cn F t2.2 v1 6) kc_RX11_200 (Nat.le_of_ble_eq_true rfl) (Nat.le_of_ble_eq_true rfl) lM_0 (Nat.le_of_ble_eq_true rfl) rfl (As := [.int v1, .int 6]) (rest := []) rfl rfl (Nat.le_of_ble_eq_true rfl) hm (pc := 28) dX11_atLeast_28 (fun t3 => ?_)
    refine j_goto hC (pc := 31) dX11_atLeast_31 (tgt := 35) rfl ?_
    refine j_sub [] (loc' := []) rfl ?_
    exact wX11_atLeast_35 hC hR hm F t3.2 t3.1
set_option maxRecDepth 20000 in
theorem wX11_atLeast {Γ : JCtx} (hC : jC Γ cX11_atLeast 2 RX11 (some .int) layM 15) (hR : gR Γ = rmH 6) (hm : gcells Γ ≤ (gR Γ).cells ∧ gslots Γ ≤ (gR Γ).slots) (F : Nat) (κ : Mem) (v1 : Int32) : JP Γ (qf Γ oE) (pX11_atLeast F κ v1) κ 0 [(0, .ref (gad Γ 0)), (1, .int v1)] [] := by
  unfold pX11_atLeast
  refine j_aload_n hC (pc := 0) dX11_atLeast_0 0 rfl rfl ?_
  refine j_iload_n hC (pc := 1) dX11_atLeast_1 1 rfl rfl ?_
  refine j_i2l hC (pc := 2) dX11_atLeast_2 ?_
  refine j_lconst hC (pc := 3) dX11_atLeast_3 rfl ?_
  refine j_ldc2 hC (pc := 4) dX11_atLeast_4 w_866 ?_
  refine j_callS_I hC hR (ctX11_isIn hC.l hC.cn κ v1.toInt64 0 6) kc_RX11_92 (Nat.le_of_ble_eq_true rfl) (Nat.le_of_ble_eq_true rfl) (As := [.long (v1.toInt64), .long 0, .long 6]) (rest := [.ref (gad Γ 0)]) rfl rfl (Nat.le_of_ble_eq_true rfl) hm (pc := 7) dX11_atLeast_7 (fun t1 => ?_)
  refine j_if_eq hC (pc := 10) dX11_atLeast_10 (tgt := 17) rfl ?_ ?_
  · refine j_iconst hC (pc := 17) dX11_atLeast_17 ki_1 ?_
    exact wX11_atLeast_18 hC hR hm F κ v1 1
  · refine j_iconst hC (pc := 13) dX11_atLeast_13 ki_0 ?_
    refine j_goto hC (pc := 14) dX11_atLeast_14 (tgt := 18) rfl ?_
    exact wX11_atLeast_18 hC hR hm F κ v1 0
theorem ctX11_atLeast {Δ : DCtx} {l : Launch} (hl : dlay Δ = layM) (hN : dN Δ = 15) (F : Nat) (κ : Mem) (v1 : Int32) : ∀ r, pX11_atLeast F κ v1 = some r → CT Δ l yX11_atLeast cX11_atLeast 2 (some .int) (rmH 6) [.ref (dad Δ 0), .int v1] κ (some (.int r.1)) r.2 :=
  ct_of (nL := 2) (ret := (some .int)) (lay := layM) (N := 15) (by decide +kernel) (fun Δ => [.ref (dad Δ 0), .int v1]) (fun _ => oE) (fun _ => (Nat.le_of_ble_eq_true rfl)) (fun Γ hR hm hC => wX11_atLeast hC hR hm F κ v1) Δ l hl hN
set_option maxRecDepth 20000 in
theorem wX11_alone_56 {Γ : JCtx} (hC : jC Γ cX11_alone 4 RX11 (some .int) layM 15) (hR : gR Γ = rmH 5) (hm : gcells Γ ≤ (gR Γ).cells ∧ gslots Γ ≤ (gR Γ).slots) (F : Nat) (κ : Mem) (v1 : Int32) (v3 : Int32) (y0 : Int32) (y1 : Int32) (k30 : Int32 → Int32 → Option (Int32 × Mem)) (hk30 : ∀ (v2 : Int32) (v3 : Int32), JP Γ (qf Γ oE) (k30 v2 v3) κ 30 [(0, .ref (gad Γ 0)), (1, .int v1), (2, .int v2), (3, .int v3)] []) : JP Γ (qf Γ oE) (pX11_alone_56 F k30 κ v1 v3 y0 y1) κ 56 [(0, .ref (gad Γ 0)), (1, .int v1), (3, .int v3)] [.int y0, .int y1] := by
  unfold pX11_alone_56
  refine j_iadd hC (pc := 56) dX11_alone_56 ?_
  refine j_nmi (fun x5 => ?_)
  refine j_istore_n hC (pc := 57) dX11_alone_57 rfl (Nat.le_of_ble_eq_true rfl) (loc' := [(2, .int x5), (0, .ref (gad Γ 0)), (1, .int v1), (3, .int v3)]) rfl ?_
  refine j_iinc hC (pc := 58) dX11_alone_58 3 rfl ki_1 (Nat.le_of_ble_eq_true rfl) (loc' := [(3, .int (v3 + 1)), (2, .int x5), (0, .ref (gad Γ 0)), (1, .int v1)]) rfl ?_
  refine j_goto hC (pc := 61) dX11_alone_61 (tgt := 30) rfl ?_
  refine j_sub [2, 3, 1, 0] (loc' := [(0, .ref (gad Γ 0)), (1, .int v1), (2, .int x5), (3, .int (v3 + 1))]) rfl ?_
  exact hk30 x5 (v3 + 1)
set_option maxRecDepth 20000 in
theorem wX11_alone_30 {Γ : JCtx} (hC : jC Γ cX11_alone 4 RX11 (some .int) layM 15) (hR : gR Γ = rmH 5) (hm : gcells Γ ≤ (gR Γ).cells ∧ gslots Γ ≤ (gR Γ).slots) (F : Nat) (κ : Mem) (v1 : Int32) : ∀ (n : Nat) (v2 : Int32) (v3 : Int32), JP Γ (qf Γ oE) (pX11_alone_30 F κ v1 n v2 v3) κ 30 [(0, .ref (gad Γ 0)), (1, .int v1), (2, .int v2), (3, .int v3)] [] := by
  intro n
  induction n with
  | zero =>
    intro v2 v3
    rw [pX11_alone_30]
    exact j_none
  | succ fu ih =>
    intro v2 v3
    rw [pX11_alone_30]
    refine j_iload_n hC (pc := 30) dX11_alone_30 3 rfl rfl ?_
    refine j_aload_n hC (pc := 31) dX11_alone_31 0 rfl rfl ?_
    refine j_callV_I hC hR (ctX11_colourings_ hC.l hC.cn F κ) kc_RX11_125 (Nat.le_of_ble_eq_true rfl) (Nat.le_of_ble_eq_true rfl) lM_0 (Nat.le_of_ble_eq_true rfl) rfl (As := []) (rest := [.int v3]) rfl rfl (Nat.le_of_ble_eq_true rfl) hm (pc := 32) dX11_alone_32 (fun t4 => ?_)
    refine j_icmp_ge hC (pc := 35) dX11_alone_35 (tgt := 64) rfl ?_ ?_
    · refine j_iload_n hC (pc := 38) dX11_alone_38 2 rfl rfl ?_
      refine j_aload_n hC (pc := 39) dX11_alone_39 0 rfl rfl ?_
      refine j_getR hC (pc := 40) dX11_alone_40 kf_RX11_26 lM_0 (Nat.le_of_ble_eq_true rfl) rfl ?_
      refine j_iload_n hC (pc := 43) dX11_alone_43 3 rfl rfl ?_
      refine j_iald hC (pc := 44) dX11_alone_44 lM_6 (Nat.le_of_ble_eq_true rfl) ?_
      refine j_iconst hC (pc := 45) dX11_alone_45 ki_1 ?_
      refine j_iload_n hC (pc := 46) dX11_alone_46 1 rfl rfl ?_
      refine j_ishl hC (pc := 47) dX11_alone_47 ?_
      refine j_icmp_ne hC (pc := 48) dX11_alone_48 (tgt := 55) rfl ?_ ?_
      · refine j_iconst hC (pc := 51) dX11_alone_51 ki_1 ?_
        refine j_goto hC (pc := 52) dX11_alone_52 (tgt := 56) rfl ?_
        refine j_sub [0, 1, 3] (loc' := [(0, .ref (gad Γ 0)), (1, .int v1), (3, .int v3)]) rfl ?_
        exact wX11_alone_56 hC hR hm F κ v1 v3 1 v2 (pX11_alone_30 F κ v1 fu) ih
      · refine j_iconst hC (pc := 55) dX11_alone_55 ki_0 ?_
        refine j_sub [0, 1, 3] (loc' := [(0, .ref (gad Γ 0)), (1, .int v1), (3, .int v3)]) rfl ?_
        exact wX11_alone_56 hC hR hm F κ v1 v3 0 v2 (pX11_alone_30 F κ v1 fu) ih
    · refine j_iload_n hC (pc := 64) dX11_alone_64 2 rfl rfl ?_
      exact j_iret hC (pc := 65) dX11_alone_65 rfl rfl rfl
set_option maxRecDepth 20000 in
theorem wX11_alone_14 {Γ : JCtx} (hC : jC Γ cX11_alone 4 RX11 (some .int) layM 15) (hR : gR Γ = rmH 5) (hm : gcells Γ ≤ (gR Γ).cells ∧ gslots Γ ≤ (gR Γ).slots) (F : Nat) (κ : Mem) (v1 : Int32) (y0 : Int32) : JP Γ (qf Γ oE) (pX11_alone_14 F κ v1 y0) κ 14 [(0, .ref (gad Γ 0)), (1, .int v1)] [.int y0, .ref (gad Γ 0)] := by
  unfold pX11_alone_14
  refine j_callV_E hC hR (ctX11_is hC.l hC.cn κ y0) kc_RX11_145 (Nat.le_of_ble_eq_true rfl) (Nat.le_of_ble_eq_true rfl) lM_0 (Nat.le_of_ble_eq_true rfl) rfl (As := [.int y0]) (rest := []) rfl rfl (Nat.le_of_ble_eq_true rfl) hm (pc := 14) dX11_alone_14 (fun t2 => ?_)
  refine j_if_ne hC (pc := 17) dX11_alone_17 (tgt := 22) rfl ?_ ?_
  · refine j_iconst hC (pc := 20) dX11_alone_20 ki_m1 ?_
    exact j_iret hC (pc := 21) dX11_alone_21 rfl rfl rfl
  · refine j_aload_n hC (pc := 22) dX11_alone_22 0 rfl rfl ?_
    refine j_callV_V hC hR (ctX11_laysRight hC.l hC.cn F t2.2) kc_RX11_134 (Nat.le_of_ble_eq_true rfl) (Nat.le_of_ble_eq_true rfl) lM_0 (Nat.le_of_ble_eq_true rfl) rfl (As := []) (rest := []) rfl rfl (Nat.le_of_ble_eq_true rfl) hm (pc := 23) dX11_alone_23 (fun t3 => ?_)
    refine j_iconst hC (pc := 26) dX11_alone_26 ki_0 ?_
    refine j_istore_n hC (pc := 27) dX11_alone_27 rfl (Nat.le_of_ble_eq_true rfl) (loc' := [(2, .int 0), (0, .ref (gad Γ 0)), (1, .int v1)]) rfl ?_
    refine j_iconst hC (pc := 28) dX11_alone_28 ki_0 ?_
    refine j_istore_n hC (pc := 29) dX11_alone_29 rfl (Nat.le_of_ble_eq_true rfl) (loc' := [(3, .int 0), (2, .int 0), (0, .ref (gad Γ 0)), (1, .int v1)]) rfl ?_
    refine j_sub [2, 3, 1, 0] (loc' := [(0, .ref (gad Γ 0)), (1, .int v1), (2, .int 0), (3, .int 0)]) rfl ?_
    exact wX11_alone_30 hC hR hm F t3 v1 F 0 0
set_option maxRecDepth 20000 in
theorem wX11_alone {Γ : JCtx} (hC : jC Γ cX11_alone 4 RX11 (some .int) layM 15) (hR : gR Γ = rmH 5) (hm : gcells Γ ≤ (gR Γ).cells ∧ gslots Γ ≤ (gR Γ).slots) (F : Nat) (κ : Mem) (v1 : Int32) : JP Γ (qf Γ oE) (pX11_alone F κ v1) κ 0 [(0, .ref (gad Γ 0)), (1, .int v1)] [] := by
  unfold pX11_alone
  refine j_aload_n hC (pc := 0) dX11_alone_0 0 rfl rfl ?_
  refine j_aload_n hC (pc := 1) dX11_alone_1 0 rfl rfl ?_
  refine j_iload_n hC (pc := 2) dX11_alone_2 1 rfl rfl ?_
  refine j_callV_I hC hR (ctX11_isPlayer hC.l hC.cn κ v1) kc_RX11_164 (Nat.le_of_ble_eq_true rfl) (Nat.le_of_ble_eq_true rfl) lM_0 (Nat.le_of_ble_eq_true rfl) rfl (As := [.int v1]) (rest := [.ref (gad Γ 0)]) rfl rfl (Nat.le_of_ble_eq_true rfl) hm (pc := 3) dX11_alone_3 (fun t1 => ?_)
  refine j_if_eq hC (pc := 6) dX11_alone_6 (tgt := 13) rfl ?_ ?_
  · refine j_iconst hC (pc := 13) dX11_alone_13 ki_2 ?_
    exact wX11_alone_14 hC hR hm F κ v1 2
  · refine j_iconst hC (pc := 9) dX11_alone_9 ki_0 ?_
    refine j_goto hC (pc := 10) dX11_alone_10 (tgt := 14) rfl ?_
    exact wX11_alone_14 hC hR hm F κ v1 0
theorem ctX11_alone {Δ : DCtx} {l : Launch} (hl : dlay Δ = layM) (hN : dN Δ = 15) (F : Nat) (κ : Mem) (v1 : Int32) : ∀ r, pX11_alone F κ v1 = some r → CT Δ l yX11_alone cX11_alone 4 (some .int) (rmH 5) [.ref (dad Δ 0), .int v1] κ (some (.int r.1)) r.2 :=
  ct_of (nL := 4) (ret := (some .int)) (lay := layM) (N := 15) (by decide +kernel) (fun Δ => [.ref (dad Δ 0), .int v1]) (fun _ => oE) (fun _ => (Nat.le_of_ble_eq_true rfl)) (fun Γ hR hm hC => wX11_alone hC hR hm F κ v1) Δ l hl hN
set_option maxRecDepth 20000 in
theorem wX11_whyPair_30 {Γ : JCtx} (hC : jC Γ cX11_whyPair 3 RX11 (some .int) layM 15) (hR : gR Γ = rmH 2) (hm : gcells Γ ≤ (gR Γ).cells ∧ gslots Γ ≤ (gR Γ).slots) (κ : Mem) (y0 : Int32) : JP Γ (qf Γ (oI κ)) (pX11_whyPair_30 κ y0) κ 30 [] [.int y0] := by
  unfold pX11_whyPair_30
  exact j_iret hC (pc := 30) dX11_whyPair_30 rfl rfl rfl
set_option maxRecDepth 20000 in
theorem wX11_whyPair_16 {Γ : JCtx} (hC : jC Γ cX11_whyPair 3 RX11 (some .int) layM 15) (hR : gR Γ = rmH 2) (hm : gcells Γ ≤ (gR Γ).cells ∧ gslots Γ ≤ (gR Γ).slots) (κ : Mem) : JP Γ (qf Γ (oI κ)) (pX11_whyPair_16 κ) κ 16 [] [] := by
  unfold pX11_whyPair_16
  refine j_iconst hC (pc := 16) dX11_whyPair_16 ki_2 ?_
  refine j_goto hC (pc := 17) dX11_whyPair_17 (tgt := 30) rfl ?_
  exact wX11_whyPair_30 hC hR hm κ 2
set_option maxRecDepth 20000 in
theorem wX11_whyPair {Γ : JCtx} (hC : jC Γ cX11_whyPair 3 RX11 (some .int) layM 15) (hR : gR Γ = rmH 2) (hm : gcells Γ ≤ (gR Γ).cells ∧ gslots Γ ≤ (gR Γ).slots) (κ : Mem) (v1 : Int32) (v2 : Int32) : JP Γ (qf Γ (oI κ)) (pX11_whyPair κ v1 v2) κ 0 [(0, .ref (gad Γ 0)), (1, .int v1), (2, .int v2)] [] := by
  unfold pX11_whyPair
  refine j_aload_n hC (pc := 0) dX11_whyPair_0 0 rfl rfl ?_
  refine j_iload_n hC (pc := 1) dX11_whyPair_1 1 rfl rfl ?_
  refine j_callV_I hC hR (ctX11_isPlayer hC.l hC.cn κ v1) kc_RX11_164 (Nat.le_of_ble_eq_true rfl) (Nat.le_of_ble_eq_true rfl) lM_0 (Nat.le_of_ble_eq_true rfl) rfl (As := [.int v1]) (rest := []) rfl rfl (Nat.le_of_ble_eq_true rfl) hm (pc := 2) dX11_whyPair_2 (fun t1 => ?_)
  refine j_if_eq hC (pc := 5) dX11_whyPair_5 (tgt := 16) rfl ?_ ?_
  · refine j_sub [] (loc' := []) rfl ?_
    exact wX11_whyPair_16 hC hR hm κ
  · refine j_aload_n hC (pc := 8) dX11_whyPair_8 0 rfl rfl ?_
    refine j_iload_n hC (pc := 9) dX11_whyPair_9 2 rfl rfl ?_
    refine j_callV_I hC hR (ctX11_isPlayer hC.l hC.cn κ v2) kc_RX11_164 (Nat.le_of_ble_eq_true rfl) (Nat.le_of_ble_eq_true rfl) lM_0 (Nat.le_of_ble_eq_true rfl) rfl (As := [.int v2]) (rest := []) rfl rfl (Nat.le_of_ble_eq_true rfl) hm (pc := 10) dX11_whyPair_10 (fun t2 => ?_)
    refine j_if_ne hC (pc := 13) dX11_whyPair_13 (tgt := 20) rfl ?_ ?_
    · refine j_sub [] (loc' := []) rfl ?_
      exact wX11_whyPair_16 hC hR hm κ
    · refine j_iload_n hC (pc := 20) dX11_whyPair_20 1 rfl rfl ?_
      refine j_iload_n hC (pc := 21) dX11_whyPair_21 2 rfl rfl ?_
      refine j_icmp_ne hC (pc := 22) dX11_whyPair_22 (tgt := 29) rfl ?_ ?_
      · refine j_iconst hC (pc := 25) dX11_whyPair_25 ki_4 ?_
        refine j_goto hC (pc := 26) dX11_whyPair_26 (tgt := 30) rfl ?_
        refine j_sub [] (loc' := []) rfl ?_
        exact wX11_whyPair_30 hC hR hm κ 4
      · refine j_iconst hC (pc := 29) dX11_whyPair_29 ki_0 ?_
        refine j_sub [] (loc' := []) rfl ?_
        exact wX11_whyPair_30 hC hR hm κ 0
theorem ctX11_whyPair {Δ : DCtx} {l : Launch} (hl : dlay Δ = layM) (hN : dN Δ = 15) (κ : Mem) (v1 : Int32) (v2 : Int32) : ∀ r, pX11_whyPair κ v1 v2 = some r → CT Δ l yX11_whyPair cX11_whyPair 3 (some .int) (rmH 2) [.ref (dad Δ 0), .int v1, .int v2] κ (some (.int r)) κ :=
  ct_of (nL := 3) (ret := (some .int)) (lay := layM) (N := 15) (by decide +kernel) (fun Δ => [.ref (dad Δ 0), .int v1, .int v2]) (fun _ => oI κ) (fun _ => (Nat.le_of_ble_eq_true rfl)) (fun Γ hR hm hC => wX11_whyPair hC hR hm κ v1 v2) Δ l hl hN
set_option maxRecDepth 20000 in
theorem wX11_both_67 {Γ : JCtx} (hC : jC Γ cX11_both 5 RX11 (some .int) layM 15) (hR : gR Γ = rmH 5) (hm : gcells Γ ≤ (gR Γ).cells ∧ gslots Γ ≤ (gR Γ).slots) (F : Nat) (κ : Mem) (v1 : Int32) (v2 : Int32) (v4 : Int32) (y0 : Int32) (y1 : Int32) (k24 : Int32 → Int32 → Option (Int32 × Mem)) (hk24 : ∀ (v3 : Int32) (v4 : Int32), JP Γ (qf Γ oE) (k24 v3 v4) κ 24 [(0, .ref (gad Γ 0)), (1, .int v1), (2, .int v2), (3, .int v3), (4, .int v4)] []) : JP Γ (qf Γ oE) (pX11_both_67 F k24 κ v1 v2 v4 y0 y1) κ 67 [(0, .ref (gad Γ 0)), (1, .int v1), (2, .int v2), (4, .int v4)] [.int y0, .int y1] := by
  unfold pX11_both_67
  refine j_iadd hC (pc := 67) dX11_both_67 ?_
  refine j_nmi (fun x6 => ?_)
  refine j_istore_n hC (pc := 68) dX11_both_68 rfl (Nat.le_of_ble_eq_true rfl) (loc' := [(3, .int x6), (0, .ref (gad Γ 0)), (1, .int v1), (2, .int v2), (4, .int v4)]) rfl ?_
  refine j_iinc hC (pc := 69) dX11_both_69 4 rfl ki_1 (Nat.le_of_ble_eq_true rfl) (loc' := [(4, .int (v4 + 1)), (3, .int x6), (0, .ref (gad Γ 0)), (1, .int v1), (2, .int v2)]) rfl ?_
  refine j_goto hC (pc := 72) dX11_both_72 (tgt := 24) rfl ?_
  refine j_sub [2, 3, 4, 1, 0] (loc' := [(0, .ref (gad Γ 0)), (1, .int v1), (2, .int v2), (3, .int x6), (4, .int (v4 + 1))]) rfl ?_
  exact hk24 x6 (v4 + 1)
set_option maxRecDepth 20000 in
theorem wX11_both_66 {Γ : JCtx} (hC : jC Γ cX11_both 5 RX11 (some .int) layM 15) (hR : gR Γ = rmH 5) (hm : gcells Γ ≤ (gR Γ).cells ∧ gslots Γ ≤ (gR Γ).slots) (F : Nat) (κ : Mem) (v1 : Int32) (v2 : Int32) (v4 : Int32) (y0 : Int32) (k24 : Int32 → Int32 → Option (Int32 × Mem)) (hk24 : ∀ (v3 : Int32) (v4 : Int32), JP Γ (qf Γ oE) (k24 v3 v4) κ 24 [(0, .ref (gad Γ 0)), (1, .int v1), (2, .int v2), (3, .int v3), (4, .int v4)] []) : JP Γ (qf Γ oE) (pX11_both_66 F k24 κ v1 v2 v4 y0) κ 66 [(0, .ref (gad Γ 0)), (1, .int v1), (2, .int v2), (4, .int v4)] [.int y0] := by
  unfold pX11_both_66
  refine j_iconst hC (pc := 66) dX11_both_66 ki_0 ?_
  exact wX11_both_67 hC hR hm F κ v1 v2 v4 0 y0 k24 hk24
set_option maxRecDepth 20000 in
theorem wX11_both_24 {Γ : JCtx} (hC : jC Γ cX11_both 5 RX11 (some .int) layM 15) (hR : gR Γ = rmH 5) (hm : gcells Γ ≤ (gR Γ).cells ∧ gslots Γ ≤ (gR Γ).slots) (F : Nat) (κ : Mem) (v1 : Int32) (v2 : Int32) : ∀ (n : Nat) (v3 : Int32) (v4 : Int32), JP Γ (qf Γ oE) (pX11_both_24 F κ v1 v2 n v3 v4) κ 24 [(0, .ref (gad Γ 0)), (1, .int v1), (2, .int v2), (3, .int v3), (4, .int v4)] [] := by
  intro n
  induction n with
  | zero =>
    intro v3 v4
    rw [pX11_both_24]
    exact j_none
  | succ fu ih =>
    intro v3 v4
    rw [pX11_both_24]
    refine j_iload hC (pc := 24) dX11_both_24 4 rfl ?_
    refine j_aload_n hC (pc := 26) dX11_both_26 0 rfl rfl ?_
    refine j_callV_I hC hR (ctX11_colourings_ hC.l hC.cn F κ) kc_RX11_125 (Nat.le_of_ble_eq_true rfl) (Nat.le_of_ble_eq_true rfl) lM_0 (Nat.le_of_ble_eq_true rfl) rfl (As := []) (rest := [.int v4]) rfl rfl (Nat.le_of_ble_eq_true rfl) hm (pc := 27) dX11_both_27 (fun t4 => ?_)
    refine j_icmp_ge hC (pc := 30) dX11_both_30 (tgt := 75) rfl ?_ ?_
    · refine j_iload_n hC (pc := 33) dX11_both_33 3 rfl rfl ?_
      refine j_aload_n hC (pc := 34) dX11_both_34 0 rfl rfl ?_
      refine j_getR hC (pc := 35) dX11_both_35 kf_RX11_26 lM_0 (Nat.le_of_ble_eq_true rfl) rfl ?_
      refine j_iload hC (pc := 38) dX11_both_38 4 rfl ?_
      refine j_iald hC (pc := 40) dX11_both_40 lM_6 (Nat.le_of_ble_eq_true rfl) ?_
      refine j_iload_n hC (pc := 41) dX11_both_41 1 rfl rfl ?_
      refine j_callS_I hC hR (ctX11_has hC.l hC.cn κ (mi κ 6 v4.toNatClampNeg) v1) kc_RX11_88 (Nat.le_of_ble_eq_true rfl) (Nat.le_of_ble_eq_true rfl) (As := [.int (mi κ 6 v4.toNatClampNeg), .int v1]) (rest := [.int v3]) rfl rfl (Nat.le_of_ble_eq_true rfl) hm (pc := 42) dX11_both_42 (fun t5 => ?_)
      refine j_if_eq hC (pc := 45) dX11_both_45 (tgt := 66) rfl ?_ ?_
      · refine j_sub [0, 1, 2, 4] (loc' := [(0, .ref (gad Γ 0)), (1, .int v1), (2, .int v2), (4, .int v4)]) rfl ?_
        exact wX11_both_66 hC hR hm F κ v1 v2 v4 v3 (pX11_both_24 F κ v1 v2 fu) ih
      · refine j_aload_n hC (pc := 48) dX11_both_48 0 rfl rfl ?_
        refine j_getR hC (pc := 49) dX11_both_49 kf_RX11_26 lM_0 (Nat.le_of_ble_eq_true rfl) rfl ?_
        refine j_iload hC (pc := 52) dX11_both_52 4 rfl ?_
        refine j_iald hC (pc := 54) dX11_both_54 lM_6 (Nat.le_of_ble_eq_true rfl) ?_
        refine j_iload_n hC (pc := 55) dX11_both_55 2 rfl rfl ?_
        refine j_callS_I hC hR (ctX11_has hC.l hC.cn κ (mi κ 6 v4.toNatClampNeg) v2) kc_RX11_88 (Nat.le_of_ble_eq_true rfl) (Nat.le_of_ble_eq_true rfl) (As := [.int (mi κ 6 v4.toNatClampNeg), .int v2]) (rest := [.int v3]) rfl rfl (Nat.le_of_ble_eq_true rfl) hm (pc := 56) dX11_both_56 (fun t7 => ?_)
        refine j_if_eq hC (pc := 59) dX11_both_59 (tgt := 66) rfl ?_ ?_
        · refine j_sub [0, 1, 2, 4] (loc' := [(0, .ref (gad Γ 0)), (1, .int v1), (2, .int v2), (4, .int v4)]) rfl ?_
          exact wX11_both_66 hC hR hm F κ v1 v2 v4 v3 (pX11_both_24 F κ v1 v2 fu) ih
        · refine j_iconst hC (pc := 62) dX11_both_62 ki_1 ?_
          refine j_goto hC (pc := 63) dX11_both_63 (tgt := 67) rfl ?_
          refine j_sub [0, 1, 2, 4] (loc' := [(0, .ref (gad Γ 0)), (1, .int v1), (2, .int v2), (4, .int v4)]) rfl ?_
          exact wX11_both_67 hC hR hm F κ v1 v2 v4 1 v3 (pX11_both_24 F κ v1 v2 fu) ih
    · refine j_iload_n hC (pc := 75) dX11_both_75 3 rfl rfl ?_
      exact j_iret hC (pc := 76) dX11_both_76 rfl rfl rfl
set_option maxRecDepth 20000 in
theorem wX11_both {Γ : JCtx} (hC : jC Γ cX11_both 5 RX11 (some .int) layM 15) (hR : gR Γ = rmH 5) (hm : gcells Γ ≤ (gR Γ).cells ∧ gslots Γ ≤ (gR Γ).slots) (F : Nat) (κ : Mem) (v1 : Int32) (v2 : Int32) : JP Γ (qf Γ oE) (pX11_both F κ v1 v2) κ 0 [(0, .ref (gad Γ 0)), (1, .int v1), (2, .int v2)] [] := by
  unfold pX11_both
  refine j_aload_n hC (pc := 0) dX11_both_0 0 rfl rfl ?_
  refine j_aload_n hC (pc := 1) dX11_both_1 0 rfl rfl ?_
  refine j_iload_n hC (pc := 2) dX11_both_2 1 rfl rfl ?_
  refine j_iload_n hC (pc := 3) dX11_both_3 2 rfl rfl ?_
  refine j_callV_I hC hR (ctX11_whyPair hC.l hC.cn κ v1 v2) kc_RX11_203 (Nat.le_of_ble_eq_true rfl) (Nat.le_of_ble_eq_true rfl) lM_0 (Nat.le_of_ble_eq_true rfl) rfl (As := [.int v1, .int v2]) (rest := [.ref (gad Γ 0)]) rfl rfl (Nat.le_of_ble_eq_true rfl) hm (pc := 4) dX11_both_4 (fun t1 => ?_)
  refine j_callV_E hC hR (ctX11_is hC.l hC.cn κ t1) kc_RX11_145 (Nat.le_of_ble_eq_true rfl) (Nat.le_of_ble_eq_true rfl) lM_0 (Nat.le_of_ble_eq_true rfl) rfl (As := [.int t1]) (rest := []) rfl rfl (Nat.le_of_ble_eq_true rfl) hm (pc := 7) dX11_both_7 (fun t2 => ?_)
  refine j_if_ne hC (pc := 10) dX11_both_10 (tgt := 15) rfl ?_ ?_
  · refine j_iconst hC (pc := 13) dX11_both_13 ki_m1 ?_
    exact j_iret hC (pc := 14) dX11_both_14 rfl rfl rfl
  · refine j_aload_n hC (pc := 15) dX11_both_15 0 rfl rfl ?_
    refine j_callV_V hC hR (ctX11_laysRight hC.l hC.cn F t2.2) kc_RX11_134 (Nat.le_of_ble_eq_true rfl) (Nat.le_of_ble_eq_true rfl) lM_0 (Nat.le_of_ble_eq_true rfl) rfl (As := []) (rest := []) rfl rfl (Nat.le_of_ble_eq_true rfl) hm (pc := 16) dX11_both_16 (fun t3 => ?_)
    refine j_iconst hC (pc := 19) dX11_both_19 ki_0 ?_
    refine j_istore_n hC (pc := 20) dX11_both_20 rfl (Nat.le_of_ble_eq_true rfl) (loc' := [(3, .int 0), (0, .ref (gad Γ 0)), (1, .int v1), (2, .int v2)]) rfl ?_
    refine j_iconst hC (pc := 21) dX11_both_21 ki_0 ?_
    refine j_istore hC (pc := 22) dX11_both_22 (Nat.le_of_ble_eq_true rfl) (loc' := [(4, .int 0), (3, .int 0), (0, .ref (gad Γ 0)), (1, .int v1), (2, .int v2)]) rfl ?_
    refine j_sub [2, 3, 4, 1, 0] (loc' := [(0, .ref (gad Γ 0)), (1, .int v1), (2, .int v2), (3, .int 0), (4, .int 0)]) rfl ?_
    exact wX11_both_24 hC hR hm F t3 v1 v2 F 0 0
theorem ctX11_both {Δ : DCtx} {l : Launch} (hl : dlay Δ = layM) (hN : dN Δ = 15) (F : Nat) (κ : Mem) (v1 : Int32) (v2 : Int32) : ∀ r, pX11_both F κ v1 v2 = some r → CT Δ l yX11_both cX11_both 5 (some .int) (rmH 5) [.ref (dad Δ 0), .int v1, .int v2] κ (some (.int r.1)) r.2 :=
  ct_of (nL := 5) (ret := (some .int)) (lay := layM) (N := 15) (by decide +kernel) (fun Δ => [.ref (dad Δ 0), .int v1, .int v2]) (fun _ => oE) (fun _ => (Nat.le_of_ble_eq_true rfl)) (fun Γ hR hm hC => wX11_both hC hR hm F κ v1 v2) Δ l hl hN
set_option maxRecDepth 20000 in
theorem wX11_without_14 {Γ : JCtx} (hC : jC Γ cX11_without 2 RX11 (some .int) layM 15) (hR : gR Γ = rmH 5) (hm : gcells Γ ≤ (gR Γ).cells ∧ gslots Γ ≤ (gR Γ).slots) (F : Nat) (κ : Mem) (v1 : Int32) (y0 : Int32) : JP Γ (qf Γ oE) (pX11_without_14 F κ v1 y0) κ 14 [(0, .ref (gad Γ 0)), (1, .int v1)] [.int y0, .ref (gad Γ 0)] := by
  unfold pX11_without_14
  refine j_callV_E hC hR (ctX11_is hC.l hC.cn κ y0) kc_RX11_145 (Nat.le_of_ble_eq_true rfl) (Nat.le_of_ble_eq_true rfl) lM_0 (Nat.le_of_ble_eq_true rfl) rfl (As := [.int y0]) (rest := []) rfl rfl (Nat.le_of_ble_eq_true rfl) hm (pc := 14) dX11_without_14 (fun t2 => ?_)
  refine j_if_ne hC (pc := 17) dX11_without_17 (tgt := 22) rfl ?_ ?_
  · refine j_iconst hC (pc := 20) dX11_without_20 ki_m1 ?_
    exact j_iret hC (pc := 21) dX11_without_21 rfl rfl rfl
  · refine j_aload_n hC (pc := 22) dX11_without_22 0 rfl rfl ?_
    refine j_callV_V hC hR (ctX11_laysRight hC.l hC.cn F t2.2) kc_RX11_134 (Nat.le_of_ble_eq_true rfl) (Nat.le_of_ble_eq_true rfl) lM_0 (Nat.le_of_ble_eq_true rfl) rfl (As := []) (rest := []) rfl rfl (Nat.le_of_ble_eq_true rfl) hm (pc := 23) dX11_without_23 (fun t3 => ?_)
    refine j_aload_n hC (pc := 26) dX11_without_26 0 rfl rfl ?_
    refine j_iload_n hC (pc := 27) dX11_without_27 1 rfl rfl ?_
    refine j_callV_I hC hR (ctX11_lostBy hC.l hC.cn F t3 v1) kc_RX11_137 (Nat.le_of_ble_eq_true rfl) (Nat.le_of_ble_eq_true rfl) lM_0 (Nat.le_of_ble_eq_true rfl) rfl (As := [.int v1]) (rest := []) rfl rfl (Nat.le_of_ble_eq_true rfl) hm (pc := 28) dX11_without_28 (fun t4 => ?_)
    exact j_iret hC (pc := 31) dX11_without_31 rfl rfl rfl
set_option maxRecDepth 20000 in
theorem wX11_without {Γ : JCtx} (hC : jC Γ cX11_without 2 RX11 (some .int) layM 15) (hR : gR Γ = rmH 5) (hm : gcells Γ ≤ (gR Γ).cells ∧ gslots Γ ≤ (gR Γ).slots) (F : Nat) (κ : Mem) (v1 : Int32) : JP Γ (qf Γ oE) (pX11_without F κ v1) κ 0 [(0, .ref (gad Γ 0)), (1, .int v1)] [] := by
  unfold pX11_without
  refine j_aload_n hC (pc := 0) dX11_without_0 0 rfl rfl ?_
  refine j_aload_n hC (pc := 1) dX11_without_1 0 rfl rfl ?_
  refine j_iload_n hC (pc := 2) dX11_without_2 1 rfl rfl ?_
  refine j_callV_I hC hR (ctX11_isSet hC.l hC.cn κ v1) kc_RX11_206 (Nat.le_of_ble_eq_true rfl) (Nat.le_of_ble_eq_true rfl) lM_0 (Nat.le_of_ble_eq_true rfl) rfl (As := [.int v1]) (rest := [.ref (gad Γ 0)]) rfl rfl (Nat.le_of_ble_eq_true rfl) hm (pc := 3) dX11_without_3 (fun t1 => ?_)
  refine j_if_eq hC (pc := 6) dX11_without_6 (tgt := 13) rfl ?_ ?_
  · refine j_iconst hC (pc := 13) dX11_without_13 ki_2 ?_
    exact wX11_without_14 hC hR hm F κ v1 2
  · refine j_iconst hC (pc := 9) dX11_without_9 ki_0 ?_
    refine j_goto hC (pc := 10) dX11_without_10 (tgt := 14) rfl ?_
    exact wX11_without_14 hC hR hm F κ v1 0
theorem ctX11_without {Δ : DCtx} {l : Launch} (hl : dlay Δ = layM) (hN : dN Δ = 15) (F : Nat) (κ : Mem) (v1 : Int32) : ∀ r, pX11_without F κ v1 = some r → CT Δ l yX11_without cX11_without 2 (some .int) (rmH 5) [.ref (dad Δ 0), .int v1] κ (some (.int r.1)) r.2 :=
  ct_of (nL := 2) (ret := (some .int)) (lay := layM) (N := 15) (by decide +kernel) (fun Δ => [.ref (dad Δ 0), .int v1]) (fun _ => oE) (fun _ => (Nat.le_of_ble_eq_true rfl)) (fun Γ hR hm hC => wX11_without hC hR hm F κ v1) Δ l hl hN
set_option maxRecDepth 20000 in
theorem wX11_together_56 {Γ : JCtx} (hC : jC Γ cX11_together 4 RX11 (some .int) layM 15) (hR : gR Γ = rmH 5) (hm : gcells Γ ≤ (gR Γ).cells ∧ gslots Γ ≤ (gR Γ).slots) (F : Nat) (κ : Mem) (v1 : Int32) (v3 : Int32) (y0 : Int32) (y1 : Int32) (k30 : Int32 → Int32 → Option (Int32 × Mem)) (hk30 : ∀ (v2 : Int32) (v3 : Int32), JP Γ (qf Γ oE) (k30 v2 v3) κ 30 [(0, .ref (gad Γ 0)), (1, .int v1), (2, .int v2), (3, .int v3)] []) : JP Γ (qf Γ oE) (pX11_together_56 F k30 κ v1 v3 y0 y1) κ 56 [(0, .ref (gad Γ 0)), (1, .int v1), (3, .int v3)] [.int y0, .int y1] := by
  unfold pX11_together_56
  refine j_iadd hC (pc := 56) dX11_together_56 ?_
  refine j_nmi (fun x5 => ?_)
  refine j_istore_n hC (pc := 57) dX11_together_57 rfl (Nat.le_of_ble_eq_true rfl) (loc' := [(2, .int x5), (0, .ref (gad Γ 0)), (1, .int v1), (3, .int v3)]) rfl ?_
  refine j_iinc hC (pc := 58) dX11_together_58 3 rfl ki_1 (Nat.le_of_ble_eq_true rfl) (loc' := [(3, .int (v3 + 1)), (2, .int x5), (0, .ref (gad Γ 0)), (1, .int v1)]) rfl ?_
  refine j_goto hC (pc := 61) dX11_together_61 (tgt := 30) rfl ?_
  refine j_sub [2, 3, 1, 0] (loc' := [(0, .ref (gad Γ 0)), (1, .int v1), (2, .int x5), (3, .int (v3 + 1))]) rfl ?_
  exact hk30 x5 (v3 + 1)
set_option maxRecDepth 20000 in
theorem wX11_together_30 {Γ : JCtx} (hC : jC Γ cX11_together 4 RX11 (some .int) layM 15) (hR : gR Γ = rmH 5) (hm : gcells Γ ≤ (gR Γ).cells ∧ gslots Γ ≤ (gR Γ).slots) (F : Nat) (κ : Mem) (v1 : Int32) : ∀ (n : Nat) (v2 : Int32) (v3 : Int32), JP Γ (qf Γ oE) (pX11_together_30 F κ v1 n v2 v3) κ 30 [(0, .ref (gad Γ 0)), (1, .int v1), (2, .int v2), (3, .int v3)] [] := by
  intro n
  induction n with
  | zero =>
    intro v2 v3
    rw [pX11_together_30]
    exact j_none
  | succ fu ih =>
    intro v2 v3
    rw [pX11_together_30]
    refine j_iload_n hC (pc := 30) dX11_together_30 3 rfl rfl ?_
    refine j_aload_n hC (pc := 31) dX11_together_31 0 rfl rfl ?_
    refine j_callV_I hC hR (ctX11_colourings_ hC.l hC.cn F κ) kc_RX11_125 (Nat.le_of_ble_eq_true rfl) (Nat.le_of_ble_eq_true rfl) lM_0 (Nat.le_of_ble_eq_true rfl) rfl (As := []) (rest := [.int v3]) rfl rfl (Nat.le_of_ble_eq_true rfl) hm (pc := 32) dX11_together_32 (fun t4 => ?_)
    refine j_icmp_ge hC (pc := 35) dX11_together_35 (tgt := 64) rfl ?_ ?_
    · refine j_iload_n hC (pc := 38) dX11_together_38 2 rfl rfl ?_
      refine j_aload_n hC (pc := 39) dX11_together_39 0 rfl rfl ?_
      refine j_getR hC (pc := 40) dX11_together_40 kf_RX11_26 lM_0 (Nat.le_of_ble_eq_true rfl) rfl ?_
      refine j_iload_n hC (pc := 43) dX11_together_43 3 rfl rfl ?_
      refine j_iald hC (pc := 44) dX11_together_44 lM_6 (Nat.le_of_ble_eq_true rfl) ?_
      refine j_iload_n hC (pc := 45) dX11_together_45 1 rfl rfl ?_
      refine j_iand hC (pc := 46) dX11_together_46 ?_
      refine j_iload_n hC (pc := 47) dX11_together_47 1 rfl rfl ?_
      refine j_icmp_ne hC (pc := 48) dX11_together_48 (tgt := 55) rfl ?_ ?_
      · refine j_iconst hC (pc := 51) dX11_together_51 ki_1 ?_
        refine j_goto hC (pc := 52) dX11_together_52 (tgt := 56) rfl ?_
        refine j_sub [0, 1, 3] (loc' := [(0, .ref (gad Γ 0)), (1, .int v1), (3, .int v3)]) rfl ?_
        exact wX11_together_56 hC hR hm F κ v1 v3 1 v2 (pX11_together_30 F κ v1 fu) ih
      · refine j_iconst hC (pc := 55) dX11_together_55 ki_0 ?_
        refine j_sub [0, 1, 3] (loc' := [(0, .ref (gad Γ 0)), (1, .int v1), (3, .int v3)]) rfl ?_
        exact wX11_together_56 hC hR hm F κ v1 v3 0 v2 (pX11_together_30 F κ v1 fu) ih
    · refine j_iload_n hC (pc := 64) dX11_together_64 2 rfl rfl ?_
      exact j_iret hC (pc := 65) dX11_together_65 rfl rfl rfl
set_option maxRecDepth 20000 in
theorem wX11_together_14 {Γ : JCtx} (hC : jC Γ cX11_together 4 RX11 (some .int) layM 15) (hR : gR Γ = rmH 5) (hm : gcells Γ ≤ (gR Γ).cells ∧ gslots Γ ≤ (gR Γ).slots) (F : Nat) (κ : Mem) (v1 : Int32) (y0 : Int32) : JP Γ (qf Γ oE) (pX11_together_14 F κ v1 y0) κ 14 [(0, .ref (gad Γ 0)), (1, .int v1)] [.int y0, .ref (gad Γ 0)] := by
  unfold pX11_together_14
  refine j_callV_E hC hR (ctX11_is hC.l hC.cn κ y0) kc_RX11_145 (Nat.le_of_ble_eq_true rfl) (Nat.le_of_ble_eq_true rfl) lM_0 (Nat.le_of_ble_eq_true rfl) rfl (As := [.int y0]) (rest := []) rfl rfl (Nat.le_of_ble_eq_true rfl) hm (pc := 14) dX11_together_14 (fun t2 => ?_)
  refine j_if_ne hC (pc := 17) dX11_together_17 (tgt := 22) rfl ?_ ?_
  · refine j_iconst hC (pc := 20) dX11_together_20 ki_m1 ?_
    exact j_iret hC (pc := 21) dX11_together_21 rfl rfl rfl
  · refine j_aload_n hC (pc := 22) dX11_together_22 0 rfl rfl ?_
    refine j_callV_V hC hR (ctX11_laysRight hC.l hC.cn F t2.2) kc_RX11_134 (Nat.le_of_ble_eq_true rfl) (Nat.le_of_ble_eq_true rfl) lM_0 (Nat.le_of_ble_eq_true rfl) rfl (As := []) (rest := []) rfl rfl (Nat.le_of_ble_eq_true rfl) hm (pc := 23) dX11_together_23 (fun t3 => ?_)
    refine j_iconst hC (pc := 26) dX11_together_26 ki_0 ?_
    refine j_istore_n hC (pc := 27) dX11_together_27 rfl (Nat.le_of_ble_eq_true rfl) (loc' := [(2, .int 0), (0, .ref (gad Γ 0)), (1, .int v1)]) rfl ?_
    refine j_iconst hC (pc := 28) dX11_together_28 ki_0 ?_
    refine j_istore_n hC (pc := 29) dX11_together_29 rfl (Nat.le_of_ble_eq_true rfl) (loc' := [(3, .int 0), (2, .int 0), (0, .ref (gad Γ 0)), (1, .int v1)]) rfl ?_
    refine j_sub [2, 3, 1, 0] (loc' := [(0, .ref (gad Γ 0)), (1, .int v1), (2, .int 0), (3, .int 0)]) rfl ?_
    exact wX11_together_30 hC hR hm F t3 v1 F 0 0
set_option maxRecDepth 20000 in
theorem wX11_together {Γ : JCtx} (hC : jC Γ cX11_together 4 RX11 (some .int) layM 15) (hR : gR Γ = rmH 5) (hm : gcells Γ ≤ (gR Γ).cells ∧ gslots Γ ≤ (gR Γ).slots) (F : Nat) (κ : Mem) (v1 : Int32) : JP Γ (qf Γ oE) (pX11_together F κ v1) κ 0 [(0, .ref (gad Γ 0)), (1, .int v1)] [] := by
  unfold pX11_together
  refine j_aload_n hC (pc := 0) dX11_together_0 0 rfl rfl ?_
  refine j_aload_n hC (pc := 1) dX11_together_1 0 rfl rfl ?_
  refine j_iload_n hC (pc := 2) dX11_together_2 1 rfl rfl ?_
  refine j_callV_I hC hR (ctX11_isSet hC.l hC.cn κ v1) kc_RX11_206 (Nat.le_of_ble_eq_true rfl) (Nat.le_of_ble_eq_true rfl) lM_0 (Nat.le_of_ble_eq_true rfl) rfl (As := [.int v1]) (rest := [.ref (gad Γ 0)]) rfl rfl (Nat.le_of_ble_eq_true rfl) hm (pc := 3) dX11_together_3 (fun t1 => ?_)
  refine j_if_eq hC (pc := 6) dX11_together_6 (tgt := 13) rfl ?_ ?_
  · refine j_iconst hC (pc := 13) dX11_together_13 ki_2 ?_
    exact wX11_together_14 hC hR hm F κ v1 2
  · refine j_iconst hC (pc := 9) dX11_together_9 ki_0 ?_
    refine j_goto hC (pc := 10) dX11_together_10 (tgt := 14) rfl ?_
    exact wX11_together_14 hC hR hm F κ v1 0
theorem ctX11_together {Δ : DCtx} {l : Launch} (hl : dlay Δ = layM) (hN : dN Δ = 15) (F : Nat) (κ : Mem) (v1 : Int32) : ∀ r, pX11_together F κ v1 = some r → CT Δ l yX11_together cX11_together 4 (some .int) (rmH 5) [.ref (dad Δ 0), .int v1] κ (some (.int r.1)) r.2 :=
  ct_of (nL := 4) (ret := (some .int)) (lay := layM) (N := 15) (by decide +kernel) (fun Δ => [.ref (dad Δ 0), .int v1]) (fun _ => oE) (fun _ => (Nat.le_of_ble_eq_true rfl)) (fun Γ hR hm hC => wX11_together hC hR hm F κ v1) Δ l hl hN
set_option maxRecDepth 20000 in
theorem wX11_crowd_119 {Γ : JCtx} (hC : jC Γ cX11_crowd 7 RX11 (some .int) layM 15) (hR : gR Γ = rmH 5) (hm : gcells Γ ≤ (gR Γ).cells ∧ gslots Γ ≤ (gR Γ).slots) (F : Nat) (κ : Mem) (v1 : Int32) (v3 : Int32) (v4 : Int32) (y0 : Int32) (k48 : Int32 → Int32 → Int32 → Option (Int32 × Mem)) (hk48 : ∀ (v2 : Int32) (v3 : Int32) (v4 : Int32), JP Γ (qf Γ oE) (k48 v2 v3 v4) κ 48 [(0, .ref (gad Γ 0)), (1, .int v1), (2, .int v2), (3, .int v3), (4, .int v4)] []) : JP Γ (qf Γ oE) (pX11_crowd_119 F k48 κ v1 v3 v4 y0) κ 119 [(0, .ref (gad Γ 0)), (1, .int v1), (3, .int v3), (4, .int v4)] [.int y0] := by
  unfold pX11_crowd_119
  refine j_istore_n hC (pc := 119) dX11_crowd_119 rfl (Nat.le_of_ble_eq_true rfl) (loc' := [(2, .int y0), (0, .ref (gad Γ 0)), (1, .int v1), (3, .int v3), (4, .int v4)]) rfl ?_
  refine j_iinc hC (pc := 120) dX11_crowd_120 4 rfl ki_1 (Nat.le_of_ble_eq_true rfl) (loc' := [(4, .int (v4 + 1)), (2, .int y0), (0, .ref (gad Γ 0)), (1, .int v1), (3, .int v3)]) rfl ?_
  refine j_goto hC (pc := 123) dX11_crowd_123 (tgt := 48) rfl ?_
  refine j_sub [2, 3, 1, 4, 0] (loc' := [(0, .ref (gad Γ 0)), (1, .int v1), (2, .int y0), (3, .int v3), (4, .int (v4 + 1))]) rfl ?_
  exact hk48 y0 v3 (v4 + 1)
set_option maxRecDepth 20000 in
theorem wX11_crowd_105 {Γ : JCtx} (hC : jC Γ cX11_crowd 7 RX11 (some .int) layM 15) (hR : gR Γ = rmH 5) (hm : gcells Γ ≤ (gR Γ).cells ∧ gslots Γ ≤ (gR Γ).slots) (F : Nat) (κ : Mem) (v1 : Int32) (v2 : Int32) (v4 : Int32) (v5 : Int32) (v6 : Int32) (y0 : Int32) (k48 : Int32 → Int32 → Int32 → Option (Int32 × Mem)) (hk48 : ∀ (v2 : Int32) (v3 : Int32) (v4 : Int32), JP Γ (qf Γ oE) (k48 v2 v3 v4) κ 48 [(0, .ref (gad Γ 0)), (1, .int v1), (2, .int v2), (3, .int v3), (4, .int v4)] []) : JP Γ (qf Γ oE) (pX11_crowd_105 F k48 κ v1 v2 v4 v5 v6 y0) κ 105 [(0, .ref (gad Γ 0)), (1, .int v1), (2, .int v2), (4, .int v4), (5, .int v5), (6, .int v6)] [.int y0] := by
  unfold pX11_crowd_105
  refine j_istore_n hC (pc := 105) dX11_crowd_105 rfl (Nat.le_of_ble_eq_true rfl) (loc' := [(3, .int y0), (0, .ref (gad Γ 0)), (1, .int v1), (2, .int v2), (4, .int v4), (5, .int v5), (6, .int v6)]) rfl ?_
  refine j_iload hC (pc := 106) dX11_crowd_106 5 rfl ?_
  refine j_iload hC (pc := 108) dX11_crowd_108 6 rfl ?_
  refine j_icmp_le hC (pc := 110) dX11_crowd_110 (tgt := 118) rfl ?_ ?_
  · refine j_iload_n hC (pc := 118) dX11_crowd_118 3 rfl rfl ?_
    refine j_sub [1, 2, 0, 4] (loc' := [(0, .ref (gad Γ 0)), (1, .int v1), (3, .int y0), (4, .int v4)]) rfl ?_
    exact wX11_crowd_119 hC hR hm F κ v1 y0 v4 v2 k48 hk48
  · refine j_iload hC (pc := 113) dX11_crowd_113 4 rfl ?_
    refine j_goto hC (pc := 115) dX11_crowd_115 (tgt := 119) rfl ?_
    refine j_sub [1, 2, 0, 4] (loc' := [(0, .ref (gad Γ 0)), (1, .int v1), (3, .int y0), (4, .int v4)]) rfl ?_
    exact wX11_crowd_119 hC hR hm F κ v1 y0 v4 v4 k48 hk48
set_option maxRecDepth 20000 in
theorem wX11_crowd_152 {Γ : JCtx} (hC : jC Γ cX11_crowd 7 RX11 (some .int) layM 15) (hR : gR Γ = rmH 5) (hm : gcells Γ ≤ (gR Γ).cells ∧ gslots Γ ≤ (gR Γ).slots) (F : Nat) (κ : Mem) (y0 : Int32) : JP Γ (qf Γ oE) (pX11_crowd_152 F κ y0) κ 152 [] [.int y0] := by
  unfold pX11_crowd_152
  exact j_iret hC (pc := 152) dX11_crowd_152 rfl rfl rfl
set_option maxRecDepth 20000 in
theorem wX11_crowd_48 {Γ : JCtx} (hC : jC Γ cX11_crowd 7 RX11 (some .int) layM 15) (hR : gR Γ = rmH 5) (hm : gcells Γ ≤ (gR Γ).cells ∧ gslots Γ ≤ (gR Γ).slots) (F : Nat) (κ : Mem) (v1 : Int32) : ∀ (n : Nat) (v2 : Int32) (v3 : Int32) (v4 : Int32), JP Γ (qf Γ oE) (pX11_crowd_48 F κ v1 n v2 v3 v4) κ 48 [(0, .ref (gad Γ 0)), (1, .int v1), (2, .int v2), (3, .int v3), (4, .int v4)] [] := by
  intro n
  induction n with
  | zero =>
    intro v2 v3 v4
    rw [pX11_crowd_48]
    exact j_none
  | succ fu ih =>
    intro v2 v3 v4
    rw [pX11_crowd_48]
    refine j_iload hC (pc := 48) dX11_crowd_48 4 rfl ?_
    refine j_aload_n hC (pc := 50) dX11_crowd_50 0 rfl rfl ?_
    refine j_callV_I hC hR (ctX11_colourings_ hC.l hC.cn F κ) kc_RX11_125 (Nat.le_of_ble_eq_true rfl) (Nat.le_of_ble_eq_true rfl) lM_0 (Nat.le_of_ble_eq_true rfl) rfl (As := []) (rest := [.int v4]) rfl rfl (Nat.le_of_ble_eq_true rfl) hm (pc := 51) dX11_crowd_51 (fun t4 => ?_)
    refine j_icmp_ge hC (pc := 54) dX11_crowd_54 (tgt := 126) rfl ?_ ?_
    · refine j_aload_n hC (pc := 57) dX11_crowd_57 0 rfl rfl ?_
      refine j_getR hC (pc := 58) dX11_crowd_58 kf_RX11_26 lM_0 (Nat.le_of_ble_eq_true rfl) rfl ?_
      refine j_iload hC (pc := 61) dX11_crowd_61 4 rfl ?_
      refine j_iald hC (pc := 63) dX11_crowd_63 lM_6 (Nat.le_of_ble_eq_true rfl) ?_
      refine j_callS_I hC hR (ctX11_ones hC.l hC.cn F κ (mi κ 6 v4.toNatClampNeg)) kc_RX11_149 (Nat.le_of_ble_eq_true rfl) (Nat.le_of_ble_eq_true rfl) (As := [.int (mi κ 6 v4.toNatClampNeg)]) (rest := []) rfl rfl (Nat.le_of_ble_eq_true rfl) hm (pc := 64) dX11_crowd_64 (fun t5 => ?_)
      refine j_istore hC (pc := 67) dX11_crowd_67 (Nat.le_of_ble_eq_true rfl) (loc' := [(5, .int t5), (0, .ref (gad Γ 0)), (1, .int v1), (2, .int v2), (3, .int v3), (4, .int v4)]) rfl ?_
      refine j_aload_n hC (pc := 69) dX11_crowd_69 1 rfl rfl ?_
      refine j_getR hC (pc := 70) dX11_crowd_70 kf_RX11_26 lM_0 (Nat.le_of_ble_eq_true rfl) rfl ?_
      refine j_iload_n hC (pc := 73) dX11_crowd_73 3 rfl rfl ?_
      refine j_iald hC (pc := 74) dX11_crowd_74 lM_6 (Nat.le_of_ble_eq_true rfl) ?_
      refine j_callS_I hC hR (ctX11_ones hC.l hC.cn F κ (mi κ 6 v2.toNatClampNeg)) kc_RX11_149 (Nat.le_of_ble_eq_true rfl) (Nat.le_of_ble_eq_true rfl) (As := [.int (mi κ 6 v2.toNatClampNeg)]) (rest := []) rfl rfl (Nat.le_of_ble_eq_true rfl) hm (pc := 75) dX11_crowd_75 (fun t6 => ?_)
      refine j_istore hC (pc := 78) dX11_crowd_78 (Nat.le_of_ble_eq_true rfl) (loc' := [(6, .int t6), (5, .int t5), (0, .ref (gad Γ 0)), (1, .int v1), (2, .int v2), (3, .int v3), (4, .int v4)]) rfl ?_
      refine j_iload hC (pc := 80) dX11_crowd_80 1 rfl ?_
      refine j_iload hC (pc := 82) dX11_crowd_82 0 rfl ?_
      refine j_icmp_le hC (pc := 84) dX11_crowd_84 (tgt := 91) rfl ?_ ?_
      · refine j_iload hC (pc := 91) dX11_crowd_91 1 rfl ?_
        refine j_iload hC (pc := 93) dX11_crowd_93 0 rfl ?_
        refine j_icmp_ne hC (pc := 95) dX11_crowd_95 (tgt := 104) rfl ?_ ?_
        · refine j_iload_n hC (pc := 98) dX11_crowd_98 5 rfl rfl ?_
          refine j_iconst hC (pc := 99) dX11_crowd_99 ki_1 ?_
          refine j_iadd hC (pc := 100) dX11_crowd_100 ?_
          refine j_goto hC (pc := 101) dX11_crowd_101 (tgt := 105) rfl ?_
          refine j_sub [2, 3, 4, 6, 1, 0] (loc' := [(0, .ref (gad Γ 0)), (1, .int v1), (2, .int v2), (4, .int v4), (5, .int t5), (6, .int t6)]) rfl ?_
          exact wX11_crowd_105 hC hR hm F κ v1 v2 v4 t5 t6 (v3 + 1) (pX11_crowd_48 F κ v1 fu) ih
        · refine j_iload_n hC (pc := 104) dX11_crowd_104 5 rfl rfl ?_
          refine j_sub [2, 3, 4, 6, 1, 0] (loc' := [(0, .ref (gad Γ 0)), (1, .int v1), (2, .int v2), (4, .int v4), (5, .int t5), (6, .int t6)]) rfl ?_
          exact wX11_crowd_105 hC hR hm F κ v1 v2 v4 t5 t6 v3 (pX11_crowd_48 F κ v1 fu) ih
      · refine j_iconst hC (pc := 87) dX11_crowd_87 ki_1 ?_
        refine j_goto hC (pc := 88) dX11_crowd_88 (tgt := 105) rfl ?_
        refine j_sub [2, 3, 4, 6, 1, 0] (loc' := [(0, .ref (gad Γ 0)), (1, .int v1), (2, .int v2), (4, .int v4), (5, .int t5), (6, .int t6)]) rfl ?_
        exact wX11_crowd_105 hC hR hm F κ v1 v2 v4 t5 t6 1 (pX11_crowd_48 F κ v1 fu) ih
    · refine j_iload_n hC (pc := 126) dX11_crowd_126 1 rfl rfl ?_
      refine j_if_ne hC (pc := 127) dX11_crowd_127 (tgt := 142) rfl ?_ ?_
      · refine j_aload_n hC (pc := 130) dX11_crowd_130 0 rfl rfl ?_
        refine j_getR hC (pc := 131) dX11_crowd_131 kf_RX11_26 lM_0 (Nat.le_of_ble_eq_true rfl) rfl ?_
        refine j_iload_n hC (pc := 134) dX11_crowd_134 2 rfl rfl ?_
        refine j_iald hC (pc := 135) dX11_crowd_135 lM_6 (Nat.le_of_ble_eq_true rfl) ?_
        refine j_callS_I hC hR (ctX11_ones hC.l hC.cn F κ (mi κ 6 v2.toNatClampNeg)) kc_RX11_149 (Nat.le_of_ble_eq_true rfl) (Nat.le_of_ble_eq_true rfl) (As := [.int (mi κ 6 v2.toNatClampNeg)]) (rest := []) rfl rfl (Nat.le_of_ble_eq_true rfl) hm (pc := 136) dX11_crowd_136 (fun t7 => ?_)
        refine j_goto hC (pc := 139) dX11_crowd_139 (tgt := 152) rfl ?_
        refine j_sub [] (loc' := []) rfl ?_
        exact wX11_crowd_152 hC hR hm F κ t7
      · refine j_iload_n hC (pc := 142) dX11_crowd_142 1 rfl rfl ?_
        refine j_iconst hC (pc := 143) dX11_crowd_143 ki_1 ?_
        refine j_icmp_ne hC (pc := 144) dX11_crowd_144 (tgt := 151) rfl ?_ ?_
        · refine j_iload_n hC (pc := 147) dX11_crowd_147 2 rfl rfl ?_
          refine j_goto hC (pc := 148) dX11_crowd_148 (tgt := 152) rfl ?_
          refine j_sub [] (loc' := []) rfl ?_
          exact wX11_crowd_152 hC hR hm F κ v2
        · refine j_iload_n hC (pc := 151) dX11_crowd_151 3 rfl rfl ?_
          refine j_sub [] (loc' := []) rfl ?_
          exact wX11_crowd_152 hC hR hm F κ v3
set_option maxRecDepth 20000 in
theorem wX11_crowd_29 {Γ : JCtx} (hC : jC Γ cX11_crowd 7 RX11 (some .int) layM 15) (hR : gR Γ = rmH 5) (hm : gcells Γ ≤ (gR Γ).cells ∧ gslots Γ ≤ (gR Γ).slots) (F : Nat) (κ : Mem) (v1 : Int32) (y0 : Int32) : JP Γ (qf Γ oE) (pX11_crowd_29 F κ v1 y0) κ 29 [(0, .ref (gad Γ 0)), (1, .int v1)] [.int y0, .ref (gad Γ 0)] := by
  unfold pX11_crowd_29
  refine j_callV_E hC hR (ctX11_is hC.l hC.cn κ y0) kc_RX11_145 (Nat.le_of_ble_eq_true rfl) (Nat.le_of_ble_eq_true rfl) lM_0 (Nat.le_of_ble_eq_true rfl) rfl (As := [.int y0]) (rest := []) rfl rfl (Nat.le_of_ble_eq_true rfl) hm (pc := 29) dX11_crowd_29 (fun t2 => ?_)
  refine j_if_ne hC (pc := 32) dX11_crowd_32 (tgt := 37) rfl ?_ ?_
  · refine j_iconst hC (pc := 35) dX11_crowd_35 ki_m1 ?_
    exact j_iret hC (pc := 36) dX11_crowd_36 rfl rfl rfl
  · refine j_aload_n hC (pc := 37) dX11_crowd_37 0 rfl rfl ?_
    refine j_callV_V hC hR (ctX11_laysRight hC.l hC.cn F t2.2) kc_RX11_134 (Nat.le_of_ble_eq_true rfl) (Nat.le_of_ble_eq_true rfl) lM_0 (Nat.le_of_ble_eq_true rfl) rfl (As := []) (rest := []) rfl rfl (Nat.le_of_ble_eq_true rfl) hm (pc := 38) dX11_crowd_38 (fun t3 => ?_)
    refine j_iconst hC (pc := 41) dX11_crowd_41 ki_0 ?_
    refine j_istore_n hC (pc := 42) dX11_crowd_42 rfl (Nat.le_of_ble_eq_true rfl) (loc' := [(2, .int 0), (0, .ref (gad Γ 0)), (1, .int v1)]) rfl ?_
    refine j_iconst hC (pc := 43) dX11_crowd_43 ki_0 ?_
    refine j_istore_n hC (pc := 44) dX11_crowd_44 rfl (Nat.le_of_ble_eq_true rfl) (loc' := [(3, .int 0), (2, .int 0), (0, .ref (gad Γ 0)), (1, .int v1)]) rfl ?_
    refine j_iconst hC (pc := 45) dX11_crowd_45 ki_0 ?_
    refine j_istore hC (pc := 46) dX11_crowd_46 (Nat.le_of_ble_eq_true rfl) (loc' := [(4, .int 0), (3, .int 0), (2, .int 0), (0, .ref (gad Γ 0)), (1, .int v1)]) rfl ?_
    refine j_sub [3, 4, 2, 1, 0] (loc' := [(0, .ref (gad Γ 0)), (1, .int v1), (2, .int 0), (3, .int 0), (4, .int 0)]) rfl ?_
    exact wX11_crowd_48 hC hR hm F t3 v1 F 0 0 0
set_option maxRecDepth 20000 in
theorem wX11_crowd {Γ : JCtx} (hC : jC Γ cX11_crowd 7 RX11 (some .int) layM 15) (hR : gR Γ = rmH 5) (hm : gcells Γ ≤ (gR Γ).cells ∧ gslots Γ ≤ (gR Γ).slots) (F : Nat) (κ : Mem) (v1 : Int32) : JP Γ (qf Γ oE) (pX11_crowd F κ v1) κ 0 [(0, .ref (gad Γ 0)), (1, .int v1)] [] := by
  unfold pX11_crowd
  refine j_aload_n hC (pc := 0) dX11_crowd_0 0 rfl rfl ?_
  refine j_iload_n hC (pc := 1) dX11_crowd_1 1 rfl rfl ?_
  refine j_i2l hC (pc := 2) dX11_crowd_2 ?_
  refine j_lconst hC (pc := 3) dX11_crowd_3 rfl ?_
  refine j_ldc2 hC (pc := 4) dX11_crowd_4 w_879 ?_
  refine j_callS_I hC hR (ctX11_isIn hC.l hC.cn κ v1.toInt64 0 2) kc_RX11_92 (Nat.le_of_ble_eq_true rfl) (Nat.le_of_ble_eq_true rfl) (As := [.long (v1.toInt64), .long 0, .long 2]) (rest := [.ref (gad Γ 0)]) rfl rfl (Nat.le_of_ble_eq_true rfl) hm (pc := 7) dX11_crowd_7 (fun t1 => ?_)
  refine j_if_ne hC (pc := 10) dX11_crowd_10 (tgt := 17) rfl ?_ ?_
  · refine j_iconst hC (pc := 13) dX11_crowd_13 ki_1 ?_
    refine j_goto hC (pc := 14) dX11_crowd_14 (tgt := 29) rfl ?_
    exact wX11_crowd_29 hC hR hm F κ v1 1
  · refine j_aload_n hC (pc := 17) dX11_crowd_17 0 rfl rfl ?_
    refine j_callV_I hC hR (ctX11_players hC.l hC.cn κ) kc_RX11_108 (Nat.le_of_ble_eq_true rfl) (Nat.le_of_ble_eq_true rfl) lM_0 (Nat.le_of_ble_eq_true rfl) rfl (As := []) (rest := [.ref (gad Γ 0)]) rfl rfl (Nat.le_of_ble_eq_true rfl) hm (pc := 18) dX11_crowd_18 (fun t8 => ?_)
    refine j_if_ne hC (pc := 21) dX11_crowd_21 (tgt := 28) rfl ?_ ?_
    · refine j_iconst hC (pc := 24) dX11_crowd_24 ki_5 ?_
      refine j_goto hC (pc := 25) dX11_crowd_25 (tgt := 29) rfl ?_
      exact wX11_crowd_29 hC hR hm F κ v1 5
    · refine j_iconst hC (pc := 28) dX11_crowd_28 ki_0 ?_
      exact wX11_crowd_29 hC hR hm F κ v1 0
theorem ctX11_crowd {Δ : DCtx} {l : Launch} (hl : dlay Δ = layM) (hN : dN Δ = 15) (F : Nat) (κ : Mem) (v1 : Int32) : ∀ r, pX11_crowd F κ v1 = some r → CT Δ l yX11_crowd cX11_crowd 7 (some .int) (rmH 5) [.ref (dad Δ 0), .int v1] κ (some (.int r.1)) r.2 :=
  ct_of (nL := 7) (ret := (some .int)) (lay := layM) (N := 15) (by decide +kernel) (fun Δ => [.ref (dad Δ 0), .int v1]) (fun _ => oE) (fun _ => (Nat.le_of_ble_eq_true rfl)) (fun Γ hR hm hC => wX11_crowd hC hR hm F κ v1) Δ l hl hN
set_option maxRecDepth 20000 in
theorem wX11_twice_93 {Γ : JCtx} (hC : jC Γ cX11_twice 6 RX11 (some .int) layM 15) (hR : gR Γ = rmH 3) (hm : gcells Γ ≤ (gR Γ).cells ∧ gslots Γ ≤ (gR Γ).slots) (F : Nat) (κ : Mem) (v1 : Int32) (v2 : Int32) (v4 : Int32) (y0 : Int32) (k28 : Int32 → Int32 → Option (Int32 × Mem)) (hk28 : ∀ (v3 : Int32) (v4 : Int32), JP Γ (qf Γ oE) (k28 v3 v4) κ 28 [(0, .ref (gad Γ 0)), (1, .int v1), (2, .int v2), (3, .int v3), (4, .int v4)] []) : JP Γ (qf Γ oE) (pX11_twice_93 F k28 κ v1 v2 v4 y0) κ 93 [(0, .ref (gad Γ 0)), (1, .int v1), (2, .int v2), (4, .int v4)] [.int y0] := by
  unfold pX11_twice_93
  refine j_istore_n hC (pc := 93) dX11_twice_93 rfl (Nat.le_of_ble_eq_true rfl) (loc' := [(3, .int y0), (0, .ref (gad Γ 0)), (1, .int v1), (2, .int v2), (4, .int v4)]) rfl ?_
  refine j_iinc hC (pc := 94) dX11_twice_94 4 rfl ki_1 (Nat.le_of_ble_eq_true rfl) (loc' := [(4, .int (v4 + 1)), (3, .int y0), (0, .ref (gad Γ 0)), (1, .int v1), (2, .int v2)]) rfl ?_
  refine j_goto hC (pc := 97) dX11_twice_97 (tgt := 28) rfl ?_
  refine j_sub [2, 3, 4, 1, 0] (loc' := [(0, .ref (gad Γ 0)), (1, .int v1), (2, .int v2), (3, .int y0), (4, .int (v4 + 1))]) rfl ?_
  exact hk28 y0 (v4 + 1)
set_option maxRecDepth 20000 in
theorem wX11_twice_92 {Γ : JCtx} (hC : jC Γ cX11_twice 6 RX11 (some .int) layM 15) (hR : gR Γ = rmH 3) (hm : gcells Γ ≤ (gR Γ).cells ∧ gslots Γ ≤ (gR Γ).slots) (F : Nat) (κ : Mem) (v1 : Int32) (v2 : Int32) (v4 : Int32) (k28 : Int32 → Int32 → Option (Int32 × Mem)) (hk28 : ∀ (v3 : Int32) (v4 : Int32), JP Γ (qf Γ oE) (k28 v3 v4) κ 28 [(0, .ref (gad Γ 0)), (1, .int v1), (2, .int v2), (3, .int v3), (4, .int v4)] []) : JP Γ (qf Γ oE) (pX11_twice_92 F k28 κ v1 v2 v4) κ 92 [(0, .ref (gad Γ 0)), (1, .int v1), (2, .int v2), (4, .int v4)] [] := by
  unfold pX11_twice_92
  refine j_iconst hC (pc := 92) dX11_twice_92 ki_0 ?_
  exact wX11_twice_93 hC hR hm F κ v1 v2 v4 0 k28 hk28
set_option maxRecDepth 20000 in
theorem wX11_twice_110 {Γ : JCtx} (hC : jC Γ cX11_twice 6 RX11 (some .int) layM 15) (hR : gR Γ = rmH 3) (hm : gcells Γ ≤ (gR Γ).cells ∧ gslots Γ ≤ (gR Γ).slots) (F : Nat) (κ : Mem) (v2 : Int32) (y0 : Int32) (y1 : Int32) (k10 : Mem → Int32 → Int32 → Option (Int32 × Mem)) (hk10 : ∀ (κ : Mem) (v1 : Int32) (v2 : Int32), JP Γ (qf Γ oE) (k10 κ v1 v2) κ 10 [(0, .ref (gad Γ 0)), (1, .int v1), (2, .int v2)] []) : JP Γ (qf Γ oE) (pX11_twice_110 F k10 κ v2 y0 y1) κ 110 [(0, .ref (gad Γ 0)), (2, .int v2)] [.int y0, .int y1] := by
  unfold pX11_twice_110
  refine j_iadd hC (pc := 110) dX11_twice_110 ?_
  refine j_nmi (fun x8 => ?_)
  refine j_istore_n hC (pc := 111) dX11_twice_111 rfl (Nat.le_of_ble_eq_true rfl) (loc' := [(1, .int x8), (0, .ref (gad Γ 0)), (2, .int v2)]) rfl ?_
  refine j_iinc hC (pc := 112) dX11_twice_112 2 rfl ki_1 (Nat.le_of_ble_eq_true rfl) (loc' := [(2, .int (v2 + 1)), (1, .int x8), (0, .ref (gad Γ 0))]) rfl ?_
  refine j_goto hC (pc := 115) dX11_twice_115 (tgt := 10) rfl ?_
  refine j_sub [2, 1, 0] (loc' := [(0, .ref (gad Γ 0)), (1, .int x8), (2, .int (v2 + 1))]) rfl ?_
  exact hk10 κ x8 (v2 + 1)
set_option maxRecDepth 20000 in
theorem wX11_twice_28 {Γ : JCtx} (hC : jC Γ cX11_twice 6 RX11 (some .int) layM 15) (hR : gR Γ = rmH 3) (hm : gcells Γ ≤ (gR Γ).cells ∧ gslots Γ ≤ (gR Γ).slots) (F : Nat) (κ : Mem) (v1 : Int32) (v2 : Int32) (k10 : Mem → Int32 → Int32 → Option (Int32 × Mem)) (hk10 : ∀ (κ : Mem) (v1 : Int32) (v2 : Int32), JP Γ (qf Γ oE) (k10 κ v1 v2) κ 10 [(0, .ref (gad Γ 0)), (1, .int v1), (2, .int v2)] []) : ∀ (n : Nat) (v3 : Int32) (v4 : Int32), JP Γ (qf Γ oE) (pX11_twice_28 F k10 κ v1 v2 n v3 v4) κ 28 [(0, .ref (gad Γ 0)), (1, .int v1), (2, .int v2), (3, .int v3), (4, .int v4)] [] := by
  intro n
  induction n with
  | zero =>
    intro v3 v4
    rw [pX11_twice_28]
    exact j_none
  | succ fu ih =>
    intro v3 v4
    rw [pX11_twice_28]
    refine j_iload hC (pc := 28) dX11_twice_28 4 rfl ?_
    refine j_aload_n hC (pc := 30) dX11_twice_30 0 rfl rfl ?_
    refine j_callV_I hC hR (ctX11_players hC.l hC.cn κ) kc_RX11_108 (Nat.le_of_ble_eq_true rfl) (Nat.le_of_ble_eq_true rfl) lM_0 (Nat.le_of_ble_eq_true rfl) rfl (As := []) (rest := [.int v4]) rfl rfl (Nat.le_of_ble_eq_true rfl) hm (pc := 31) dX11_twice_31 (fun t4 => ?_)
    refine j_icmp_ge hC (pc := 34) dX11_twice_34 (tgt := 100) rfl ?_ ?_
    · refine j_aload_n hC (pc := 37) dX11_twice_37 0 rfl rfl ?_
      refine j_iload hC (pc := 38) dX11_twice_38 4 rfl ?_
      refine j_aload_n hC (pc := 40) dX11_twice_40 0 rfl rfl ?_
      refine j_iload hC (pc := 41) dX11_twice_41 4 rfl ?_
      refine j_callV_I hC hR (ctX11_situationOf hC.l hC.cn F κ v4) kc_RX11_118 (Nat.le_of_ble_eq_true rfl) (Nat.le_of_ble_eq_true rfl) lM_0 (Nat.le_of_ble_eq_true rfl) rfl (As := [.int v4]) (rest := [.int v4, .ref (gad Γ 0)]) rfl rfl (Nat.le_of_ble_eq_true rfl) hm (pc := 43) dX11_twice_43 (fun t5 => ?_)
      refine j_callV_I hC hR (ctX11_entry hC.l hC.cn κ v4 t5) kc_RX11_121 (Nat.le_of_ble_eq_true rfl) (Nat.le_of_ble_eq_true rfl) lM_0 (Nat.le_of_ble_eq_true rfl) rfl (As := [.int v4, .int t5]) (rest := []) rfl rfl (Nat.le_of_ble_eq_true rfl) hm (pc := 46) dX11_twice_46 (fun t6 => ?_)
      refine j_istore hC (pc := 49) dX11_twice_49 (Nat.le_of_ble_eq_true rfl) (loc' := [(5, .int t6), (0, .ref (gad Γ 0)), (1, .int v1), (2, .int v2), (3, .int v3), (4, .int v4)]) rfl ?_
      refine j_iload_n hC (pc := 51) dX11_twice_51 4 rfl rfl ?_
      refine j_if_eq hC (pc := 52) dX11_twice_52 (tgt := 92) rfl ?_ ?_
      · refine j_sub [1, 2, 3, 5] (loc' := [(0, .ref (gad Γ 0)), (1, .int v1), (2, .int v2), (4, .int v4)]) rfl ?_
        exact wX11_twice_92 hC hR hm F κ v1 v2 v4 (pX11_twice_28 F k10 κ v1 v2 fu) ih
      · refine j_iload hC (pc := 55) dX11_twice_55 0 rfl ?_
        refine j_aload_n hC (pc := 57) dX11_twice_57 1 rfl rfl ?_
        refine j_getR hC (pc := 58) dX11_twice_58 kf_RX11_23 lM_0 (Nat.le_of_ble_eq_true rfl) rfl ?_
        refine j_iload hC (pc := 61) dX11_twice_61 5 rfl ?_
        refine j_iald hC (pc := 63) dX11_twice_63 lM_5 (Nat.le_of_ble_eq_true rfl) ?_
        refine j_icmp_eq hC (pc := 64) dX11_twice_64 (tgt := 92) rfl ?_ ?_
        · refine j_sub [1, 2, 3, 5] (loc' := [(0, .ref (gad Γ 0)), (1, .int v1), (2, .int v2), (4, .int v4)]) rfl ?_
          exact wX11_twice_92 hC hR hm F κ v1 v2 v4 (pX11_twice_28 F k10 κ v1 v2 fu) ih
        · refine j_iload hC (pc := 67) dX11_twice_67 0 rfl ?_
          refine j_iconst hC (pc := 69) dX11_twice_69 ki_1 ?_
          refine j_iadd hC (pc := 70) dX11_twice_70 ?_
          refine j_aload_n hC (pc := 71) dX11_twice_71 1 rfl rfl ?_
          refine j_iload hC (pc := 72) dX11_twice_72 5 rfl ?_
          refine j_callV_I hC hR (ctX11_hats hC.l hC.cn κ v4) kc_RX11_111 (Nat.le_of_ble_eq_true rfl) (Nat.le_of_ble_eq_true rfl) lM_0 (Nat.le_of_ble_eq_true rfl) rfl (As := [.int v4]) (rest := [.int (t6 + 1)]) rfl rfl (Nat.le_of_ble_eq_true rfl) hm (pc := 74) dX11_twice_74 (fun t7 => ?_)
          refine j_irem hC (pc := 77) dX11_twice_77 ?_
          refine j_aload_n hC (pc := 78) dX11_twice_78 1 rfl rfl ?_
          refine j_getR hC (pc := 79) dX11_twice_79 kf_RX11_23 lM_0 (Nat.le_of_ble_eq_true rfl) rfl ?_
          refine j_iload hC (pc := 82) dX11_twice_82 5 rfl ?_
          refine j_iald hC (pc := 84) dX11_twice_84 lM_5 (Nat.le_of_ble_eq_true rfl) ?_
          refine j_icmp_eq hC (pc := 85) dX11_twice_85 (tgt := 92) rfl ?_ ?_
          · refine j_sub [1, 2, 3, 5] (loc' := [(0, .ref (gad Γ 0)), (1, .int v1), (2, .int v2), (4, .int v4)]) rfl ?_
            exact wX11_twice_92 hC hR hm F κ v1 v2 v4 (pX11_twice_28 F k10 κ v1 v2 fu) ih
          · refine j_iconst hC (pc := 88) dX11_twice_88 ki_1 ?_
            refine j_goto hC (pc := 89) dX11_twice_89 (tgt := 93) rfl ?_
            refine j_sub [1, 2, 3, 5] (loc' := [(0, .ref (gad Γ 0)), (1, .int v1), (2, .int v2), (4, .int v4)]) rfl ?_
            exact wX11_twice_93 hC hR hm F κ v1 v2 v4 1 (pX11_twice_28 F k10 κ v1 v2 fu) ih
    · refine j_iload_n hC (pc := 100) dX11_twice_100 1 rfl rfl ?_
      refine j_iload_n hC (pc := 101) dX11_twice_101 3 rfl rfl ?_
      refine j_if_eq hC (pc := 102) dX11_twice_102 (tgt := 109) rfl ?_ ?_
      · refine j_iconst hC (pc := 109) dX11_twice_109 ki_0 ?_
        refine j_sub [0, 2] (loc' := [(0, .ref (gad Γ 0)), (2, .int v2)]) rfl ?_
        exact wX11_twice_110 hC hR hm F κ v2 0 v1 k10 hk10
      · refine j_iconst hC (pc := 105) dX11_twice_105 ki_1 ?_
        refine j_goto hC (pc := 106) dX11_twice_106 (tgt := 110) rfl ?_
        refine j_sub [0, 2] (loc' := [(0, .ref (gad Γ 0)), (2, .int v2)]) rfl ?_
        exact wX11_twice_110 hC hR hm F κ v2 1 v1 k10 hk10
set_option maxRecDepth 20000 in
theorem wX11_twice_10 {Γ : JCtx} (hC : jC Γ cX11_twice 6 RX11 (some .int) layM 15) (hR : gR Γ = rmH 3) (hm : gcells Γ ≤ (gR Γ).cells ∧ gslots Γ ≤ (gR Γ).slots) (F : Nat) : ∀ (n : Nat) (κ : Mem) (v1 : Int32) (v2 : Int32), JP Γ (qf Γ oE) (pX11_twice_10 F n κ v1 v2) κ 10 [(0, .ref (gad Γ 0)), (1, .int v1), (2, .int v2)] [] := by
  intro n
  induction n with
  | zero =>
    intro κ v1 v2
    rw [pX11_twice_10]
    exact j_none
  | succ fu ih =>
    intro κ v1 v2
    rw [pX11_twice_10]
    refine j_iload_n hC (pc := 10) dX11_twice_10 2 rfl rfl ?_
    refine j_aload_n hC (pc := 11) dX11_twice_11 0 rfl rfl ?_
    refine j_callV_I hC hR (ctX11_colourings_ hC.l hC.cn F κ) kc_RX11_125 (Nat.le_of_ble_eq_true rfl) (Nat.le_of_ble_eq_true rfl) lM_0 (Nat.le_of_ble_eq_true rfl) rfl (As := []) (rest := [.int v2]) rfl rfl (Nat.le_of_ble_eq_true rfl) hm (pc := 12) dX11_twice_12 (fun t2 => ?_)
    refine j_icmp_ge hC (pc := 15) dX11_twice_15 (tgt := 118) rfl ?_ ?_
    · refine j_aload_n hC (pc := 18) dX11_twice_18 0 rfl rfl ?_
      refine j_iload_n hC (pc := 19) dX11_twice_19 2 rfl rfl ?_
      refine j_callV_V hC hR (ctX11_lays hC.l hC.cn F κ v2) kc_RX11_127 (Nat.le_of_ble_eq_true rfl) (Nat.le_of_ble_eq_true rfl) lM_0 (Nat.le_of_ble_eq_true rfl) rfl (As := [.int v2]) (rest := []) rfl rfl (Nat.le_of_ble_eq_true rfl) hm (pc := 20) dX11_twice_20 (fun t3 => ?_)
      refine j_iconst hC (pc := 23) dX11_twice_23 ki_1 ?_
      refine j_istore_n hC (pc := 24) dX11_twice_24 rfl (Nat.le_of_ble_eq_true rfl) (loc' := [(3, .int 1), (0, .ref (gad Γ 0)), (1, .int v1), (2, .int v2)]) rfl ?_
      refine j_iconst hC (pc := 25) dX11_twice_25 ki_0 ?_
      refine j_istore hC (pc := 26) dX11_twice_26 (Nat.le_of_ble_eq_true rfl) (loc' := [(4, .int 0), (3, .int 1), (0, .ref (gad Γ 0)), (1, .int v1), (2, .int v2)]) rfl ?_
      refine j_sub [2, 3, 4, 1, 0] (loc' := [(0, .ref (gad Γ 0)), (1, .int v1), (2, .int v2), (3, .int 1), (4, .int 0)]) rfl ?_
      exact wX11_twice_28 hC hR hm F t3 v1 v2 (pX11_twice_10 F fu) ih F 1 0
    · refine j_iload_n hC (pc := 118) dX11_twice_118 1 rfl rfl ?_
      exact j_iret hC (pc := 119) dX11_twice_119 rfl rfl rfl
set_option maxRecDepth 20000 in
theorem wX11_twice {Γ : JCtx} (hC : jC Γ cX11_twice 6 RX11 (some .int) layM 15) (hR : gR Γ = rmH 3) (hm : gcells Γ ≤ (gR Γ).cells ∧ gslots Γ ≤ (gR Γ).slots) (F : Nat) (κ : Mem) : JP Γ (qf Γ oE) (pX11_twice F κ) κ 0 [(0, .ref (gad Γ 0))] [] := by
  unfold pX11_twice
  refine j_aload_n hC (pc := 0) dX11_twice_0 0 rfl rfl ?_
  refine j_iconst hC (pc := 1) dX11_twice_1 ki_0 ?_
  refine j_callV_E hC hR (ctX11_is hC.l hC.cn κ 0) kc_RX11_145 (Nat.le_of_ble_eq_true rfl) (Nat.le_of_ble_eq_true rfl) lM_0 (Nat.le_of_ble_eq_true rfl) rfl (As := [.int 0]) (rest := []) rfl rfl (Nat.le_of_ble_eq_true rfl) hm (pc := 2) dX11_twice_2 (fun t1 => ?_)
  refine j_pop hC (pc := 5) dX11_twice_5 rfl ?_
  refine j_iconst hC (pc := 6) dX11_twice_6 ki_0 ?_
  refine j_istore_n hC (pc := 7) dX11_twice_7 rfl (Nat.le_of_ble_eq_true rfl) (loc' := [(1, .int 0), (0, .ref (gad Γ 0))]) rfl ?_
  refine j_iconst hC (pc := 8) dX11_twice_8 ki_0 ?_
  refine j_istore_n hC (pc := 9) dX11_twice_9 rfl (Nat.le_of_ble_eq_true rfl) (loc' := [(2, .int 0), (1, .int 0), (0, .ref (gad Γ 0))]) rfl ?_
  refine j_sub [2, 1, 0] (loc' := [(0, .ref (gad Γ 0)), (1, .int 0), (2, .int 0)]) rfl ?_
  exact wX11_twice_10 hC hR hm F F t1.2 0 0
theorem ctX11_twice {Δ : DCtx} {l : Launch} (hl : dlay Δ = layM) (hN : dN Δ = 15) (F : Nat) (κ : Mem) : ∀ r, pX11_twice F κ = some r → CT Δ l yX11_twice cX11_twice 6 (some .int) (rmH 3) [.ref (dad Δ 0)] κ (some (.int r.1)) r.2 :=
  ct_of (nL := 6) (ret := (some .int)) (lay := layM) (N := 15) (by decide +kernel) (fun Δ => [.ref (dad Δ 0)]) (fun _ => oE) (fun _ => (Nat.le_of_ble_eq_true rfl)) (fun Γ hR hm hC => wX11_twice hC hR hm F κ) Δ l hl hN
set_option maxRecDepth 20000 in
theorem wX11_lostBlinded_105 {Γ : JCtx} (hC : jC Γ cX11_lostBlinded 7 RX11 (some .int) layM 15) (hR : gR Γ = rmH 4) (hm : gcells Γ ≤ (gR Γ).cells ∧ gslots Γ ≤ (gR Γ).slots) (F : Nat) (κ : Mem) (v1 : Int32) (v2 : Int32) (v4 : Int32) (y0 : Int32) (y1 : Int32) (k5 : Mem → Int32 → Int32 → Option (Int32 × Mem)) (hk5 : ∀ (κ : Mem) (v3 : Int32) (v4 : Int32), JP Γ (qf Γ oE) (k5 κ v3 v4) κ 5 [(0, .ref (gad Γ 0)), (1, .int v1), (2, .int v2), (3, .int v3), (4, .int v4)] []) : JP Γ (qf Γ oE) (pX11_lostBlinded_105 F k5 κ v1 v2 v4 y0 y1) κ 105 [(0, .ref (gad Γ 0)), (1, .int v1), (2, .int v2), (4, .int v4)] [.int y0, .int y1] := by
  unfold pX11_lostBlinded_105
  refine j_iadd hC (pc := 105) dX11_lostBlinded_105 ?_
  refine j_nmi (fun x7 => ?_)
  refine j_istore_n hC (pc := 106) dX11_lostBlinded_106 rfl (Nat.le_of_ble_eq_true rfl) (loc' := [(3, .int x7), (0, .ref (gad Γ 0)), (1, .int v1), (2, .int v2), (4, .int v4)]) rfl ?_
  refine j_iinc hC (pc := 107) dX11_lostBlinded_107 4 rfl ki_1 (Nat.le_of_ble_eq_true rfl) (loc' := [(4, .int (v4 + 1)), (3, .int x7), (0, .ref (gad Γ 0)), (1, .int v1), (2, .int v2)]) rfl ?_
  refine j_goto hC (pc := 110) dX11_lostBlinded_110 (tgt := 5) rfl ?_
  refine j_sub [2, 3, 4, 1, 0] (loc' := [(0, .ref (gad Γ 0)), (1, .int v1), (2, .int v2), (3, .int x7), (4, .int (v4 + 1))]) rfl ?_
  exact hk5 κ x7 (v4 + 1)
set_option maxRecDepth 20000 in
theorem wX11_lostBlinded_84 {Γ : JCtx} (hC : jC Γ cX11_lostBlinded 7 RX11 (some .int) layM 15) (hR : gR Γ = rmH 4) (hm : gcells Γ ≤ (gR Γ).cells ∧ gslots Γ ≤ (gR Γ).slots) (F : Nat) (κ : Mem) (v1 : Int32) (v2 : Int32) (v3 : Int32) (v4 : Int32) (v5 : Int32) (y0 : Int32) (k5 : Mem → Int32 → Int32 → Option (Int32 × Mem)) (hk5 : ∀ (κ : Mem) (v3 : Int32) (v4 : Int32), JP Γ (qf Γ oE) (k5 κ v3 v4) κ 5 [(0, .ref (gad Γ 0)), (1, .int v1), (2, .int v2), (3, .int v3), (4, .int v4)] []) : JP Γ (qf Γ oE) (pX11_lostBlinded_84 F k5 κ v1 v2 v3 v4 v5 y0) κ 84 [(0, .ref (gad Γ 0)), (1, .int v1), (2, .int v2), (3, .int v3), (4, .int v4), (5, .int v5)] [.int y0] := by
  unfold pX11_lostBlinded_84
  refine j_istore hC (pc := 84) dX11_lostBlinded_84 (Nat.le_of_ble_eq_true rfl) (loc' := [(6, .int y0), (0, .ref (gad Γ 0)), (1, .int v1), (2, .int v2), (3, .int v3), (4, .int v4), (5, .int v5)]) rfl ?_
  refine j_aload_n hC (pc := 86) dX11_lostBlinded_86 1 rfl rfl ?_
  refine j_getR hC (pc := 87) dX11_lostBlinded_87 kf_RX11_23 lM_0 (Nat.le_of_ble_eq_true rfl) rfl ?_
  refine j_iload_n hC (pc := 90) dX11_lostBlinded_90 3 rfl rfl ?_
  refine j_iload hC (pc := 91) dX11_lostBlinded_91 6 rfl ?_
  refine j_iast hC (pc := 93) dX11_lostBlinded_93 lM_5 (Nat.le_of_ble_eq_true rfl) (fun κ6 => ?_)
  refine j_iload_n hC (pc := 94) dX11_lostBlinded_94 4 rfl rfl ?_
  refine j_iload hC (pc := 95) dX11_lostBlinded_95 0 rfl ?_
  refine j_if_eq hC (pc := 97) dX11_lostBlinded_97 (tgt := 104) rfl ?_ ?_
  · refine j_iconst hC (pc := 104) dX11_lostBlinded_104 ki_0 ?_
    refine j_sub [1, 2, 3, 5] (loc' := [(0, .ref (gad Γ 0)), (1, .int v1), (2, .int v2), (4, .int v4)]) rfl ?_
    exact wX11_lostBlinded_105 hC hR hm F κ6 v1 v2 v4 0 v3 k5 hk5
  · refine j_iconst hC (pc := 100) dX11_lostBlinded_100 ki_1 ?_
    refine j_goto hC (pc := 101) dX11_lostBlinded_101 (tgt := 105) rfl ?_
    refine j_sub [1, 2, 3, 5] (loc' := [(0, .ref (gad Γ 0)), (1, .int v1), (2, .int v2), (4, .int v4)]) rfl ?_
    exact wX11_lostBlinded_105 hC hR hm F κ6 v1 v2 v4 1 v3 k5 hk5
set_option maxRecDepth 20000 in
theorem wX11_lostBlinded_83 {Γ : JCtx} (hC : jC Γ cX11_lostBlinded 7 RX11 (some .int) layM 15) (hR : gR Γ = rmH 4) (hm : gcells Γ ≤ (gR Γ).cells ∧ gslots Γ ≤ (gR Γ).slots) (F : Nat) (κ : Mem) (v1 : Int32) (v2 : Int32) (v3 : Int32) (v4 : Int32) (v5 : Int32) (k5 : Mem → Int32 → Int32 → Option (Int32 × Mem)) (hk5 : ∀ (κ : Mem) (v3 : Int32) (v4 : Int32), JP Γ (qf Γ oE) (k5 κ v3 v4) κ 5 [(0, .ref (gad Γ 0)), (1, .int v1), (2, .int v2), (3, .int v3), (4, .int v4)] []) : JP Γ (qf Γ oE) (pX11_lostBlinded_83 F k5 κ v1 v2 v3 v4 v5) κ 83 [(0, .ref (gad Γ 0)), (1, .int v1), (2, .int v2), (3, .int v3), (4, .int v4), (5, .int v5)] [] := by
  unfold pX11_lostBlinded_83
  refine j_iconst hC (pc := 83) dX11_lostBlinded_83 ki_0 ?_
  exact wX11_lostBlinded_84 hC hR hm F κ v1 v2 v3 v4 v5 0 k5 hk5
set_option maxRecDepth 20000 in
theorem wX11_lostBlinded_46 {Γ : JCtx} (hC : jC Γ cX11_lostBlinded 7 RX11 (some .int) layM 15) (hR : gR Γ = rmH 4) (hm : gcells Γ ≤ (gR Γ).cells ∧ gslots Γ ≤ (gR Γ).slots) (F : Nat) (κ : Mem) (v1 : Int32) (v2 : Int32) (v3 : Int32) (v4 : Int32) (v5 : Int32) (y0 : Int32) (k5 : Mem → Int32 → Int32 → Option (Int32 × Mem)) (hk5 : ∀ (κ : Mem) (v3 : Int32) (v4 : Int32), JP Γ (qf Γ oE) (k5 κ v3 v4) κ 5 [(0, .ref (gad Γ 0)), (1, .int v1), (2, .int v2), (3, .int v3), (4, .int v4)] []) : JP Γ (qf Γ oE) (pX11_lostBlinded_46 F k5 κ v1 v2 v3 v4 v5 y0) κ 46 [(0, .ref (gad Γ 0)), (1, .int v1), (2, .int v2), (3, .int v3), (4, .int v4), (5, .int v5)] [.int y0] := by
  unfold pX11_lostBlinded_46
  refine j_istore hC (pc := 46) dX11_lostBlinded_46 (Nat.le_of_ble_eq_true rfl) (loc' := [(6, .int y0), (0, .ref (gad Γ 0)), (1, .int v1), (2, .int v2), (3, .int v3), (4, .int v4), (5, .int v5)]) rfl ?_
  refine j_aload_n hC (pc := 48) dX11_lostBlinded_48 1 rfl rfl ?_
  refine j_getR hC (pc := 49) dX11_lostBlinded_49 kf_RX11_23 lM_0 (Nat.le_of_ble_eq_true rfl) rfl ?_
  refine j_iload_n hC (pc := 52) dX11_lostBlinded_52 3 rfl rfl ?_
  refine j_iconst hC (pc := 53) dX11_lostBlinded_53 ki_0 ?_
  refine j_iast hC (pc := 54) dX11_lostBlinded_54 lM_5 (Nat.le_of_ble_eq_true rfl) (fun κ5 => ?_)
  refine j_iload hC (pc := 55) dX11_lostBlinded_55 0 rfl ?_
  refine j_if_eq hC (pc := 57) dX11_lostBlinded_57 (tgt := 83) rfl ?_ ?_
  · refine j_sub [1, 2, 3, 4, 5, 6] (loc' := [(0, .ref (gad Γ 0)), (1, .int v1), (2, .int v2), (3, .int v3), (4, .int v4), (5, .int v5)]) rfl ?_
    exact wX11_lostBlinded_83 hC hR hm F κ5 v1 v2 v3 v4 v5 k5 hk5
  · refine j_aload_n hC (pc := 60) dX11_lostBlinded_60 1 rfl rfl ?_
    refine j_iload_n hC (pc := 61) dX11_lostBlinded_61 2 rfl rfl ?_
    refine j_aload_n hC (pc := 62) dX11_lostBlinded_62 1 rfl rfl ?_
    refine j_iload_n hC (pc := 63) dX11_lostBlinded_63 2 rfl rfl ?_
    refine j_callV_I hC hR (ctX11_situationOf hC.l hC.cn F κ5 v1) kc_RX11_118 (Nat.le_of_ble_eq_true rfl) (Nat.le_of_ble_eq_true rfl) lM_0 (Nat.le_of_ble_eq_true rfl) rfl (As := [.int v1]) (rest := [.int v1, .ref (gad Γ 0)]) rfl rfl (Nat.le_of_ble_eq_true rfl) hm (pc := 64) dX11_lostBlinded_64 (fun t8 => ?_)
    refine j_callV_I hC hR (ctX11_entry hC.l hC.cn κ5 v1 t8) kc_RX11_121 (Nat.le_of_ble_eq_true rfl) (Nat.le_of_ble_eq_true rfl) lM_0 (Nat.le_of_ble_eq_true rfl) rfl (As := [.int v1, .int t8]) (rest := []) rfl rfl (Nat.le_of_ble_eq_true rfl) hm (pc := 67) dX11_lostBlinded_67 (fun t9 => ?_)
    refine j_aload_n hC (pc := 70) dX11_lostBlinded_70 1 rfl rfl ?_
    refine j_getR hC (pc := 71) dX11_lostBlinded_71 kf_RX11_23 lM_0 (Nat.le_of_ble_eq_true rfl) rfl ?_
    refine j_iload_n hC (pc := 74) dX11_lostBlinded_74 2 rfl rfl ?_
    refine j_iald hC (pc := 75) dX11_lostBlinded_75 lM_5 (Nat.le_of_ble_eq_true rfl) ?_
    refine j_icmp_eq hC (pc := 76) dX11_lostBlinded_76 (tgt := 83) rfl ?_ ?_
    · refine j_sub [1, 2, 3, 4, 5, 6] (loc' := [(0, .ref (gad Γ 0)), (1, .int v1), (2, .int v2), (3, .int v3), (4, .int v4), (5, .int v5)]) rfl ?_
      exact wX11_lostBlinded_83 hC hR hm F κ5 v1 v2 v3 v4 v5 k5 hk5
    · refine j_iconst hC (pc := 79) dX11_lostBlinded_79 ki_1 ?_
      refine j_goto hC (pc := 80) dX11_lostBlinded_80 (tgt := 84) rfl ?_
      refine j_sub [1, 2, 3, 4, 5, 6] (loc' := [(0, .ref (gad Γ 0)), (1, .int v1), (2, .int v2), (3, .int v3), (4, .int v4), (5, .int v5)]) rfl ?_
      exact wX11_lostBlinded_84 hC hR hm F κ5 v1 v2 v3 v4 v5 1 k5 hk5
set_option maxRecDepth 20000 in
theorem wX11_lostBlinded_5 {Γ : JCtx} (hC : jC Γ cX11_lostBlinded 7 RX11 (some .int) layM 15) (hR : gR Γ = rmH 4) (hm : gcells Γ ≤ (gR Γ).cells ∧ gslots Γ ≤ (gR Γ).slots) (F : Nat) (v1 : Int32) (v2 : Int32) : ∀ (n : Nat) (κ : Mem) (v3 : Int32) (v4 : Int32), JP Γ (qf Γ oE) (pX11_lostBlinded_5 F v1 v2 n κ v3 v4) κ 5 [(0, .ref (gad Γ 0)), (1, .int v1), (2, .int v2), (3, .int v3), (4, .int v4)] [] := by
  intro n
  induction n with
  | zero =>
    intro κ v3 v4
    rw [pX11_lostBlinded_5]
    exact j_none
  | succ fu ih =>
    intro κ v3 v4
    rw [pX11_lostBlinded_5]
    refine j_iload hC (pc := 5) dX11_lostBlinded_5 4 rfl ?_
    refine j_aload_n hC (pc := 7) dX11_lostBlinded_7 0 rfl rfl ?_
    refine j_callV_I hC hR (ctX11_colourings_ hC.l hC.cn F κ) kc_RX11_125 (Nat.le_of_ble_eq_true rfl) (Nat.le_of_ble_eq_true rfl) lM_0 (Nat.le_of_ble_eq_true rfl) rfl (As := []) (rest := [.int v4]) rfl rfl (Nat.le_of_ble_eq_true rfl) hm (pc := 8) dX11_lostBlinded_8 (fun t1 => ?_)
    refine j_icmp_ge hC (pc := 11) dX11_lostBlinded_11 (tgt := 113) rfl ?_ ?_
    · refine j_aload_n hC (pc := 14) dX11_lostBlinded_14 0 rfl rfl ?_
      refine j_iload hC (pc := 15) dX11_lostBlinded_15 4 rfl ?_
      refine j_callV_V hC hR (ctX11_lays hC.l hC.cn F κ v4) kc_RX11_127 (Nat.le_of_ble_eq_true rfl) (Nat.le_of_ble_eq_true rfl) lM_0 (Nat.le_of_ble_eq_true rfl) rfl (As := [.int v4]) (rest := []) rfl rfl (Nat.le_of_ble_eq_true rfl) hm (pc := 17) dX11_lostBlinded_17 (fun t2 => ?_)
      refine j_aload_n hC (pc := 20) dX11_lostBlinded_20 0 rfl rfl ?_
      refine j_getR hC (pc := 21) dX11_lostBlinded_21 kf_RX11_23 lM_0 (Nat.le_of_ble_eq_true rfl) rfl ?_
      refine j_iload_n hC (pc := 24) dX11_lostBlinded_24 2 rfl rfl ?_
      refine j_iald hC (pc := 25) dX11_lostBlinded_25 lM_5 (Nat.le_of_ble_eq_true rfl) ?_
      refine j_nmi (fun x3 => ?_)
      refine j_istore hC (pc := 26) dX11_lostBlinded_26 (Nat.le_of_ble_eq_true rfl) (loc' := [(5, .int x3), (0, .ref (gad Γ 0)), (1, .int v1), (2, .int v2), (3, .int v3), (4, .int v4)]) rfl ?_
      refine j_aload_n hC (pc := 28) dX11_lostBlinded_28 1 rfl rfl ?_
      refine j_callV_I hC hR (ctX11_rightNow hC.l hC.cn F t2) kc_RX11_131 (Nat.le_of_ble_eq_true rfl) (Nat.le_of_ble_eq_true rfl) lM_0 (Nat.le_of_ble_eq_true rfl) rfl (As := []) (rest := []) rfl rfl (Nat.le_of_ble_eq_true rfl) hm (pc := 29) dX11_lostBlinded_29 (fun t4 => ?_)
      refine j_iconst hC (pc := 32) dX11_lostBlinded_32 ki_1 ?_
      refine j_iload_n hC (pc := 33) dX11_lostBlinded_33 2 rfl rfl ?_
      refine j_ishl hC (pc := 34) dX11_lostBlinded_34 ?_
      refine j_iconst hC (pc := 35) dX11_lostBlinded_35 ki_m1 ?_
      refine j_ixor hC (pc := 36) dX11_lostBlinded_36 ?_
      refine j_iand hC (pc := 37) dX11_lostBlinded_37 ?_
      refine j_if_ne hC (pc := 38) dX11_lostBlinded_38 (tgt := 45) rfl ?_ ?_
      · refine j_iconst hC (pc := 41) dX11_lostBlinded_41 ki_1 ?_
        refine j_goto hC (pc := 42) dX11_lostBlinded_42 (tgt := 46) rfl ?_
        refine j_sub [1, 2, 3, 4, 5, 0] (loc' := [(0, .ref (gad Γ 0)), (1, .int v1), (2, .int v2), (3, .int v3), (4, .int v4), (5, .int x3)]) rfl ?_
        exact wX11_lostBlinded_46 hC hR hm F t2 v1 v2 v3 v4 x3 1 (pX11_lostBlinded_5 F v1 v2 fu) ih
      · refine j_iconst hC (pc := 45) dX11_lostBlinded_45 ki_0 ?_
        refine j_sub [1, 2, 3, 4, 5, 0] (loc' := [(0, .ref (gad Γ 0)), (1, .int v1), (2, .int v2), (3, .int v3), (4, .int v4), (5, .int x3)]) rfl ?_
        exact wX11_lostBlinded_46 hC hR hm F t2 v1 v2 v3 v4 x3 0 (pX11_lostBlinded_5 F v1 v2 fu) ih
    · refine j_iload_n hC (pc := 113) dX11_lostBlinded_113 3 rfl rfl ?_
      exact j_iret hC (pc := 114) dX11_lostBlinded_114 rfl rfl rfl
set_option maxRecDepth 20000 in
theorem wX11_lostBlinded {Γ : JCtx} (hC : jC Γ cX11_lostBlinded 7 RX11 (some .int) layM 15) (hR : gR Γ = rmH 4) (hm : gcells Γ ≤ (gR Γ).cells ∧ gslots Γ ≤ (gR Γ).slots) (F : Nat) (κ : Mem) (v1 : Int32) (v2 : Int32) : JP Γ (qf Γ oE) (pX11_lostBlinded F κ v1 v2) κ 0 [(0, .ref (gad Γ 0)), (1, .int v1), (2, .int v2)] [] := by
  unfold pX11_lostBlinded
  refine j_iconst hC (pc := 0) dX11_lostBlinded_0 ki_0 ?_
  refine j_istore_n hC (pc := 1) dX11_lostBlinded_1 rfl (Nat.le_of_ble_eq_true rfl) (loc' := [(3, .int 0), (0, .ref (gad Γ 0)), (1, .int v1), (2, .int v2)]) rfl ?_
  refine j_iconst hC (pc := 2) dX11_lostBlinded_2 ki_0 ?_
  refine j_istore hC (pc := 3) dX11_lostBlinded_3 (Nat.le_of_ble_eq_true rfl) (loc' := [(4, .int 0), (3, .int 0), (0, .ref (gad Γ 0)), (1, .int v1), (2, .int v2)]) rfl ?_
  refine j_sub [2, 3, 4, 1, 0] (loc' := [(0, .ref (gad Γ 0)), (1, .int v1), (2, .int v2), (3, .int 0), (4, .int 0)]) rfl ?_
  exact wX11_lostBlinded_5 hC hR hm F v1 v2 F κ 0 0
theorem ctX11_lostBlinded {Δ : DCtx} {l : Launch} (hl : dlay Δ = layM) (hN : dN Δ = 15) (F : Nat) (κ : Mem) (v1 : Int32) (v2 : Int32) : ∀ r, pX11_lostBlinded F κ v1 v2 = some r → CT Δ l yX11_lostBlinded cX11_lostBlinded 7 (some .int) (rmH 4) [.ref (dad Δ 0), .int v1, .int v2] κ (some (.int r.1)) r.2 :=
  ct_of (nL := 7) (ret := (some .int)) (lay := layM) (N := 15) (by decide +kernel) (fun Δ => [.ref (dad Δ 0), .int v1, .int v2]) (fun _ => oE) (fun _ => (Nat.le_of_ble_eq_true rfl)) (fun Γ hR hm hC => wX11_lostBlinded hC hR hm F κ v1 v2) Δ l hl hN
set_option maxRecDepth 20000 in
theorem wX11_blinded_23 {Γ : JCtx} (hC : jC Γ cX11_blinded 3 RX11 (some .int) layM 15) (hR : gR Γ = rmH 5) (hm : gcells Γ ≤ (gR Γ).cells ∧ gslots Γ ≤ (gR Γ).slots) (F : Nat) (κ : Mem) (y0 : Int32) : JP Γ (qf Γ oE) (pX11_blinded_23 F κ y0) κ 23 [] [.int y0] := by
  unfold pX11_blinded_23
  exact j_iret hC (pc := 23) dX11_blinded_23 rfl rfl rfl
set_option maxRecDepth 20000 in
theorem wX11_blinded {Γ : JCtx} (hC : jC Γ cX11_blinded 3 RX11 (some .int) layM 15) (hR : gR Γ = rmH 5) (hm : gcells Γ ≤ (gR Γ).cells ∧ gslots Γ ≤ (gR Γ).slots) (F : Nat) (κ : Mem) (v1 : Int32) (v2 : Int32) : JP Γ (qf Γ oE) (pX11_blinded F κ v1 v2) κ 0 [(0, .ref (gad Γ 0)), (1, .int v1), (2, .int v2)] [] := by
  unfold pX11_blinded
  refine j_aload_n hC (pc := 0) dX11_blinded_0 0 rfl rfl ?_
  refine j_aload_n hC (pc := 1) dX11_blinded_1 0 rfl rfl ?_
  refine j_iload_n hC (pc := 2) dX11_blinded_2 1 rfl rfl ?_
  refine j_iload_n hC (pc := 3) dX11_blinded_3 2 rfl rfl ?_
  refine j_callV_I hC hR (ctX11_whySight hC.l hC.cn κ v1 v2) kc_RX11_189 (Nat.le_of_ble_eq_true rfl) (Nat.le_of_ble_eq_true rfl) lM_0 (Nat.le_of_ble_eq_true rfl) rfl (As := [.int v1, .int v2]) (rest := [.ref (gad Γ 0)]) rfl rfl (Nat.le_of_ble_eq_true rfl) hm (pc := 4) dX11_blinded_4 (fun t1 => ?_)
  refine j_callV_E hC hR (ctX11_is hC.l hC.cn κ t1) kc_RX11_145 (Nat.le_of_ble_eq_true rfl) (Nat.le_of_ble_eq_true rfl) lM_0 (Nat.le_of_ble_eq_true rfl) rfl (As := [.int t1]) (rest := []) rfl rfl (Nat.le_of_ble_eq_true rfl) hm (pc := 7) dX11_blinded_7 (fun t2 => ?_)
  refine j_if_eq hC (pc := 10) dX11_blinded_10 (tgt := 22) rfl ?_ ?_
  · refine j_iconst hC (pc := 22) dX11_blinded_22 ki_m1 ?_
    refine j_sub [] (loc' := []) rfl ?_
    exact wX11_blinded_23 hC hR hm F t2.2 (-1)
  · refine j_aload_n hC (pc := 13) dX11_blinded_13 0 rfl rfl ?_
    refine j_iload_n hC (pc := 14) dX11_blinded_14 1 rfl rfl ?_
    refine j_iload_n hC (pc := 15) dX11_blinded_15 2 rfl rfl ?_
    refine j_callV_E hC hR (ctX11_lostBlinded hC.l hC.cn F t2.2 v1 v2) kc_RX11_211 (Nat.le_of_ble_eq_true rfl) (Nat.le_of_ble_eq_true rfl) lM_0 (Nat.le_of_ble_eq_true rfl) rfl (As := [.int v1, .int v2]) (rest := []) rfl rfl (Nat.le_of_ble_eq_true rfl) hm (pc := 16) dX11_blinded_16 (fun t3 => ?_)
    refine j_goto hC (pc := 19) dX11_blinded_19 (tgt := 23) rfl ?_
    refine j_sub [] (loc' := []) rfl ?_
    exact wX11_blinded_23 hC hR hm F t3.2 t3.1
theorem ctX11_blinded {Δ : DCtx} {l : Launch} (hl : dlay Δ = layM) (hN : dN Δ = 15) (F : Nat) (κ : Mem) (v1 : Int32) (v2 : Int32) : ∀ r, pX11_blinded F κ v1 v2 = some r → CT Δ l yX11_blinded cX11_blinded 3 (some .int) (rmH 5) [.ref (dad Δ 0), .int v1, .int v2] κ (some (.int r.1)) r.2 :=
  ct_of (nL := 3) (ret := (some .int)) (lay := layM) (N := 15) (by decide +kernel) (fun Δ => [.ref (dad Δ 0), .int v1, .int v2]) (fun _ => oE) (fun _ => (Nat.le_of_ble_eq_true rfl)) (fun Γ hR hm hC => wX11_blinded hC hR hm F κ v1 v2) Δ l hl hN
set_option maxRecDepth 20000 in
theorem wX11_weakest_80 {Γ : JCtx} (hC : jC Γ cX11_weakest 7 RX11 (some .int) layM 15) (hR : gR Γ = rmH 5) (hm : gcells Γ ≤ (gR Γ).cells ∧ gslots Γ ≤ (gR Γ).slots) (F : Nat) (κ : Mem) (v1 : Int32) (v2 : Int32) (v3 : Int32) (v4 : Int32) (v5 : Int32) (k25 : Mem → Int32 → Int32 → Int32 → Option (Int32 × Mem)) (hk25 : ∀ (κ : Mem) (v2 : Int32) (v3 : Int32) (v5 : Int32), JP Γ (qf Γ oE) (k25 κ v2 v3 v5) κ 25 [(0, .ref (gad Γ 0)), (1, .int v1), (2, .int v2), (3, .int v3), (4, .int v4), (5, .int v5)] []) : JP Γ (qf Γ oE) (pX11_weakest_80 F k25 κ v1 v2 v3 v4 v5) κ 80 [(0, .ref (gad Γ 0)), (1, .int v1), (2, .int v2), (3, .int v3), (4, .int v4), (5, .int v5)] [] := by
  unfold pX11_weakest_80
  refine j_iinc hC (pc := 80) dX11_weakest_80 5 rfl ki_1 (Nat.le_of_ble_eq_true rfl) (loc' := [(5, .int (v5 + 1)), (0, .ref (gad Γ 0)), (1, .int v1), (2, .int v2), (3, .int v3), (4, .int v4)]) rfl ?_
  refine j_goto hC (pc := 83) dX11_weakest_83 (tgt := 25) rfl ?_
  refine j_sub [1, 2, 3, 4, 5, 0] (loc' := [(0, .ref (gad Γ 0)), (1, .int v1), (2, .int v2), (3, .int v3), (4, .int v4), (5, .int (v5 + 1))]) rfl ?_
  exact hk25 κ v2 v3 (v5 + 1)
set_option maxRecDepth 20000 in
theorem wX11_weakest_57 {Γ : JCtx} (hC : jC Γ cX11_weakest 7 RX11 (some .int) layM 15) (hR : gR Γ = rmH 5) (hm : gcells Γ ≤ (gR Γ).cells ∧ gslots Γ ≤ (gR Γ).slots) (F : Nat) (κ : Mem) (v1 : Int32) (v2 : Int32) (v3 : Int32) (v4 : Int32) (v5 : Int32) (y0 : Int32) (k25 : Mem → Int32 → Int32 → Int32 → Option (Int32 × Mem)) (hk25 : ∀ (κ : Mem) (v2 : Int32) (v3 : Int32) (v5 : Int32), JP Γ (qf Γ oE) (k25 κ v2 v3 v5) κ 25 [(0, .ref (gad Γ 0)), (1, .int v1), (2, .int v2), (3, .int v3), (4, .int v4), (5, .int v5)] []) : JP Γ (qf Γ oE) (pX11_weakest_57 F k25 κ v1 v2 v3 v4 v5 y0) κ 57 [(0, .ref (gad Γ 0)), (1, .int v1), (2, .int v2), (3, .int v3), (4, .int v4), (5, .int v5)] [.int y0] := by
  unfold pX11_weakest_57
  refine j_istore hC (pc := 57) dX11_weakest_57 (Nat.le_of_ble_eq_true rfl) (loc' := [(6, .int y0), (0, .ref (gad Γ 0)), (1, .int v1), (2, .int v2), (3, .int v3), (4, .int v4), (5, .int v5)]) rfl ?_
  refine j_iload hC (pc := 59) dX11_weakest_59 0 rfl ?_
  refine j_iload_n hC (pc := 61) dX11_weakest_61 4 rfl rfl ?_
  refine j_icmp_gt hC (pc := 62) dX11_weakest_62 (tgt := 68) rfl ?_ ?_
  · refine j_goto hC (pc := 65) dX11_weakest_65 (tgt := 80) rfl ?_
    refine j_sub [1, 2, 3, 4, 5, 6] (loc' := [(0, .ref (gad Γ 0)), (1, .int v1), (2, .int v2), (3, .int v3), (4, .int v4), (5, .int v5)]) rfl ?_
    exact wX11_weakest_80 hC hR hm F κ v1 v2 v3 v4 v5 k25 hk25
  · refine j_iload hC (pc := 68) dX11_weakest_68 0 rfl ?_
    refine j_istore_n hC (pc := 70) dX11_weakest_70 rfl (Nat.le_of_ble_eq_true rfl) (loc' := [(3, .int y0), (6, .int y0), (0, .ref (gad Γ 0)), (1, .int v1), (2, .int v2), (4, .int v4), (5, .int v5)]) rfl ?_
    refine j_bipush hC (pc := 71) dX11_weakest_71 kb_6 ?_
    refine j_iload hC (pc := 73) dX11_weakest_73 5 rfl ?_
    refine j_imul hC (pc := 75) dX11_weakest_75 ?_
    refine j_iload hC (pc := 76) dX11_weakest_76 6 rfl ?_
    refine j_iadd hC (pc := 78) dX11_weakest_78 ?_
    refine j_nmi (fun x5 => ?_)
    refine j_istore_n hC (pc := 79) dX11_weakest_79 rfl (Nat.le_of_ble_eq_true rfl) (loc' := [(2, .int x5), (3, .int y0), (6, .int y0), (0, .ref (gad Γ 0)), (1, .int v1), (4, .int v4), (5, .int v5)]) rfl ?_
    refine j_sub [3, 4, 0, 1, 5, 6] (loc' := [(0, .ref (gad Γ 0)), (1, .int v1), (2, .int x5), (3, .int y0), (4, .int v4), (5, .int v5)]) rfl ?_
    exact wX11_weakest_80 hC hR hm F κ v1 x5 y0 v4 v5 k25 hk25
set_option maxRecDepth 20000 in
theorem wX11_weakest_25 {Γ : JCtx} (hC : jC Γ cX11_weakest 7 RX11 (some .int) layM 15) (hR : gR Γ = rmH 5) (hm : gcells Γ ≤ (gR Γ).cells ∧ gslots Γ ≤ (gR Γ).slots) (F : Nat) (v1 : Int32) (v4 : Int32) (k13 : Mem → Int32 → Int32 → Int32 → Option (Int32 × Mem)) (hk13 : ∀ (κ : Mem) (v2 : Int32) (v3 : Int32) (v4 : Int32), JP Γ (qf Γ oE) (k13 κ v2 v3 v4) κ 13 [(0, .ref (gad Γ 0)), (1, .int v1), (2, .int v2), (3, .int v3), (4, .int v4)] []) : ∀ (n : Nat) (κ : Mem) (v2 : Int32) (v3 : Int32) (v5 : Int32), JP Γ (qf Γ oE) (pX11_weakest_25 F k13 v1 v4 n κ v2 v3 v5) κ 25 [(0, .ref (gad Γ 0)), (1, .int v1), (2, .int v2), (3, .int v3), (4, .int v4), (5, .int v5)] [] := by
  intro n
  induction n with
  | zero =>
    intro κ v2 v3 v5
    rw [pX11_weakest_25]
    exact j_none
  | succ fu ih =>
    intro κ v2 v3 v5
    rw [pX11_weakest_25]
    refine j_iload hC (pc := 25) dX11_weakest_25 5 rfl ?_
    refine j_aload_n hC (pc := 27) dX11_weakest_27 0 rfl rfl ?_
    refine j_callV_I hC hR (ctX11_players hC.l hC.cn κ) kc_RX11_108 (Nat.le_of_ble_eq_true rfl) (Nat.le_of_ble_eq_true rfl) lM_0 (Nat.le_of_ble_eq_true rfl) rfl (As := []) (rest := [.int v5]) rfl rfl (Nat.le_of_ble_eq_true rfl) hm (pc := 28) dX11_weakest_28 (fun t3 => ?_)
    refine j_icmp_ge hC (pc := 31) dX11_weakest_31 (tgt := 86) rfl ?_ ?_
    · refine j_aload_n hC (pc := 34) dX11_weakest_34 0 rfl rfl ?_
      refine j_iload hC (pc := 35) dX11_weakest_35 4 rfl ?_
      refine j_iload hC (pc := 37) dX11_weakest_37 5 rfl ?_
      refine j_callV_I hC hR (ctX11_sees hC.l hC.cn κ v4 v5) kc_RX11_115 (Nat.le_of_ble_eq_true rfl) (Nat.le_of_ble_eq_true rfl) lM_0 (Nat.le_of_ble_eq_true rfl) rfl (As := [.int v4, .int v5]) (rest := []) rfl rfl (Nat.le_of_ble_eq_true rfl) hm (pc := 39) dX11_weakest_39 (fun t4 => ?_)
      refine j_if_eq hC (pc := 42) dX11_weakest_42 (tgt := 56) rfl ?_ ?_
      · refine j_iconst hC (pc := 56) dX11_weakest_56 ki_m1 ?_
        exact wX11_weakest_57 hC hR hm F κ v1 v2 v3 v4 v5 (-1) (pX11_weakest_25 F k13 v1 v4 fu) ih
      · refine j_aload_n hC (pc := 45) dX11_weakest_45 0 rfl rfl ?_
        refine j_iload hC (pc := 46) dX11_weakest_46 4 rfl ?_
        refine j_iload hC (pc := 48) dX11_weakest_48 5 rfl ?_
        refine j_callV_E hC hR (ctX11_lostBlinded hC.l hC.cn F κ v4 v5) kc_RX11_211 (Nat.le_of_ble_eq_true rfl) (Nat.le_of_ble_eq_true rfl) lM_0 (Nat.le_of_ble_eq_true rfl) rfl (As := [.int v4, .int v5]) (rest := []) rfl rfl (Nat.le_of_ble_eq_true rfl) hm (pc := 50) dX11_weakest_50 (fun t6 => ?_)
        refine j_goto hC (pc := 53) dX11_weakest_53 (tgt := 57) rfl ?_
        exact wX11_weakest_57 hC hR hm F t6.2 v1 v2 v3 v4 v5 t6.1 (pX11_weakest_25 F k13 v1 v4 fu) ih
    · refine j_iinc hC (pc := 86) dX11_weakest_86 4 rfl ki_1 (Nat.le_of_ble_eq_true rfl) (loc' := [(4, .int (v4 + 1)), (0, .ref (gad Γ 0)), (1, .int v1), (2, .int v2), (3, .int v3), (5, .int v5)]) rfl ?_
      refine j_goto hC (pc := 89) dX11_weakest_89 (tgt := 13) rfl ?_
      refine j_sub [1, 2, 3, 4, 0] (loc' := [(0, .ref (gad Γ 0)), (1, .int v1), (2, .int v2), (3, .int v3), (4, .int (v4 + 1))]) rfl ?_
      exact hk13 κ v2 v3 (v4 + 1)
set_option maxRecDepth 20000 in
theorem wX11_weakest_113 {Γ : JCtx} (hC : jC Γ cX11_weakest 7 RX11 (some .int) layM 15) (hR : gR Γ = rmH 5) (hm : gcells Γ ≤ (gR Γ).cells ∧ gslots Γ ≤ (gR Γ).slots) (F : Nat) (κ : Mem) (y0 : Int32) : JP Γ (qf Γ oE) (pX11_weakest_113 F κ y0) κ 113 [] [.int y0] := by
  unfold pX11_weakest_113
  exact j_iret hC (pc := 113) dX11_weakest_113 rfl rfl rfl
set_option maxRecDepth 20000 in
theorem wX11_weakest_13 {Γ : JCtx} (hC : jC Γ cX11_weakest 7 RX11 (some .int) layM 15) (hR : gR Γ = rmH 5) (hm : gcells Γ ≤ (gR Γ).cells ∧ gslots Γ ≤ (gR Γ).slots) (F : Nat) (v1 : Int32) : ∀ (n : Nat) (κ : Mem) (v2 : Int32) (v3 : Int32) (v4 : Int32), JP Γ (qf Γ oE) (pX11_weakest_13 F v1 n κ v2 v3 v4) κ 13 [(0, .ref (gad Γ 0)), (1, .int v1), (2, .int v2), (3, .int v3), (4, .int v4)] [] := by
  intro n
  induction n with
  | zero =>
    intro κ v2 v3 v4
    rw [pX11_weakest_13]
    exact j_none
  | succ fu ih =>
    intro κ v2 v3 v4
    rw [pX11_weakest_13]
    refine j_iload hC (pc := 13) dX11_weakest_13 4 rfl ?_
    refine j_aload_n hC (pc := 15) dX11_weakest_15 0 rfl rfl ?_
    refine j_callV_I hC hR (ctX11_players hC.l hC.cn κ) kc_RX11_108 (Nat.le_of_ble_eq_true rfl) (Nat.le_of_ble_eq_true rfl) lM_0 (Nat.le_of_ble_eq_true rfl) rfl (As := []) (rest := [.int v4]) rfl rfl (Nat.le_of_ble_eq_true rfl) hm (pc := 16) dX11_weakest_16 (fun t2 => ?_)
    refine j_icmp_ge hC (pc := 19) dX11_weakest_19 (tgt := 92) rfl ?_ ?_
    · refine j_iconst hC (pc := 22) dX11_weakest_22 ki_0 ?_
      refine j_istore hC (pc := 23) dX11_weakest_23 (Nat.le_of_ble_eq_true rfl) (loc' := [(5, .int 0), (0, .ref (gad Γ 0)), (1, .int v1), (2, .int v2), (3, .int v3), (4, .int v4)]) rfl ?_
      refine j_sub [1, 2, 3, 4, 5, 0] (loc' := [(0, .ref (gad Γ 0)), (1, .int v1), (2, .int v2), (3, .int v3), (4, .int v4), (5, .int 0)]) rfl ?_
      exact wX11_weakest_25 hC hR hm F v1 v4 (pX11_weakest_13 F v1 fu) ih F κ v2 v3 0
    · refine j_iload_n hC (pc := 92) dX11_weakest_92 2 rfl rfl ?_
      refine j_if_ge hC (pc := 93) dX11_weakest_93 (tgt := 104) rfl ?_ ?_
      · refine j_aload_n hC (pc := 96) dX11_weakest_96 0 rfl rfl ?_
        refine j_iconst hC (pc := 97) dX11_weakest_97 ki_5 ?_
        refine j_callV_E hC hR (ctX11_refuse hC.l hC.cn κ 5) kc_RX11_195 (Nat.le_of_ble_eq_true rfl) (Nat.le_of_ble_eq_true rfl) lM_0 (Nat.le_of_ble_eq_true rfl) rfl (As := [.int 5]) (rest := []) rfl rfl (Nat.le_of_ble_eq_true rfl) hm (pc := 98) dX11_weakest_98 (fun t7 => ?_)
        refine j_goto hC (pc := 101) dX11_weakest_101 (tgt := 113) rfl ?_
        refine j_sub [] (loc' := []) rfl ?_
        exact wX11_weakest_113 hC hR hm F t7.2 t7.1
      · refine j_iload_n hC (pc := 104) dX11_weakest_104 1 rfl rfl ?_
        refine j_if_eq hC (pc := 105) dX11_weakest_105 (tgt := 112) rfl ?_ ?_
        · refine j_iload_n hC (pc := 112) dX11_weakest_112 2 rfl rfl ?_
          refine j_sub [] (loc' := []) rfl ?_
          exact wX11_weakest_113 hC hR hm F κ v2
        · refine j_iload_n hC (pc := 108) dX11_weakest_108 3 rfl rfl ?_
          refine j_goto hC (pc := 109) dX11_weakest_109 (tgt := 113) rfl ?_
          refine j_sub [] (loc' := []) rfl ?_
          exact wX11_weakest_113 hC hR hm F κ v3
set_option maxRecDepth 20000 in
theorem wX11_weakest {Γ : JCtx} (hC : jC Γ cX11_weakest 7 RX11 (some .int) layM 15) (hR : gR Γ = rmH 5) (hm : gcells Γ ≤ (gR Γ).cells ∧ gslots Γ ≤ (gR Γ).slots) (F : Nat) (κ : Mem) (v1 : Int32) : JP Γ (qf Γ oE) (pX11_weakest F κ v1) κ 0 [(0, .ref (gad Γ 0)), (1, .int v1)] [] := by
  unfold pX11_weakest
  refine j_aload_n hC (pc := 0) dX11_weakest_0 0 rfl rfl ?_
  refine j_iconst hC (pc := 1) dX11_weakest_1 ki_0 ?_
  refine j_callV_E hC hR (ctX11_is hC.l hC.cn κ 0) kc_RX11_145 (Nat.le_of_ble_eq_true rfl) (Nat.le_of_ble_eq_true rfl) lM_0 (Nat.le_of_ble_eq_true rfl) rfl (As := [.int 0]) (rest := []) rfl rfl (Nat.le_of_ble_eq_true rfl) hm (pc := 2) dX11_weakest_2 (fun t1 => ?_)
  refine j_pop hC (pc := 5) dX11_weakest_5 rfl ?_
  refine j_iconst hC (pc := 6) dX11_weakest_6 ki_m1 ?_
  refine j_istore_n hC (pc := 7) dX11_weakest_7 rfl (Nat.le_of_ble_eq_true rfl) (loc' := [(2, .int (-1)), (0, .ref (gad Γ 0)), (1, .int v1)]) rfl ?_
  refine j_iconst hC (pc := 8) dX11_weakest_8 ki_m1 ?_
  refine j_istore_n hC (pc := 9) dX11_weakest_9 rfl (Nat.le_of_ble_eq_true rfl) (loc' := [(3, .int (-1)), (2, .int (-1)), (0, .ref (gad Γ 0)), (1, .int v1)]) rfl ?_
  refine j_iconst hC (pc := 10) dX11_weakest_10 ki_0 ?_
  refine j_istore hC (pc := 11) dX11_weakest_11 (Nat.le_of_ble_eq_true rfl) (loc' := [(4, .int 0), (3, .int (-1)), (2, .int (-1)), (0, .ref (gad Γ 0)), (1, .int v1)]) rfl ?_
  refine j_sub [3, 4, 2, 1, 0] (loc' := [(0, .ref (gad Γ 0)), (1, .int v1), (2, .int (-1)), (3, .int (-1)), (4, .int 0)]) rfl ?_
  exact wX11_weakest_13 hC hR hm F v1 F t1.2 (-1) (-1) 0
theorem ctX11_weakest {Δ : DCtx} {l : Launch} (hl : dlay Δ = layM) (hN : dN Δ = 15) (F : Nat) (κ : Mem) (v1 : Int32) : ∀ r, pX11_weakest F κ v1 = some r → CT Δ l yX11_weakest cX11_weakest 7 (some .int) (rmH 5) [.ref (dad Δ 0), .int v1] κ (some (.int r.1)) r.2 :=
  ct_of (nL := 7) (ret := (some .int)) (lay := layM) (N := 15) (by decide +kernel) (fun Δ => [.ref (dad Δ 0), .int v1]) (fun _ => oE) (fun _ => (Nat.le_of_ble_eq_true rfl)) (fun Γ hR hm hC => wX11_weakest hC hR hm F κ v1) Δ l hl hN
set_option maxRecDepth 20000 in
theorem wX11_needed_65 {Γ : JCtx} (hC : jC Γ cX11_needed 4 RX11 (some .int) layM 15) (hR : gR Γ = rmH 6) (hm : gcells Γ ≤ (gR Γ).cells ∧ gslots Γ ≤ (gR Γ).slots) (F : Nat) (κ : Mem) (v1 : Int32) (v3 : Int32) (y0 : Int32) (k36 : Int32 → Int32 → Option (Int32 × Mem)) (hk36 : ∀ (v2 : Int32) (v3 : Int32), JP Γ (qf Γ oE) (k36 v2 v3) κ 36 [(0, .ref (gad Γ 0)), (1, .int v1), (2, .int v2), (3, .int v3)] []) : JP Γ (qf Γ oE) (pX11_needed_65 F k36 κ v1 v3 y0) κ 65 [(0, .ref (gad Γ 0)), (1, .int v1), (3, .int v3)] [.int y0] := by
  unfold pX11_needed_65
  refine j_istore_n hC (pc := 65) dX11_needed_65 rfl (Nat.le_of_ble_eq_true rfl) (loc' := [(2, .int y0), (0, .ref (gad Γ 0)), (1, .int v1), (3, .int v3)]) rfl ?_
  refine j_iinc hC (pc := 66) dX11_needed_66 3 rfl ki_m1 (Nat.le_of_ble_eq_true rfl) (loc' := [(3, .int (v3 + (-1))), (2, .int y0), (0, .ref (gad Γ 0)), (1, .int v1)]) rfl ?_
  refine j_goto hC (pc := 69) dX11_needed_69 (tgt := 36) rfl ?_
  refine j_sub [2, 3, 1, 0] (loc' := [(0, .ref (gad Γ 0)), (1, .int v1), (2, .int y0), (3, .int (v3 + (-1)))]) rfl ?_
  exact hk36 y0 (v3 + (-1))
set_option maxRecDepth 20000 in
theorem wX11_needed_64 {Γ : JCtx} (hC : jC Γ cX11_needed 4 RX11 (some .int) layM 15) (hR : gR Γ = rmH 6) (hm : gcells Γ ≤ (gR Γ).cells ∧ gslots Γ ≤ (gR Γ).slots) (F : Nat) (κ : Mem) (v1 : Int32) (v2 : Int32) (v3 : Int32) (k36 : Int32 → Int32 → Option (Int32 × Mem)) (hk36 : ∀ (v2 : Int32) (v3 : Int32), JP Γ (qf Γ oE) (k36 v2 v3) κ 36 [(0, .ref (gad Γ 0)), (1, .int v1), (2, .int v2), (3, .int v3)] []) : JP Γ (qf Γ oE) (pX11_needed_64 F k36 κ v1 v2 v3) κ 64 [(0, .ref (gad Γ 0)), (1, .int v1), (2, .int v2), (3, .int v3)] [] := by
  unfold pX11_needed_64
  refine j_iload_n hC (pc := 64) dX11_needed_64 2 rfl rfl ?_
  refine j_sub [0, 1, 3] (loc' := [(0, .ref (gad Γ 0)), (1, .int v1), (3, .int v3)]) rfl ?_
  exact wX11_needed_65 hC hR hm F κ v1 v3 v2 k36 hk36
set_option maxRecDepth 20000 in
theorem wX11_needed_36 {Γ : JCtx} (hC : jC Γ cX11_needed 4 RX11 (some .int) layM 15) (hR : gR Γ = rmH 6) (hm : gcells Γ ≤ (gR Γ).cells ∧ gslots Γ ≤ (gR Γ).slots) (F : Nat) (κ : Mem) (v1 : Int32) : ∀ (n : Nat) (v2 : Int32) (v3 : Int32), JP Γ (qf Γ oE) (pX11_needed_36 F κ v1 n v2 v3) κ 36 [(0, .ref (gad Γ 0)), (1, .int v1), (2, .int v2), (3, .int v3)] [] := by
  intro n
  induction n with
  | zero =>
    intro v2 v3
    rw [pX11_needed_36]
    exact j_none
  | succ fu ih =>
    intro v2 v3
    rw [pX11_needed_36]
    refine j_iload_n hC (pc := 36) dX11_needed_36 3 rfl rfl ?_
    refine j_if_le hC (pc := 37) dX11_needed_37 (tgt := 72) rfl ?_ ?_
    · refine j_iload_n hC (pc := 72) dX11_needed_72 2 rfl rfl ?_
      exact j_iret hC (pc := 73) dX11_needed_73 rfl rfl rfl
    · refine j_iload_n hC (pc := 40) dX11_needed_40 3 rfl rfl ?_
      refine j_callS_I hC hR (ctX11_ones hC.l hC.cn F κ v3) kc_RX11_149 (Nat.le_of_ble_eq_true rfl) (Nat.le_of_ble_eq_true rfl) (As := [.int v3]) (rest := []) rfl rfl (Nat.le_of_ble_eq_true rfl) hm (pc := 41) dX11_needed_41 (fun t6 => ?_)
      refine j_iload_n hC (pc := 44) dX11_needed_44 2 rfl rfl ?_
      refine j_callS_I hC hR (ctX11_ones hC.l hC.cn F κ v2) kc_RX11_149 (Nat.le_of_ble_eq_true rfl) (Nat.le_of_ble_eq_true rfl) (As := [.int v2]) (rest := [.int t6]) rfl rfl (Nat.le_of_ble_eq_true rfl) hm (pc := 45) dX11_needed_45 (fun t7 => ?_)
      refine j_icmp_gt hC (pc := 48) dX11_needed_48 (tgt := 64) rfl ?_ ?_
      · refine j_aload_n hC (pc := 51) dX11_needed_51 0 rfl rfl ?_
        refine j_iload_n hC (pc := 52) dX11_needed_52 3 rfl rfl ?_
        refine j_callV_I hC hR (ctX11_lostBy hC.l hC.cn F κ v3) kc_RX11_137 (Nat.le_of_ble_eq_true rfl) (Nat.le_of_ble_eq_true rfl) lM_0 (Nat.le_of_ble_eq_true rfl) rfl (As := [.int v3]) (rest := []) rfl rfl (Nat.le_of_ble_eq_true rfl) hm (pc := 53) dX11_needed_53 (fun t8 => ?_)
        refine j_iload_n hC (pc := 56) dX11_needed_56 1 rfl rfl ?_
        refine j_icmp_ne hC (pc := 57) dX11_needed_57 (tgt := 64) rfl ?_ ?_
        · refine j_iload_n hC (pc := 60) dX11_needed_60 3 rfl rfl ?_
          refine j_goto hC (pc := 61) dX11_needed_61 (tgt := 65) rfl ?_
          refine j_sub [0, 1, 3] (loc' := [(0, .ref (gad Γ 0)), (1, .int v1), (3, .int v3)]) rfl ?_
          exact wX11_needed_65 hC hR hm F κ v1 v3 v3 (pX11_needed_36 F κ v1 fu) ih
        · exact wX11_needed_64 hC hR hm F κ v1 v2 v3 (pX11_needed_36 F κ v1 fu) ih
      · exact wX11_needed_64 hC hR hm F κ v1 v2 v3 (pX11_needed_36 F κ v1 fu) ih
set_option maxRecDepth 20000 in
theorem wX11_needed_13 {Γ : JCtx} (hC : jC Γ cX11_needed 4 RX11 (some .int) layM 15) (hR : gR Γ = rmH 6) (hm : gcells Γ ≤ (gR Γ).cells ∧ gslots Γ ≤ (gR Γ).slots) (F : Nat) (κ : Mem) (y0 : Int32) : JP Γ (qf Γ oE) (pX11_needed_13 F κ y0) κ 13 [(0, .ref (gad Γ 0))] [.int y0, .ref (gad Γ 0)] := by
  unfold pX11_needed_13
  refine j_callV_E hC hR (ctX11_is hC.l hC.cn κ y0) kc_RX11_145 (Nat.le_of_ble_eq_true rfl) (Nat.le_of_ble_eq_true rfl) lM_0 (Nat.le_of_ble_eq_true rfl) rfl (As := [.int y0]) (rest := []) rfl rfl (Nat.le_of_ble_eq_true rfl) hm (pc := 13) dX11_needed_13 (fun t2 => ?_)
  refine j_if_ne hC (pc := 16) dX11_needed_16 (tgt := 21) rfl ?_ ?_
  · refine j_iconst hC (pc := 19) dX11_needed_19 ki_m1 ?_
    exact j_iret hC (pc := 20) dX11_needed_20 rfl rfl rfl
  · refine j_aload_n hC (pc := 21) dX11_needed_21 0 rfl rfl ?_
    refine j_callV_E hC hR (ctX11_lostNow hC.l hC.cn F t2.2) kc_RX11_214 (Nat.le_of_ble_eq_true rfl) (Nat.le_of_ble_eq_true rfl) lM_0 (Nat.le_of_ble_eq_true rfl) rfl (As := []) (rest := []) rfl rfl (Nat.le_of_ble_eq_true rfl) hm (pc := 22) dX11_needed_22 (fun t3 => ?_)
    refine j_istore_n hC (pc := 25) dX11_needed_25 rfl (Nat.le_of_ble_eq_true rfl) (loc' := [(1, .int (t3.1)), (0, .ref (gad Γ 0))]) rfl ?_
    refine j_aload_n hC (pc := 26) dX11_needed_26 1 rfl rfl ?_
    refine j_callV_I hC hR (ctX11_all hC.l hC.cn t3.2) kc_RX11_96 (Nat.le_of_ble_eq_true rfl) (Nat.le_of_ble_eq_true rfl) lM_0 (Nat.le_of_ble_eq_true rfl) rfl (As := []) (rest := []) rfl rfl (Nat.le_of_ble_eq_true rfl) hm (pc := 27) dX11_needed_27 (fun t4 => ?_)
    refine j_istore_n hC (pc := 30) dX11_needed_30 rfl (Nat.le_of_ble_eq_true rfl) (loc' := [(2, .int t4), (1, .int (t3.1)), (0, .ref (gad Γ 0))]) rfl ?_
    refine j_aload_n hC (pc := 31) dX11_needed_31 2 rfl rfl ?_
    refine j_callV_I hC hR (ctX11_all hC.l hC.cn t3.2) kc_RX11_96 (Nat.le_of_ble_eq_true rfl) (Nat.le_of_ble_eq_true rfl) lM_0 (Nat.le_of_ble_eq_true rfl) rfl (As := []) (rest := []) rfl rfl (Nat.le_of_ble_eq_true rfl) hm (pc := 32) dX11_needed_32 (fun t5 => ?_)
    refine j_istore_n hC (pc := 35) dX11_needed_35 rfl (Nat.le_of_ble_eq_true rfl) (loc' := [(3, .int t5), (2, .int t4), (1, .int (t3.1)), (0, .ref (gad Γ 0))]) rfl ?_
    refine j_sub [3, 2, 1, 0] (loc' := [(0, .ref (gad Γ 0)), (1, .int (t3.1)), (2, .int t4), (3, .int t5)]) rfl ?_
    exact wX11_needed_36 hC hR hm F t3.2 t3.1 F t4 t5
set_option maxRecDepth 20000 in
theorem wX11_needed {Γ : JCtx} (hC : jC Γ cX11_needed 4 RX11 (some .int) layM 15) (hR : gR Γ = rmH 6) (hm : gcells Γ ≤ (gR Γ).cells ∧ gslots Γ ≤ (gR Γ).slots) (F : Nat) (κ : Mem) : JP Γ (qf Γ oE) (pX11_needed F κ) κ 0 [(0, .ref (gad Γ 0))] [] := by
  unfold pX11_needed
  refine j_aload_n hC (pc := 0) dX11_needed_0 0 rfl rfl ?_
  refine j_aload_n hC (pc := 1) dX11_needed_1 0 rfl rfl ?_
  refine j_callV_I hC hR (ctX11_players hC.l hC.cn κ) kc_RX11_108 (Nat.le_of_ble_eq_true rfl) (Nat.le_of_ble_eq_true rfl) lM_0 (Nat.le_of_ble_eq_true rfl) rfl (As := []) (rest := [.ref (gad Γ 0)]) rfl rfl (Nat.le_of_ble_eq_true rfl) hm (pc := 2) dX11_needed_2 (fun t1 => ?_)
  refine j_if_ne hC (pc := 5) dX11_needed_5 (tgt := 12) rfl ?_ ?_
  · refine j_iconst hC (pc := 8) dX11_needed_8 ki_5 ?_
    refine j_goto hC (pc := 9) dX11_needed_9 (tgt := 13) rfl ?_
    exact wX11_needed_13 hC hR hm F κ 5
  · refine j_iconst hC (pc := 12) dX11_needed_12 ki_0 ?_
    exact wX11_needed_13 hC hR hm F κ 0
theorem ctX11_needed {Δ : DCtx} {l : Launch} (hl : dlay Δ = layM) (hN : dN Δ = 15) (F : Nat) (κ : Mem) : ∀ r, pX11_needed F κ = some r → CT Δ l yX11_needed cX11_needed 4 (some .int) (rmH 6) [.ref (dad Δ 0)] κ (some (.int r.1)) r.2 :=
  ct_of (nL := 4) (ret := (some .int)) (lay := layM) (N := 15) (by decide +kernel) (fun Δ => [.ref (dad Δ 0)]) (fun _ => oE) (fun _ => (Nat.le_of_ble_eq_true rfl)) (fun Γ hR hm hC => wX11_needed hC hR hm F κ) Δ l hl hN
set_option maxRecDepth 20000 in
theorem wX11_known_73 {Γ : JCtx} (hC : jC Γ cX11_known 5 RX11 (some .int) layM 15) (hR : gR Γ = rmH 5) (hm : gcells Γ ≤ (gR Γ).cells ∧ gslots Γ ≤ (gR Γ).slots) (F : Nat) (κ : Mem) (v1 : Int32) (v2 : Int32) (v4 : Int32) (y0 : Int32) (y1 : Int32) (k32 : Mem → Int32 → Int32 → Option (Int32 × Mem)) (hk32 : ∀ (κ : Mem) (v3 : Int32) (v4 : Int32), JP Γ (qf Γ oE) (k32 κ v3 v4) κ 32 [(0, .ref (gad Γ 0)), (1, .int v1), (2, .int v2), (3, .int v3), (4, .int v4)] []) : JP Γ (qf Γ oE) (pX11_known_73 F k32 κ v1 v2 v4 y0 y1) κ 73 [(0, .ref (gad Γ 0)), (1, .int v1), (2, .int v2), (4, .int v4)] [.int y0, .int y1] := by
  unfold pX11_known_73
  refine j_iadd hC (pc := 73) dX11_known_73 ?_
  refine j_nmi (fun x6 => ?_)
  refine j_istore_n hC (pc := 74) dX11_known_74 rfl (Nat.le_of_ble_eq_true rfl) (loc' := [(3, .int x6), (0, .ref (gad Γ 0)), (1, .int v1), (2, .int v2), (4, .int v4)]) rfl ?_
  refine j_iinc hC (pc := 75) dX11_known_75 4 rfl ki_1 (Nat.le_of_ble_eq_true rfl) (loc' := [(4, .int (v4 + 1)), (3, .int x6), (0, .ref (gad Γ 0)), (1, .int v1), (2, .int v2)]) rfl ?_
  refine j_goto hC (pc := 78) dX11_known_78 (tgt := 32) rfl ?_
  refine j_sub [2, 3, 4, 1, 0] (loc' := [(0, .ref (gad Γ 0)), (1, .int v1), (2, .int v2), (3, .int x6), (4, .int (v4 + 1))]) rfl ?_
  exact hk32 κ x6 (v4 + 1)
set_option maxRecDepth 20000 in
theorem wX11_known_72 {Γ : JCtx} (hC : jC Γ cX11_known 5 RX11 (some .int) layM 15) (hR : gR Γ = rmH 5) (hm : gcells Γ ≤ (gR Γ).cells ∧ gslots Γ ≤ (gR Γ).slots) (F : Nat) (κ : Mem) (v1 : Int32) (v2 : Int32) (v4 : Int32) (y0 : Int32) (k32 : Mem → Int32 → Int32 → Option (Int32 × Mem)) (hk32 : ∀ (κ : Mem) (v3 : Int32) (v4 : Int32), JP Γ (qf Γ oE) (k32 κ v3 v4) κ 32 [(0, .ref (gad Γ 0)), (1, .int v1), (2, .int v2), (3, .int v3), (4, .int v4)] []) : JP Γ (qf Γ oE) (pX11_known_72 F k32 κ v1 v2 v4 y0) κ 72 [(0, .ref (gad Γ 0)), (1, .int v1), (2, .int v2), (4, .int v4)] [.int y0] := by
  unfold pX11_known_72
  refine j_iconst hC (pc := 72) dX11_known_72 ki_0 ?_
  exact wX11_known_73 hC hR hm F κ v1 v2 v4 0 y0 k32 hk32
set_option maxRecDepth 20000 in
theorem wX11_known_32 {Γ : JCtx} (hC : jC Γ cX11_known 5 RX11 (some .int) layM 15) (hR : gR Γ = rmH 5) (hm : gcells Γ ≤ (gR Γ).cells ∧ gslots Γ ≤ (gR Γ).slots) (F : Nat) (v1 : Int32) (v2 : Int32) : ∀ (n : Nat) (κ : Mem) (v3 : Int32) (v4 : Int32), JP Γ (qf Γ oE) (pX11_known_32 F v1 v2 n κ v3 v4) κ 32 [(0, .ref (gad Γ 0)), (1, .int v1), (2, .int v2), (3, .int v3), (4, .int v4)] [] := by
  intro n
  induction n with
  | zero =>
    intro κ v3 v4
    rw [pX11_known_32]
    exact j_none
  | succ fu ih =>
    intro κ v3 v4
    rw [pX11_known_32]
    refine j_iload hC (pc := 32) dX11_known_32 4 rfl ?_
    refine j_aload_n hC (pc := 34) dX11_known_34 0 rfl rfl ?_
    refine j_callV_I hC hR (ctX11_colourings_ hC.l hC.cn F κ) kc_RX11_125 (Nat.le_of_ble_eq_true rfl) (Nat.le_of_ble_eq_true rfl) lM_0 (Nat.le_of_ble_eq_true rfl) rfl (As := []) (rest := [.int v4]) rfl rfl (Nat.le_of_ble_eq_true rfl) hm (pc := 35) dX11_known_35 (fun t4 => ?_)
    refine j_icmp_ge hC (pc := 38) dX11_known_38 (tgt := 81) rfl ?_ ?_
    · refine j_aload_n hC (pc := 41) dX11_known_41 0 rfl rfl ?_
      refine j_iload hC (pc := 42) dX11_known_42 4 rfl ?_
      refine j_callV_V hC hR (ctX11_lays hC.l hC.cn F κ v4) kc_RX11_127 (Nat.le_of_ble_eq_true rfl) (Nat.le_of_ble_eq_true rfl) lM_0 (Nat.le_of_ble_eq_true rfl) rfl (As := [.int v4]) (rest := []) rfl rfl (Nat.le_of_ble_eq_true rfl) hm (pc := 44) dX11_known_44 (fun t5 => ?_)
      refine j_iload_n hC (pc := 47) dX11_known_47 3 rfl rfl ?_
      refine j_aload_n hC (pc := 48) dX11_known_48 0 rfl rfl ?_
      refine j_getR hC (pc := 49) dX11_known_49 kf_RX11_26 lM_0 (Nat.le_of_ble_eq_true rfl) rfl ?_
      refine j_iload hC (pc := 52) dX11_known_52 4 rfl ?_
      refine j_iald hC (pc := 54) dX11_known_54 lM_6 (Nat.le_of_ble_eq_true rfl) ?_
      refine j_if_ne hC (pc := 55) dX11_known_55 (tgt := 72) rfl ?_ ?_
      · refine j_aload_n hC (pc := 58) dX11_known_58 0 rfl rfl ?_
        refine j_getR hC (pc := 59) dX11_known_59 kf_RX11_23 lM_0 (Nat.le_of_ble_eq_true rfl) rfl ?_
        refine j_iload_n hC (pc := 62) dX11_known_62 1 rfl rfl ?_
        refine j_iald hC (pc := 63) dX11_known_63 lM_5 (Nat.le_of_ble_eq_true rfl) ?_
        refine j_iload_n hC (pc := 64) dX11_known_64 2 rfl rfl ?_
        refine j_icmp_ne hC (pc := 65) dX11_known_65 (tgt := 72) rfl ?_ ?_
        · refine j_iconst hC (pc := 68) dX11_known_68 ki_1 ?_
          refine j_goto hC (pc := 69) dX11_known_69 (tgt := 73) rfl ?_
          refine j_sub [0, 1, 2, 4] (loc' := [(0, .ref (gad Γ 0)), (1, .int v1), (2, .int v2), (4, .int v4)]) rfl ?_
          exact wX11_known_73 hC hR hm F t5 v1 v2 v4 1 v3 (pX11_known_32 F v1 v2 fu) ih
        · refine j_sub [0, 1, 2, 4] (loc' := [(0, .ref (gad Γ 0)), (1, .int v1), (2, .int v2), (4, .int v4)]) rfl ?_
          exact wX11_known_72 hC hR hm F t5 v1 v2 v4 v3 (pX11_known_32 F v1 v2 fu) ih
      · refine j_sub [0, 1, 2, 4] (loc' := [(0, .ref (gad Γ 0)), (1, .int v1), (2, .int v2), (4, .int v4)]) rfl ?_
        exact wX11_known_72 hC hR hm F t5 v1 v2 v4 v3 (pX11_known_32 F v1 v2 fu) ih
    · refine j_iload_n hC (pc := 81) dX11_known_81 3 rfl rfl ?_
      exact j_iret hC (pc := 82) dX11_known_82 rfl rfl rfl
set_option maxRecDepth 20000 in
theorem wX11_known_15 {Γ : JCtx} (hC : jC Γ cX11_known 5 RX11 (some .int) layM 15) (hR : gR Γ = rmH 5) (hm : gcells Γ ≤ (gR Γ).cells ∧ gslots Γ ≤ (gR Γ).slots) (F : Nat) (κ : Mem) (v1 : Int32) (v2 : Int32) (y0 : Int32) : JP Γ (qf Γ oE) (pX11_known_15 F κ v1 v2 y0) κ 15 [(0, .ref (gad Γ 0)), (1, .int v1), (2, .int v2)] [.int y0, .ref (gad Γ 0)] := by
  unfold pX11_known_15
  refine j_callV_E hC hR (ctX11_is hC.l hC.cn κ y0) kc_RX11_145 (Nat.le_of_ble_eq_true rfl) (Nat.le_of_ble_eq_true rfl) lM_0 (Nat.le_of_ble_eq_true rfl) rfl (As := [.int y0]) (rest := []) rfl rfl (Nat.le_of_ble_eq_true rfl) hm (pc := 15) dX11_known_15 (fun t2 => ?_)
  refine j_if_ne hC (pc := 18) dX11_known_18 (tgt := 23) rfl ?_ ?_
  · refine j_iconst hC (pc := 21) dX11_known_21 ki_m1 ?_
    exact j_iret hC (pc := 22) dX11_known_22 rfl rfl rfl
  · refine j_aload_n hC (pc := 23) dX11_known_23 0 rfl rfl ?_
    refine j_callV_V hC hR (ctX11_laysRight hC.l hC.cn F t2.2) kc_RX11_134 (Nat.le_of_ble_eq_true rfl) (Nat.le_of_ble_eq_true rfl) lM_0 (Nat.le_of_ble_eq_true rfl) rfl (As := []) (rest := []) rfl rfl (Nat.le_of_ble_eq_true rfl) hm (pc := 24) dX11_known_24 (fun t3 => ?_)
    refine j_iconst hC (pc := 27) dX11_known_27 ki_0 ?_
    refine j_istore_n hC (pc := 28) dX11_known_28 rfl (Nat.le_of_ble_eq_true rfl) (loc' := [(3, .int 0), (0, .ref (gad Γ 0)), (1, .int v1), (2, .int v2)]) rfl ?_
    refine j_iconst hC (pc := 29) dX11_known_29 ki_0 ?_
    refine j_istore hC (pc := 30) dX11_known_30 (Nat.le_of_ble_eq_true rfl) (loc' := [(4, .int 0), (3, .int 0), (0, .ref (gad Γ 0)), (1, .int v1), (2, .int v2)]) rfl ?_
    refine j_sub [2, 3, 4, 1, 0] (loc' := [(0, .ref (gad Γ 0)), (1, .int v1), (2, .int v2), (3, .int 0), (4, .int 0)]) rfl ?_
    exact wX11_known_32 hC hR hm F v1 v2 F t3 0 0
set_option maxRecDepth 20000 in
theorem wX11_known {Γ : JCtx} (hC : jC Γ cX11_known 5 RX11 (some .int) layM 15) (hR : gR Γ = rmH 5) (hm : gcells Γ ≤ (gR Γ).cells ∧ gslots Γ ≤ (gR Γ).slots) (F : Nat) (κ : Mem) (v1 : Int32) (v2 : Int32) : JP Γ (qf Γ oE) (pX11_known F κ v1 v2) κ 0 [(0, .ref (gad Γ 0)), (1, .int v1), (2, .int v2)] [] := by
  unfold pX11_known
  refine j_aload_n hC (pc := 0) dX11_known_0 0 rfl rfl ?_
  refine j_aload_n hC (pc := 1) dX11_known_1 0 rfl rfl ?_
  refine j_iload_n hC (pc := 2) dX11_known_2 1 rfl rfl ?_
  refine j_iload_n hC (pc := 3) dX11_known_3 2 rfl rfl ?_
  refine j_callV_I hC hR (ctX11_isColour hC.l hC.cn κ v1 v2) kc_RX11_182 (Nat.le_of_ble_eq_true rfl) (Nat.le_of_ble_eq_true rfl) lM_0 (Nat.le_of_ble_eq_true rfl) rfl (As := [.int v1, .int v2]) (rest := [.ref (gad Γ 0)]) rfl rfl (Nat.le_of_ble_eq_true rfl) hm (pc := 4) dX11_known_4 (fun t1 => ?_)
  refine j_if_eq hC (pc := 7) dX11_known_7 (tgt := 14) rfl ?_ ?_
  · refine j_iconst hC (pc := 14) dX11_known_14 ki_2 ?_
    exact wX11_known_15 hC hR hm F κ v1 v2 2
  · refine j_iconst hC (pc := 10) dX11_known_10 ki_0 ?_
    refine j_goto hC (pc := 11) dX11_known_11 (tgt := 15) rfl ?_
    exact wX11_known_15 hC hR hm F κ v1 v2 0
theorem ctX11_known {Δ : DCtx} {l : Launch} (hl : dlay Δ = layM) (hN : dN Δ = 15) (F : Nat) (κ : Mem) (v1 : Int32) (v2 : Int32) : ∀ r, pX11_known F κ v1 v2 = some r → CT Δ l yX11_known cX11_known 5 (some .int) (rmH 5) [.ref (dad Δ 0), .int v1, .int v2] κ (some (.int r.1)) r.2 :=
  ct_of (nL := 5) (ret := (some .int)) (lay := layM) (N := 15) (by decide +kernel) (fun Δ => [.ref (dad Δ 0), .int v1, .int v2]) (fun _ => oE) (fun _ => (Nat.le_of_ble_eq_true rfl)) (fun Γ hR hm hC => wX11_known hC hR hm F κ v1 v2) Δ l hl hN
set_option maxRecDepth 20000 in
theorem wX11_nearest_138 {Γ : JCtx} (hC : jC Γ cX11_nearest 8 RX11 (some .int) layM 15) (hR : gR Γ = rmH 5) (hm : gcells Γ ≤ (gR Γ).cells ∧ gslots Γ ≤ (gR Γ).slots) (F : Nat) (κ : Mem) (v2 : Int32) (v3 : Int32) (v4 : Int32) (v5 : Int32) (v7 : Int32) (y0 : Int32) (y1 : Int32) (k105 : Int32 → Int32 → Option (Int32 × Mem)) (hk105 : ∀ (v6 : Int32) (v7 : Int32), JP Γ (qf Γ oE) (k105 v6 v7) κ 105 [(0, .ref (gad Γ 0)), (2, .int v2), (3, .int v3), (4, .int v4), (5, .int v5), (6, .int v6), (7, .int v7)] []) : JP Γ (qf Γ oE) (pX11_nearest_138 F k105 κ v2 v3 v4 v5 v7 y0 y1) κ 138 [(0, .ref (gad Γ 0)), (2, .int v2), (3, .int v3), (4, .int v4), (5, .int v5), (7, .int v7)] [.int y0, .int y1] := by
  unfold pX11_nearest_138
  refine j_iadd hC (pc := 138) dX11_nearest_138 ?_
  refine j_nmi (fun x12 => ?_)
  refine j_istore hC (pc := 139) dX11_nearest_139 (Nat.le_of_ble_eq_true rfl) (loc' := [(6, .int x12), (0, .ref (gad Γ 0)), (2, .int v2), (3, .int v3), (4, .int v4), (5, .int v5), (7, .int v7)]) rfl ?_
  refine j_iinc hC (pc := 141) dX11_nearest_141 6 rfl ki_1 (Nat.le_of_ble_eq_true rfl) (loc' := [(7, .int (v7 + 1)), (6, .int x12), (0, .ref (gad Γ 0)), (2, .int v2), (3, .int v3), (4, .int v4), (5, .int v5)]) rfl ?_
  refine j_goto hC (pc := 144) dX11_nearest_144 (tgt := 105) rfl ?_
  refine j_sub [2, 3, 4, 5, 6, 1, 0] (loc' := [(0, .ref (gad Γ 0)), (2, .int v2), (3, .int v3), (4, .int v4), (5, .int v5), (6, .int x12), (7, .int (v7 + 1))]) rfl ?_
  exact hk105 x12 (v7 + 1)
set_option maxRecDepth 20000 in
theorem wX11_nearest_164 {Γ : JCtx} (hC : jC Γ cX11_nearest 8 RX11 (some .int) layM 15) (hR : gR Γ = rmH 5) (hm : gcells Γ ≤ (gR Γ).cells ∧ gslots Γ ≤ (gR Γ).slots) (F : Nat) (κ : Mem) (v2 : Int32) (v3 : Int32) (v4 : Int32) (v5 : Int32) (k71 : Mem → Int32 → Int32 → Int32 → Option (Int32 × Mem)) (hk71 : ∀ (κ : Mem) (v3 : Int32) (v4 : Int32) (v5 : Int32), JP Γ (qf Γ oE) (k71 κ v3 v4 v5) κ 71 [(0, .ref (gad Γ 0)), (2, .int v2), (3, .int v3), (4, .int v4), (5, .int v5)] []) : JP Γ (qf Γ oE) (pX11_nearest_164 F k71 κ v2 v3 v4 v5) κ 164 [(0, .ref (gad Γ 0)), (2, .int v2), (3, .int v3), (4, .int v4), (5, .int v5)] [] := by
  unfold pX11_nearest_164
  refine j_iinc hC (pc := 164) dX11_nearest_164 4 rfl ki_1 (Nat.le_of_ble_eq_true rfl) (loc' := [(5, .int (v5 + 1)), (0, .ref (gad Γ 0)), (2, .int v2), (3, .int v3), (4, .int v4)]) rfl ?_
  refine j_goto hC (pc := 167) dX11_nearest_167 (tgt := 71) rfl ?_
  refine j_sub [1, 2, 3, 4, 0] (loc' := [(0, .ref (gad Γ 0)), (2, .int v2), (3, .int v3), (4, .int v4), (5, .int (v5 + 1))]) rfl ?_
  exact hk71 κ v3 v4 (v5 + 1)
set_option maxRecDepth 20000 in
theorem wX11_nearest_105 {Γ : JCtx} (hC : jC Γ cX11_nearest 8 RX11 (some .int) layM 15) (hR : gR Γ = rmH 5) (hm : gcells Γ ≤ (gR Γ).cells ∧ gslots Γ ≤ (gR Γ).slots) (F : Nat) (κ : Mem) (v2 : Int32) (v3 : Int32) (v4 : Int32) (v5 : Int32) (k71 : Mem → Int32 → Int32 → Int32 → Option (Int32 × Mem)) (hk71 : ∀ (κ : Mem) (v3 : Int32) (v4 : Int32) (v5 : Int32), JP Γ (qf Γ oE) (k71 κ v3 v4 v5) κ 71 [(0, .ref (gad Γ 0)), (2, .int v2), (3, .int v3), (4, .int v4), (5, .int v5)] []) : ∀ (n : Nat) (v6 : Int32) (v7 : Int32), JP Γ (qf Γ oE) (pX11_nearest_105 F k71 κ v2 v3 v4 v5 n v6 v7) κ 105 [(0, .ref (gad Γ 0)), (2, .int v2), (3, .int v3), (4, .int v4), (5, .int v5), (6, .int v6), (7, .int v7)] [] := by
  intro n
  induction n with
  | zero =>
    intro v6 v7
    rw [pX11_nearest_105]
    exact j_none
  | succ fu ih =>
    intro v6 v7
    rw [pX11_nearest_105]
    refine j_iload hC (pc := 105) dX11_nearest_105 6 rfl ?_
    refine j_aload_n hC (pc := 107) dX11_nearest_107 0 rfl rfl ?_
    refine j_callV_I hC hR (ctX11_players hC.l hC.cn κ) kc_RX11_108 (Nat.le_of_ble_eq_true rfl) (Nat.le_of_ble_eq_true rfl) lM_0 (Nat.le_of_ble_eq_true rfl) rfl (As := []) (rest := [.int v7]) rfl rfl (Nat.le_of_ble_eq_true rfl) hm (pc := 108) dX11_nearest_108 (fun t11 => ?_)
    refine j_icmp_ge hC (pc := 111) dX11_nearest_111 (tgt := 147) rfl ?_ ?_
    · refine j_iload hC (pc := 114) dX11_nearest_114 5 rfl ?_
      refine j_aload_n hC (pc := 116) dX11_nearest_116 0 rfl rfl ?_
      refine j_getR hC (pc := 117) dX11_nearest_117 kf_RX11_23 lM_0 (Nat.le_of_ble_eq_true rfl) rfl ?_
      refine j_iload hC (pc := 120) dX11_nearest_120 6 rfl ?_
      refine j_iald hC (pc := 122) dX11_nearest_122 lM_5 (Nat.le_of_ble_eq_true rfl) ?_
      refine j_aload_n hC (pc := 123) dX11_nearest_123 0 rfl rfl ?_
      refine j_getR hC (pc := 124) dX11_nearest_124 kf_RX11_29 lM_0 (Nat.le_of_ble_eq_true rfl) rfl ?_
      refine j_iload hC (pc := 127) dX11_nearest_127 6 rfl ?_
      refine j_iald hC (pc := 129) dX11_nearest_129 lM_7 (Nat.le_of_ble_eq_true rfl) ?_
      refine j_icmp_ne hC (pc := 130) dX11_nearest_130 (tgt := 137) rfl ?_ ?_
      · refine j_iconst hC (pc := 133) dX11_nearest_133 ki_0 ?_
        refine j_goto hC (pc := 134) dX11_nearest_134 (tgt := 138) rfl ?_
        refine j_sub [0, 1, 2, 3, 4, 6] (loc' := [(0, .ref (gad Γ 0)), (2, .int v2), (3, .int v3), (4, .int v4), (5, .int v5), (7, .int v7)]) rfl ?_
        exact wX11_nearest_138 hC hR hm F κ v2 v3 v4 v5 v7 0 v6 (pX11_nearest_105 F k71 κ v2 v3 v4 v5 fu) ih
      · refine j_iconst hC (pc := 137) dX11_nearest_137 ki_1 ?_
        refine j_sub [0, 1, 2, 3, 4, 6] (loc' := [(0, .ref (gad Γ 0)), (2, .int v2), (3, .int v3), (4, .int v4), (5, .int v5), (7, .int v7)]) rfl ?_
        exact wX11_nearest_138 hC hR hm F κ v2 v3 v4 v5 v7 1 v6 (pX11_nearest_105 F k71 κ v2 v3 v4 v5 fu) ih
    · refine j_iload hC (pc := 147) dX11_nearest_147 5 rfl ?_
      refine j_iload hC (pc := 149) dX11_nearest_149 3 rfl ?_
      refine j_icmp_lt hC (pc := 151) dX11_nearest_151 (tgt := 157) rfl ?_ ?_
      · refine j_iload hC (pc := 157) dX11_nearest_157 5 rfl ?_
        refine j_istore hC (pc := 159) dX11_nearest_159 (Nat.le_of_ble_eq_true rfl) (loc' := [(4, .int v6), (0, .ref (gad Γ 0)), (2, .int v2), (3, .int v3), (5, .int v5), (6, .int v6), (7, .int v7)]) rfl ?_
        refine j_iload hC (pc := 161) dX11_nearest_161 4 rfl ?_
        refine j_istore_n hC (pc := 163) dX11_nearest_163 rfl (Nat.le_of_ble_eq_true rfl) (loc' := [(3, .int v5), (4, .int v6), (0, .ref (gad Γ 0)), (2, .int v2), (5, .int v5), (6, .int v6), (7, .int v7)]) rfl ?_
        refine j_sub [2, 3, 0, 1, 4] (loc' := [(0, .ref (gad Γ 0)), (2, .int v2), (3, .int v5), (4, .int v6), (5, .int v5)]) rfl ?_
        exact wX11_nearest_164 hC hR hm F κ v2 v5 v6 v5 k71 hk71
      · refine j_goto hC (pc := 154) dX11_nearest_154 (tgt := 164) rfl ?_
        refine j_sub [0, 1, 2, 3, 4] (loc' := [(0, .ref (gad Γ 0)), (2, .int v2), (3, .int v3), (4, .int v4), (5, .int v5)]) rfl ?_
        exact wX11_nearest_164 hC hR hm F κ v2 v3 v4 v5 k71 hk71
set_option maxRecDepth 20000 in
theorem wX11_nearest_192 {Γ : JCtx} (hC : jC Γ cX11_nearest 8 RX11 (some .int) layM 15) (hR : gR Γ = rmH 5) (hm : gcells Γ ≤ (gR Γ).cells ∧ gslots Γ ≤ (gR Γ).slots) (F : Nat) (κ : Mem) (y0 : Int32) : JP Γ (qf Γ oE) (pX11_nearest_192 F κ y0) κ 192 [] [.int y0] := by
  unfold pX11_nearest_192
  exact j_iret hC (pc := 192) dX11_nearest_192 rfl rfl rfl
set_option maxRecDepth 20000 in
theorem wX11_nearest_71 {Γ : JCtx} (hC : jC Γ cX11_nearest 8 RX11 (some .int) layM 15) (hR : gR Γ = rmH 5) (hm : gcells Γ ≤ (gR Γ).cells ∧ gslots Γ ≤ (gR Γ).slots) (F : Nat) (v2 : Int32) : ∀ (n : Nat) (κ : Mem) (v3 : Int32) (v4 : Int32) (v5 : Int32), JP Γ (qf Γ oE) (pX11_nearest_71 F v2 n κ v3 v4 v5) κ 71 [(0, .ref (gad Γ 0)), (2, .int v2), (3, .int v3), (4, .int v4), (5, .int v5)] [] := by
  intro n
  induction n with
  | zero =>
    intro κ v3 v4 v5
    rw [pX11_nearest_71]
    exact j_none
  | succ fu ih =>
    intro κ v3 v4 v5
    rw [pX11_nearest_71]
    refine j_iload hC (pc := 71) dX11_nearest_71 4 rfl ?_
    refine j_aload_n hC (pc := 73) dX11_nearest_73 0 rfl rfl ?_
    refine j_callV_I hC hR (ctX11_colourings_ hC.l hC.cn F κ) kc_RX11_125 (Nat.le_of_ble_eq_true rfl) (Nat.le_of_ble_eq_true rfl) lM_0 (Nat.le_of_ble_eq_true rfl) rfl (As := []) (rest := [.int v5]) rfl rfl (Nat.le_of_ble_eq_true rfl) hm (pc := 74) dX11_nearest_74 (fun t9 => ?_)
    refine j_icmp_ge hC (pc := 77) dX11_nearest_77 (tgt := 170) rfl ?_ ?_
    · refine j_aload_n hC (pc := 80) dX11_nearest_80 0 rfl rfl ?_
      refine j_getR hC (pc := 81) dX11_nearest_81 kf_RX11_26 lM_0 (Nat.le_of_ble_eq_true rfl) rfl ?_
      refine j_iload hC (pc := 84) dX11_nearest_84 4 rfl ?_
      refine j_iald hC (pc := 86) dX11_nearest_86 lM_6 (Nat.le_of_ble_eq_true rfl) ?_
      refine j_if_eq hC (pc := 87) dX11_nearest_87 (tgt := 93) rfl ?_ ?_
      · refine j_aload_n hC (pc := 93) dX11_nearest_93 0 rfl rfl ?_
        refine j_iload hC (pc := 94) dX11_nearest_94 4 rfl ?_
        refine j_callV_V hC hR (ctX11_lays hC.l hC.cn F κ v5) kc_RX11_127 (Nat.le_of_ble_eq_true rfl) (Nat.le_of_ble_eq_true rfl) lM_0 (Nat.le_of_ble_eq_true rfl) rfl (As := [.int v5]) (rest := []) rfl rfl (Nat.le_of_ble_eq_true rfl) hm (pc := 96) dX11_nearest_96 (fun t10 => ?_)
        refine j_iconst hC (pc := 99) dX11_nearest_99 ki_0 ?_
        refine j_istore hC (pc := 100) dX11_nearest_100 (Nat.le_of_ble_eq_true rfl) (loc' := [(6, .int 0), (0, .ref (gad Γ 0)), (2, .int v2), (3, .int v3), (4, .int v4), (5, .int v5)]) rfl ?_
        refine j_iconst hC (pc := 102) dX11_nearest_102 ki_0 ?_
        refine j_istore hC (pc := 103) dX11_nearest_103 (Nat.le_of_ble_eq_true rfl) (loc' := [(7, .int 0), (6, .int 0), (0, .ref (gad Γ 0)), (2, .int v2), (3, .int v3), (4, .int v4), (5, .int v5)]) rfl ?_
        refine j_sub [2, 3, 4, 5, 6, 1, 0] (loc' := [(0, .ref (gad Γ 0)), (2, .int v2), (3, .int v3), (4, .int v4), (5, .int v5), (6, .int 0), (7, .int 0)]) rfl ?_
        exact wX11_nearest_105 hC hR hm F t10 v2 v3 v4 v5 (pX11_nearest_71 F v2 fu) ih F 0 0
      · refine j_goto hC (pc := 90) dX11_nearest_90 (tgt := 164) rfl ?_
        exact wX11_nearest_164 hC hR hm F κ v2 v3 v4 v5 (pX11_nearest_71 F v2 fu) ih
    · refine j_iload_n hC (pc := 170) dX11_nearest_170 2 rfl rfl ?_
      refine j_if_ge hC (pc := 171) dX11_nearest_171 (tgt := 182) rfl ?_ ?_
      · refine j_aload_n hC (pc := 174) dX11_nearest_174 0 rfl rfl ?_
        refine j_iconst hC (pc := 175) dX11_nearest_175 ki_5 ?_
        refine j_callV_E hC hR (ctX11_refuse hC.l hC.cn κ 5) kc_RX11_195 (Nat.le_of_ble_eq_true rfl) (Nat.le_of_ble_eq_true rfl) lM_0 (Nat.le_of_ble_eq_true rfl) rfl (As := [.int 5]) (rest := []) rfl rfl (Nat.le_of_ble_eq_true rfl) hm (pc := 176) dX11_nearest_176 (fun t13 => ?_)
        refine j_goto hC (pc := 179) dX11_nearest_179 (tgt := 192) rfl ?_
        refine j_sub [] (loc' := []) rfl ?_
        exact wX11_nearest_192 hC hR hm F t13.2 t13.1
      · refine j_iload_n hC (pc := 182) dX11_nearest_182 1 rfl rfl ?_
        refine j_if_ne hC (pc := 183) dX11_nearest_183 (tgt := 191) rfl ?_ ?_
        · refine j_iload hC (pc := 186) dX11_nearest_186 3 rfl ?_
          refine j_goto hC (pc := 188) dX11_nearest_188 (tgt := 192) rfl ?_
          refine j_sub [] (loc' := []) rfl ?_
          exact wX11_nearest_192 hC hR hm F κ v4
        · refine j_iload_n hC (pc := 191) dX11_nearest_191 2 rfl rfl ?_
          refine j_sub [] (loc' := []) rfl ?_
          exact wX11_nearest_192 hC hR hm F κ v3
set_option maxRecDepth 20000 in
theorem wX11_nearest_36 {Γ : JCtx} (hC : jC Γ cX11_nearest 8 RX11 (some .int) layM 15) (hR : gR Γ = rmH 5) (hm : gcells Γ ≤ (gR Γ).cells ∧ gslots Γ ≤ (gR Γ).slots) (F : Nat) (v2 : Int32) : ∀ (n : Nat) (κ : Mem) (v3 : Int32), JP Γ (qf Γ oE) (pX11_nearest_36 F v2 n κ v3) κ 36 [(0, .ref (gad Γ 0)), (2, .int v2), (3, .int v3)] [] := by
  intro n
  induction n with
  | zero =>
    intro κ v3
    rw [pX11_nearest_36]
    exact j_none
  | succ fu ih =>
    intro κ v3
    rw [pX11_nearest_36]
    refine j_iload_n hC (pc := 36) dX11_nearest_36 2 rfl rfl ?_
    refine j_aload_n hC (pc := 37) dX11_nearest_37 0 rfl rfl ?_
    refine j_callV_I hC hR (ctX11_players hC.l hC.cn κ) kc_RX11_108 (Nat.le_of_ble_eq_true rfl) (Nat.le_of_ble_eq_true rfl) lM_0 (Nat.le_of_ble_eq_true rfl) rfl (As := []) (rest := [.int v3]) rfl rfl (Nat.le_of_ble_eq_true rfl) hm (pc := 38) dX11_nearest_38 (fun t7 => ?_)
    refine j_icmp_ge hC (pc := 41) dX11_nearest_41 (tgt := 62) rfl ?_ ?_
    · refine j_aload_n hC (pc := 44) dX11_nearest_44 0 rfl rfl ?_
      refine j_getR hC (pc := 45) dX11_nearest_45 kf_RX11_29 lM_0 (Nat.le_of_ble_eq_true rfl) rfl ?_
      refine j_iload_n hC (pc := 48) dX11_nearest_48 2 rfl rfl ?_
      refine j_aload_n hC (pc := 49) dX11_nearest_49 0 rfl rfl ?_
      refine j_getR hC (pc := 50) dX11_nearest_50 kf_RX11_23 lM_0 (Nat.le_of_ble_eq_true rfl) rfl ?_
      refine j_iload_n hC (pc := 53) dX11_nearest_53 2 rfl rfl ?_
      refine j_iald hC (pc := 54) dX11_nearest_54 lM_5 (Nat.le_of_ble_eq_true rfl) ?_
      refine j_iast hC (pc := 55) dX11_nearest_55 lM_7 (Nat.le_of_ble_eq_true rfl) (fun κ8 => ?_)
      refine j_iinc hC (pc := 56) dX11_nearest_56 2 rfl ki_1 (Nat.le_of_ble_eq_true rfl) (loc' := [(3, .int (v3 + 1)), (0, .ref (gad Γ 0)), (2, .int v2)]) rfl ?_
      refine j_goto hC (pc := 59) dX11_nearest_59 (tgt := 36) rfl ?_
      refine j_sub [1, 2, 0] (loc' := [(0, .ref (gad Γ 0)), (2, .int v2), (3, .int (v3 + 1))]) rfl ?_
      exact ih κ8 (v3 + 1)
    · refine j_iconst hC (pc := 62) dX11_nearest_62 ki_m1 ?_
      refine j_istore_n hC (pc := 63) dX11_nearest_63 rfl (Nat.le_of_ble_eq_true rfl) (loc' := [(3, .int (-1)), (0, .ref (gad Γ 0)), (2, .int v2)]) rfl ?_
      refine j_bipush hC (pc := 64) dX11_nearest_64 kb_7 ?_
      refine j_istore hC (pc := 66) dX11_nearest_66 (Nat.le_of_ble_eq_true rfl) (loc' := [(4, .int 7), (3, .int (-1)), (0, .ref (gad Γ 0)), (2, .int v2)]) rfl ?_
      refine j_iconst hC (pc := 68) dX11_nearest_68 ki_0 ?_
      refine j_istore hC (pc := 69) dX11_nearest_69 (Nat.le_of_ble_eq_true rfl) (loc' := [(5, .int 0), (4, .int 7), (3, .int (-1)), (0, .ref (gad Γ 0)), (2, .int v2)]) rfl ?_
      refine j_sub [3, 4, 2, 1, 0] (loc' := [(0, .ref (gad Γ 0)), (2, .int v2), (3, .int (-1)), (4, .int 7), (5, .int 0)]) rfl ?_
      exact wX11_nearest_71 hC hR hm F v2 F κ (-1) 7 0
set_option maxRecDepth 20000 in
theorem wX11_nearest {Γ : JCtx} (hC : jC Γ cX11_nearest 8 RX11 (some .int) layM 15) (hR : gR Γ = rmH 5) (hm : gcells Γ ≤ (gR Γ).cells ∧ gslots Γ ≤ (gR Γ).slots) (F : Nat) (κ : Mem) (v1 : Int32) (v2 : Int32) : JP Γ (qf Γ oE) (pX11_nearest F κ v1 v2) κ 0 [(0, .ref (gad Γ 0)), (1, .int v1), (2, .int v2)] [] := by
  unfold pX11_nearest
  refine j_aload_n hC (pc := 0) dX11_nearest_0 0 rfl rfl ?_
  refine j_aload_n hC (pc := 1) dX11_nearest_1 0 rfl rfl ?_
  refine j_iload_n hC (pc := 2) dX11_nearest_2 2 rfl rfl ?_
  refine j_i2l hC (pc := 3) dX11_nearest_3 ?_
  refine j_lconst hC (pc := 4) dX11_nearest_4 rfl ?_
  refine j_lconst hC (pc := 5) dX11_nearest_5 rfl ?_
  refine j_callS_I hC hR (ctX11_isIn hC.l hC.cn κ v2.toInt64 0 1) kc_RX11_92 (Nat.le_of_ble_eq_true rfl) (Nat.le_of_ble_eq_true rfl) (As := [.long (v2.toInt64), .long 0, .long 1]) (rest := [.ref (gad Γ 0), .ref (gad Γ 0)]) rfl rfl (Nat.le_of_ble_eq_true rfl) hm (pc := 6) dX11_nearest_6 (fun t1 => ?_)
  refine j_aload_n hC (pc := 9) dX11_nearest_9 0 rfl rfl ?_
  refine j_iload_n hC (pc := 10) dX11_nearest_10 1 rfl rfl ?_
  refine j_callV_I hC hR (ctX11_isColouring hC.l hC.cn F κ v1) kc_RX11_179 (Nat.le_of_ble_eq_true rfl) (Nat.le_of_ble_eq_true rfl) lM_0 (Nat.le_of_ble_eq_true rfl) rfl (As := [.int v1]) (rest := [.int t1, .ref (gad Γ 0), .ref (gad Γ 0)]) rfl rfl (Nat.le_of_ble_eq_true rfl) hm (pc := 11) dX11_nearest_11 (fun t2 => ?_)
  refine j_callV_I hC hR (ctX11_why hC.l hC.cn κ t1 t2) kc_RX11_167 (Nat.le_of_ble_eq_true rfl) (Nat.le_of_ble_eq_true rfl) lM_0 (Nat.le_of_ble_eq_true rfl) rfl (As := [.int t1, .int t2]) (rest := [.ref (gad Γ 0)]) rfl rfl (Nat.le_of_ble_eq_true rfl) hm (pc := 14) dX11_nearest_14 (fun t3 => ?_)
  refine j_callV_E hC hR (ctX11_is hC.l hC.cn κ t3) kc_RX11_145 (Nat.le_of_ble_eq_true rfl) (Nat.le_of_ble_eq_true rfl) lM_0 (Nat.le_of_ble_eq_true rfl) rfl (As := [.int t3]) (rest := []) rfl rfl (Nat.le_of_ble_eq_true rfl) hm (pc := 17) dX11_nearest_17 (fun t4 => ?_)
  refine j_if_ne hC (pc := 20) dX11_nearest_20 (tgt := 25) rfl ?_ ?_
  · refine j_iconst hC (pc := 23) dX11_nearest_23 ki_m1 ?_
    exact j_iret hC (pc := 24) dX11_nearest_24 rfl rfl rfl
  · refine j_aload_n hC (pc := 25) dX11_nearest_25 0 rfl rfl ?_
    refine j_callV_V hC hR (ctX11_laysRight hC.l hC.cn F t4.2) kc_RX11_134 (Nat.le_of_ble_eq_true rfl) (Nat.le_of_ble_eq_true rfl) lM_0 (Nat.le_of_ble_eq_true rfl) rfl (As := []) (rest := []) rfl rfl (Nat.le_of_ble_eq_true rfl) hm (pc := 26) dX11_nearest_26 (fun t5 => ?_)
    refine j_aload_n hC (pc := 29) dX11_nearest_29 0 rfl rfl ?_
    refine j_iload_n hC (pc := 30) dX11_nearest_30 1 rfl rfl ?_
    refine j_callV_V hC hR (ctX11_lays hC.l hC.cn F t5 v1) kc_RX11_127 (Nat.le_of_ble_eq_true rfl) (Nat.le_of_ble_eq_true rfl) lM_0 (Nat.le_of_ble_eq_true rfl) rfl (As := [.int v1]) (rest := []) rfl rfl (Nat.le_of_ble_eq_true rfl) hm (pc := 31) dX11_nearest_31 (fun t6 => ?_)
    refine j_iconst hC (pc := 34) dX11_nearest_34 ki_0 ?_
    refine j_istore_n hC (pc := 35) dX11_nearest_35 rfl (Nat.le_of_ble_eq_true rfl) (loc' := [(3, .int 0), (0, .ref (gad Γ 0)), (1, .int v1), (2, .int v2)]) rfl ?_
    refine j_sub [1, 3, 0] (loc' := [(0, .ref (gad Γ 0)), (2, .int v2), (3, .int 0)]) rfl ?_
    exact wX11_nearest_36 hC hR hm F v2 F t6 0
theorem ctX11_nearest {Δ : DCtx} {l : Launch} (hl : dlay Δ = layM) (hN : dN Δ = 15) (F : Nat) (κ : Mem) (v1 : Int32) (v2 : Int32) : ∀ r, pX11_nearest F κ v1 v2 = some r → CT Δ l yX11_nearest cX11_nearest 8 (some .int) (rmH 5) [.ref (dad Δ 0), .int v1, .int v2] κ (some (.int r.1)) r.2 :=
  ct_of (nL := 8) (ret := (some .int)) (lay := layM) (N := 15) (by decide +kernel) (fun Δ => [.ref (dad Δ 0), .int v1, .int v2]) (fun _ => oE) (fun _ => (Nat.le_of_ble_eq_true rfl)) (fun Γ hR hm hC => wX11_nearest hC hR hm F κ v1 v2) Δ l hl hN
set_option maxRecDepth 20000 in
theorem wX11_comesFrom_46 {Γ : JCtx} (hC : jC Γ cX11_comesFrom 5 RX11 (some .int) layM 15) (hR : gR Γ = rmH 1) (hm : gcells Γ ≤ (gR Γ).cells ∧ gslots Γ ≤ (gR Γ).slots) (F : Nat) (κ : Mem) (v3 : Int32) (v4 : Int32) (y0 : Int32) (y1 : Int32) (k13 : Int32 → Int32 → Option Int32) (hk13 : ∀ (v2 : Int32) (v4 : Int32), JP Γ (qf Γ (oI κ)) (k13 v2 v4) κ 13 [(0, .ref (gad Γ 0)), (2, .int v2), (3, .int v3), (4, .int v4)] []) : JP Γ (qf Γ (oI κ)) (pX11_comesFrom_46 F κ k13 v3 v4 y0 y1) κ 46 [(0, .ref (gad Γ 0)), (3, .int v3), (4, .int v4)] [.int y0, .int y1] := by
  unfold pX11_comesFrom_46
  refine j_ior hC (pc := 46) dX11_comesFrom_46 ?_
  refine j_nmi (fun x3 => ?_)
  refine j_istore_n hC (pc := 47) dX11_comesFrom_47 rfl (Nat.le_of_ble_eq_true rfl) (loc' := [(2, .int x3), (0, .ref (gad Γ 0)), (3, .int v3), (4, .int v4)]) rfl ?_
  refine j_iinc hC (pc := 48) dX11_comesFrom_48 3 rfl ki_1 (Nat.le_of_ble_eq_true rfl) (loc' := [(4, .int (v4 + 1)), (2, .int x3), (0, .ref (gad Γ 0)), (3, .int v3)]) rfl ?_
  refine j_goto hC (pc := 51) dX11_comesFrom_51 (tgt := 13) rfl ?_
  refine j_sub [2, 1, 3, 0] (loc' := [(0, .ref (gad Γ 0)), (2, .int x3), (3, .int v3), (4, .int (v4 + 1))]) rfl ?_
  exact hk13 x3 (v4 + 1)
set_option maxRecDepth 20000 in
theorem wX11_comesFrom_13 {Γ : JCtx} (hC : jC Γ cX11_comesFrom 5 RX11 (some .int) layM 15) (hR : gR Γ = rmH 1) (hm : gcells Γ ≤ (gR Γ).cells ∧ gslots Γ ≤ (gR Γ).slots) (F : Nat) (κ : Mem) (v3 : Int32) (k4 : Int32 → Int32 → Option Int32) (hk4 : ∀ (v2 : Int32) (v3 : Int32), JP Γ (qf Γ (oI κ)) (k4 v2 v3) κ 4 [(0, .ref (gad Γ 0)), (2, .int v2), (3, .int v3)] []) : ∀ (n : Nat) (v2 : Int32) (v4 : Int32), JP Γ (qf Γ (oI κ)) (pX11_comesFrom_13 F κ k4 v3 n v2 v4) κ 13 [(0, .ref (gad Γ 0)), (2, .int v2), (3, .int v3), (4, .int v4)] [] := by
  intro n
  induction n with
  | zero =>
    intro v2 v4
    rw [pX11_comesFrom_13]
    exact j_none
  | succ fu ih =>
    intro v2 v4
    rw [pX11_comesFrom_13]
    refine j_iload hC (pc := 13) dX11_comesFrom_13 3 rfl ?_
    refine j_aload_n hC (pc := 15) dX11_comesFrom_15 0 rfl rfl ?_
    refine j_callV_I hC hR (ctX11_players hC.l hC.cn κ) kc_RX11_108 (Nat.le_of_ble_eq_true rfl) (Nat.le_of_ble_eq_true rfl) lM_0 (Nat.le_of_ble_eq_true rfl) rfl (As := []) (rest := [.int v4]) rfl rfl (Nat.le_of_ble_eq_true rfl) hm (pc := 16) dX11_comesFrom_16 (fun t1 => ?_)
    refine j_icmp_ge hC (pc := 19) dX11_comesFrom_19 (tgt := 54) rfl ?_ ?_
    · refine j_iload_n hC (pc := 22) dX11_comesFrom_22 1 rfl rfl ?_
      refine j_iload_n hC (pc := 23) dX11_comesFrom_23 1 rfl rfl ?_
      refine j_iload hC (pc := 24) dX11_comesFrom_24 3 rfl ?_
      refine j_callS_I hC hR (ctX11_has hC.l hC.cn κ v2 v4) kc_RX11_88 (Nat.le_of_ble_eq_true rfl) (Nat.le_of_ble_eq_true rfl) (As := [.int v2, .int v4]) (rest := [.int v2]) rfl rfl (Nat.le_of_ble_eq_true rfl) hm (pc := 26) dX11_comesFrom_26 (fun t2 => ?_)
      refine j_if_eq hC (pc := 29) dX11_comesFrom_29 (tgt := 45) rfl ?_ ?_
      · refine j_iconst hC (pc := 45) dX11_comesFrom_45 ki_0 ?_
        refine j_sub [0, 2, 3] (loc' := [(0, .ref (gad Γ 0)), (3, .int v3), (4, .int v4)]) rfl ?_
        exact wX11_comesFrom_46 hC hR hm F κ v3 v4 0 v2 (pX11_comesFrom_13 F κ k4 v3 fu) ih
      · refine j_aload_n hC (pc := 32) dX11_comesFrom_32 0 rfl rfl ?_
        refine j_getR hC (pc := 33) dX11_comesFrom_33 kf_RX11_7 lM_0 (Nat.le_of_ble_eq_true rfl) rfl ?_
        refine j_bipush hC (pc := 36) dX11_comesFrom_36 kb_7 ?_
        refine j_iload hC (pc := 38) dX11_comesFrom_38 3 rfl ?_
        refine j_iadd hC (pc := 40) dX11_comesFrom_40 ?_
        refine j_iald hC (pc := 41) dX11_comesFrom_41 lM_1 (Nat.le_of_ble_eq_true rfl) ?_
        refine j_goto hC (pc := 42) dX11_comesFrom_42 (tgt := 46) rfl ?_
        refine j_sub [0, 2, 3] (loc' := [(0, .ref (gad Γ 0)), (3, .int v3), (4, .int v4)]) rfl ?_
        exact wX11_comesFrom_46 hC hR hm F κ v3 v4 (mi κ 1 (7 + v4).toNatClampNeg) v2 (pX11_comesFrom_13 F κ k4 v3 fu) ih
    · refine j_iinc hC (pc := 54) dX11_comesFrom_54 2 rfl ki_1 (Nat.le_of_ble_eq_true rfl) (loc' := [(3, .int (v3 + 1)), (0, .ref (gad Γ 0)), (2, .int v2), (4, .int v4)]) rfl ?_
      refine j_goto hC (pc := 57) dX11_comesFrom_57 (tgt := 4) rfl ?_
      refine j_sub [1, 2, 0] (loc' := [(0, .ref (gad Γ 0)), (2, .int v2), (3, .int (v3 + 1))]) rfl ?_
      exact hk4 v2 (v3 + 1)
set_option maxRecDepth 20000 in
theorem wX11_comesFrom_4 {Γ : JCtx} (hC : jC Γ cX11_comesFrom 5 RX11 (some .int) layM 15) (hR : gR Γ = rmH 1) (hm : gcells Γ ≤ (gR Γ).cells ∧ gslots Γ ≤ (gR Γ).slots) (F : Nat) (κ : Mem) : ∀ (n : Nat) (v2 : Int32) (v3 : Int32), JP Γ (qf Γ (oI κ)) (pX11_comesFrom_4 F κ n v2 v3) κ 4 [(0, .ref (gad Γ 0)), (2, .int v2), (3, .int v3)] [] := by
  intro n
  induction n with
  | zero =>
    intro v2 v3
    rw [pX11_comesFrom_4]
    exact j_none
  | succ fu ih =>
    intro v2 v3
    rw [pX11_comesFrom_4]
    refine j_iload_n hC (pc := 4) dX11_comesFrom_4 2 rfl rfl ?_
    refine j_bipush hC (pc := 5) dX11_comesFrom_5 kb_6 ?_
    refine j_icmp_ge hC (pc := 7) dX11_comesFrom_7 (tgt := 60) rfl ?_ ?_
    · refine j_iconst hC (pc := 10) dX11_comesFrom_10 ki_0 ?_
      refine j_istore hC (pc := 11) dX11_comesFrom_11 (Nat.le_of_ble_eq_true rfl) (loc' := [(4, .int 0), (0, .ref (gad Γ 0)), (2, .int v2), (3, .int v3)]) rfl ?_
      refine j_sub [1, 2, 3, 0] (loc' := [(0, .ref (gad Γ 0)), (2, .int v2), (3, .int v3), (4, .int 0)]) rfl ?_
      exact wX11_comesFrom_13 hC hR hm F κ v3 (pX11_comesFrom_4 F κ fu) ih F v2 0
    · refine j_iload_n hC (pc := 60) dX11_comesFrom_60 1 rfl rfl ?_
      exact j_iret hC (pc := 61) dX11_comesFrom_61 rfl rfl rfl
set_option maxRecDepth 20000 in
theorem wX11_comesFrom {Γ : JCtx} (hC : jC Γ cX11_comesFrom 5 RX11 (some .int) layM 15) (hR : gR Γ = rmH 1) (hm : gcells Γ ≤ (gR Γ).cells ∧ gslots Γ ≤ (gR Γ).slots) (F : Nat) (κ : Mem) (v1 : Int32) : JP Γ (qf Γ (oI κ)) (pX11_comesFrom F κ v1) κ 0 [(0, .ref (gad Γ 0)), (1, .int v1)] [] := by
  unfold pX11_comesFrom
  refine j_iload_n hC (pc := 0) dX11_comesFrom_0 1 rfl rfl ?_
  refine j_istore_n hC (pc := 1) dX11_comesFrom_1 rfl (Nat.le_of_ble_eq_true rfl) (loc' := [(2, .int v1), (0, .ref (gad Γ 0)), (1, .int v1)]) rfl ?_
  refine j_iconst hC (pc := 2) dX11_comesFrom_2 ki_0 ?_
  refine j_istore_n hC (pc := 3) dX11_comesFrom_3 rfl (Nat.le_of_ble_eq_true rfl) (loc' := [(3, .int 0), (2, .int v1), (0, .ref (gad Γ 0)), (1, .int v1)]) rfl ?_
  refine j_sub [2, 1, 0] (loc' := [(0, .ref (gad Γ 0)), (2, .int v1), (3, .int 0)]) rfl ?_
  exact wX11_comesFrom_4 hC hR hm F κ F v1 0
theorem ctX11_comesFrom {Δ : DCtx} {l : Launch} (hl : dlay Δ = layM) (hN : dN Δ = 15) (F : Nat) (κ : Mem) (v1 : Int32) : ∀ r, pX11_comesFrom F κ v1 = some r → CT Δ l yX11_comesFrom cX11_comesFrom 5 (some .int) (rmH 1) [.ref (dad Δ 0), .int v1] κ (some (.int r)) κ :=
  ct_of (nL := 5) (ret := (some .int)) (lay := layM) (N := 15) (by decide +kernel) (fun Δ => [.ref (dad Δ 0), .int v1]) (fun _ => oI κ) (fun _ => (Nat.le_of_ble_eq_true rfl)) (fun Γ hR hm hC => wX11_comesFrom hC hR hm F κ v1) Δ l hl hN
set_option maxRecDepth 20000 in
theorem wX11_isAcyclic_2 {Γ : JCtx} (hC : jC Γ cX11_isAcyclic 2 RX11 (some .boolean) layM 15) (hR : gR Γ = rmH 2) (hm : gcells Γ ≤ (gR Γ).cells ∧ gslots Γ ≤ (gR Γ).slots) (F : Nat) (κ : Mem) : ∀ (n : Nat) (v1 : Int32), JP Γ (qf Γ (oI κ)) (pX11_isAcyclic_2 F κ n v1) κ 2 [(0, .ref (gad Γ 0)), (1, .int v1)] [] := by
  intro n
  induction n with
  | zero =>
    intro v1
    rw [pX11_isAcyclic_2]
    exact j_none
  | succ fu ih =>
    intro v1
    rw [pX11_isAcyclic_2]
    refine j_iload_n hC (pc := 2) dX11_isAcyclic_2 1 rfl rfl ?_
    refine j_aload_n hC (pc := 3) dX11_isAcyclic_3 0 rfl rfl ?_
    refine j_callV_I hC hR (ctX11_players hC.l hC.cn κ) kc_RX11_108 (Nat.le_of_ble_eq_true rfl) (Nat.le_of_ble_eq_true rfl) lM_0 (Nat.le_of_ble_eq_true rfl) rfl (As := []) (rest := [.int v1]) rfl rfl (Nat.le_of_ble_eq_true rfl) hm (pc := 4) dX11_isAcyclic_4 (fun t1 => ?_)
    refine j_icmp_ge hC (pc := 7) dX11_isAcyclic_7 (tgt := 38) rfl ?_ ?_
    · refine j_aload_n hC (pc := 10) dX11_isAcyclic_10 0 rfl rfl ?_
      refine j_aload_n hC (pc := 11) dX11_isAcyclic_11 0 rfl rfl ?_
      refine j_getR hC (pc := 12) dX11_isAcyclic_12 kf_RX11_7 lM_0 (Nat.le_of_ble_eq_true rfl) rfl ?_
      refine j_bipush hC (pc := 15) dX11_isAcyclic_15 kb_7 ?_
      refine j_iload_n hC (pc := 17) dX11_isAcyclic_17 1 rfl rfl ?_
      refine j_iadd hC (pc := 18) dX11_isAcyclic_18 ?_
      refine j_iald hC (pc := 19) dX11_isAcyclic_19 lM_1 (Nat.le_of_ble_eq_true rfl) ?_
      refine j_callV_I hC hR (ctX11_comesFrom hC.l hC.cn F κ (mi κ 1 (7 + v1).toNatClampNeg)) kc_RX11_217 (Nat.le_of_ble_eq_true rfl) (Nat.le_of_ble_eq_true rfl) lM_0 (Nat.le_of_ble_eq_true rfl) rfl (As := [.int (mi κ 1 (7 + v1).toNatClampNeg)]) (rest := []) rfl rfl (Nat.le_of_ble_eq_true rfl) hm (pc := 20) dX11_isAcyclic_20 (fun t2 => ?_)
      refine j_iload_n hC (pc := 23) dX11_isAcyclic_23 1 rfl rfl ?_
      refine j_callS_I hC hR (ctX11_has hC.l hC.cn κ t2 v1) kc_RX11_88 (Nat.le_of_ble_eq_true rfl) (Nat.le_of_ble_eq_true rfl) (As := [.int t2, .int v1]) (rest := []) rfl rfl (Nat.le_of_ble_eq_true rfl) hm (pc := 24) dX11_isAcyclic_24 (fun t3 => ?_)
      refine j_if_eq hC (pc := 27) dX11_isAcyclic_27 (tgt := 32) rfl ?_ ?_
      · refine j_iinc hC (pc := 32) dX11_isAcyclic_32 1 rfl ki_1 (Nat.le_of_ble_eq_true rfl) (loc' := [(1, .int (v1 + 1)), (0, .ref (gad Γ 0))]) rfl ?_
        refine j_goto hC (pc := 35) dX11_isAcyclic_35 (tgt := 2) rfl ?_
        refine j_sub [1, 0] (loc' := [(0, .ref (gad Γ 0)), (1, .int (v1 + 1))]) rfl ?_
        exact ih (v1 + 1)
      · refine j_iconst hC (pc := 30) dX11_isAcyclic_30 ki_0 ?_
        exact j_iret hC (pc := 31) dX11_isAcyclic_31 rfl rfl rfl
    · refine j_iconst hC (pc := 38) dX11_isAcyclic_38 ki_1 ?_
      exact j_iret hC (pc := 39) dX11_isAcyclic_39 rfl rfl rfl
set_option maxRecDepth 20000 in
theorem wX11_isAcyclic {Γ : JCtx} (hC : jC Γ cX11_isAcyclic 2 RX11 (some .boolean) layM 15) (hR : gR Γ = rmH 2) (hm : gcells Γ ≤ (gR Γ).cells ∧ gslots Γ ≤ (gR Γ).slots) (F : Nat) (κ : Mem) : JP Γ (qf Γ (oI κ)) (pX11_isAcyclic F κ) κ 0 [(0, .ref (gad Γ 0))] [] := by
  unfold pX11_isAcyclic
  refine j_iconst hC (pc := 0) dX11_isAcyclic_0 ki_0 ?_
  refine j_istore_n hC (pc := 1) dX11_isAcyclic_1 rfl (Nat.le_of_ble_eq_true rfl) (loc' := [(1, .int 0), (0, .ref (gad Γ 0))]) rfl ?_
  refine j_sub [1, 0] (loc' := [(0, .ref (gad Γ 0)), (1, .int 0)]) rfl ?_
  exact wX11_isAcyclic_2 hC hR hm F κ F 0
theorem ctX11_isAcyclic {Δ : DCtx} {l : Launch} (hl : dlay Δ = layM) (hN : dN Δ = 15) (F : Nat) (κ : Mem) : ∀ r, pX11_isAcyclic F κ = some r → CT Δ l yX11_isAcyclic cX11_isAcyclic 2 (some .boolean) (rmH 2) [.ref (dad Δ 0)] κ (some (.int r)) κ :=
  ct_of (nL := 2) (ret := (some .boolean)) (lay := layM) (N := 15) (by decide +kernel) (fun Δ => [.ref (dad Δ 0)]) (fun _ => oI κ) (fun _ => (Nat.le_of_ble_eq_true rfl)) (fun Γ hR hm hC => wX11_isAcyclic hC hR hm F κ) Δ l hl hN
set_option maxRecDepth 20000 in
theorem wX11_acyclic_20 {Γ : JCtx} (hC : jC Γ cX11_acyclic 1 RX11 (some .int) layM 15) (hR : gR Γ = rmH 3) (hm : gcells Γ ≤ (gR Γ).cells ∧ gslots Γ ≤ (gR Γ).slots) (F : Nat) (κ : Mem) (y0 : Int32) : JP Γ (qf Γ oE) (pX11_acyclic_20 F κ y0) κ 20 [] [.int y0] := by
  unfold pX11_acyclic_20
  exact j_iret hC (pc := 20) dX11_acyclic_20 rfl rfl rfl
set_option maxRecDepth 20000 in
theorem wX11_acyclic_19 {Γ : JCtx} (hC : jC Γ cX11_acyclic 1 RX11 (some .int) layM 15) (hR : gR Γ = rmH 3) (hm : gcells Γ ≤ (gR Γ).cells ∧ gslots Γ ≤ (gR Γ).slots) (F : Nat) (κ : Mem) : JP Γ (qf Γ oE) (pX11_acyclic_19 F κ) κ 19 [] [] := by
  unfold pX11_acyclic_19
  refine j_iconst hC (pc := 19) dX11_acyclic_19 ki_0 ?_
  exact wX11_acyclic_20 hC hR hm F κ 0
set_option maxRecDepth 20000 in
theorem wX11_acyclic {Γ : JCtx} (hC : jC Γ cX11_acyclic 1 RX11 (some .int) layM 15) (hR : gR Γ = rmH 3) (hm : gcells Γ ≤ (gR Γ).cells ∧ gslots Γ ≤ (gR Γ).slots) (F : Nat) (κ : Mem) : JP Γ (qf Γ oE) (pX11_acyclic F κ) κ 0 [(0, .ref (gad Γ 0))] [] := by
  unfold pX11_acyclic
  refine j_aload_n hC (pc := 0) dX11_acyclic_0 0 rfl rfl ?_
  refine j_iconst hC (pc := 1) dX11_acyclic_1 ki_0 ?_
  refine j_callV_E hC hR (ctX11_is hC.l hC.cn κ 0) kc_RX11_145 (Nat.le_of_ble_eq_true rfl) (Nat.le_of_ble_eq_true rfl) lM_0 (Nat.le_of_ble_eq_true rfl) rfl (As := [.int 0]) (rest := []) rfl rfl (Nat.le_of_ble_eq_true rfl) hm (pc := 2) dX11_acyclic_2 (fun t1 => ?_)
  refine j_if_eq hC (pc := 5) dX11_acyclic_5 (tgt := 19) rfl ?_ ?_
  · refine j_sub [] (loc' := []) rfl ?_
    exact wX11_acyclic_19 hC hR hm F t1.2
  · refine j_aload_n hC (pc := 8) dX11_acyclic_8 0 rfl rfl ?_
    refine j_callV_I hC hR (ctX11_isAcyclic hC.l hC.cn F t1.2) kc_RX11_220 (Nat.le_of_ble_eq_true rfl) (Nat.le_of_ble_eq_true rfl) lM_0 (Nat.le_of_ble_eq_true rfl) rfl (As := []) (rest := []) rfl rfl (Nat.le_of_ble_eq_true rfl) hm (pc := 9) dX11_acyclic_9 (fun t2 => ?_)
    refine j_if_eq hC (pc := 12) dX11_acyclic_12 (tgt := 19) rfl ?_ ?_
    · refine j_sub [] (loc' := []) rfl ?_
      exact wX11_acyclic_19 hC hR hm F t1.2
    · refine j_iconst hC (pc := 15) dX11_acyclic_15 ki_1 ?_
      refine j_goto hC (pc := 16) dX11_acyclic_16 (tgt := 20) rfl ?_
      refine j_sub [] (loc' := []) rfl ?_
      exact wX11_acyclic_20 hC hR hm F t1.2 1
theorem ctX11_acyclic {Δ : DCtx} {l : Launch} (hl : dlay Δ = layM) (hN : dN Δ = 15) (F : Nat) (κ : Mem) : ∀ r, pX11_acyclic F κ = some r → CT Δ l yX11_acyclic cX11_acyclic 1 (some .int) (rmH 3) [.ref (dad Δ 0)] κ (some (.int r.1)) r.2 :=
  ct_of (nL := 1) (ret := (some .int)) (lay := layM) (N := 15) (by decide +kernel) (fun Δ => [.ref (dad Δ 0)]) (fun _ => oE) (fun _ => (Nat.le_of_ble_eq_true rfl)) (fun Γ hR hm hC => wX11_acyclic hC hR hm F κ) Δ l hl hN
set_option maxRecDepth 20000 in
theorem wX11_always_32 {Γ : JCtx} (hC : jC Γ cX11_always 3 RX11 (some .int) layM 15) (hR : gR Γ = rmH 3) (hm : gcells Γ ≤ (gR Γ).cells ∧ gslots Γ ≤ (gR Γ).slots) (F : Nat) (κ : Mem) : ∀ (n : Nat) (v1 : Int32) (v2 : Int32), JP Γ (qf Γ oE) (pX11_always_32 F κ n v1 v2) κ 32 [(0, .ref (gad Γ 0)), (1, .int v1), (2, .int v2)] [] := by
  intro n
  induction n with
  | zero =>
    intro v1 v2
    rw [pX11_always_32]
    exact j_none
  | succ fu ih =>
    intro v1 v2
    rw [pX11_always_32]
    refine j_iload_n hC (pc := 32) dX11_always_32 2 rfl rfl ?_
    refine j_aload_n hC (pc := 33) dX11_always_33 0 rfl rfl ?_
    refine j_callV_I hC hR (ctX11_players hC.l hC.cn κ) kc_RX11_108 (Nat.le_of_ble_eq_true rfl) (Nat.le_of_ble_eq_true rfl) lM_0 (Nat.le_of_ble_eq_true rfl) rfl (As := []) (rest := [.int v2]) rfl rfl (Nat.le_of_ble_eq_true rfl) hm (pc := 34) dX11_always_34 (fun t3 => ?_)
    refine j_icmp_ge hC (pc := 37) dX11_always_37 (tgt := 56) rfl ?_ ?_
    · refine j_iload_n hC (pc := 40) dX11_always_40 1 rfl rfl ?_
      refine j_aload_n hC (pc := 41) dX11_always_41 0 rfl rfl ?_
      refine j_iload_n hC (pc := 42) dX11_always_42 2 rfl rfl ?_
      refine j_callV_I hC hR (ctX11_hats hC.l hC.cn κ v2) kc_RX11_111 (Nat.le_of_ble_eq_true rfl) (Nat.le_of_ble_eq_true rfl) lM_0 (Nat.le_of_ble_eq_true rfl) rfl (As := [.int v2]) (rest := [.int v1]) rfl rfl (Nat.le_of_ble_eq_true rfl) hm (pc := 43) dX11_always_43 (fun t4 => ?_)
      refine j_iconst hC (pc := 46) dX11_always_46 ki_1 ?_
      refine j_isub hC (pc := 47) dX11_always_47 ?_
      refine j_imul hC (pc := 48) dX11_always_48 ?_
      refine j_nmi (fun x5 => ?_)
      refine j_istore_n hC (pc := 49) dX11_always_49 rfl (Nat.le_of_ble_eq_true rfl) (loc' := [(1, .int x5), (0, .ref (gad Γ 0)), (2, .int v2)]) rfl ?_
      refine j_iinc hC (pc := 50) dX11_always_50 2 rfl ki_1 (Nat.le_of_ble_eq_true rfl) (loc' := [(2, .int (v2 + 1)), (1, .int x5), (0, .ref (gad Γ 0))]) rfl ?_
      refine j_goto hC (pc := 53) dX11_always_53 (tgt := 32) rfl ?_
      refine j_sub [2, 1, 0] (loc' := [(0, .ref (gad Γ 0)), (1, .int x5), (2, .int (v2 + 1))]) rfl ?_
      exact ih x5 (v2 + 1)
    · refine j_iload_n hC (pc := 56) dX11_always_56 1 rfl rfl ?_
      exact j_iret hC (pc := 57) dX11_always_57 rfl rfl rfl
set_option maxRecDepth 20000 in
theorem wX11_always_20 {Γ : JCtx} (hC : jC Γ cX11_always 3 RX11 (some .int) layM 15) (hR : gR Γ = rmH 3) (hm : gcells Γ ≤ (gR Γ).cells ∧ gslots Γ ≤ (gR Γ).slots) (F : Nat) (κ : Mem) (y0 : Int32) : JP Γ (qf Γ oE) (pX11_always_20 F κ y0) κ 20 [(0, .ref (gad Γ 0))] [.int y0, .ref (gad Γ 0)] := by
  unfold pX11_always_20
  refine j_callV_E hC hR (ctX11_is hC.l hC.cn κ y0) kc_RX11_145 (Nat.le_of_ble_eq_true rfl) (Nat.le_of_ble_eq_true rfl) lM_0 (Nat.le_of_ble_eq_true rfl) rfl (As := [.int y0]) (rest := []) rfl rfl (Nat.le_of_ble_eq_true rfl) hm (pc := 20) dX11_always_20 (fun t2 => ?_)
  refine j_if_ne hC (pc := 23) dX11_always_23 (tgt := 28) rfl ?_ ?_
  · refine j_iconst hC (pc := 26) dX11_always_26 ki_m1 ?_
    exact j_iret hC (pc := 27) dX11_always_27 rfl rfl rfl
  · refine j_iconst hC (pc := 28) dX11_always_28 ki_1 ?_
    refine j_istore_n hC (pc := 29) dX11_always_29 rfl (Nat.le_of_ble_eq_true rfl) (loc' := [(1, .int 1), (0, .ref (gad Γ 0))]) rfl ?_
    refine j_iconst hC (pc := 30) dX11_always_30 ki_0 ?_
    refine j_istore_n hC (pc := 31) dX11_always_31 rfl (Nat.le_of_ble_eq_true rfl) (loc' := [(2, .int 0), (1, .int 1), (0, .ref (gad Γ 0))]) rfl ?_
    refine j_sub [2, 1, 0] (loc' := [(0, .ref (gad Γ 0)), (1, .int 1), (2, .int 0)]) rfl ?_
    exact wX11_always_32 hC hR hm F t2.2 F 1 0
set_option maxRecDepth 20000 in
theorem wX11_always_15 {Γ : JCtx} (hC : jC Γ cX11_always 3 RX11 (some .int) layM 15) (hR : gR Γ = rmH 3) (hm : gcells Γ ≤ (gR Γ).cells ∧ gslots Γ ≤ (gR Γ).slots) (F : Nat) (κ : Mem) : JP Γ (qf Γ oE) (pX11_always_15 F κ) κ 15 [(0, .ref (gad Γ 0))] [.ref (gad Γ 0)] := by
  unfold pX11_always_15
  refine j_iconst hC (pc := 15) dX11_always_15 ki_5 ?_
  refine j_goto hC (pc := 16) dX11_always_16 (tgt := 20) rfl ?_
  exact wX11_always_20 hC hR hm F κ 5
set_option maxRecDepth 20000 in
theorem wX11_always {Γ : JCtx} (hC : jC Γ cX11_always 3 RX11 (some .int) layM 15) (hR : gR Γ = rmH 3) (hm : gcells Γ ≤ (gR Γ).cells ∧ gslots Γ ≤ (gR Γ).slots) (F : Nat) (κ : Mem) : JP Γ (qf Γ oE) (pX11_always F κ) κ 0 [(0, .ref (gad Γ 0))] [] := by
  unfold pX11_always
  refine j_aload_n hC (pc := 0) dX11_always_0 0 rfl rfl ?_
  refine j_aload_n hC (pc := 1) dX11_always_1 0 rfl rfl ?_
  refine j_callV_I hC hR (ctX11_players hC.l hC.cn κ) kc_RX11_108 (Nat.le_of_ble_eq_true rfl) (Nat.le_of_ble_eq_true rfl) lM_0 (Nat.le_of_ble_eq_true rfl) rfl (As := []) (rest := [.ref (gad Γ 0)]) rfl rfl (Nat.le_of_ble_eq_true rfl) hm (pc := 2) dX11_always_2 (fun t1 => ?_)
  refine j_if_eq hC (pc := 5) dX11_always_5 (tgt := 15) rfl ?_ ?_
  · exact wX11_always_15 hC hR hm F κ
  · refine j_aload_n hC (pc := 8) dX11_always_8 0 rfl rfl ?_
    refine j_callV_I hC hR (ctX11_isAcyclic hC.l hC.cn F κ) kc_RX11_220 (Nat.le_of_ble_eq_true rfl) (Nat.le_of_ble_eq_true rfl) lM_0 (Nat.le_of_ble_eq_true rfl) rfl (As := []) (rest := [.ref (gad Γ 0)]) rfl rfl (Nat.le_of_ble_eq_true rfl) hm (pc := 9) dX11_always_9 (fun t6 => ?_)
    refine j_if_ne hC (pc := 12) dX11_always_12 (tgt := 19) rfl ?_ ?_
    · exact wX11_always_15 hC hR hm F κ
    · refine j_iconst hC (pc := 19) dX11_always_19 ki_0 ?_
      exact wX11_always_20 hC hR hm F κ 0
theorem ctX11_always {Δ : DCtx} {l : Launch} (hl : dlay Δ = layM) (hN : dN Δ = 15) (F : Nat) (κ : Mem) : ∀ r, pX11_always F κ = some r → CT Δ l yX11_always cX11_always 3 (some .int) (rmH 3) [.ref (dad Δ 0)] κ (some (.int r.1)) r.2 :=
  ct_of (nL := 3) (ret := (some .int)) (lay := layM) (N := 15) (by decide +kernel) (fun Δ => [.ref (dad Δ 0)]) (fun _ => oE) (fun _ => (Nat.le_of_ble_eq_true rfl)) (fun Γ hR hm hC => wX11_always hC hR hm F κ) Δ l hl hN
set_option maxRecDepth 20000 in
theorem wX11_isBlind_34 {Γ : JCtx} (hC : jC Γ cX11_isBlind 3 RX11 (some .boolean) layM 15) (hR : gR Γ = rmH 1) (hm : gcells Γ ≤ (gR Γ).cells ∧ gslots Γ ≤ (gR Γ).slots) (F : Nat) (κ : Mem) (v1 : Int32) (v2 : Int32) (k2 : Int32 → Option Int32) (hk2 : ∀ (v2 : Int32), JP Γ (qf Γ (oI κ)) (k2 v2) κ 2 [(0, .ref (gad Γ 0)), (1, .int v1), (2, .int v2)] []) : JP Γ (qf Γ (oI κ)) (pX11_isBlind_34 F κ k2 v1 v2) κ 34 [(0, .ref (gad Γ 0)), (1, .int v1), (2, .int v2)] [] := by
  unfold pX11_isBlind_34
  refine j_iinc hC (pc := 34) dX11_isBlind_34 2 rfl ki_1 (Nat.le_of_ble_eq_true rfl) (loc' := [(2, .int (v2 + 1)), (0, .ref (gad Γ 0)), (1, .int v1)]) rfl ?_
  refine j_goto hC (pc := 37) dX11_isBlind_37 (tgt := 2) rfl ?_
  refine j_sub [1, 2, 0] (loc' := [(0, .ref (gad Γ 0)), (1, .int v1), (2, .int (v2 + 1))]) rfl ?_
  exact hk2 (v2 + 1)
set_option maxRecDepth 20000 in
theorem wX11_isBlind_2 {Γ : JCtx} (hC : jC Γ cX11_isBlind 3 RX11 (some .boolean) layM 15) (hR : gR Γ = rmH 1) (hm : gcells Γ ≤ (gR Γ).cells ∧ gslots Γ ≤ (gR Γ).slots) (F : Nat) (κ : Mem) (v1 : Int32) : ∀ (n : Nat) (v2 : Int32), JP Γ (qf Γ (oI κ)) (pX11_isBlind_2 F κ v1 n v2) κ 2 [(0, .ref (gad Γ 0)), (1, .int v1), (2, .int v2)] [] := by
  intro n
  induction n with
  | zero =>
    intro v2
    rw [pX11_isBlind_2]
    exact j_none
  | succ fu ih =>
    intro v2
    rw [pX11_isBlind_2]
    refine j_iload_n hC (pc := 2) dX11_isBlind_2 2 rfl rfl ?_
    refine j_aload_n hC (pc := 3) dX11_isBlind_3 0 rfl rfl ?_
    refine j_callV_I hC hR (ctX11_players hC.l hC.cn κ) kc_RX11_108 (Nat.le_of_ble_eq_true rfl) (Nat.le_of_ble_eq_true rfl) lM_0 (Nat.le_of_ble_eq_true rfl) rfl (As := []) (rest := [.int v2]) rfl rfl (Nat.le_of_ble_eq_true rfl) hm (pc := 4) dX11_isBlind_4 (fun t1 => ?_)
    refine j_icmp_ge hC (pc := 7) dX11_isBlind_7 (tgt := 40) rfl ?_ ?_
    · refine j_iload_n hC (pc := 10) dX11_isBlind_10 1 rfl rfl ?_
      refine j_iload_n hC (pc := 11) dX11_isBlind_11 2 rfl rfl ?_
      refine j_callS_I hC hR (ctX11_has hC.l hC.cn κ v1 v2) kc_RX11_88 (Nat.le_of_ble_eq_true rfl) (Nat.le_of_ble_eq_true rfl) (As := [.int v1, .int v2]) (rest := []) rfl rfl (Nat.le_of_ble_eq_true rfl) hm (pc := 12) dX11_isBlind_12 (fun t2 => ?_)
      refine j_if_eq hC (pc := 15) dX11_isBlind_15 (tgt := 34) rfl ?_ ?_
      · exact wX11_isBlind_34 hC hR hm F κ v1 v2 (pX11_isBlind_2 F κ v1 fu) ih
      · refine j_aload_n hC (pc := 18) dX11_isBlind_18 0 rfl rfl ?_
        refine j_getR hC (pc := 19) dX11_isBlind_19 kf_RX11_7 lM_0 (Nat.le_of_ble_eq_true rfl) rfl ?_
        refine j_bipush hC (pc := 22) dX11_isBlind_22 kb_7 ?_
        refine j_iload_n hC (pc := 24) dX11_isBlind_24 2 rfl rfl ?_
        refine j_iadd hC (pc := 25) dX11_isBlind_25 ?_
        refine j_iald hC (pc := 26) dX11_isBlind_26 lM_1 (Nat.le_of_ble_eq_true rfl) ?_
        refine j_iload_n hC (pc := 27) dX11_isBlind_27 1 rfl rfl ?_
        refine j_iand hC (pc := 28) dX11_isBlind_28 ?_
        refine j_if_eq hC (pc := 29) dX11_isBlind_29 (tgt := 34) rfl ?_ ?_
        · exact wX11_isBlind_34 hC hR hm F κ v1 v2 (pX11_isBlind_2 F κ v1 fu) ih
        · refine j_iconst hC (pc := 32) dX11_isBlind_32 ki_0 ?_
          exact j_iret hC (pc := 33) dX11_isBlind_33 rfl rfl rfl
    · refine j_iconst hC (pc := 40) dX11_isBlind_40 ki_1 ?_
      exact j_iret hC (pc := 41) dX11_isBlind_41 rfl rfl rfl
set_option maxRecDepth 20000 in
theorem wX11_isBlind {Γ : JCtx} (hC : jC Γ cX11_isBlind 3 RX11 (some .boolean) layM 15) (hR : gR Γ = rmH 1) (hm : gcells Γ ≤ (gR Γ).cells ∧ gslots Γ ≤ (gR Γ).slots) (F : Nat) (κ : Mem) (v1 : Int32) : JP Γ (qf Γ (oI κ)) (pX11_isBlind F κ v1) κ 0 [(0, .ref (gad Γ 0)), (1, .int v1)] [] := by
  unfold pX11_isBlind
  refine j_iconst hC (pc := 0) dX11_isBlind_0 ki_0 ?_
  refine j_istore_n hC (pc := 1) dX11_isBlind_1 rfl (Nat.le_of_ble_eq_true rfl) (loc' := [(2, .int 0), (0, .ref (gad Γ 0)), (1, .int v1)]) rfl ?_
  refine j_sub [1, 2, 0] (loc' := [(0, .ref (gad Γ 0)), (1, .int v1), (2, .int 0)]) rfl ?_
  exact wX11_isBlind_2 hC hR hm F κ v1 F 0
theorem ctX11_isBlind {Δ : DCtx} {l : Launch} (hl : dlay Δ = layM) (hN : dN Δ = 15) (F : Nat) (κ : Mem) (v1 : Int32) : ∀ r, pX11_isBlind F κ v1 = some r → CT Δ l yX11_isBlind cX11_isBlind 3 (some .boolean) (rmH 1) [.ref (dad Δ 0), .int v1] κ (some (.int r)) κ :=
  ct_of (nL := 3) (ret := (some .boolean)) (lay := layM) (N := 15) (by decide +kernel) (fun Δ => [.ref (dad Δ 0), .int v1]) (fun _ => oI κ) (fun _ => (Nat.le_of_ble_eq_true rfl)) (fun Γ hR hm hC => wX11_isBlind hC hR hm F κ v1) Δ l hl hN
set_option maxRecDepth 20000 in
theorem wX11_blind_57 {Γ : JCtx} (hC : jC Γ cX11_blind 3 RX11 (some .int) layM 15) (hR : gR Γ = rmH 2) (hm : gcells Γ ≤ (gR Γ).cells ∧ gslots Γ ≤ (gR Γ).slots) (F : Nat) (κ : Mem) (v2 : Int32) (y0 : Int32) (k25 : Int32 → Int32 → Option (Int32 × Mem)) (hk25 : ∀ (v1 : Int32) (v2 : Int32), JP Γ (qf Γ oE) (k25 v1 v2) κ 25 [(0, .ref (gad Γ 0)), (1, .int v1), (2, .int v2)] []) : JP Γ (qf Γ oE) (pX11_blind_57 F k25 κ v2 y0) κ 57 [(0, .ref (gad Γ 0)), (2, .int v2)] [.int y0] := by
  unfold pX11_blind_57
  refine j_istore_n hC (pc := 57) dX11_blind_57 rfl (Nat.le_of_ble_eq_true rfl) (loc' := [(1, .int y0), (0, .ref (gad Γ 0)), (2, .int v2)]) rfl ?_
  refine j_iinc hC (pc := 58) dX11_blind_58 2 rfl ki_1 (Nat.le_of_ble_eq_true rfl) (loc' := [(2, .int (v2 + 1)), (1, .int y0), (0, .ref (gad Γ 0))]) rfl ?_
  refine j_goto hC (pc := 61) dX11_blind_61 (tgt := 25) rfl ?_
  refine j_sub [2, 1, 0] (loc' := [(0, .ref (gad Γ 0)), (1, .int y0), (2, .int (v2 + 1))]) rfl ?_
  exact hk25 y0 (v2 + 1)
set_option maxRecDepth 20000 in
theorem wX11_blind_56 {Γ : JCtx} (hC : jC Γ cX11_blind 3 RX11 (some .int) layM 15) (hR : gR Γ = rmH 2) (hm : gcells Γ ≤ (gR Γ).cells ∧ gslots Γ ≤ (gR Γ).slots) (F : Nat) (κ : Mem) (v1 : Int32) (v2 : Int32) (k25 : Int32 → Int32 → Option (Int32 × Mem)) (hk25 : ∀ (v1 : Int32) (v2 : Int32), JP Γ (qf Γ oE) (k25 v1 v2) κ 25 [(0, .ref (gad Γ 0)), (1, .int v1), (2, .int v2)] []) : JP Γ (qf Γ oE) (pX11_blind_56 F k25 κ v1 v2) κ 56 [(0, .ref (gad Γ 0)), (1, .int v1), (2, .int v2)] [] := by
  unfold pX11_blind_56
  refine j_iload_n hC (pc := 56) dX11_blind_56 1 rfl rfl ?_
  refine j_sub [0, 2] (loc' := [(0, .ref (gad Γ 0)), (2, .int v2)]) rfl ?_
  exact wX11_blind_57 hC hR hm F κ v2 v1 k25 hk25
set_option maxRecDepth 20000 in
theorem wX11_blind_25 {Γ : JCtx} (hC : jC Γ cX11_blind 3 RX11 (some .int) layM 15) (hR : gR Γ = rmH 2) (hm : gcells Γ ≤ (gR Γ).cells ∧ gslots Γ ≤ (gR Γ).slots) (F : Nat) (κ : Mem) : ∀ (n : Nat) (v1 : Int32) (v2 : Int32), JP Γ (qf Γ oE) (pX11_blind_25 F κ n v1 v2) κ 25 [(0, .ref (gad Γ 0)), (1, .int v1), (2, .int v2)] [] := by
  intro n
  induction n with
  | zero =>
    intro v1 v2
    rw [pX11_blind_25]
    exact j_none
  | succ fu ih =>
    intro v1 v2
    rw [pX11_blind_25]
    refine j_iload_n hC (pc := 25) dX11_blind_25 2 rfl rfl ?_
    refine j_aload_n hC (pc := 26) dX11_blind_26 0 rfl rfl ?_
    refine j_callV_I hC hR (ctX11_all hC.l hC.cn κ) kc_RX11_96 (Nat.le_of_ble_eq_true rfl) (Nat.le_of_ble_eq_true rfl) lM_0 (Nat.le_of_ble_eq_true rfl) rfl (As := []) (rest := [.int v2]) rfl rfl (Nat.le_of_ble_eq_true rfl) hm (pc := 27) dX11_blind_27 (fun t3 => ?_)
    refine j_icmp_gt hC (pc := 30) dX11_blind_30 (tgt := 64) rfl ?_ ?_
    · refine j_iload_n hC (pc := 33) dX11_blind_33 2 rfl rfl ?_
      refine j_callS_I hC hR (ctX11_ones hC.l hC.cn F κ v2) kc_RX11_149 (Nat.le_of_ble_eq_true rfl) (Nat.le_of_ble_eq_true rfl) (As := [.int v2]) (rest := []) rfl rfl (Nat.le_of_ble_eq_true rfl) hm (pc := 34) dX11_blind_34 (fun t4 => ?_)
      refine j_iload_n hC (pc := 37) dX11_blind_37 1 rfl rfl ?_
      refine j_callS_I hC hR (ctX11_ones hC.l hC.cn F κ v1) kc_RX11_149 (Nat.le_of_ble_eq_true rfl) (Nat.le_of_ble_eq_true rfl) (As := [.int v1]) (rest := [.int t4]) rfl rfl (Nat.le_of_ble_eq_true rfl) hm (pc := 38) dX11_blind_38 (fun t5 => ?_)
      refine j_icmp_le hC (pc := 41) dX11_blind_41 (tgt := 56) rfl ?_ ?_
      · exact wX11_blind_56 hC hR hm F κ v1 v2 (pX11_blind_25 F κ fu) ih
      · refine j_aload_n hC (pc := 44) dX11_blind_44 0 rfl rfl ?_
        refine j_iload_n hC (pc := 45) dX11_blind_45 2 rfl rfl ?_
        refine j_callV_I hC hR (ctX11_isBlind hC.l hC.cn F κ v2) kc_RX11_223 (Nat.le_of_ble_eq_true rfl) (Nat.le_of_ble_eq_true rfl) lM_0 (Nat.le_of_ble_eq_true rfl) rfl (As := [.int v2]) (rest := []) rfl rfl (Nat.le_of_ble_eq_true rfl) hm (pc := 46) dX11_blind_46 (fun t6 => ?_)
        refine j_if_eq hC (pc := 49) dX11_blind_49 (tgt := 56) rfl ?_ ?_
        · exact wX11_blind_56 hC hR hm F κ v1 v2 (pX11_blind_25 F κ fu) ih
        · refine j_iload_n hC (pc := 52) dX11_blind_52 2 rfl rfl ?_
          refine j_goto hC (pc := 53) dX11_blind_53 (tgt := 57) rfl ?_
          refine j_sub [0, 2] (loc' := [(0, .ref (gad Γ 0)), (2, .int v2)]) rfl ?_
          exact wX11_blind_57 hC hR hm F κ v2 v2 (pX11_blind_25 F κ fu) ih
    · refine j_iload_n hC (pc := 64) dX11_blind_64 1 rfl rfl ?_
      exact j_iret hC (pc := 65) dX11_blind_65 rfl rfl rfl
set_option maxRecDepth 20000 in
theorem wX11_blind_13 {Γ : JCtx} (hC : jC Γ cX11_blind 3 RX11 (some .int) layM 15) (hR : gR Γ = rmH 2) (hm : gcells Γ ≤ (gR Γ).cells ∧ gslots Γ ≤ (gR Γ).slots) (F : Nat) (κ : Mem) (y0 : Int32) : JP Γ (qf Γ oE) (pX11_blind_13 F κ y0) κ 13 [(0, .ref (gad Γ 0))] [.int y0, .ref (gad Γ 0)] := by
  unfold pX11_blind_13
  refine j_callV_E hC hR (ctX11_is hC.l hC.cn κ y0) kc_RX11_145 (Nat.le_of_ble_eq_true rfl) (Nat.le_of_ble_eq_true rfl) lM_0 (Nat.le_of_ble_eq_true rfl) rfl (As := [.int y0]) (rest := []) rfl rfl (Nat.le_of_ble_eq_true rfl) hm (pc := 13) dX11_blind_13 (fun t2 => ?_)
  refine j_if_ne hC (pc := 16) dX11_blind_16 (tgt := 21) rfl ?_ ?_
  · refine j_iconst hC (pc := 19) dX11_blind_19 ki_m1 ?_
    exact j_iret hC (pc := 20) dX11_blind_20 rfl rfl rfl
  · refine j_iconst hC (pc := 21) dX11_blind_21 ki_0 ?_
    refine j_istore_n hC (pc := 22) dX11_blind_22 rfl (Nat.le_of_ble_eq_true rfl) (loc' := [(1, .int 0), (0, .ref (gad Γ 0))]) rfl ?_
    refine j_iconst hC (pc := 23) dX11_blind_23 ki_1 ?_
    refine j_istore_n hC (pc := 24) dX11_blind_24 rfl (Nat.le_of_ble_eq_true rfl) (loc' := [(2, .int 1), (1, .int 0), (0, .ref (gad Γ 0))]) rfl ?_
    refine j_sub [2, 1, 0] (loc' := [(0, .ref (gad Γ 0)), (1, .int 0), (2, .int 1)]) rfl ?_
    exact wX11_blind_25 hC hR hm F t2.2 F 0 1
set_option maxRecDepth 20000 in
theorem wX11_blind {Γ : JCtx} (hC : jC Γ cX11_blind 3 RX11 (some .int) layM 15) (hR : gR Γ = rmH 2) (hm : gcells Γ ≤ (gR Γ).cells ∧ gslots Γ ≤ (gR Γ).slots) (F : Nat) (κ : Mem) : JP Γ (qf Γ oE) (pX11_blind F κ) κ 0 [(0, .ref (gad Γ 0))] [] := by
  unfold pX11_blind
  refine j_aload_n hC (pc := 0) dX11_blind_0 0 rfl rfl ?_
  refine j_aload_n hC (pc := 1) dX11_blind_1 0 rfl rfl ?_
  refine j_callV_I hC hR (ctX11_players hC.l hC.cn κ) kc_RX11_108 (Nat.le_of_ble_eq_true rfl) (Nat.le_of_ble_eq_true rfl) lM_0 (Nat.le_of_ble_eq_true rfl) rfl (As := []) (rest := [.ref (gad Γ 0)]) rfl rfl (Nat.le_of_ble_eq_true rfl) hm (pc := 2) dX11_blind_2 (fun t1 => ?_)
  refine j_if_ne hC (pc := 5) dX11_blind_5 (tgt := 12) rfl ?_ ?_
  · refine j_iconst hC (pc := 8) dX11_blind_8 ki_5 ?_
    refine j_goto hC (pc := 9) dX11_blind_9 (tgt := 13) rfl ?_
    exact wX11_blind_13 hC hR hm F κ 5
  · refine j_iconst hC (pc := 12) dX11_blind_12 ki_0 ?_
    exact wX11_blind_13 hC hR hm F κ 0
theorem ctX11_blind {Δ : DCtx} {l : Launch} (hl : dlay Δ = layM) (hN : dN Δ = 15) (F : Nat) (κ : Mem) : ∀ r, pX11_blind F κ = some r → CT Δ l yX11_blind cX11_blind 3 (some .int) (rmH 2) [.ref (dad Δ 0)] κ (some (.int r.1)) r.2 :=
  ct_of (nL := 3) (ret := (some .int)) (lay := layM) (N := 15) (by decide +kernel) (fun Δ => [.ref (dad Δ 0)]) (fun _ => oE) (fun _ => (Nat.le_of_ble_eq_true rfl)) (fun Γ hR hm hC => wX11_blind hC hR hm F κ) Δ l hl hN
set_option maxRecDepth 20000 in
theorem wX11_twelfths_33 {Γ : JCtx} (hC : jC Γ cX11_twelfths 4 RX11 (some .int) layM 15) (hR : gR Γ = rmH 1) (hm : gcells Γ ≤ (gR Γ).cells ∧ gslots Γ ≤ (gR Γ).slots) (F : Nat) (κ : Mem) (v1 : Int32) (v3 : Int32) (y0 : Int32) (y1 : Int32) (k4 : Int32 → Int32 → Option Int32) (hk4 : ∀ (v2 : Int32) (v3 : Int32), JP Γ (qf Γ (oI κ)) (k4 v2 v3) κ 4 [(0, .ref (gad Γ 0)), (1, .int v1), (2, .int v2), (3, .int v3)] []) : JP Γ (qf Γ (oI κ)) (pX11_twelfths_33 F κ k4 v1 v3 y0 y1) κ 33 [(0, .ref (gad Γ 0)), (1, .int v1), (3, .int v3)] [.int y0, .int y1] := by
  unfold pX11_twelfths_33
  refine j_iadd hC (pc := 33) dX11_twelfths_33 ?_
  refine j_nmi (fun x3 => ?_)
  refine j_istore_n hC (pc := 34) dX11_twelfths_34 rfl (Nat.le_of_ble_eq_true rfl) (loc' := [(2, .int x3), (0, .ref (gad Γ 0)), (1, .int v1), (3, .int v3)]) rfl ?_
  refine j_iinc hC (pc := 35) dX11_twelfths_35 3 rfl ki_1 (Nat.le_of_ble_eq_true rfl) (loc' := [(3, .int (v3 + 1)), (2, .int x3), (0, .ref (gad Γ 0)), (1, .int v1)]) rfl ?_
  refine j_goto hC (pc := 38) dX11_twelfths_38 (tgt := 4) rfl ?_
  refine j_sub [2, 3, 1, 0] (loc' := [(0, .ref (gad Γ 0)), (1, .int v1), (2, .int x3), (3, .int (v3 + 1))]) rfl ?_
  exact hk4 x3 (v3 + 1)
set_option maxRecDepth 20000 in
theorem wX11_twelfths_4 {Γ : JCtx} (hC : jC Γ cX11_twelfths 4 RX11 (some .int) layM 15) (hR : gR Γ = rmH 1) (hm : gcells Γ ≤ (gR Γ).cells ∧ gslots Γ ≤ (gR Γ).slots) (F : Nat) (κ : Mem) (v1 : Int32) : ∀ (n : Nat) (v2 : Int32) (v3 : Int32), JP Γ (qf Γ (oI κ)) (pX11_twelfths_4 F κ v1 n v2 v3) κ 4 [(0, .ref (gad Γ 0)), (1, .int v1), (2, .int v2), (3, .int v3)] [] := by
  intro n
  induction n with
  | zero =>
    intro v2 v3
    rw [pX11_twelfths_4]
    exact j_none
  | succ fu ih =>
    intro v2 v3
    rw [pX11_twelfths_4]
    refine j_iload_n hC (pc := 4) dX11_twelfths_4 3 rfl rfl ?_
    refine j_aload_n hC (pc := 5) dX11_twelfths_5 0 rfl rfl ?_
    refine j_callV_I hC hR (ctX11_players hC.l hC.cn κ) kc_RX11_108 (Nat.le_of_ble_eq_true rfl) (Nat.le_of_ble_eq_true rfl) lM_0 (Nat.le_of_ble_eq_true rfl) rfl (As := []) (rest := [.int v3]) rfl rfl (Nat.le_of_ble_eq_true rfl) hm (pc := 6) dX11_twelfths_6 (fun t1 => ?_)
    refine j_icmp_ge hC (pc := 9) dX11_twelfths_9 (tgt := 41) rfl ?_ ?_
    · refine j_iload_n hC (pc := 12) dX11_twelfths_12 2 rfl rfl ?_
      refine j_iload_n hC (pc := 13) dX11_twelfths_13 1 rfl rfl ?_
      refine j_iload_n hC (pc := 14) dX11_twelfths_14 3 rfl rfl ?_
      refine j_callS_I hC hR (ctX11_has hC.l hC.cn κ v1 v3) kc_RX11_88 (Nat.le_of_ble_eq_true rfl) (Nat.le_of_ble_eq_true rfl) (As := [.int v1, .int v3]) (rest := [.int v2]) rfl rfl (Nat.le_of_ble_eq_true rfl) hm (pc := 15) dX11_twelfths_15 (fun t2 => ?_)
      refine j_if_eq hC (pc := 18) dX11_twelfths_18 (tgt := 32) rfl ?_ ?_
      · refine j_iconst hC (pc := 32) dX11_twelfths_32 ki_0 ?_
        refine j_sub [0, 1, 3] (loc' := [(0, .ref (gad Γ 0)), (1, .int v1), (3, .int v3)]) rfl ?_
        exact wX11_twelfths_33 hC hR hm F κ v1 v3 0 v2 (pX11_twelfths_4 F κ v1 fu) ih
      · refine j_bipush hC (pc := 21) dX11_twelfths_21 kb_12 ?_
        refine j_aload_n hC (pc := 23) dX11_twelfths_23 0 rfl rfl ?_
        refine j_iload_n hC (pc := 24) dX11_twelfths_24 3 rfl rfl ?_
        refine j_callV_I hC hR (ctX11_hats hC.l hC.cn κ v3) kc_RX11_111 (Nat.le_of_ble_eq_true rfl) (Nat.le_of_ble_eq_true rfl) lM_0 (Nat.le_of_ble_eq_true rfl) rfl (As := [.int v3]) (rest := [.int 12, .int v2]) rfl rfl (Nat.le_of_ble_eq_true rfl) hm (pc := 25) dX11_twelfths_25 (fun t4 => ?_)
        refine j_idiv hC (pc := 28) dX11_twelfths_28 ?_
        refine j_goto hC (pc := 29) dX11_twelfths_29 (tgt := 33) rfl ?_
        refine j_sub [0, 1, 3] (loc' := [(0, .ref (gad Γ 0)), (1, .int v1), (3, .int v3)]) rfl ?_
        exact wX11_twelfths_33 hC hR hm F κ v1 v3 (12 / t4) v2 (pX11_twelfths_4 F κ v1 fu) ih
    · refine j_iload_n hC (pc := 41) dX11_twelfths_41 2 rfl rfl ?_
      exact j_iret hC (pc := 42) dX11_twelfths_42 rfl rfl rfl
set_option maxRecDepth 20000 in
theorem wX11_twelfths {Γ : JCtx} (hC : jC Γ cX11_twelfths 4 RX11 (some .int) layM 15) (hR : gR Γ = rmH 1) (hm : gcells Γ ≤ (gR Γ).cells ∧ gslots Γ ≤ (gR Γ).slots) (F : Nat) (κ : Mem) (v1 : Int32) : JP Γ (qf Γ (oI κ)) (pX11_twelfths F κ v1) κ 0 [(0, .ref (gad Γ 0)), (1, .int v1)] [] := by
  unfold pX11_twelfths
  refine j_iconst hC (pc := 0) dX11_twelfths_0 ki_0 ?_
  refine j_istore_n hC (pc := 1) dX11_twelfths_1 rfl (Nat.le_of_ble_eq_true rfl) (loc' := [(2, .int 0), (0, .ref (gad Γ 0)), (1, .int v1)]) rfl ?_
  refine j_iconst hC (pc := 2) dX11_twelfths_2 ki_0 ?_
  refine j_istore_n hC (pc := 3) dX11_twelfths_3 rfl (Nat.le_of_ble_eq_true rfl) (loc' := [(3, .int 0), (2, .int 0), (0, .ref (gad Γ 0)), (1, .int v1)]) rfl ?_
  refine j_sub [2, 3, 1, 0] (loc' := [(0, .ref (gad Γ 0)), (1, .int v1), (2, .int 0), (3, .int 0)]) rfl ?_
  exact wX11_twelfths_4 hC hR hm F κ v1 F 0 0
theorem ctX11_twelfths {Δ : DCtx} {l : Launch} (hl : dlay Δ = layM) (hN : dN Δ = 15) (F : Nat) (κ : Mem) (v1 : Int32) : ∀ r, pX11_twelfths F κ v1 = some r → CT Δ l yX11_twelfths cX11_twelfths 4 (some .int) (rmH 1) [.ref (dad Δ 0), .int v1] κ (some (.int r)) κ :=
  ct_of (nL := 4) (ret := (some .int)) (lay := layM) (N := 15) (by decide +kernel) (fun Δ => [.ref (dad Δ 0), .int v1]) (fun _ => oI κ) (fun _ => (Nat.le_of_ble_eq_true rfl)) (fun Γ hR hm hC => wX11_twelfths hC hR hm F κ v1) Δ l hl hN
set_option maxRecDepth 20000 in
theorem wX11_common_4 {Γ : JCtx} (hC : jC Γ cX11_common 5 RX11 (some .int) layM 15) (hR : gR Γ = rmH 0) (hm : gcells Γ ≤ (gR Γ).cells ∧ gslots Γ ≤ (gR Γ).slots) (F : Nat) (κ : Mem) : ∀ (n : Nat) (v2 : Int32) (v3 : Int32), JP Γ (qf Γ (oI κ)) (pX11_common_4 F κ n v2 v3) κ 4 [(2, .int v2), (3, .int v3)] [] := by
  intro n
  induction n with
  | zero =>
    intro v2 v3
    rw [pX11_common_4]
    exact j_none
  | succ fu ih =>
    intro v2 v3
    rw [pX11_common_4]
    refine j_iload_n hC (pc := 4) dX11_common_4 1 rfl rfl ?_
    refine j_if_eq hC (pc := 5) dX11_common_5 (tgt := 21) rfl ?_ ?_
    · refine j_iload_n hC (pc := 21) dX11_common_21 0 rfl rfl ?_
      exact j_iret hC (pc := 22) dX11_common_22 rfl rfl rfl
    · refine j_iload_n hC (pc := 8) dX11_common_8 0 rfl rfl ?_
      refine j_iload_n hC (pc := 9) dX11_common_9 1 rfl rfl ?_
      refine j_irem hC (pc := 10) dX11_common_10 ?_
      refine j_nmi (fun x1 => ?_)
      refine j_istore hC (pc := 11) dX11_common_11 (Nat.le_of_ble_eq_true rfl) (loc' := [(4, .int x1), (2, .int v2), (3, .int v3)]) rfl ?_
      refine j_iload_n hC (pc := 13) dX11_common_13 2 rfl rfl ?_
      refine j_istore_n hC (pc := 14) dX11_common_14 rfl (Nat.le_of_ble_eq_true rfl) (loc' := [(2, .int v3), (4, .int x1), (3, .int v3)]) rfl ?_
      refine j_iload hC (pc := 15) dX11_common_15 1 rfl ?_
      refine j_istore_n hC (pc := 17) dX11_common_17 rfl (Nat.le_of_ble_eq_true rfl) (loc' := [(3, .int x1), (2, .int v3), (4, .int x1)]) rfl ?_
      refine j_goto hC (pc := 18) dX11_common_18 (tgt := 4) rfl ?_
      refine j_sub [1, 0] (loc' := [(2, .int v3), (3, .int x1)]) rfl ?_
      exact ih v3 x1
set_option maxRecDepth 20000 in
theorem wX11_common {Γ : JCtx} (hC : jC Γ cX11_common 5 RX11 (some .int) layM 15) (hR : gR Γ = rmH 0) (hm : gcells Γ ≤ (gR Γ).cells ∧ gslots Γ ≤ (gR Γ).slots) (F : Nat) (κ : Mem) (v0 : Int32) (v1 : Int32) : JP Γ (qf Γ (oI κ)) (pX11_common F κ v0 v1) κ 0 [(0, .int v0), (1, .int v1)] [] := by
  unfold pX11_common
  refine j_iload_n hC (pc := 0) dX11_common_0 0 rfl rfl ?_
  refine j_istore_n hC (pc := 1) dX11_common_1 rfl (Nat.le_of_ble_eq_true rfl) (loc' := [(2, .int v0), (0, .int v0), (1, .int v1)]) rfl ?_
  refine j_iload_n hC (pc := 2) dX11_common_2 2 rfl rfl ?_
  refine j_istore_n hC (pc := 3) dX11_common_3 rfl (Nat.le_of_ble_eq_true rfl) (loc' := [(3, .int v1), (2, .int v0), (0, .int v0), (1, .int v1)]) rfl ?_
  refine j_sub [1, 0] (loc' := [(2, .int v0), (3, .int v1)]) rfl ?_
  exact wX11_common_4 hC hR hm F κ F v0 v1
theorem ctX11_common {Δ : DCtx} {l : Launch} (hl : dlay Δ = layM) (hN : dN Δ = 15) (F : Nat) (κ : Mem) (v0 : Int32) (v1 : Int32) : ∀ r, pX11_common F κ v0 v1 = some r → CT Δ l yX11_common cX11_common 5 (some .int) (rmH 0) [.int v0, .int v1] κ (some (.int r)) κ :=
  ct_of (nL := 5) (ret := (some .int)) (lay := layM) (N := 15) (by decide +kernel) (fun Δ => [.int v0, .int v1]) (fun _ => oI κ) (fun _ => (Nat.le_of_ble_eq_true rfl)) (fun Γ hR hm hC => wX11_common hC hR hm F κ v0 v1) Δ l hl hN
set_option maxRecDepth 20000 in
theorem wX11_share_41 {Γ : JCtx} (hC : jC Γ cX11_share 4 RX11 (some .int) layM 15) (hR : gR Γ = rmH 2) (hm : gcells Γ ≤ (gR Γ).cells ∧ gslots Γ ≤ (gR Γ).slots) (F : Nat) (κ : Mem) (v3 : Int32) (y0 : Int32) : JP Γ (qf Γ oE) (pX11_share_41 F κ v3 y0) κ 41 [(3, .int v3)] [.int y0] := by
  unfold pX11_share_41
  refine j_iload_n hC (pc := 41) dX11_share_41 0 rfl rfl ?_
  refine j_bipush hC (pc := 42) dX11_share_42 kb_12 ?_
  refine j_callS_I hC hR (ctX11_common hC.l hC.cn F κ v3 12) kc_RX11_229 (Nat.le_of_ble_eq_true rfl) (Nat.le_of_ble_eq_true rfl) (As := [.int v3, .int 12]) (rest := [.int y0]) rfl rfl (Nat.le_of_ble_eq_true rfl) hm (pc := 44) dX11_share_44 (fun t6 => ?_)
  refine j_idiv hC (pc := 47) dX11_share_47 ?_
  exact j_iret hC (pc := 48) dX11_share_48 rfl rfl rfl
set_option maxRecDepth 20000 in
theorem wX11_share {Γ : JCtx} (hC : jC Γ cX11_share 4 RX11 (some .int) layM 15) (hR : gR Γ = rmH 2) (hm : gcells Γ ≤ (gR Γ).cells ∧ gslots Γ ≤ (gR Γ).slots) (F : Nat) (κ : Mem) (v1 : Int32) (v2 : Int32) : JP Γ (qf Γ oE) (pX11_share F κ v1 v2) κ 0 [(0, .ref (gad Γ 0)), (1, .int v1), (2, .int v2)] [] := by
  unfold pX11_share
  refine j_aload_n hC (pc := 0) dX11_share_0 0 rfl rfl ?_
  refine j_aload_n hC (pc := 1) dX11_share_1 0 rfl rfl ?_
  refine j_iload_n hC (pc := 2) dX11_share_2 2 rfl rfl ?_
  refine j_i2l hC (pc := 3) dX11_share_3 ?_
  refine j_lconst hC (pc := 4) dX11_share_4 rfl ?_
  refine j_lconst hC (pc := 5) dX11_share_5 rfl ?_
  refine j_callS_I hC hR (ctX11_isIn hC.l hC.cn κ v2.toInt64 0 1) kc_RX11_92 (Nat.le_of_ble_eq_true rfl) (Nat.le_of_ble_eq_true rfl) (As := [.long (v2.toInt64), .long 0, .long 1]) (rest := [.ref (gad Γ 0), .ref (gad Γ 0)]) rfl rfl (Nat.le_of_ble_eq_true rfl) hm (pc := 6) dX11_share_6 (fun t1 => ?_)
  refine j_aload_n hC (pc := 9) dX11_share_9 0 rfl rfl ?_
  refine j_iload_n hC (pc := 10) dX11_share_10 1 rfl rfl ?_
  refine j_callV_I hC hR (ctX11_isSet hC.l hC.cn κ v1) kc_RX11_206 (Nat.le_of_ble_eq_true rfl) (Nat.le_of_ble_eq_true rfl) lM_0 (Nat.le_of_ble_eq_true rfl) rfl (As := [.int v1]) (rest := [.int t1, .ref (gad Γ 0), .ref (gad Γ 0)]) rfl rfl (Nat.le_of_ble_eq_true rfl) hm (pc := 11) dX11_share_11 (fun t2 => ?_)
  refine j_callV_I hC hR (ctX11_why hC.l hC.cn κ t1 t2) kc_RX11_167 (Nat.le_of_ble_eq_true rfl) (Nat.le_of_ble_eq_true rfl) lM_0 (Nat.le_of_ble_eq_true rfl) rfl (As := [.int t1, .int t2]) (rest := [.ref (gad Γ 0)]) rfl rfl (Nat.le_of_ble_eq_true rfl) hm (pc := 14) dX11_share_14 (fun t3 => ?_)
  refine j_callV_E hC hR (ctX11_is hC.l hC.cn κ t3) kc_RX11_145 (Nat.le_of_ble_eq_true rfl) (Nat.le_of_ble_eq_true rfl) lM_0 (Nat.le_of_ble_eq_true rfl) rfl (As := [.int t3]) (rest := []) rfl rfl (Nat.le_of_ble_eq_true rfl) hm (pc := 17) dX11_share_17 (fun t4 => ?_)
  refine j_if_ne hC (pc := 20) dX11_share_20 (tgt := 25) rfl ?_ ?_
  · refine j_iconst hC (pc := 23) dX11_share_23 ki_m1 ?_
    exact j_iret hC (pc := 24) dX11_share_24 rfl rfl rfl
  · refine j_aload_n hC (pc := 25) dX11_share_25 0 rfl rfl ?_
    refine j_iload_n hC (pc := 26) dX11_share_26 1 rfl rfl ?_
    refine j_callV_I hC hR (ctX11_twelfths hC.l hC.cn F t4.2 v1) kc_RX11_226 (Nat.le_of_ble_eq_true rfl) (Nat.le_of_ble_eq_true rfl) lM_0 (Nat.le_of_ble_eq_true rfl) rfl (As := [.int v1]) (rest := []) rfl rfl (Nat.le_of_ble_eq_true rfl) hm (pc := 27) dX11_share_27 (fun t5 => ?_)
    refine j_istore_n hC (pc := 30) dX11_share_30 rfl (Nat.le_of_ble_eq_true rfl) (loc' := [(3, .int t5), (0, .ref (gad Γ 0)), (1, .int v1), (2, .int v2)]) rfl ?_
    refine j_iload_n hC (pc := 31) dX11_share_31 3 rfl rfl ?_
    refine j_if_ne hC (pc := 32) dX11_share_32 (tgt := 39) rfl ?_ ?_
    · refine j_iload_n hC (pc := 35) dX11_share_35 0 rfl rfl ?_
      refine j_goto hC (pc := 36) dX11_share_36 (tgt := 41) rfl ?_
      refine j_sub [0] (loc' := [(3, .int t5)]) rfl ?_
      exact wX11_share_41 hC hR hm F t4.2 t5 t5
    · refine j_bipush hC (pc := 39) dX11_share_39 kb_12 ?_
      refine j_sub [0] (loc' := [(3, .int t5)]) rfl ?_
      exact wX11_share_41 hC hR hm F t4.2 t5 12
theorem ctX11_share {Δ : DCtx} {l : Launch} (hl : dlay Δ = layM) (hN : dN Δ = 15) (F : Nat) (κ : Mem) (v1 : Int32) (v2 : Int32) : ∀ r, pX11_share F κ v1 v2 = some r → CT Δ l yX11_share cX11_share 4 (some .int) (rmH 2) [.ref (dad Δ 0), .int v1, .int v2] κ (some (.int r.1)) r.2 :=
  ct_of (nL := 4) (ret := (some .int)) (lay := layM) (N := 15) (by decide +kernel) (fun Δ => [.ref (dad Δ 0), .int v1, .int v2]) (fun _ => oE) (fun _ => (Nat.le_of_ble_eq_true rfl)) (fun Γ hR hm hC => wX11_share hC hR hm F κ v1 v2) Δ l hl hN
set_option maxRecDepth 20000 in
theorem wX11_least_49 {Γ : JCtx} (hC : jC Γ cX11_least 3 RX11 (some .int) layM 15) (hR : gR Γ = rmH 2) (hm : gcells Γ ≤ (gR Γ).cells ∧ gslots Γ ≤ (gR Γ).slots) (F : Nat) (κ : Mem) (y0 : Int32) : JP Γ (qf Γ oE) (pX11_least_49 F κ y0) κ 49 [] [.int y0] := by
  unfold pX11_least_49
  exact j_iret hC (pc := 49) dX11_least_49 rfl rfl rfl
set_option maxRecDepth 20000 in
theorem wX11_least_13 {Γ : JCtx} (hC : jC Γ cX11_least 3 RX11 (some .int) layM 15) (hR : gR Γ = rmH 2) (hm : gcells Γ ≤ (gR Γ).cells ∧ gslots Γ ≤ (gR Γ).slots) (F : Nat) (κ : Mem) : ∀ (n : Nat) (v1 : Int32) (v2 : Int32), JP Γ (qf Γ oE) (pX11_least_13 F κ n v1 v2) κ 13 [(0, .ref (gad Γ 0)), (1, .int v1), (2, .int v2)] [] := by
  intro n
  induction n with
  | zero =>
    intro v1 v2
    rw [pX11_least_13]
    exact j_none
  | succ fu ih =>
    intro v1 v2
    rw [pX11_least_13]
    refine j_iload_n hC (pc := 13) dX11_least_13 2 rfl rfl ?_
    refine j_aload_n hC (pc := 14) dX11_least_14 0 rfl rfl ?_
    refine j_callV_I hC hR (ctX11_players hC.l hC.cn κ) kc_RX11_108 (Nat.le_of_ble_eq_true rfl) (Nat.le_of_ble_eq_true rfl) lM_0 (Nat.le_of_ble_eq_true rfl) rfl (As := []) (rest := [.int v2]) rfl rfl (Nat.le_of_ble_eq_true rfl) hm (pc := 15) dX11_least_15 (fun t3 => ?_)
    refine j_icmp_ge hC (pc := 18) dX11_least_18 (tgt := 40) rfl ?_ ?_
    · refine j_iload_n hC (pc := 21) dX11_least_21 1 rfl rfl ?_
      refine j_aload_n hC (pc := 22) dX11_least_22 0 rfl rfl ?_
      refine j_callV_I hC hR (ctX11_colourings_ hC.l hC.cn F κ) kc_RX11_125 (Nat.le_of_ble_eq_true rfl) (Nat.le_of_ble_eq_true rfl) lM_0 (Nat.le_of_ble_eq_true rfl) rfl (As := []) (rest := [.int v1]) rfl rfl (Nat.le_of_ble_eq_true rfl) hm (pc := 23) dX11_least_23 (fun t4 => ?_)
      refine j_aload_n hC (pc := 26) dX11_least_26 0 rfl rfl ?_
      refine j_iload_n hC (pc := 27) dX11_least_27 2 rfl rfl ?_
      refine j_callV_I hC hR (ctX11_hats hC.l hC.cn κ v2) kc_RX11_111 (Nat.le_of_ble_eq_true rfl) (Nat.le_of_ble_eq_true rfl) lM_0 (Nat.le_of_ble_eq_true rfl) rfl (As := [.int v2]) (rest := [.int t4, .int v1]) rfl rfl (Nat.le_of_ble_eq_true rfl) hm (pc := 28) dX11_least_28 (fun t5 => ?_)
      refine j_idiv hC (pc := 31) dX11_least_31 ?_
      refine j_isub hC (pc := 32) dX11_least_32 ?_
      refine j_nmi (fun x6 => ?_)
      refine j_istore_n hC (pc := 33) dX11_least_33 rfl (Nat.le_of_ble_eq_true rfl) (loc' := [(1, .int x6), (0, .ref (gad Γ 0)), (2, .int v2)]) rfl ?_
      refine j_iinc hC (pc := 34) dX11_least_34 2 rfl ki_1 (Nat.le_of_ble_eq_true rfl) (loc' := [(2, .int (v2 + 1)), (1, .int x6), (0, .ref (gad Γ 0))]) rfl ?_
      refine j_goto hC (pc := 37) dX11_least_37 (tgt := 13) rfl ?_
      refine j_sub [2, 1, 0] (loc' := [(0, .ref (gad Γ 0)), (1, .int x6), (2, .int (v2 + 1))]) rfl ?_
      exact ih x6 (v2 + 1)
    · refine j_iload_n hC (pc := 40) dX11_least_40 1 rfl rfl ?_
      refine j_if_le hC (pc := 41) dX11_least_41 (tgt := 48) rfl ?_ ?_
      · refine j_iconst hC (pc := 48) dX11_least_48 ki_0 ?_
        refine j_sub [] (loc' := []) rfl ?_
        exact wX11_least_49 hC hR hm F κ 0
      · refine j_iload_n hC (pc := 44) dX11_least_44 1 rfl rfl ?_
        refine j_goto hC (pc := 45) dX11_least_45 (tgt := 49) rfl ?_
        refine j_sub [] (loc' := []) rfl ?_
        exact wX11_least_49 hC hR hm F κ v1
set_option maxRecDepth 20000 in
theorem wX11_least {Γ : JCtx} (hC : jC Γ cX11_least 3 RX11 (some .int) layM 15) (hR : gR Γ = rmH 2) (hm : gcells Γ ≤ (gR Γ).cells ∧ gslots Γ ≤ (gR Γ).slots) (F : Nat) (κ : Mem) : JP Γ (qf Γ oE) (pX11_least F κ) κ 0 [(0, .ref (gad Γ 0))] [] := by
  unfold pX11_least
  refine j_aload_n hC (pc := 0) dX11_least_0 0 rfl rfl ?_
  refine j_iconst hC (pc := 1) dX11_least_1 ki_0 ?_
  refine j_callV_E hC hR (ctX11_is hC.l hC.cn κ 0) kc_RX11_145 (Nat.le_of_ble_eq_true rfl) (Nat.le_of_ble_eq_true rfl) lM_0 (Nat.le_of_ble_eq_true rfl) rfl (As := [.int 0]) (rest := []) rfl rfl (Nat.le_of_ble_eq_true rfl) hm (pc := 2) dX11_least_2 (fun t1 => ?_)
  refine j_pop hC (pc := 5) dX11_least_5 rfl ?_
  refine j_aload_n hC (pc := 6) dX11_least_6 0 rfl rfl ?_
  refine j_callV_I hC hR (ctX11_colourings_ hC.l hC.cn F t1.2) kc_RX11_125 (Nat.le_of_ble_eq_true rfl) (Nat.le_of_ble_eq_true rfl) lM_0 (Nat.le_of_ble_eq_true rfl) rfl (As := []) (rest := []) rfl rfl (Nat.le_of_ble_eq_true rfl) hm (pc := 7) dX11_least_7 (fun t2 => ?_)
  refine j_istore_n hC (pc := 10) dX11_least_10 rfl (Nat.le_of_ble_eq_true rfl) (loc' := [(1, .int t2), (0, .ref (gad Γ 0))]) rfl ?_
  refine j_iconst hC (pc := 11) dX11_least_11 ki_0 ?_
  refine j_istore_n hC (pc := 12) dX11_least_12 rfl (Nat.le_of_ble_eq_true rfl) (loc' := [(2, .int 0), (1, .int t2), (0, .ref (gad Γ 0))]) rfl ?_
  refine j_sub [2, 1, 0] (loc' := [(0, .ref (gad Γ 0)), (1, .int t2), (2, .int 0)]) rfl ?_
  exact wX11_least_13 hC hR hm F t1.2 F t2 0
theorem ctX11_least {Δ : DCtx} {l : Launch} (hl : dlay Δ = layM) (hN : dN Δ = 15) (F : Nat) (κ : Mem) : ∀ r, pX11_least F κ = some r → CT Δ l yX11_least cX11_least 3 (some .int) (rmH 2) [.ref (dad Δ 0)] κ (some (.int r.1)) r.2 :=
  ct_of (nL := 3) (ret := (some .int)) (lay := layM) (N := 15) (by decide +kernel) (fun Δ => [.ref (dad Δ 0)]) (fun _ => oE) (fun _ => (Nat.le_of_ble_eq_true rfl)) (fun Γ hR hm hC => wX11_least hC hR hm F κ) Δ l hl hN
set_option maxRecDepth 20000 in
theorem wX11_isClique_41 {Γ : JCtx} (hC : jC Γ cX11_isClique 3 RX11 (some .boolean) layM 15) (hR : gR Γ = rmH 1) (hm : gcells Γ ≤ (gR Γ).cells ∧ gslots Γ ≤ (gR Γ).slots) (F : Nat) (κ : Mem) (v1 : Int32) (v2 : Int32) (k2 : Int32 → Option Int32) (hk2 : ∀ (v2 : Int32), JP Γ (qf Γ (oI κ)) (k2 v2) κ 2 [(0, .ref (gad Γ 0)), (1, .int v1), (2, .int v2)] []) : JP Γ (qf Γ (oI κ)) (pX11_isClique_41 F κ k2 v1 v2) κ 41 [(0, .ref (gad Γ 0)), (1, .int v1), (2, .int v2)] [] := by
  unfold pX11_isClique_41
  refine j_iinc hC (pc := 41) dX11_isClique_41 2 rfl ki_1 (Nat.le_of_ble_eq_true rfl) (loc' := [(2, .int (v2 + 1)), (0, .ref (gad Γ 0)), (1, .int v1)]) rfl ?_
  refine j_goto hC (pc := 44) dX11_isClique_44 (tgt := 2) rfl ?_
  refine j_sub [1, 2, 0] (loc' := [(0, .ref (gad Γ 0)), (1, .int v1), (2, .int (v2 + 1))]) rfl ?_
  exact hk2 (v2 + 1)
set_option maxRecDepth 20000 in
theorem wX11_isClique_2 {Γ : JCtx} (hC : jC Γ cX11_isClique 3 RX11 (some .boolean) layM 15) (hR : gR Γ = rmH 1) (hm : gcells Γ ≤ (gR Γ).cells ∧ gslots Γ ≤ (gR Γ).slots) (F : Nat) (κ : Mem) (v1 : Int32) : ∀ (n : Nat) (v2 : Int32), JP Γ (qf Γ (oI κ)) (pX11_isClique_2 F κ v1 n v2) κ 2 [(0, .ref (gad Γ 0)), (1, .int v1), (2, .int v2)] [] := by
  intro n
  induction n with
  | zero =>
    intro v2
    rw [pX11_isClique_2]
    exact j_none
  | succ fu ih =>
    intro v2
    rw [pX11_isClique_2]
    refine j_iload_n hC (pc := 2) dX11_isClique_2 2 rfl rfl ?_
    refine j_aload_n hC (pc := 3) dX11_isClique_3 0 rfl rfl ?_
    refine j_callV_I hC hR (ctX11_players hC.l hC.cn κ) kc_RX11_108 (Nat.le_of_ble_eq_true rfl) (Nat.le_of_ble_eq_true rfl) lM_0 (Nat.le_of_ble_eq_true rfl) rfl (As := []) (rest := [.int v2]) rfl rfl (Nat.le_of_ble_eq_true rfl) hm (pc := 4) dX11_isClique_4 (fun t1 => ?_)
    refine j_icmp_ge hC (pc := 7) dX11_isClique_7 (tgt := 47) rfl ?_ ?_
    · refine j_iload_n hC (pc := 10) dX11_isClique_10 1 rfl rfl ?_
      refine j_iload_n hC (pc := 11) dX11_isClique_11 2 rfl rfl ?_
      refine j_callS_I hC hR (ctX11_has hC.l hC.cn κ v1 v2) kc_RX11_88 (Nat.le_of_ble_eq_true rfl) (Nat.le_of_ble_eq_true rfl) (As := [.int v1, .int v2]) (rest := []) rfl rfl (Nat.le_of_ble_eq_true rfl) hm (pc := 12) dX11_isClique_12 (fun t2 => ?_)
      refine j_if_eq hC (pc := 15) dX11_isClique_15 (tgt := 41) rfl ?_ ?_
      · exact wX11_isClique_41 hC hR hm F κ v1 v2 (pX11_isClique_2 F κ v1 fu) ih
      · refine j_aload_n hC (pc := 18) dX11_isClique_18 0 rfl rfl ?_
        refine j_getR hC (pc := 19) dX11_isClique_19 kf_RX11_7 lM_0 (Nat.le_of_ble_eq_true rfl) rfl ?_
        refine j_bipush hC (pc := 22) dX11_isClique_22 kb_7 ?_
        refine j_iload_n hC (pc := 24) dX11_isClique_24 2 rfl rfl ?_
        refine j_iadd hC (pc := 25) dX11_isClique_25 ?_
        refine j_iald hC (pc := 26) dX11_isClique_26 lM_1 (Nat.le_of_ble_eq_true rfl) ?_
        refine j_iconst hC (pc := 27) dX11_isClique_27 ki_1 ?_
        refine j_iload_n hC (pc := 28) dX11_isClique_28 2 rfl rfl ?_
        refine j_ishl hC (pc := 29) dX11_isClique_29 ?_
        refine j_ior hC (pc := 30) dX11_isClique_30 ?_
        refine j_iload_n hC (pc := 31) dX11_isClique_31 1 rfl rfl ?_
        refine j_iconst hC (pc := 32) dX11_isClique_32 ki_m1 ?_
        refine j_ixor hC (pc := 33) dX11_isClique_33 ?_
        refine j_ior hC (pc := 34) dX11_isClique_34 ?_
        refine j_iconst hC (pc := 35) dX11_isClique_35 ki_m1 ?_
        refine j_icmp_eq hC (pc := 36) dX11_isClique_36 (tgt := 41) rfl ?_ ?_
        · exact wX11_isClique_41 hC hR hm F κ v1 v2 (pX11_isClique_2 F κ v1 fu) ih
        · refine j_iconst hC (pc := 39) dX11_isClique_39 ki_0 ?_
          exact j_iret hC (pc := 40) dX11_isClique_40 rfl rfl rfl
    · refine j_iconst hC (pc := 47) dX11_isClique_47 ki_1 ?_
      exact j_iret hC (pc := 48) dX11_isClique_48 rfl rfl rfl
set_option maxRecDepth 20000 in
theorem wX11_isClique {Γ : JCtx} (hC : jC Γ cX11_isClique 3 RX11 (some .boolean) layM 15) (hR : gR Γ = rmH 1) (hm : gcells Γ ≤ (gR Γ).cells ∧ gslots Γ ≤ (gR Γ).slots) (F : Nat) (κ : Mem) (v1 : Int32) : JP Γ (qf Γ (oI κ)) (pX11_isClique F κ v1) κ 0 [(0, .ref (gad Γ 0)), (1, .int v1)] [] := by
  unfold pX11_isClique
  refine j_iconst hC (pc := 0) dX11_isClique_0 ki_0 ?_
  refine j_istore_n hC (pc := 1) dX11_isClique_1 rfl (Nat.le_of_ble_eq_true rfl) (loc' := [(2, .int 0), (0, .ref (gad Γ 0)), (1, .int v1)]) rfl ?_
  refine j_sub [1, 2, 0] (loc' := [(0, .ref (gad Γ 0)), (1, .int v1), (2, .int 0)]) rfl ?_
  exact wX11_isClique_2 hC hR hm F κ v1 F 0
theorem ctX11_isClique {Δ : DCtx} {l : Launch} (hl : dlay Δ = layM) (hN : dN Δ = 15) (F : Nat) (κ : Mem) (v1 : Int32) : ∀ r, pX11_isClique F κ v1 = some r → CT Δ l yX11_isClique cX11_isClique 3 (some .boolean) (rmH 1) [.ref (dad Δ 0), .int v1] κ (some (.int r)) κ :=
  ct_of (nL := 3) (ret := (some .boolean)) (lay := layM) (N := 15) (by decide +kernel) (fun Δ => [.ref (dad Δ 0), .int v1]) (fun _ => oI κ) (fun _ => (Nat.le_of_ble_eq_true rfl)) (fun Γ hR hm hC => wX11_isClique hC hR hm F κ v1) Δ l hl hN
set_option maxRecDepth 20000 in
theorem wX11_clique_57 {Γ : JCtx} (hC : jC Γ cX11_clique 3 RX11 (some .int) layM 15) (hR : gR Γ = rmH 2) (hm : gcells Γ ≤ (gR Γ).cells ∧ gslots Γ ≤ (gR Γ).slots) (F : Nat) (κ : Mem) (v2 : Int32) (y0 : Int32) (k25 : Int32 → Int32 → Option (Int32 × Mem)) (hk25 : ∀ (v1 : Int32) (v2 : Int32), JP Γ (qf Γ oE) (k25 v1 v2) κ 25 [(0, .ref (gad Γ 0)), (1, .int v1), (2, .int v2)] []) : JP Γ (qf Γ oE) (pX11_clique_57 F k25 κ v2 y0) κ 57 [(0, .ref (gad Γ 0)), (2, .int v2)] [.int y0] := by
  unfold pX11_clique_57
  refine j_istore_n hC (pc := 57) dX11_clique_57 rfl (Nat.le_of_ble_eq_true rfl) (loc' := [(1, .int y0), (0, .ref (gad Γ 0)), (2, .int v2)]) rfl ?_
  refine j_iinc hC (pc := 58) dX11_clique_58 2 rfl ki_1 (Nat.le_of_ble_eq_true rfl) (loc' := [(2, .int (v2 + 1)), (1, .int y0), (0, .ref (gad Γ 0))]) rfl ?_
  refine j_goto hC (pc := 61) dX11_clique_61 (tgt := 25) rfl ?_
  refine j_sub [2, 1, 0] (loc' := [(0, .ref (gad Γ 0)), (1, .int y0), (2, .int (v2 + 1))]) rfl ?_
  exact hk25 y0 (v2 + 1)
set_option maxRecDepth 20000 in
theorem wX11_clique_56 {Γ : JCtx} (hC : jC Γ cX11_clique 3 RX11 (some .int) layM 15) (hR : gR Γ = rmH 2) (hm : gcells Γ ≤ (gR Γ).cells ∧ gslots Γ ≤ (gR Γ).slots) (F : Nat) (κ : Mem) (v1 : Int32) (v2 : Int32) (k25 : Int32 → Int32 → Option (Int32 × Mem)) (hk25 : ∀ (v1 : Int32) (v2 : Int32), JP Γ (qf Γ oE) (k25 v1 v2) κ 25 [(0, .ref (gad Γ 0)), (1, .int v1), (2, .int v2)] []) : JP Γ (qf Γ oE) (pX11_clique_56 F k25 κ v1 v2) κ 56 [(0, .ref (gad Γ 0)), (1, .int v1), (2, .int v2)] [] := by
  unfold pX11_clique_56
  refine j_iload_n hC (pc := 56) dX11_clique_56 1 rfl rfl ?_
  refine j_sub [0, 2] (loc' := [(0, .ref (gad Γ 0)), (2, .int v2)]) rfl ?_
  exact wX11_clique_57 hC hR hm F κ v2 v1 k25 hk25
set_option maxRecDepth 20000 in
theorem wX11_clique_25 {Γ : JCtx} (hC : jC Γ cX11_clique 3 RX11 (some .int) layM 15) (hR : gR Γ = rmH 2) (hm : gcells Γ ≤ (gR Γ).cells ∧ gslots Γ ≤ (gR Γ).slots) (F : Nat) (κ : Mem) : ∀ (n : Nat) (v1 : Int32) (v2 : Int32), JP Γ (qf Γ oE) (pX11_clique_25 F κ n v1 v2) κ 25 [(0, .ref (gad Γ 0)), (1, .int v1), (2, .int v2)] [] := by
  intro n
  induction n with
  | zero =>
    intro v1 v2
    rw [pX11_clique_25]
    exact j_none
  | succ fu ih =>
    intro v1 v2
    rw [pX11_clique_25]
    refine j_iload_n hC (pc := 25) dX11_clique_25 2 rfl rfl ?_
    refine j_aload_n hC (pc := 26) dX11_clique_26 0 rfl rfl ?_
    refine j_callV_I hC hR (ctX11_all hC.l hC.cn κ) kc_RX11_96 (Nat.le_of_ble_eq_true rfl) (Nat.le_of_ble_eq_true rfl) lM_0 (Nat.le_of_ble_eq_true rfl) rfl (As := []) (rest := [.int v2]) rfl rfl (Nat.le_of_ble_eq_true rfl) hm (pc := 27) dX11_clique_27 (fun t3 => ?_)
    refine j_icmp_gt hC (pc := 30) dX11_clique_30 (tgt := 64) rfl ?_ ?_
    · refine j_iload_n hC (pc := 33) dX11_clique_33 2 rfl rfl ?_
      refine j_callS_I hC hR (ctX11_ones hC.l hC.cn F κ v2) kc_RX11_149 (Nat.le_of_ble_eq_true rfl) (Nat.le_of_ble_eq_true rfl) (As := [.int v2]) (rest := []) rfl rfl (Nat.le_of_ble_eq_true rfl) hm (pc := 34) dX11_clique_34 (fun t4 => ?_)
      refine j_iload_n hC (pc := 37) dX11_clique_37 1 rfl rfl ?_
      refine j_callS_I hC hR (ctX11_ones hC.l hC.cn F κ v1) kc_RX11_149 (Nat.le_of_ble_eq_true rfl) (Nat.le_of_ble_eq_true rfl) (As := [.int v1]) (rest := [.int t4]) rfl rfl (Nat.le_of_ble_eq_true rfl) hm (pc := 38) dX11_clique_38 (fun t5 => ?_)
      refine j_icmp_le hC (pc := 41) dX11_clique_41 (tgt := 56) rfl ?_ ?_
      · exact wX11_clique_56 hC hR hm F κ v1 v2 (pX11_clique_25 F κ fu) ih
      · refine j_aload_n hC (pc := 44) dX11_clique_44 0 rfl rfl ?_
        refine j_iload_n hC (pc := 45) dX11_clique_45 2 rfl rfl ?_
        refine j_callV_I hC hR (ctX11_isClique hC.l hC.cn F κ v2) kc_RX11_232 (Nat.le_of_ble_eq_true rfl) (Nat.le_of_ble_eq_true rfl) lM_0 (Nat.le_of_ble_eq_true rfl) rfl (As := [.int v2]) (rest := []) rfl rfl (Nat.le_of_ble_eq_true rfl) hm (pc := 46) dX11_clique_46 (fun t6 => ?_)
        refine j_if_eq hC (pc := 49) dX11_clique_49 (tgt := 56) rfl ?_ ?_
        · exact wX11_clique_56 hC hR hm F κ v1 v2 (pX11_clique_25 F κ fu) ih
        · refine j_iload_n hC (pc := 52) dX11_clique_52 2 rfl rfl ?_
          refine j_goto hC (pc := 53) dX11_clique_53 (tgt := 57) rfl ?_
          refine j_sub [0, 2] (loc' := [(0, .ref (gad Γ 0)), (2, .int v2)]) rfl ?_
          exact wX11_clique_57 hC hR hm F κ v2 v2 (pX11_clique_25 F κ fu) ih
    · refine j_iload_n hC (pc := 64) dX11_clique_64 1 rfl rfl ?_
      exact j_iret hC (pc := 65) dX11_clique_65 rfl rfl rfl
set_option maxRecDepth 20000 in
theorem wX11_clique_13 {Γ : JCtx} (hC : jC Γ cX11_clique 3 RX11 (some .int) layM 15) (hR : gR Γ = rmH 2) (hm : gcells Γ ≤ (gR Γ).cells ∧ gslots Γ ≤ (gR Γ).slots) (F : Nat) (κ : Mem) (y0 : Int32) : JP Γ (qf Γ oE) (pX11_clique_13 F κ y0) κ 13 [(0, .ref (gad Γ 0))] [.int y0, .ref (gad Γ 0)] := by
  unfold pX11_clique_13
  refine j_callV_E hC hR (ctX11_is hC.l hC.cn κ y0) kc_RX11_145 (Nat.le_of_ble_eq_true rfl) (Nat.le_of_ble_eq_true rfl) lM_0 (Nat.le_of_ble_eq_true rfl) rfl (As := [.int y0]) (rest := []) rfl rfl (Nat.le_of_ble_eq_true rfl) hm (pc := 13) dX11_clique_13 (fun t2 => ?_)
  refine j_if_ne hC (pc := 16) dX11_clique_16 (tgt := 21) rfl ?_ ?_
  · refine j_iconst hC (pc := 19) dX11_clique_19 ki_m1 ?_
    exact j_iret hC (pc := 20) dX11_clique_20 rfl rfl rfl
  · refine j_iconst hC (pc := 21) dX11_clique_21 ki_0 ?_
    refine j_istore_n hC (pc := 22) dX11_clique_22 rfl (Nat.le_of_ble_eq_true rfl) (loc' := [(1, .int 0), (0, .ref (gad Γ 0))]) rfl ?_
    refine j_iconst hC (pc := 23) dX11_clique_23 ki_1 ?_
    refine j_istore_n hC (pc := 24) dX11_clique_24 rfl (Nat.le_of_ble_eq_true rfl) (loc' := [(2, .int 1), (1, .int 0), (0, .ref (gad Γ 0))]) rfl ?_
    refine j_sub [2, 1, 0] (loc' := [(0, .ref (gad Γ 0)), (1, .int 0), (2, .int 1)]) rfl ?_
    exact wX11_clique_25 hC hR hm F t2.2 F 0 1
set_option maxRecDepth 20000 in
theorem wX11_clique {Γ : JCtx} (hC : jC Γ cX11_clique 3 RX11 (some .int) layM 15) (hR : gR Γ = rmH 2) (hm : gcells Γ ≤ (gR Γ).cells ∧ gslots Γ ≤ (gR Γ).slots) (F : Nat) (κ : Mem) : JP Γ (qf Γ oE) (pX11_clique F κ) κ 0 [(0, .ref (gad Γ 0))] [] := by
  unfold pX11_clique
  refine j_aload_n hC (pc := 0) dX11_clique_0 0 rfl rfl ?_
  refine j_aload_n hC (pc := 1) dX11_clique_1 0 rfl rfl ?_
  refine j_callV_I hC hR (ctX11_players hC.l hC.cn κ) kc_RX11_108 (Nat.le_of_ble_eq_true rfl) (Nat.le_of_ble_eq_true rfl) lM_0 (Nat.le_of_ble_eq_true rfl) rfl (As := []) (rest := [.ref (gad Γ 0)]) rfl rfl (Nat.le_of_ble_eq_true rfl) hm (pc := 2) dX11_clique_2 (fun t1 => ?_)
  refine j_if_ne hC (pc := 5) dX11_clique_5 (tgt := 12) rfl ?_ ?_
  · refine j_iconst hC (pc := 8) dX11_clique_8 ki_5 ?_
    refine j_goto hC (pc := 9) dX11_clique_9 (tgt := 13) rfl ?_
    exact wX11_clique_13 hC hR hm F κ 5
  · refine j_iconst hC (pc := 12) dX11_clique_12 ki_0 ?_
    exact wX11_clique_13 hC hR hm F κ 0
theorem ctX11_clique {Δ : DCtx} {l : Launch} (hl : dlay Δ = layM) (hN : dN Δ = 15) (F : Nat) (κ : Mem) : ∀ r, pX11_clique F κ = some r → CT Δ l yX11_clique cX11_clique 3 (some .int) (rmH 2) [.ref (dad Δ 0)] κ (some (.int r.1)) r.2 :=
  ct_of (nL := 3) (ret := (some .int)) (lay := layM) (N := 15) (by decide +kernel) (fun Δ => [.ref (dad Δ 0)]) (fun _ => oE) (fun _ => (Nat.le_of_ble_eq_true rfl)) (fun Γ hR hm hC => wX11_clique hC hR hm F κ) Δ l hl hN
set_option maxRecDepth 20000 in
theorem wX11_strongest_59 {Γ : JCtx} (hC : jC Γ cX11_strongest 3 RX11 (some .int) layM 15) (hR : gR Γ = rmH 2) (hm : gcells Γ ≤ (gR Γ).cells ∧ gslots Γ ≤ (gR Γ).slots) (F : Nat) (κ : Mem) (v2 : Int32) (y0 : Int32) (k25 : Int32 → Int32 → Option (Int32 × Mem)) (hk25 : ∀ (v1 : Int32) (v2 : Int32), JP Γ (qf Γ oE) (k25 v1 v2) κ 25 [(0, .ref (gad Γ 0)), (1, .int v1), (2, .int v2)] []) : JP Γ (qf Γ oE) (pX11_strongest_59 F k25 κ v2 y0) κ 59 [(0, .ref (gad Γ 0)), (2, .int v2)] [.int y0] := by
  unfold pX11_strongest_59
  refine j_istore_n hC (pc := 59) dX11_strongest_59 rfl (Nat.le_of_ble_eq_true rfl) (loc' := [(1, .int y0), (0, .ref (gad Γ 0)), (2, .int v2)]) rfl ?_
  refine j_iinc hC (pc := 60) dX11_strongest_60 2 rfl ki_1 (Nat.le_of_ble_eq_true rfl) (loc' := [(2, .int (v2 + 1)), (1, .int y0), (0, .ref (gad Γ 0))]) rfl ?_
  refine j_goto hC (pc := 63) dX11_strongest_63 (tgt := 25) rfl ?_
  refine j_sub [2, 1, 0] (loc' := [(0, .ref (gad Γ 0)), (1, .int y0), (2, .int (v2 + 1))]) rfl ?_
  exact hk25 y0 (v2 + 1)
set_option maxRecDepth 20000 in
theorem wX11_strongest_58 {Γ : JCtx} (hC : jC Γ cX11_strongest 3 RX11 (some .int) layM 15) (hR : gR Γ = rmH 2) (hm : gcells Γ ≤ (gR Γ).cells ∧ gslots Γ ≤ (gR Γ).slots) (F : Nat) (κ : Mem) (v1 : Int32) (v2 : Int32) (k25 : Int32 → Int32 → Option (Int32 × Mem)) (hk25 : ∀ (v1 : Int32) (v2 : Int32), JP Γ (qf Γ oE) (k25 v1 v2) κ 25 [(0, .ref (gad Γ 0)), (1, .int v1), (2, .int v2)] []) : JP Γ (qf Γ oE) (pX11_strongest_58 F k25 κ v1 v2) κ 58 [(0, .ref (gad Γ 0)), (1, .int v1), (2, .int v2)] [] := by
  unfold pX11_strongest_58
  refine j_iload_n hC (pc := 58) dX11_strongest_58 1 rfl rfl ?_
  refine j_sub [0, 2] (loc' := [(0, .ref (gad Γ 0)), (2, .int v2)]) rfl ?_
  exact wX11_strongest_59 hC hR hm F κ v2 v1 k25 hk25
set_option maxRecDepth 20000 in
theorem wX11_strongest_25 {Γ : JCtx} (hC : jC Γ cX11_strongest 3 RX11 (some .int) layM 15) (hR : gR Γ = rmH 2) (hm : gcells Γ ≤ (gR Γ).cells ∧ gslots Γ ≤ (gR Γ).slots) (F : Nat) (κ : Mem) : ∀ (n : Nat) (v1 : Int32) (v2 : Int32), JP Γ (qf Γ oE) (pX11_strongest_25 F κ n v1 v2) κ 25 [(0, .ref (gad Γ 0)), (1, .int v1), (2, .int v2)] [] := by
  intro n
  induction n with
  | zero =>
    intro v1 v2
    rw [pX11_strongest_25]
    exact j_none
  | succ fu ih =>
    intro v1 v2
    rw [pX11_strongest_25]
    refine j_iload_n hC (pc := 25) dX11_strongest_25 2 rfl rfl ?_
    refine j_aload_n hC (pc := 26) dX11_strongest_26 0 rfl rfl ?_
    refine j_callV_I hC hR (ctX11_all hC.l hC.cn κ) kc_RX11_96 (Nat.le_of_ble_eq_true rfl) (Nat.le_of_ble_eq_true rfl) lM_0 (Nat.le_of_ble_eq_true rfl) rfl (As := []) (rest := [.int v2]) rfl rfl (Nat.le_of_ble_eq_true rfl) hm (pc := 27) dX11_strongest_27 (fun t3 => ?_)
    refine j_icmp_gt hC (pc := 30) dX11_strongest_30 (tgt := 66) rfl ?_ ?_
    · refine j_aload_n hC (pc := 33) dX11_strongest_33 0 rfl rfl ?_
      refine j_iload_n hC (pc := 34) dX11_strongest_34 2 rfl rfl ?_
      refine j_callV_I hC hR (ctX11_twelfths hC.l hC.cn F κ v2) kc_RX11_226 (Nat.le_of_ble_eq_true rfl) (Nat.le_of_ble_eq_true rfl) lM_0 (Nat.le_of_ble_eq_true rfl) rfl (As := [.int v2]) (rest := []) rfl rfl (Nat.le_of_ble_eq_true rfl) hm (pc := 35) dX11_strongest_35 (fun t4 => ?_)
      refine j_aload_n hC (pc := 38) dX11_strongest_38 0 rfl rfl ?_
      refine j_iload_n hC (pc := 39) dX11_strongest_39 1 rfl rfl ?_
      refine j_callV_I hC hR (ctX11_twelfths hC.l hC.cn F κ v1) kc_RX11_226 (Nat.le_of_ble_eq_true rfl) (Nat.le_of_ble_eq_true rfl) lM_0 (Nat.le_of_ble_eq_true rfl) rfl (As := [.int v1]) (rest := [.int t4]) rfl rfl (Nat.le_of_ble_eq_true rfl) hm (pc := 40) dX11_strongest_40 (fun t5 => ?_)
      refine j_icmp_le hC (pc := 43) dX11_strongest_43 (tgt := 58) rfl ?_ ?_
      · exact wX11_strongest_58 hC hR hm F κ v1 v2 (pX11_strongest_25 F κ fu) ih
      · refine j_aload_n hC (pc := 46) dX11_strongest_46 0 rfl rfl ?_
        refine j_iload_n hC (pc := 47) dX11_strongest_47 2 rfl rfl ?_
        refine j_callV_I hC hR (ctX11_isClique hC.l hC.cn F κ v2) kc_RX11_232 (Nat.le_of_ble_eq_true rfl) (Nat.le_of_ble_eq_true rfl) lM_0 (Nat.le_of_ble_eq_true rfl) rfl (As := [.int v2]) (rest := []) rfl rfl (Nat.le_of_ble_eq_true rfl) hm (pc := 48) dX11_strongest_48 (fun t6 => ?_)
        refine j_if_eq hC (pc := 51) dX11_strongest_51 (tgt := 58) rfl ?_ ?_
        · exact wX11_strongest_58 hC hR hm F κ v1 v2 (pX11_strongest_25 F κ fu) ih
        · refine j_iload_n hC (pc := 54) dX11_strongest_54 2 rfl rfl ?_
          refine j_goto hC (pc := 55) dX11_strongest_55 (tgt := 59) rfl ?_
          refine j_sub [0, 2] (loc' := [(0, .ref (gad Γ 0)), (2, .int v2)]) rfl ?_
          exact wX11_strongest_59 hC hR hm F κ v2 v2 (pX11_strongest_25 F κ fu) ih
    · refine j_iload_n hC (pc := 66) dX11_strongest_66 1 rfl rfl ?_
      exact j_iret hC (pc := 67) dX11_strongest_67 rfl rfl rfl
set_option maxRecDepth 20000 in
theorem wX11_strongest_13 {Γ : JCtx} (hC : jC Γ cX11_strongest 3 RX11 (some .int) layM 15) (hR : gR Γ = rmH 2) (hm : gcells Γ ≤ (gR Γ).cells ∧ gslots Γ ≤ (gR Γ).slots) (F : Nat) (κ : Mem) (y0 : Int32) : JP Γ (qf Γ oE) (pX11_strongest_13 F κ y0) κ 13 [(0, .ref (gad Γ 0))] [.int y0, .ref (gad Γ 0)] := by
  unfold pX11_strongest_13
  refine j_callV_E hC hR (ctX11_is hC.l hC.cn κ y0) kc_RX11_145 (Nat.le_of_ble_eq_true rfl) (Nat.le_of_ble_eq_true rfl) lM_0 (Nat.le_of_ble_eq_true rfl) rfl (As := [.int y0]) (rest := []) rfl rfl (Nat.le_of_ble_eq_true rfl) hm (pc := 13) dX11_strongest_13 (fun t2 => ?_)
  refine j_if_ne hC (pc := 16) dX11_strongest_16 (tgt := 21) rfl ?_ ?_
  · refine j_iconst hC (pc := 19) dX11_strongest_19 ki_m1 ?_
    exact j_iret hC (pc := 20) dX11_strongest_20 rfl rfl rfl
  · refine j_iconst hC (pc := 21) dX11_strongest_21 ki_0 ?_
    refine j_istore_n hC (pc := 22) dX11_strongest_22 rfl (Nat.le_of_ble_eq_true rfl) (loc' := [(1, .int 0), (0, .ref (gad Γ 0))]) rfl ?_
    refine j_iconst hC (pc := 23) dX11_strongest_23 ki_1 ?_
    refine j_istore_n hC (pc := 24) dX11_strongest_24 rfl (Nat.le_of_ble_eq_true rfl) (loc' := [(2, .int 1), (1, .int 0), (0, .ref (gad Γ 0))]) rfl ?_
    refine j_sub [2, 1, 0] (loc' := [(0, .ref (gad Γ 0)), (1, .int 0), (2, .int 1)]) rfl ?_
    exact wX11_strongest_25 hC hR hm F t2.2 F 0 1
set_option maxRecDepth 20000 in
theorem wX11_strongest {Γ : JCtx} (hC : jC Γ cX11_strongest 3 RX11 (some .int) layM 15) (hR : gR Γ = rmH 2) (hm : gcells Γ ≤ (gR Γ).cells ∧ gslots Γ ≤ (gR Γ).slots) (F : Nat) (κ : Mem) : JP Γ (qf Γ oE) (pX11_strongest F κ) κ 0 [(0, .ref (gad Γ 0))] [] := by
  unfold pX11_strongest
  refine j_aload_n hC (pc := 0) dX11_strongest_0 0 rfl rfl ?_
  refine j_aload_n hC (pc := 1) dX11_strongest_1 0 rfl rfl ?_
  refine j_callV_I hC hR (ctX11_players hC.l hC.cn κ) kc_RX11_108 (Nat.le_of_ble_eq_true rfl) (Nat.le_of_ble_eq_true rfl) lM_0 (Nat.le_of_ble_eq_true rfl) rfl (As := []) (rest := [.ref (gad Γ 0)]) rfl rfl (Nat.le_of_ble_eq_true rfl) hm (pc := 2) dX11_strongest_2 (fun t1 => ?_)
  refine j_if_ne hC (pc := 5) dX11_strongest_5 (tgt := 12) rfl ?_ ?_
  · refine j_iconst hC (pc := 8) dX11_strongest_8 ki_5 ?_
    refine j_goto hC (pc := 9) dX11_strongest_9 (tgt := 13) rfl ?_
    exact wX11_strongest_13 hC hR hm F κ 5
  · refine j_iconst hC (pc := 12) dX11_strongest_12 ki_0 ?_
    exact wX11_strongest_13 hC hR hm F κ 0
theorem ctX11_strongest {Δ : DCtx} {l : Launch} (hl : dlay Δ = layM) (hN : dN Δ = 15) (F : Nat) (κ : Mem) : ∀ r, pX11_strongest F κ = some r → CT Δ l yX11_strongest cX11_strongest 3 (some .int) (rmH 2) [.ref (dad Δ 0)] κ (some (.int r.1)) r.2 :=
  ct_of (nL := 3) (ret := (some .int)) (lay := layM) (N := 15) (by decide +kernel) (fun Δ => [.ref (dad Δ 0)]) (fun _ => oE) (fun _ => (Nat.le_of_ble_eq_true rfl)) (fun Γ hR hm hC => wX11_strongest hC hR hm F κ) Δ l hl hN
set_option maxRecDepth 20000 in
theorem wX11_sure_42 {Γ : JCtx} (hC : jC Γ cX11_sure 3 RX11 (some .int) layM 15) (hR : gR Γ = rmH 2) (hm : gcells Γ ≤ (gR Γ).cells ∧ gslots Γ ≤ (gR Γ).slots) (F : Nat) (κ : Mem) (v2 : Int32) (y0 : Int32) (y1 : Int32) (k10 : Int32 → Int32 → Option (Int32 × Mem)) (hk10 : ∀ (v1 : Int32) (v2 : Int32), JP Γ (qf Γ oE) (k10 v1 v2) κ 10 [(0, .ref (gad Γ 0)), (1, .int v1), (2, .int v2)] []) : JP Γ (qf Γ oE) (pX11_sure_42 F k10 κ v2 y0 y1) κ 42 [(0, .ref (gad Γ 0)), (2, .int v2)] [.int y0, .int y1] := by
  unfold pX11_sure_42
  refine j_iadd hC (pc := 42) dX11_sure_42 ?_
  refine j_nmi (fun x4 => ?_)
  refine j_istore_n hC (pc := 43) dX11_sure_43 rfl (Nat.le_of_ble_eq_true rfl) (loc' := [(1, .int x4), (0, .ref (gad Γ 0)), (2, .int v2)]) rfl ?_
  refine j_iinc hC (pc := 44) dX11_sure_44 2 rfl ki_1 (Nat.le_of_ble_eq_true rfl) (loc' := [(2, .int (v2 + 1)), (1, .int x4), (0, .ref (gad Γ 0))]) rfl ?_
  refine j_goto hC (pc := 47) dX11_sure_47 (tgt := 10) rfl ?_
  refine j_sub [2, 1, 0] (loc' := [(0, .ref (gad Γ 0)), (1, .int x4), (2, .int (v2 + 1))]) rfl ?_
  exact hk10 x4 (v2 + 1)
set_option maxRecDepth 20000 in
theorem wX11_sure_41 {Γ : JCtx} (hC : jC Γ cX11_sure 3 RX11 (some .int) layM 15) (hR : gR Γ = rmH 2) (hm : gcells Γ ≤ (gR Γ).cells ∧ gslots Γ ≤ (gR Γ).slots) (F : Nat) (κ : Mem) (v2 : Int32) (y0 : Int32) (k10 : Int32 → Int32 → Option (Int32 × Mem)) (hk10 : ∀ (v1 : Int32) (v2 : Int32), JP Γ (qf Γ oE) (k10 v1 v2) κ 10 [(0, .ref (gad Γ 0)), (1, .int v1), (2, .int v2)] []) : JP Γ (qf Γ oE) (pX11_sure_41 F k10 κ v2 y0) κ 41 [(0, .ref (gad Γ 0)), (2, .int v2)] [.int y0] := by
  unfold pX11_sure_41
  refine j_iconst hC (pc := 41) dX11_sure_41 ki_0 ?_
  exact wX11_sure_42 hC hR hm F κ v2 0 y0 k10 hk10
set_option maxRecDepth 20000 in
theorem wX11_sure_10 {Γ : JCtx} (hC : jC Γ cX11_sure 3 RX11 (some .int) layM 15) (hR : gR Γ = rmH 2) (hm : gcells Γ ≤ (gR Γ).cells ∧ gslots Γ ≤ (gR Γ).slots) (F : Nat) (κ : Mem) : ∀ (n : Nat) (v1 : Int32) (v2 : Int32), JP Γ (qf Γ oE) (pX11_sure_10 F κ n v1 v2) κ 10 [(0, .ref (gad Γ 0)), (1, .int v1), (2, .int v2)] [] := by
  intro n
  induction n with
  | zero =>
    intro v1 v2
    rw [pX11_sure_10]
    exact j_none
  | succ fu ih =>
    intro v1 v2
    rw [pX11_sure_10]
    refine j_iload_n hC (pc := 10) dX11_sure_10 2 rfl rfl ?_
    refine j_aload_n hC (pc := 11) dX11_sure_11 0 rfl rfl ?_
    refine j_callV_I hC hR (ctX11_all hC.l hC.cn κ) kc_RX11_96 (Nat.le_of_ble_eq_true rfl) (Nat.le_of_ble_eq_true rfl) lM_0 (Nat.le_of_ble_eq_true rfl) rfl (As := []) (rest := [.int v2]) rfl rfl (Nat.le_of_ble_eq_true rfl) hm (pc := 12) dX11_sure_12 (fun t2 => ?_)
    refine j_icmp_gt hC (pc := 15) dX11_sure_15 (tgt := 50) rfl ?_ ?_
    · refine j_iload_n hC (pc := 18) dX11_sure_18 1 rfl rfl ?_
      refine j_aload_n hC (pc := 19) dX11_sure_19 0 rfl rfl ?_
      refine j_iload_n hC (pc := 20) dX11_sure_20 2 rfl rfl ?_
      refine j_callV_I hC hR (ctX11_twelfths hC.l hC.cn F κ v2) kc_RX11_226 (Nat.le_of_ble_eq_true rfl) (Nat.le_of_ble_eq_true rfl) lM_0 (Nat.le_of_ble_eq_true rfl) rfl (As := [.int v2]) (rest := [.int v1]) rfl rfl (Nat.le_of_ble_eq_true rfl) hm (pc := 21) dX11_sure_21 (fun t3 => ?_)
      refine j_bipush hC (pc := 24) dX11_sure_24 kb_12 ?_
      refine j_icmp_lt hC (pc := 26) dX11_sure_26 (tgt := 41) rfl ?_ ?_
      · refine j_sub [0, 2] (loc' := [(0, .ref (gad Γ 0)), (2, .int v2)]) rfl ?_
        exact wX11_sure_41 hC hR hm F κ v2 v1 (pX11_sure_10 F κ fu) ih
      · refine j_aload_n hC (pc := 29) dX11_sure_29 0 rfl rfl ?_
        refine j_iload_n hC (pc := 30) dX11_sure_30 2 rfl rfl ?_
        refine j_callV_I hC hR (ctX11_isClique hC.l hC.cn F κ v2) kc_RX11_232 (Nat.le_of_ble_eq_true rfl) (Nat.le_of_ble_eq_true rfl) lM_0 (Nat.le_of_ble_eq_true rfl) rfl (As := [.int v2]) (rest := [.int v1]) rfl rfl (Nat.le_of_ble_eq_true rfl) hm (pc := 31) dX11_sure_31 (fun t5 => ?_)
        refine j_if_eq hC (pc := 34) dX11_sure_34 (tgt := 41) rfl ?_ ?_
        · refine j_sub [0, 2] (loc' := [(0, .ref (gad Γ 0)), (2, .int v2)]) rfl ?_
          exact wX11_sure_41 hC hR hm F κ v2 v1 (pX11_sure_10 F κ fu) ih
        · refine j_iconst hC (pc := 37) dX11_sure_37 ki_1 ?_
          refine j_goto hC (pc := 38) dX11_sure_38 (tgt := 42) rfl ?_
          refine j_sub [0, 2] (loc' := [(0, .ref (gad Γ 0)), (2, .int v2)]) rfl ?_
          exact wX11_sure_42 hC hR hm F κ v2 1 v1 (pX11_sure_10 F κ fu) ih
    · refine j_iload_n hC (pc := 50) dX11_sure_50 1 rfl rfl ?_
      exact j_iret hC (pc := 51) dX11_sure_51 rfl rfl rfl
set_option maxRecDepth 20000 in
theorem wX11_sure {Γ : JCtx} (hC : jC Γ cX11_sure 3 RX11 (some .int) layM 15) (hR : gR Γ = rmH 2) (hm : gcells Γ ≤ (gR Γ).cells ∧ gslots Γ ≤ (gR Γ).slots) (F : Nat) (κ : Mem) : JP Γ (qf Γ oE) (pX11_sure F κ) κ 0 [(0, .ref (gad Γ 0))] [] := by
  unfold pX11_sure
  refine j_aload_n hC (pc := 0) dX11_sure_0 0 rfl rfl ?_
  refine j_iconst hC (pc := 1) dX11_sure_1 ki_0 ?_
  refine j_callV_E hC hR (ctX11_is hC.l hC.cn κ 0) kc_RX11_145 (Nat.le_of_ble_eq_true rfl) (Nat.le_of_ble_eq_true rfl) lM_0 (Nat.le_of_ble_eq_true rfl) rfl (As := [.int 0]) (rest := []) rfl rfl (Nat.le_of_ble_eq_true rfl) hm (pc := 2) dX11_sure_2 (fun t1 => ?_)
  refine j_pop hC (pc := 5) dX11_sure_5 rfl ?_
  refine j_iconst hC (pc := 6) dX11_sure_6 ki_0 ?_
  refine j_istore_n hC (pc := 7) dX11_sure_7 rfl (Nat.le_of_ble_eq_true rfl) (loc' := [(1, .int 0), (0, .ref (gad Γ 0))]) rfl ?_
  refine j_iconst hC (pc := 8) dX11_sure_8 ki_1 ?_
  refine j_istore_n hC (pc := 9) dX11_sure_9 rfl (Nat.le_of_ble_eq_true rfl) (loc' := [(2, .int 1), (1, .int 0), (0, .ref (gad Γ 0))]) rfl ?_
  refine j_sub [2, 1, 0] (loc' := [(0, .ref (gad Γ 0)), (1, .int 0), (2, .int 1)]) rfl ?_
  exact wX11_sure_10 hC hR hm F t1.2 F 0 1
theorem ctX11_sure {Δ : DCtx} {l : Launch} (hl : dlay Δ = layM) (hN : dN Δ = 15) (F : Nat) (κ : Mem) : ∀ r, pX11_sure F κ = some r → CT Δ l yX11_sure cX11_sure 3 (some .int) (rmH 2) [.ref (dad Δ 0)] κ (some (.int r.1)) r.2 :=
  ct_of (nL := 3) (ret := (some .int)) (lay := layM) (N := 15) (by decide +kernel) (fun Δ => [.ref (dad Δ 0)]) (fun _ => oE) (fun _ => (Nat.le_of_ble_eq_true rfl)) (fun Γ hR hm hC => wX11_sure hC hR hm F κ) Δ l hl hN
set_option maxRecDepth 20000 in
theorem wX11_laysLone_82 {Γ : JCtx} (hC : jC Γ cX11_laysLone 3 RX11 none layM 15) (hR : gR Γ = rmH 5) (hm : gcells Γ ≤ (gR Γ).cells ∧ gslots Γ ≤ (gR Γ).slots) (F : Nat) (κ : Mem) (v1 : Int32) (v2 : Int32) (k28 : Mem → Int32 → Option Mem) (hk28 : ∀ (κ : Mem) (v2 : Int32), JP Γ (qf Γ oV) (k28 κ v2) κ 28 [(0, .ref (gad Γ 0)), (1, .int v1), (2, .int v2)] []) : JP Γ (qf Γ oV) (pX11_laysLone_82 F k28 κ v1 v2) κ 82 [(0, .ref (gad Γ 0)), (1, .int v1), (2, .int v2)] [] := by
  unfold pX11_laysLone_82
  refine j_iinc hC (pc := 82) dX11_laysLone_82 2 rfl ki_1 (Nat.le_of_ble_eq_true rfl) (loc' := [(2, .int (v2 + 1)), (0, .ref (gad Γ 0)), (1, .int v1)]) rfl ?_
  refine j_goto hC (pc := 85) dX11_laysLone_85 (tgt := 28) rfl ?_
  refine j_sub [1, 2, 0] (loc' := [(0, .ref (gad Γ 0)), (1, .int v1), (2, .int (v2 + 1))]) rfl ?_
  exact hk28 κ (v2 + 1)
set_option maxRecDepth 20000 in
theorem wX11_laysLone_28 {Γ : JCtx} (hC : jC Γ cX11_laysLone 3 RX11 none layM 15) (hR : gR Γ = rmH 5) (hm : gcells Γ ≤ (gR Γ).cells ∧ gslots Γ ≤ (gR Γ).slots) (F : Nat) (v1 : Int32) : ∀ (n : Nat) (κ : Mem) (v2 : Int32), JP Γ (qf Γ oV) (pX11_laysLone_28 F v1 n κ v2) κ 28 [(0, .ref (gad Γ 0)), (1, .int v1), (2, .int v2)] [] := by
  intro n
  induction n with
  | zero =>
    intro κ v2
    rw [pX11_laysLone_28]
    exact j_none
  | succ fu ih =>
    intro κ v2
    rw [pX11_laysLone_28]
    refine j_iload_n hC (pc := 28) dX11_laysLone_28 2 rfl rfl ?_
    refine j_aload_n hC (pc := 29) dX11_laysLone_29 0 rfl rfl ?_
    refine j_callV_I hC hR (ctX11_colourings_ hC.l hC.cn F κ) kc_RX11_125 (Nat.le_of_ble_eq_true rfl) (Nat.le_of_ble_eq_true rfl) lM_0 (Nat.le_of_ble_eq_true rfl) rfl (As := []) (rest := [.int v2]) rfl rfl (Nat.le_of_ble_eq_true rfl) hm (pc := 30) dX11_laysLone_30 (fun t3 => ?_)
    refine j_icmp_ge hC (pc := 33) dX11_laysLone_33 (tgt := 88) rfl ?_ ?_
    · refine j_aload_n hC (pc := 36) dX11_laysLone_36 0 rfl rfl ?_
      refine j_getR hC (pc := 37) dX11_laysLone_37 kf_RX11_26 lM_0 (Nat.le_of_ble_eq_true rfl) rfl ?_
      refine j_iload_n hC (pc := 40) dX11_laysLone_40 2 rfl rfl ?_
      refine j_iald hC (pc := 41) dX11_laysLone_41 lM_6 (Nat.le_of_ble_eq_true rfl) ?_
      refine j_iconst hC (pc := 42) dX11_laysLone_42 ki_1 ?_
      refine j_iload_n hC (pc := 43) dX11_laysLone_43 1 rfl rfl ?_
      refine j_ishl hC (pc := 44) dX11_laysLone_44 ?_
      refine j_iconst hC (pc := 45) dX11_laysLone_45 ki_m1 ?_
      refine j_ixor hC (pc := 46) dX11_laysLone_46 ?_
      refine j_iand hC (pc := 47) dX11_laysLone_47 ?_
      refine j_if_eq hC (pc := 48) dX11_laysLone_48 (tgt := 54) rfl ?_ ?_
      · refine j_aload_n hC (pc := 54) dX11_laysLone_54 0 rfl rfl ?_
        refine j_iload_n hC (pc := 55) dX11_laysLone_55 2 rfl rfl ?_
        refine j_callV_V hC hR (ctX11_lays hC.l hC.cn F κ v2) kc_RX11_127 (Nat.le_of_ble_eq_true rfl) (Nat.le_of_ble_eq_true rfl) lM_0 (Nat.le_of_ble_eq_true rfl) rfl (As := [.int v2]) (rest := []) rfl rfl (Nat.le_of_ble_eq_true rfl) hm (pc := 56) dX11_laysLone_56 (fun t4 => ?_)
        refine j_aload_n hC (pc := 59) dX11_laysLone_59 0 rfl rfl ?_
        refine j_getR hC (pc := 60) dX11_laysLone_60 kf_RX11_32 lM_0 (Nat.le_of_ble_eq_true rfl) rfl ?_
        refine j_iconst hC (pc := 63) dX11_laysLone_63 ki_4 ?_
        refine j_aload_n hC (pc := 64) dX11_laysLone_64 0 rfl rfl ?_
        refine j_iload_n hC (pc := 65) dX11_laysLone_65 1 rfl rfl ?_
        refine j_callV_I hC hR (ctX11_situationOf hC.l hC.cn F t4 v1) kc_RX11_118 (Nat.le_of_ble_eq_true rfl) (Nat.le_of_ble_eq_true rfl) lM_0 (Nat.le_of_ble_eq_true rfl) rfl (As := [.int v1]) (rest := [.int 4, .ref (gad Γ 8)]) rfl rfl (Nat.le_of_ble_eq_true rfl) hm (pc := 66) dX11_laysLone_66 (fun t5 => ?_)
        refine j_imul hC (pc := 69) dX11_laysLone_69 ?_
        refine j_aload_n hC (pc := 70) dX11_laysLone_70 0 rfl rfl ?_
        refine j_getR hC (pc := 71) dX11_laysLone_71 kf_RX11_23 lM_0 (Nat.le_of_ble_eq_true rfl) rfl ?_
        refine j_iload_n hC (pc := 74) dX11_laysLone_74 1 rfl rfl ?_
        refine j_iald hC (pc := 75) dX11_laysLone_75 lM_5 (Nat.le_of_ble_eq_true rfl) ?_
        refine j_iadd hC (pc := 76) dX11_laysLone_76 ?_
        refine j_nmi (fun x6 => ?_)
        refine j_dup2 hC (pc := 77) dX11_laysLone_77 rfl rfl ?_
        refine j_iald hC (pc := 78) dX11_laysLone_78 lM_8 (Nat.le_of_ble_eq_true rfl) ?_
        refine j_iconst hC (pc := 79) dX11_laysLone_79 ki_1 ?_
        refine j_iadd hC (pc := 80) dX11_laysLone_80 ?_
        refine j_iast hC (pc := 81) dX11_laysLone_81 lM_8 (Nat.le_of_ble_eq_true rfl) (fun κ7 => ?_)
        exact wX11_laysLone_82 hC hR hm F κ7 v1 v2 (pX11_laysLone_28 F v1 fu) ih
      · refine j_goto hC (pc := 51) dX11_laysLone_51 (tgt := 82) rfl ?_
        exact wX11_laysLone_82 hC hR hm F κ v1 v2 (pX11_laysLone_28 F v1 fu) ih
    · exact j_vret hC (pc := 88) dX11_laysLone_88 rfl rfl
set_option maxRecDepth 20000 in
theorem wX11_laysLone_2 {Γ : JCtx} (hC : jC Γ cX11_laysLone 3 RX11 none layM 15) (hR : gR Γ = rmH 5) (hm : gcells Γ ≤ (gR Γ).cells ∧ gslots Γ ≤ (gR Γ).slots) (F : Nat) (v1 : Int32) : ∀ (n : Nat) (κ : Mem) (v2 : Int32), JP Γ (qf Γ oV) (pX11_laysLone_2 F v1 n κ v2) κ 2 [(0, .ref (gad Γ 0)), (1, .int v1), (2, .int v2)] [] := by
  intro n
  induction n with
  | zero =>
    intro κ v2
    rw [pX11_laysLone_2]
    exact j_none
  | succ fu ih =>
    intro κ v2
    rw [pX11_laysLone_2]
    refine j_iload_n hC (pc := 2) dX11_laysLone_2 2 rfl rfl ?_
    refine j_sipush hC (pc := 3) dX11_laysLone_3 ks_4096 ?_
    refine j_icmp_ge hC (pc := 6) dX11_laysLone_6 (tgt := 22) rfl ?_ ?_
    · refine j_aload_n hC (pc := 9) dX11_laysLone_9 0 rfl rfl ?_
      refine j_getR hC (pc := 10) dX11_laysLone_10 kf_RX11_32 lM_0 (Nat.le_of_ble_eq_true rfl) rfl ?_
      refine j_iload_n hC (pc := 13) dX11_laysLone_13 2 rfl rfl ?_
      refine j_iconst hC (pc := 14) dX11_laysLone_14 ki_0 ?_
      refine j_iast hC (pc := 15) dX11_laysLone_15 lM_8 (Nat.le_of_ble_eq_true rfl) (fun κ1 => ?_)
      refine j_iinc hC (pc := 16) dX11_laysLone_16 2 rfl ki_1 (Nat.le_of_ble_eq_true rfl) (loc' := [(2, .int (v2 + 1)), (0, .ref (gad Γ 0)), (1, .int v1)]) rfl ?_
      refine j_goto hC (pc := 19) dX11_laysLone_19 (tgt := 2) rfl ?_
      refine j_sub [1, 2, 0] (loc' := [(0, .ref (gad Γ 0)), (1, .int v1), (2, .int (v2 + 1))]) rfl ?_
      exact ih κ1 (v2 + 1)
    · refine j_aload_n hC (pc := 22) dX11_laysLone_22 0 rfl rfl ?_
      refine j_callV_V hC hR (ctX11_laysRight hC.l hC.cn F κ) kc_RX11_134 (Nat.le_of_ble_eq_true rfl) (Nat.le_of_ble_eq_true rfl) lM_0 (Nat.le_of_ble_eq_true rfl) rfl (As := []) (rest := []) rfl rfl (Nat.le_of_ble_eq_true rfl) hm (pc := 23) dX11_laysLone_23 (fun t2 => ?_)
      refine j_iconst hC (pc := 26) dX11_laysLone_26 ki_0 ?_
      refine j_istore_n hC (pc := 27) dX11_laysLone_27 rfl (Nat.le_of_ble_eq_true rfl) (loc' := [(2, .int 0), (0, .ref (gad Γ 0)), (1, .int v1)]) rfl ?_
      refine j_sub [1, 2, 0] (loc' := [(0, .ref (gad Γ 0)), (1, .int v1), (2, .int 0)]) rfl ?_
      exact wX11_laysLone_28 hC hR hm F v1 F t2 0
set_option maxRecDepth 20000 in
theorem wX11_laysLone {Γ : JCtx} (hC : jC Γ cX11_laysLone 3 RX11 none layM 15) (hR : gR Γ = rmH 5) (hm : gcells Γ ≤ (gR Γ).cells ∧ gslots Γ ≤ (gR Γ).slots) (F : Nat) (κ : Mem) (v1 : Int32) : JP Γ (qf Γ oV) (pX11_laysLone F κ v1) κ 0 [(0, .ref (gad Γ 0)), (1, .int v1)] [] := by
  unfold pX11_laysLone
  refine j_iconst hC (pc := 0) dX11_laysLone_0 ki_0 ?_
  refine j_istore_n hC (pc := 1) dX11_laysLone_1 rfl (Nat.le_of_ble_eq_true rfl) (loc' := [(2, .int 0), (0, .ref (gad Γ 0)), (1, .int v1)]) rfl ?_
  refine j_sub [1, 2, 0] (loc' := [(0, .ref (gad Γ 0)), (1, .int v1), (2, .int 0)]) rfl ?_
  exact wX11_laysLone_2 hC hR hm F v1 F κ 0
theorem ctX11_laysLone {Δ : DCtx} {l : Launch} (hl : dlay Δ = layM) (hN : dN Δ = 15) (F : Nat) (κ : Mem) (v1 : Int32) : ∀ r, pX11_laysLone F κ v1 = some r → CT Δ l yX11_laysLone cX11_laysLone 3 none (rmH 5) [.ref (dad Δ 0), .int v1] κ none r :=
  ct_of (nL := 3) (ret := none) (lay := layM) (N := 15) (by decide +kernel) (fun Δ => [.ref (dad Δ 0), .int v1]) (fun _ => oV) (fun _ => (Nat.le_of_ble_eq_true rfl)) (fun Γ hR hm hC => wX11_laysLone hC hR hm F κ v1) Δ l hl hN
set_option maxRecDepth 20000 in
theorem wX11_bestIn_45 {Γ : JCtx} (hC : jC Γ cX11_bestIn 5 RX11 (some .int) layM 15) (hR : gR Γ = rmH 1) (hm : gcells Γ ≤ (gR Γ).cells ∧ gslots Γ ≤ (gR Γ).slots) (F : Nat) (κ : Mem) (v1 : Int32) (v2 : Int32) (v4 : Int32) (y0 : Int32) (k5 : Int32 → Int32 → Option Int32) (hk5 : ∀ (v3 : Int32) (v4 : Int32), JP Γ (qf Γ (oI κ)) (k5 v3 v4) κ 5 [(0, .ref (gad Γ 0)), (1, .int v1), (2, .int v2), (3, .int v3), (4, .int v4)] []) : JP Γ (qf Γ (oI κ)) (pX11_bestIn_45 F κ k5 v1 v2 v4 y0) κ 45 [(0, .ref (gad Γ 0)), (1, .int v1), (2, .int v2), (4, .int v4)] [.int y0] := by
  unfold pX11_bestIn_45
  refine j_istore_n hC (pc := 45) dX11_bestIn_45 rfl (Nat.le_of_ble_eq_true rfl) (loc' := [(3, .int y0), (0, .ref (gad Γ 0)), (1, .int v1), (2, .int v2), (4, .int v4)]) rfl ?_
  refine j_iinc hC (pc := 46) dX11_bestIn_46 4 rfl ki_1 (Nat.le_of_ble_eq_true rfl) (loc' := [(4, .int (v4 + 1)), (3, .int y0), (0, .ref (gad Γ 0)), (1, .int v1), (2, .int v2)]) rfl ?_
  refine j_goto hC (pc := 49) dX11_bestIn_49 (tgt := 5) rfl ?_
  refine j_sub [2, 3, 4, 1, 0] (loc' := [(0, .ref (gad Γ 0)), (1, .int v1), (2, .int v2), (3, .int y0), (4, .int (v4 + 1))]) rfl ?_
  exact hk5 y0 (v4 + 1)
set_option maxRecDepth 20000 in
theorem wX11_bestIn_5 {Γ : JCtx} (hC : jC Γ cX11_bestIn 5 RX11 (some .int) layM 15) (hR : gR Γ = rmH 1) (hm : gcells Γ ≤ (gR Γ).cells ∧ gslots Γ ≤ (gR Γ).slots) (F : Nat) (κ : Mem) (v1 : Int32) (v2 : Int32) : ∀ (n : Nat) (v3 : Int32) (v4 : Int32), JP Γ (qf Γ (oI κ)) (pX11_bestIn_5 F κ v1 v2 n v3 v4) κ 5 [(0, .ref (gad Γ 0)), (1, .int v1), (2, .int v2), (3, .int v3), (4, .int v4)] [] := by
  intro n
  induction n with
  | zero =>
    intro v3 v4
    rw [pX11_bestIn_5]
    exact j_none
  | succ fu ih =>
    intro v3 v4
    rw [pX11_bestIn_5]
    refine j_iload hC (pc := 5) dX11_bestIn_5 4 rfl ?_
    refine j_aload_n hC (pc := 7) dX11_bestIn_7 0 rfl rfl ?_
    refine j_iload_n hC (pc := 8) dX11_bestIn_8 1 rfl rfl ?_
    refine j_callV_I hC hR (ctX11_hats hC.l hC.cn κ v1) kc_RX11_111 (Nat.le_of_ble_eq_true rfl) (Nat.le_of_ble_eq_true rfl) lM_0 (Nat.le_of_ble_eq_true rfl) rfl (As := [.int v1]) (rest := [.int v4]) rfl rfl (Nat.le_of_ble_eq_true rfl) hm (pc := 9) dX11_bestIn_9 (fun t1 => ?_)
    refine j_icmp_ge hC (pc := 12) dX11_bestIn_12 (tgt := 52) rfl ?_ ?_
    · refine j_aload_n hC (pc := 15) dX11_bestIn_15 0 rfl rfl ?_
      refine j_getR hC (pc := 16) dX11_bestIn_16 kf_RX11_32 lM_0 (Nat.le_of_ble_eq_true rfl) rfl ?_
      refine j_iconst hC (pc := 19) dX11_bestIn_19 ki_4 ?_
      refine j_iload_n hC (pc := 20) dX11_bestIn_20 2 rfl rfl ?_
      refine j_imul hC (pc := 21) dX11_bestIn_21 ?_
      refine j_iload hC (pc := 22) dX11_bestIn_22 4 rfl ?_
      refine j_iadd hC (pc := 24) dX11_bestIn_24 ?_
      refine j_iald hC (pc := 25) dX11_bestIn_25 lM_8 (Nat.le_of_ble_eq_true rfl) ?_
      refine j_aload_n hC (pc := 26) dX11_bestIn_26 0 rfl rfl ?_
      refine j_getR hC (pc := 27) dX11_bestIn_27 kf_RX11_32 lM_0 (Nat.le_of_ble_eq_true rfl) rfl ?_
      refine j_iconst hC (pc := 30) dX11_bestIn_30 ki_4 ?_
      refine j_iload_n hC (pc := 31) dX11_bestIn_31 2 rfl rfl ?_
      refine j_imul hC (pc := 32) dX11_bestIn_32 ?_
      refine j_iload_n hC (pc := 33) dX11_bestIn_33 3 rfl rfl ?_
      refine j_iadd hC (pc := 34) dX11_bestIn_34 ?_
      refine j_iald hC (pc := 35) dX11_bestIn_35 lM_8 (Nat.le_of_ble_eq_true rfl) ?_
      refine j_icmp_le hC (pc := 36) dX11_bestIn_36 (tgt := 44) rfl ?_ ?_
      · refine j_iload_n hC (pc := 44) dX11_bestIn_44 3 rfl rfl ?_
        refine j_sub [0, 1, 2, 4] (loc' := [(0, .ref (gad Γ 0)), (1, .int v1), (2, .int v2), (4, .int v4)]) rfl ?_
        exact wX11_bestIn_45 hC hR hm F κ v1 v2 v4 v3 (pX11_bestIn_5 F κ v1 v2 fu) ih
      · refine j_iload hC (pc := 39) dX11_bestIn_39 4 rfl ?_
        refine j_goto hC (pc := 41) dX11_bestIn_41 (tgt := 45) rfl ?_
        refine j_sub [0, 1, 2, 4] (loc' := [(0, .ref (gad Γ 0)), (1, .int v1), (2, .int v2), (4, .int v4)]) rfl ?_
        exact wX11_bestIn_45 hC hR hm F κ v1 v2 v4 v4 (pX11_bestIn_5 F κ v1 v2 fu) ih
    · refine j_iload_n hC (pc := 52) dX11_bestIn_52 3 rfl rfl ?_
      exact j_iret hC (pc := 53) dX11_bestIn_53 rfl rfl rfl
set_option maxRecDepth 20000 in
theorem wX11_bestIn {Γ : JCtx} (hC : jC Γ cX11_bestIn 5 RX11 (some .int) layM 15) (hR : gR Γ = rmH 1) (hm : gcells Γ ≤ (gR Γ).cells ∧ gslots Γ ≤ (gR Γ).slots) (F : Nat) (κ : Mem) (v1 : Int32) (v2 : Int32) : JP Γ (qf Γ (oI κ)) (pX11_bestIn F κ v1 v2) κ 0 [(0, .ref (gad Γ 0)), (1, .int v1), (2, .int v2)] [] := by
  unfold pX11_bestIn
  refine j_iconst hC (pc := 0) dX11_bestIn_0 ki_0 ?_
  refine j_istore_n hC (pc := 1) dX11_bestIn_1 rfl (Nat.le_of_ble_eq_true rfl) (loc' := [(3, .int 0), (0, .ref (gad Γ 0)), (1, .int v1), (2, .int v2)]) rfl ?_
  refine j_iconst hC (pc := 2) dX11_bestIn_2 ki_1 ?_
  refine j_istore hC (pc := 3) dX11_bestIn_3 (Nat.le_of_ble_eq_true rfl) (loc' := [(4, .int 1), (3, .int 0), (0, .ref (gad Γ 0)), (1, .int v1), (2, .int v2)]) rfl ?_
  refine j_sub [2, 3, 4, 1, 0] (loc' := [(0, .ref (gad Γ 0)), (1, .int v1), (2, .int v2), (3, .int 0), (4, .int 1)]) rfl ?_
  exact wX11_bestIn_5 hC hR hm F κ v1 v2 F 0 1
theorem ctX11_bestIn {Δ : DCtx} {l : Launch} (hl : dlay Δ = layM) (hN : dN Δ = 15) (F : Nat) (κ : Mem) (v1 : Int32) (v2 : Int32) : ∀ r, pX11_bestIn F κ v1 v2 = some r → CT Δ l yX11_bestIn cX11_bestIn 5 (some .int) (rmH 1) [.ref (dad Δ 0), .int v1, .int v2] κ (some (.int r)) κ :=
  ct_of (nL := 5) (ret := (some .int)) (lay := layM) (N := 15) (by decide +kernel) (fun Δ => [.ref (dad Δ 0), .int v1, .int v2]) (fun _ => oI κ) (fun _ => (Nat.le_of_ble_eq_true rfl)) (fun Γ hR hm hC => wX11_bestIn hC hR hm F κ v1 v2) Δ l hl hN
set_option maxRecDepth 20000 in
theorem wX11_lostWithBest_58 {Γ : JCtx} (hC : jC Γ cX11_lostWithBest 5 RX11 (some .int) layM 15) (hR : gR Γ = rmH 6) (hm : gcells Γ ≤ (gR Γ).cells ∧ gslots Γ ≤ (gR Γ).slots) (F : Nat) (κ : Mem) (v1 : Int32) (v3 : Int32) (v4 : Int32) (y0 : Int32) (y1 : Int32) (k21 : Int32 → Int32 → Option (Int32 × Mem)) (hk21 : ∀ (v2 : Int32) (v4 : Int32), JP Γ (qf Γ oE) (k21 v2 v4) κ 21 [(0, .ref (gad Γ 0)), (1, .int v1), (2, .int v2), (3, .int v3), (4, .int v4)] []) : JP Γ (qf Γ oE) (pX11_lostWithBest_58 F k21 κ v1 v3 v4 y0 y1) κ 58 [(0, .ref (gad Γ 0)), (1, .int v1), (3, .int v3), (4, .int v4)] [.int y0, .int y1] := by
  unfold pX11_lostWithBest_58
  refine j_iadd hC (pc := 58) dX11_lostWithBest_58 ?_
  refine j_nmi (fun x5 => ?_)
  refine j_istore_n hC (pc := 59) dX11_lostWithBest_59 rfl (Nat.le_of_ble_eq_true rfl) (loc' := [(2, .int x5), (0, .ref (gad Γ 0)), (1, .int v1), (3, .int v3), (4, .int v4)]) rfl ?_
  refine j_iinc hC (pc := 60) dX11_lostWithBest_60 4 rfl ki_1 (Nat.le_of_ble_eq_true rfl) (loc' := [(4, .int (v4 + 1)), (2, .int x5), (0, .ref (gad Γ 0)), (1, .int v1), (3, .int v3)]) rfl ?_
  refine j_goto hC (pc := 63) dX11_lostWithBest_63 (tgt := 21) rfl ?_
  refine j_sub [2, 3, 1, 4, 0] (loc' := [(0, .ref (gad Γ 0)), (1, .int v1), (2, .int x5), (3, .int v3), (4, .int (v4 + 1))]) rfl ?_
  exact hk21 x5 (v4 + 1)
set_option maxRecDepth 20000 in
theorem wX11_lostWithBest_21 {Γ : JCtx} (hC : jC Γ cX11_lostWithBest 5 RX11 (some .int) layM 15) (hR : gR Γ = rmH 6) (hm : gcells Γ ≤ (gR Γ).cells ∧ gslots Γ ≤ (gR Γ).slots) (F : Nat) (κ : Mem) (v1 : Int32) (v3 : Int32) (k9 : Int32 → Int32 → Option (Int32 × Mem)) (hk9 : ∀ (v2 : Int32) (v3 : Int32), JP Γ (qf Γ oE) (k9 v2 v3) κ 9 [(0, .ref (gad Γ 0)), (1, .int v1), (2, .int v2), (3, .int v3)] []) : ∀ (n : Nat) (v2 : Int32) (v4 : Int32), JP Γ (qf Γ oE) (pX11_lostWithBest_21 F k9 κ v1 v3 n v2 v4) κ 21 [(0, .ref (gad Γ 0)), (1, .int v1), (2, .int v2), (3, .int v3), (4, .int v4)] [] := by
  intro n
  induction n with
  | zero =>
    intro v2 v4
    rw [pX11_lostWithBest_21]
    exact j_none
  | succ fu ih =>
    intro v2 v4
    rw [pX11_lostWithBest_21]
    refine j_iload hC (pc := 21) dX11_lostWithBest_21 4 rfl ?_
    refine j_aload_n hC (pc := 23) dX11_lostWithBest_23 0 rfl rfl ?_
    refine j_iload_n hC (pc := 24) dX11_lostWithBest_24 1 rfl rfl ?_
    refine j_callV_I hC hR (ctX11_hats hC.l hC.cn κ v1) kc_RX11_111 (Nat.le_of_ble_eq_true rfl) (Nat.le_of_ble_eq_true rfl) lM_0 (Nat.le_of_ble_eq_true rfl) rfl (As := [.int v1]) (rest := [.int v4]) rfl rfl (Nat.le_of_ble_eq_true rfl) hm (pc := 25) dX11_lostWithBest_25 (fun t3 => ?_)
    refine j_icmp_ge hC (pc := 28) dX11_lostWithBest_28 (tgt := 66) rfl ?_ ?_
    · refine j_iload_n hC (pc := 31) dX11_lostWithBest_31 2 rfl rfl ?_
      refine j_iload hC (pc := 32) dX11_lostWithBest_32 4 rfl ?_
      refine j_aload_n hC (pc := 34) dX11_lostWithBest_34 0 rfl rfl ?_
      refine j_iload_n hC (pc := 35) dX11_lostWithBest_35 1 rfl rfl ?_
      refine j_iload_n hC (pc := 36) dX11_lostWithBest_36 3 rfl rfl ?_
      refine j_callV_I hC hR (ctX11_bestIn hC.l hC.cn F κ v1 v3) kc_RX11_238 (Nat.le_of_ble_eq_true rfl) (Nat.le_of_ble_eq_true rfl) lM_0 (Nat.le_of_ble_eq_true rfl) rfl (As := [.int v1, .int v3]) (rest := [.int v4, .int v2]) rfl rfl (Nat.le_of_ble_eq_true rfl) hm (pc := 37) dX11_lostWithBest_37 (fun t4 => ?_)
      refine j_icmp_ne hC (pc := 40) dX11_lostWithBest_40 (tgt := 47) rfl ?_ ?_
      · refine j_iconst hC (pc := 43) dX11_lostWithBest_43 ki_0 ?_
        refine j_goto hC (pc := 44) dX11_lostWithBest_44 (tgt := 58) rfl ?_
        refine j_sub [0, 1, 3, 4] (loc' := [(0, .ref (gad Γ 0)), (1, .int v1), (3, .int v3), (4, .int v4)]) rfl ?_
        exact wX11_lostWithBest_58 hC hR hm F κ v1 v3 v4 0 v2 (pX11_lostWithBest_21 F k9 κ v1 v3 fu) ih
      · refine j_aload_n hC (pc := 47) dX11_lostWithBest_47 0 rfl rfl ?_
        refine j_getR hC (pc := 48) dX11_lostWithBest_48 kf_RX11_32 lM_0 (Nat.le_of_ble_eq_true rfl) rfl ?_
        refine j_iconst hC (pc := 51) dX11_lostWithBest_51 ki_4 ?_
        refine j_iload_n hC (pc := 52) dX11_lostWithBest_52 3 rfl rfl ?_
        refine j_imul hC (pc := 53) dX11_lostWithBest_53 ?_
        refine j_iload hC (pc := 54) dX11_lostWithBest_54 4 rfl ?_
        refine j_iadd hC (pc := 56) dX11_lostWithBest_56 ?_
        refine j_iald hC (pc := 57) dX11_lostWithBest_57 lM_8 (Nat.le_of_ble_eq_true rfl) ?_
        refine j_sub [0, 1, 3, 4] (loc' := [(0, .ref (gad Γ 0)), (1, .int v1), (3, .int v3), (4, .int v4)]) rfl ?_
        exact wX11_lostWithBest_58 hC hR hm F κ v1 v3 v4 (mi κ 8 ((4 * v3) + v4).toNatClampNeg) v2 (pX11_lostWithBest_21 F k9 κ v1 v3 fu) ih
    · refine j_iinc hC (pc := 66) dX11_lostWithBest_66 3 rfl ki_1 (Nat.le_of_ble_eq_true rfl) (loc' := [(3, .int (v3 + 1)), (0, .ref (gad Γ 0)), (1, .int v1), (2, .int v2), (4, .int v4)]) rfl ?_
      refine j_goto hC (pc := 69) dX11_lostWithBest_69 (tgt := 9) rfl ?_
      refine j_sub [1, 2, 3, 0] (loc' := [(0, .ref (gad Γ 0)), (1, .int v1), (2, .int v2), (3, .int (v3 + 1))]) rfl ?_
      exact hk9 v2 (v3 + 1)
set_option maxRecDepth 20000 in
theorem wX11_lostWithBest_9 {Γ : JCtx} (hC : jC Γ cX11_lostWithBest 5 RX11 (some .int) layM 15) (hR : gR Γ = rmH 6) (hm : gcells Γ ≤ (gR Γ).cells ∧ gslots Γ ≤ (gR Γ).slots) (F : Nat) (κ : Mem) (v1 : Int32) : ∀ (n : Nat) (v2 : Int32) (v3 : Int32), JP Γ (qf Γ oE) (pX11_lostWithBest_9 F κ v1 n v2 v3) κ 9 [(0, .ref (gad Γ 0)), (1, .int v1), (2, .int v2), (3, .int v3)] [] := by
  intro n
  induction n with
  | zero =>
    intro v2 v3
    rw [pX11_lostWithBest_9]
    exact j_none
  | succ fu ih =>
    intro v2 v3
    rw [pX11_lostWithBest_9]
    refine j_iload_n hC (pc := 9) dX11_lostWithBest_9 3 rfl rfl ?_
    refine j_aload_n hC (pc := 10) dX11_lostWithBest_10 0 rfl rfl ?_
    refine j_iload_n hC (pc := 11) dX11_lostWithBest_11 1 rfl rfl ?_
    refine j_callV_I hC hR (ctX11_situations_ hC.l hC.cn F κ v1) kc_RX11_174 (Nat.le_of_ble_eq_true rfl) (Nat.le_of_ble_eq_true rfl) lM_0 (Nat.le_of_ble_eq_true rfl) rfl (As := [.int v1]) (rest := [.int v3]) rfl rfl (Nat.le_of_ble_eq_true rfl) hm (pc := 12) dX11_lostWithBest_12 (fun t2 => ?_)
    refine j_icmp_ge hC (pc := 15) dX11_lostWithBest_15 (tgt := 72) rfl ?_ ?_
    · refine j_iconst hC (pc := 18) dX11_lostWithBest_18 ki_0 ?_
      refine j_istore hC (pc := 19) dX11_lostWithBest_19 (Nat.le_of_ble_eq_true rfl) (loc' := [(4, .int 0), (0, .ref (gad Γ 0)), (1, .int v1), (2, .int v2), (3, .int v3)]) rfl ?_
      refine j_sub [1, 2, 3, 4, 0] (loc' := [(0, .ref (gad Γ 0)), (1, .int v1), (2, .int v2), (3, .int v3), (4, .int 0)]) rfl ?_
      exact wX11_lostWithBest_21 hC hR hm F κ v1 v3 (pX11_lostWithBest_9 F κ v1 fu) ih F v2 0
    · refine j_iload_n hC (pc := 72) dX11_lostWithBest_72 2 rfl rfl ?_
      exact j_iret hC (pc := 73) dX11_lostWithBest_73 rfl rfl rfl
set_option maxRecDepth 20000 in
theorem wX11_lostWithBest {Γ : JCtx} (hC : jC Γ cX11_lostWithBest 5 RX11 (some .int) layM 15) (hR : gR Γ = rmH 6) (hm : gcells Γ ≤ (gR Γ).cells ∧ gslots Γ ≤ (gR Γ).slots) (F : Nat) (κ : Mem) (v1 : Int32) : JP Γ (qf Γ oE) (pX11_lostWithBest F κ v1) κ 0 [(0, .ref (gad Γ 0)), (1, .int v1)] [] := by
  unfold pX11_lostWithBest
  refine j_aload_n hC (pc := 0) dX11_lostWithBest_0 0 rfl rfl ?_
  refine j_iload_n hC (pc := 1) dX11_lostWithBest_1 1 rfl rfl ?_
  refine j_callV_V hC hR (ctX11_laysLone hC.l hC.cn F κ v1) kc_RX11_235 (Nat.le_of_ble_eq_true rfl) (Nat.le_of_ble_eq_true rfl) lM_0 (Nat.le_of_ble_eq_true rfl) rfl (As := [.int v1]) (rest := []) rfl rfl (Nat.le_of_ble_eq_true rfl) hm (pc := 2) dX11_lostWithBest_2 (fun t1 => ?_)
  refine j_iconst hC (pc := 5) dX11_lostWithBest_5 ki_0 ?_
  refine j_istore_n hC (pc := 6) dX11_lostWithBest_6 rfl (Nat.le_of_ble_eq_true rfl) (loc' := [(2, .int 0), (0, .ref (gad Γ 0)), (1, .int v1)]) rfl ?_
  refine j_iconst hC (pc := 7) dX11_lostWithBest_7 ki_0 ?_
  refine j_istore_n hC (pc := 8) dX11_lostWithBest_8 rfl (Nat.le_of_ble_eq_true rfl) (loc' := [(3, .int 0), (2, .int 0), (0, .ref (gad Γ 0)), (1, .int v1)]) rfl ?_
  refine j_sub [2, 3, 1, 0] (loc' := [(0, .ref (gad Γ 0)), (1, .int v1), (2, .int 0), (3, .int 0)]) rfl ?_
  exact wX11_lostWithBest_9 hC hR hm F t1 v1 F 0 0
theorem ctX11_lostWithBest {Δ : DCtx} {l : Launch} (hl : dlay Δ = layM) (hN : dN Δ = 15) (F : Nat) (κ : Mem) (v1 : Int32) : ∀ r, pX11_lostWithBest F κ v1 = some r → CT Δ l yX11_lostWithBest cX11_lostWithBest 5 (some .int) (rmH 6) [.ref (dad Δ 0), .int v1] κ (some (.int r.1)) r.2 :=
  ct_of (nL := 5) (ret := (some .int)) (lay := layM) (N := 15) (by decide +kernel) (fun Δ => [.ref (dad Δ 0), .int v1]) (fun _ => oE) (fun _ => (Nat.le_of_ble_eq_true rfl)) (fun Γ hR hm hC => wX11_lostWithBest hC hR hm F κ v1) Δ l hl hN
set_option maxRecDepth 20000 in
theorem wX11_best_29 {Γ : JCtx} (hC : jC Γ cX11_best 2 RX11 (some .int) layM 15) (hR : gR Γ = rmH 7) (hm : gcells Γ ≤ (gR Γ).cells ∧ gslots Γ ≤ (gR Γ).slots) (F : Nat) (κ : Mem) (y0 : Int32) : JP Γ (qf Γ oE) (pX11_best_29 F κ y0) κ 29 [] [.int y0] := by
  unfold pX11_best_29
  exact j_iret hC (pc := 29) dX11_best_29 rfl rfl rfl
set_option maxRecDepth 20000 in
theorem wX11_best_14 {Γ : JCtx} (hC : jC Γ cX11_best 2 RX11 (some .int) layM 15) (hR : gR Γ = rmH 7) (hm : gcells Γ ≤ (gR Γ).cells ∧ gslots Γ ≤ (gR Γ).slots) (F : Nat) (κ : Mem) (v1 : Int32) (y0 : Int32) : JP Γ (qf Γ oE) (pX11_best_14 F κ v1 y0) κ 14 [(0, .ref (gad Γ 0)), (1, .int v1)] [.int y0, .ref (gad Γ 0)] := by
  unfold pX11_best_14
  refine j_callV_E hC hR (ctX11_is hC.l hC.cn κ y0) kc_RX11_145 (Nat.le_of_ble_eq_true rfl) (Nat.le_of_ble_eq_true rfl) lM_0 (Nat.le_of_ble_eq_true rfl) rfl (As := [.int y0]) (rest := []) rfl rfl (Nat.le_of_ble_eq_true rfl) hm (pc := 14) dX11_best_14 (fun t2 => ?_)
  refine j_if_eq hC (pc := 17) dX11_best_17 (tgt := 28) rfl ?_ ?_
  · refine j_iconst hC (pc := 28) dX11_best_28 ki_m1 ?_
    refine j_sub [] (loc' := []) rfl ?_
    exact wX11_best_29 hC hR hm F t2.2 (-1)
  · refine j_aload_n hC (pc := 20) dX11_best_20 0 rfl rfl ?_
    refine j_iload_n hC (pc := 21) dX11_best_21 1 rfl rfl ?_
    refine j_callV_E hC hR (ctX11_lostWithBest hC.l hC.cn F t2.2 v1) kc_RX11_241 (Nat.le_of_ble_eq_true rfl) (Nat.le_of_ble_eq_true rfl) lM_0 (Nat.le_of_ble_eq_true rfl) rfl (As := [.int v1]) (rest := []) rfl rfl (Nat.le_of_ble_eq_true rfl) hm (pc := 22) dX11_best_22 (fun t3 => ?_)
    refine j_goto hC (pc := 25) dX11_best_25 (tgt := 29) rfl ?_
    refine j_sub [] (loc' := []) rfl ?_
    exact wX11_best_29 hC hR hm F t3.2 t3.1
set_option maxRecDepth 20000 in
theorem wX11_best {Γ : JCtx} (hC : jC Γ cX11_best 2 RX11 (some .int) layM 15) (hR : gR Γ = rmH 7) (hm : gcells Γ ≤ (gR Γ).cells ∧ gslots Γ ≤ (gR Γ).slots) (F : Nat) (κ : Mem) (v1 : Int32) : JP Γ (qf Γ oE) (pX11_best F κ v1) κ 0 [(0, .ref (gad Γ 0)), (1, .int v1)] [] := by
  unfold pX11_best
  refine j_aload_n hC (pc := 0) dX11_best_0 0 rfl rfl ?_
  refine j_aload_n hC (pc := 1) dX11_best_1 0 rfl rfl ?_
  refine j_iload_n hC (pc := 2) dX11_best_2 1 rfl rfl ?_
  refine j_callV_I hC hR (ctX11_isPlayer hC.l hC.cn κ v1) kc_RX11_164 (Nat.le_of_ble_eq_true rfl) (Nat.le_of_ble_eq_true rfl) lM_0 (Nat.le_of_ble_eq_true rfl) rfl (As := [.int v1]) (rest := [.ref (gad Γ 0)]) rfl rfl (Nat.le_of_ble_eq_true rfl) hm (pc := 3) dX11_best_3 (fun t1 => ?_)
  refine j_if_eq hC (pc := 6) dX11_best_6 (tgt := 13) rfl ?_ ?_
  · refine j_iconst hC (pc := 13) dX11_best_13 ki_2 ?_
    exact wX11_best_14 hC hR hm F κ v1 2
  · refine j_iconst hC (pc := 9) dX11_best_9 ki_0 ?_
    refine j_goto hC (pc := 10) dX11_best_10 (tgt := 14) rfl ?_
    exact wX11_best_14 hC hR hm F κ v1 0
theorem ctX11_best {Δ : DCtx} {l : Launch} (hl : dlay Δ = layM) (hN : dN Δ = 15) (F : Nat) (κ : Mem) (v1 : Int32) : ∀ r, pX11_best F κ v1 = some r → CT Δ l yX11_best cX11_best 2 (some .int) (rmH 7) [.ref (dad Δ 0), .int v1] κ (some (.int r.1)) r.2 :=
  ct_of (nL := 2) (ret := (some .int)) (lay := layM) (N := 15) (by decide +kernel) (fun Δ => [.ref (dad Δ 0), .int v1]) (fun _ => oE) (fun _ => (Nat.le_of_ble_eq_true rfl)) (fun Γ hR hm hC => wX11_best hC hR hm F κ v1) Δ l hl hN
set_option maxRecDepth 20000 in
theorem wX11_bestAt_15 {Γ : JCtx} (hC : jC Γ cX11_bestAt 3 RX11 (some .int) layM 15) (hR : gR Γ = rmH 6) (hm : gcells Γ ≤ (gR Γ).cells ∧ gslots Γ ≤ (gR Γ).slots) (F : Nat) (κ : Mem) (v1 : Int32) (v2 : Int32) (y0 : Int32) : JP Γ (qf Γ oE) (pX11_bestAt_15 F κ v1 v2 y0) κ 15 [(0, .ref (gad Γ 0)), (1, .int v1), (2, .int v2)] [.int y0, .ref (gad Γ 0)] := by
  unfold pX11_bestAt_15
  refine j_callV_E hC hR (ctX11_is hC.l hC.cn κ y0) kc_RX11_145 (Nat.le_of_ble_eq_true rfl) (Nat.le_of_ble_eq_true rfl) lM_0 (Nat.le_of_ble_eq_true rfl) rfl (As := [.int y0]) (rest := []) rfl rfl (Nat.le_of_ble_eq_true rfl) hm (pc := 15) dX11_bestAt_15 (fun t2 => ?_)
  refine j_if_ne hC (pc := 18) dX11_bestAt_18 (tgt := 23) rfl ?_ ?_
  · refine j_iconst hC (pc := 21) dX11_bestAt_21 ki_m1 ?_
    exact j_iret hC (pc := 22) dX11_bestAt_22 rfl rfl rfl
  · refine j_aload_n hC (pc := 23) dX11_bestAt_23 0 rfl rfl ?_
    refine j_iload_n hC (pc := 24) dX11_bestAt_24 1 rfl rfl ?_
    refine j_callV_V hC hR (ctX11_laysLone hC.l hC.cn F t2.2 v1) kc_RX11_235 (Nat.le_of_ble_eq_true rfl) (Nat.le_of_ble_eq_true rfl) lM_0 (Nat.le_of_ble_eq_true rfl) rfl (As := [.int v1]) (rest := []) rfl rfl (Nat.le_of_ble_eq_true rfl) hm (pc := 25) dX11_bestAt_25 (fun t3 => ?_)
    refine j_aload_n hC (pc := 28) dX11_bestAt_28 0 rfl rfl ?_
    refine j_iload_n hC (pc := 29) dX11_bestAt_29 1 rfl rfl ?_
    refine j_iload_n hC (pc := 30) dX11_bestAt_30 2 rfl rfl ?_
    refine j_callV_I hC hR (ctX11_bestIn hC.l hC.cn F t3 v1 v2) kc_RX11_238 (Nat.le_of_ble_eq_true rfl) (Nat.le_of_ble_eq_true rfl) lM_0 (Nat.le_of_ble_eq_true rfl) rfl (As := [.int v1, .int v2]) (rest := []) rfl rfl (Nat.le_of_ble_eq_true rfl) hm (pc := 31) dX11_bestAt_31 (fun t4 => ?_)
    exact j_iret hC (pc := 34) dX11_bestAt_34 rfl rfl rfl
set_option maxRecDepth 20000 in
theorem wX11_bestAt {Γ : JCtx} (hC : jC Γ cX11_bestAt 3 RX11 (some .int) layM 15) (hR : gR Γ = rmH 6) (hm : gcells Γ ≤ (gR Γ).cells ∧ gslots Γ ≤ (gR Γ).slots) (F : Nat) (κ : Mem) (v1 : Int32) (v2 : Int32) : JP Γ (qf Γ oE) (pX11_bestAt F κ v1 v2) κ 0 [(0, .ref (gad Γ 0)), (1, .int v1), (2, .int v2)] [] := by
  unfold pX11_bestAt
  refine j_aload_n hC (pc := 0) dX11_bestAt_0 0 rfl rfl ?_
  refine j_aload_n hC (pc := 1) dX11_bestAt_1 0 rfl rfl ?_
  refine j_iload_n hC (pc := 2) dX11_bestAt_2 1 rfl rfl ?_
  refine j_iload_n hC (pc := 3) dX11_bestAt_3 2 rfl rfl ?_
  refine j_callV_I hC hR (ctX11_isSituation hC.l hC.cn F κ v1 v2) kc_RX11_176 (Nat.le_of_ble_eq_true rfl) (Nat.le_of_ble_eq_true rfl) lM_0 (Nat.le_of_ble_eq_true rfl) rfl (As := [.int v1, .int v2]) (rest := [.ref (gad Γ 0)]) rfl rfl (Nat.le_of_ble_eq_true rfl) hm (pc := 4) dX11_bestAt_4 (fun t1 => ?_)
  refine j_if_eq hC (pc := 7) dX11_bestAt_7 (tgt := 14) rfl ?_ ?_
  · refine j_iconst hC (pc := 14) dX11_bestAt_14 ki_2 ?_
    exact wX11_bestAt_15 hC hR hm F κ v1 v2 2
  · refine j_iconst hC (pc := 10) dX11_bestAt_10 ki_0 ?_
    refine j_goto hC (pc := 11) dX11_bestAt_11 (tgt := 15) rfl ?_
    exact wX11_bestAt_15 hC hR hm F κ v1 v2 0
theorem ctX11_bestAt {Δ : DCtx} {l : Launch} (hl : dlay Δ = layM) (hN : dN Δ = 15) (F : Nat) (κ : Mem) (v1 : Int32) (v2 : Int32) : ∀ r, pX11_bestAt F κ v1 v2 = some r → CT Δ l yX11_bestAt cX11_bestAt 3 (some .int) (rmH 6) [.ref (dad Δ 0), .int v1, .int v2] κ (some (.int r.1)) r.2 :=
  ct_of (nL := 3) (ret := (some .int)) (lay := layM) (N := 15) (by decide +kernel) (fun Δ => [.ref (dad Δ 0), .int v1, .int v2]) (fun _ => oE) (fun _ => (Nat.le_of_ble_eq_true rfl)) (fun Γ hR hm hC => wX11_bestAt hC hR hm F κ v1 v2) Δ l hl hN
set_option maxRecDepth 20000 in
theorem wX11_bettered_58 {Γ : JCtx} (hC : jC Γ cX11_bettered 5 RX11 (some .int) layM 15) (hR : gR Γ = rmH 7) (hm : gcells Γ ≤ (gR Γ).cells ∧ gslots Γ ≤ (gR Γ).slots) (F : Nat) (κ : Mem) (v1 : Int32) (v2 : Int32) (v3 : Int32) (k29 : Mem → Int32 → Int32 → Int32 → Option (Int32 × Mem)) (hk29 : ∀ (κ : Mem) (v1 : Int32) (v2 : Int32) (v3 : Int32), JP Γ (qf Γ oE) (k29 κ v1 v2 v3) κ 29 [(0, .ref (gad Γ 0)), (1, .int v1), (2, .int v2), (3, .int v3)] []) : JP Γ (qf Γ oE) (pX11_bettered_58 F k29 κ v1 v2 v3) κ 58 [(0, .ref (gad Γ 0)), (1, .int v1), (2, .int v2), (3, .int v3)] [] := by
  unfold pX11_bettered_58
  refine j_iinc hC (pc := 58) dX11_bettered_58 3 rfl ki_1 (Nat.le_of_ble_eq_true rfl) (loc' := [(3, .int (v3 + 1)), (0, .ref (gad Γ 0)), (1, .int v1), (2, .int v2)]) rfl ?_
  refine j_goto hC (pc := 61) dX11_bettered_61 (tgt := 29) rfl ?_
  refine j_sub [1, 2, 3, 0] (loc' := [(0, .ref (gad Γ 0)), (1, .int v1), (2, .int v2), (3, .int (v3 + 1))]) rfl ?_
  exact hk29 κ v1 v2 (v3 + 1)
set_option maxRecDepth 20000 in
theorem wX11_bettered_29 {Γ : JCtx} (hC : jC Γ cX11_bettered 5 RX11 (some .int) layM 15) (hR : gR Γ = rmH 7) (hm : gcells Γ ≤ (gR Γ).cells ∧ gslots Γ ≤ (gR Γ).slots) (F : Nat) : ∀ (n : Nat) (κ : Mem) (v1 : Int32) (v2 : Int32) (v3 : Int32), JP Γ (qf Γ oE) (pX11_bettered_29 F n κ v1 v2 v3) κ 29 [(0, .ref (gad Γ 0)), (1, .int v1), (2, .int v2), (3, .int v3)] [] := by
  intro n
  induction n with
  | zero =>
    intro κ v1 v2 v3
    rw [pX11_bettered_29]
    exact j_none
  | succ fu ih =>
    intro κ v1 v2 v3
    rw [pX11_bettered_29]
    refine j_iload_n hC (pc := 29) dX11_bettered_29 3 rfl rfl ?_
    refine j_aload_n hC (pc := 30) dX11_bettered_30 0 rfl rfl ?_
    refine j_callV_I hC hR (ctX11_players hC.l hC.cn κ) kc_RX11_108 (Nat.le_of_ble_eq_true rfl) (Nat.le_of_ble_eq_true rfl) lM_0 (Nat.le_of_ble_eq_true rfl) rfl (As := []) (rest := [.int v3]) rfl rfl (Nat.le_of_ble_eq_true rfl) hm (pc := 31) dX11_bettered_31 (fun t3 => ?_)
    refine j_icmp_ge hC (pc := 34) dX11_bettered_34 (tgt := 64) rfl ?_ ?_
    · refine j_aload_n hC (pc := 37) dX11_bettered_37 0 rfl rfl ?_
      refine j_iload_n hC (pc := 38) dX11_bettered_38 3 rfl rfl ?_
      refine j_callV_E hC hR (ctX11_lostWithBest hC.l hC.cn F κ v3) kc_RX11_241 (Nat.le_of_ble_eq_true rfl) (Nat.le_of_ble_eq_true rfl) lM_0 (Nat.le_of_ble_eq_true rfl) rfl (As := [.int v3]) (rest := []) rfl rfl (Nat.le_of_ble_eq_true rfl) hm (pc := 39) dX11_bettered_39 (fun t4 => ?_)
      refine j_istore hC (pc := 42) dX11_bettered_42 (Nat.le_of_ble_eq_true rfl) (loc' := [(4, .int (t4.1)), (0, .ref (gad Γ 0)), (1, .int v1), (2, .int v2), (3, .int v3)]) rfl ?_
      refine j_iload hC (pc := 44) dX11_bettered_44 0 rfl ?_
      refine j_iload_n hC (pc := 46) dX11_bettered_46 3 rfl rfl ?_
      refine j_icmp_lt hC (pc := 47) dX11_bettered_47 (tgt := 53) rfl ?_ ?_
      · refine j_iload hC (pc := 53) dX11_bettered_53 0 rfl ?_
        refine j_istore_n hC (pc := 55) dX11_bettered_55 rfl (Nat.le_of_ble_eq_true rfl) (loc' := [(2, .int (t4.1)), (4, .int (t4.1)), (0, .ref (gad Γ 0)), (1, .int v1), (3, .int v3)]) rfl ?_
        refine j_iload_n hC (pc := 56) dX11_bettered_56 4 rfl rfl ?_
        refine j_istore_n hC (pc := 57) dX11_bettered_57 rfl (Nat.le_of_ble_eq_true rfl) (loc' := [(1, .int v3), (2, .int (t4.1)), (4, .int (t4.1)), (0, .ref (gad Γ 0)), (3, .int v3)]) rfl ?_
        refine j_sub [3, 0, 1, 4] (loc' := [(0, .ref (gad Γ 0)), (1, .int v3), (2, .int (t4.1)), (3, .int v3)]) rfl ?_
        exact wX11_bettered_58 hC hR hm F t4.2 v3 t4.1 v3 (pX11_bettered_29 F fu) ih
      · refine j_goto hC (pc := 50) dX11_bettered_50 (tgt := 58) rfl ?_
        refine j_sub [1, 2, 3, 4] (loc' := [(0, .ref (gad Γ 0)), (1, .int v1), (2, .int v2), (3, .int v3)]) rfl ?_
        exact wX11_bettered_58 hC hR hm F t4.2 v1 v2 v3 (pX11_bettered_29 F fu) ih
    · refine j_iload_n hC (pc := 64) dX11_bettered_64 1 rfl rfl ?_
      exact j_iret hC (pc := 65) dX11_bettered_65 rfl rfl rfl
set_option maxRecDepth 20000 in
theorem wX11_bettered_13 {Γ : JCtx} (hC : jC Γ cX11_bettered 5 RX11 (some .int) layM 15) (hR : gR Γ = rmH 7) (hm : gcells Γ ≤ (gR Γ).cells ∧ gslots Γ ≤ (gR Γ).slots) (F : Nat) (κ : Mem) (y0 : Int32) : JP Γ (qf Γ oE) (pX11_bettered_13 F κ y0) κ 13 [(0, .ref (gad Γ 0))] [.int y0, .ref (gad Γ 0)] := by
  unfold pX11_bettered_13
  refine j_callV_E hC hR (ctX11_is hC.l hC.cn κ y0) kc_RX11_145 (Nat.le_of_ble_eq_true rfl) (Nat.le_of_ble_eq_true rfl) lM_0 (Nat.le_of_ble_eq_true rfl) rfl (As := [.int y0]) (rest := []) rfl rfl (Nat.le_of_ble_eq_true rfl) hm (pc := 13) dX11_bettered_13 (fun t2 => ?_)
  refine j_if_ne hC (pc := 16) dX11_bettered_16 (tgt := 21) rfl ?_ ?_
  · refine j_iconst hC (pc := 19) dX11_bettered_19 ki_m1 ?_
    exact j_iret hC (pc := 20) dX11_bettered_20 rfl rfl rfl
  · refine j_iconst hC (pc := 21) dX11_bettered_21 ki_0 ?_
    refine j_istore_n hC (pc := 22) dX11_bettered_22 rfl (Nat.le_of_ble_eq_true rfl) (loc' := [(1, .int 0), (0, .ref (gad Γ 0))]) rfl ?_
    refine j_sipush hC (pc := 23) dX11_bettered_23 ks_4097 ?_
    refine j_istore_n hC (pc := 26) dX11_bettered_26 rfl (Nat.le_of_ble_eq_true rfl) (loc' := [(2, .int 4097), (1, .int 0), (0, .ref (gad Γ 0))]) rfl ?_
    refine j_iconst hC (pc := 27) dX11_bettered_27 ki_0 ?_
    refine j_istore_n hC (pc := 28) dX11_bettered_28 rfl (Nat.le_of_ble_eq_true rfl) (loc' := [(3, .int 0), (2, .int 4097), (1, .int 0), (0, .ref (gad Γ 0))]) rfl ?_
    refine j_sub [3, 2, 1, 0] (loc' := [(0, .ref (gad Γ 0)), (1, .int 0), (2, .int 4097), (3, .int 0)]) rfl ?_
    exact wX11_bettered_29 hC hR hm F F t2.2 0 4097 0
set_option maxRecDepth 20000 in
theorem wX11_bettered {Γ : JCtx} (hC : jC Γ cX11_bettered 5 RX11 (some .int) layM 15) (hR : gR Γ = rmH 7) (hm : gcells Γ ≤ (gR Γ).cells ∧ gslots Γ ≤ (gR Γ).slots) (F : Nat) (κ : Mem) : JP Γ (qf Γ oE) (pX11_bettered F κ) κ 0 [(0, .ref (gad Γ 0))] [] := by
  unfold pX11_bettered
  refine j_aload_n hC (pc := 0) dX11_bettered_0 0 rfl rfl ?_
  refine j_aload_n hC (pc := 1) dX11_bettered_1 0 rfl rfl ?_
  refine j_callV_I hC hR (ctX11_players hC.l hC.cn κ) kc_RX11_108 (Nat.le_of_ble_eq_true rfl) (Nat.le_of_ble_eq_true rfl) lM_0 (Nat.le_of_ble_eq_true rfl) rfl (As := []) (rest := [.ref (gad Γ 0)]) rfl rfl (Nat.le_of_ble_eq_true rfl) hm (pc := 2) dX11_bettered_2 (fun t1 => ?_)
  refine j_if_ne hC (pc := 5) dX11_bettered_5 (tgt := 12) rfl ?_ ?_
  · refine j_iconst hC (pc := 8) dX11_bettered_8 ki_5 ?_
    refine j_goto hC (pc := 9) dX11_bettered_9 (tgt := 13) rfl ?_
    exact wX11_bettered_13 hC hR hm F κ 5
  · refine j_iconst hC (pc := 12) dX11_bettered_12 ki_0 ?_
    exact wX11_bettered_13 hC hR hm F κ 0
theorem ctX11_bettered {Δ : DCtx} {l : Launch} (hl : dlay Δ = layM) (hN : dN Δ = 15) (F : Nat) (κ : Mem) : ∀ r, pX11_bettered F κ = some r → CT Δ l yX11_bettered cX11_bettered 5 (some .int) (rmH 7) [.ref (dad Δ 0)] κ (some (.int r.1)) r.2 :=
  ct_of (nL := 5) (ret := (some .int)) (lay := layM) (N := 15) (by decide +kernel) (fun Δ => [.ref (dad Δ 0)]) (fun _ => oE) (fun _ => (Nat.le_of_ble_eq_true rfl)) (fun Γ hR hm hC => wX11_bettered hC hR hm F κ) Δ l hl hN
set_option maxRecDepth 20000 in
theorem wX11_takes_43 {Γ : JCtx} (hC : jC Γ cX11_takes 5 RX11 (some .int) layM 15) (hR : gR Γ = rmH 6) (hm : gcells Γ ≤ (gR Γ).cells ∧ gslots Γ ≤ (gR Γ).slots) (F : Nat) (κ : Mem) (v1 : Int32) (v3 : Int32) (v4 : Int32) (y0 : Int32) (y1 : Int32) (k9 : Mem → Int32 → Int32 → Option (Int32 × Mem)) (hk9 : ∀ (κ : Mem) (v2 : Int32) (v3 : Int32), JP Γ (qf Γ oE) (k9 κ v2 v3) κ 9 [(0, .ref (gad Γ 0)), (1, .int v1), (2, .int v2), (3, .int v3)] []) : JP Γ (qf Γ oE) (pX11_takes_43 F k9 κ v1 v3 v4 y0 y1) κ 43 [(0, .ref (gad Γ 0)), (1, .int v1), (3, .int v3), (4, .int v4)] [.int y0, .int y1] := by
  unfold pX11_takes_43
  refine j_iadd hC (pc := 43) dX11_takes_43 ?_
  refine j_nmi (fun x5 => ?_)
  refine j_istore_n hC (pc := 44) dX11_takes_44 rfl (Nat.le_of_ble_eq_true rfl) (loc' := [(2, .int x5), (0, .ref (gad Γ 0)), (1, .int v1), (3, .int v3), (4, .int v4)]) rfl ?_
  refine j_aload_n hC (pc := 45) dX11_takes_45 1 rfl rfl ?_
  refine j_iload_n hC (pc := 46) dX11_takes_46 2 rfl rfl ?_
  refine j_iload_n hC (pc := 47) dX11_takes_47 3 rfl rfl ?_
  refine j_iload hC (pc := 48) dX11_takes_48 4 rfl ?_
  refine j_callV_V hC hR (ctX11_enters hC.l hC.cn κ v1 v3 v4) kc_RX11_244 (Nat.le_of_ble_eq_true rfl) (Nat.le_of_ble_eq_true rfl) lM_0 (Nat.le_of_ble_eq_true rfl) rfl (As := [.int v1, .int v3, .int v4]) (rest := []) rfl rfl (Nat.le_of_ble_eq_true rfl) hm (pc := 50) dX11_takes_50 (fun t6 => ?_)
  refine j_iinc hC (pc := 53) dX11_takes_53 3 rfl ki_1 (Nat.le_of_ble_eq_true rfl) (loc' := [(3, .int (v3 + 1)), (2, .int x5), (0, .ref (gad Γ 0)), (1, .int v1), (4, .int v4)]) rfl ?_
  refine j_goto hC (pc := 56) dX11_takes_56 (tgt := 9) rfl ?_
  refine j_sub [2, 3, 1, 0] (loc' := [(0, .ref (gad Γ 0)), (1, .int v1), (2, .int x5), (3, .int (v3 + 1))]) rfl ?_
  exact hk9 t6 x5 (v3 + 1)
set_option maxRecDepth 20000 in
theorem wX11_takes_9 {Γ : JCtx} (hC : jC Γ cX11_takes 5 RX11 (some .int) layM 15) (hR : gR Γ = rmH 6) (hm : gcells Γ ≤ (gR Γ).cells ∧ gslots Γ ≤ (gR Γ).slots) (F : Nat) (v1 : Int32) : ∀ (n : Nat) (κ : Mem) (v2 : Int32) (v3 : Int32), JP Γ (qf Γ oE) (pX11_takes_9 F v1 n κ v2 v3) κ 9 [(0, .ref (gad Γ 0)), (1, .int v1), (2, .int v2), (3, .int v3)] [] := by
  intro n
  induction n with
  | zero =>
    intro κ v2 v3
    rw [pX11_takes_9]
    exact j_none
  | succ fu ih =>
    intro κ v2 v3
    rw [pX11_takes_9]
    refine j_iload_n hC (pc := 9) dX11_takes_9 3 rfl rfl ?_
    refine j_aload_n hC (pc := 10) dX11_takes_10 0 rfl rfl ?_
    refine j_iload_n hC (pc := 11) dX11_takes_11 1 rfl rfl ?_
    refine j_callV_I hC hR (ctX11_situations_ hC.l hC.cn F κ v1) kc_RX11_174 (Nat.le_of_ble_eq_true rfl) (Nat.le_of_ble_eq_true rfl) lM_0 (Nat.le_of_ble_eq_true rfl) rfl (As := [.int v1]) (rest := [.int v3]) rfl rfl (Nat.le_of_ble_eq_true rfl) hm (pc := 12) dX11_takes_12 (fun t2 => ?_)
    refine j_icmp_ge hC (pc := 15) dX11_takes_15 (tgt := 59) rfl ?_ ?_
    · refine j_aload_n hC (pc := 18) dX11_takes_18 0 rfl rfl ?_
      refine j_iload_n hC (pc := 19) dX11_takes_19 1 rfl rfl ?_
      refine j_iload_n hC (pc := 20) dX11_takes_20 3 rfl rfl ?_
      refine j_callV_I hC hR (ctX11_bestIn hC.l hC.cn F κ v1 v3) kc_RX11_238 (Nat.le_of_ble_eq_true rfl) (Nat.le_of_ble_eq_true rfl) lM_0 (Nat.le_of_ble_eq_true rfl) rfl (As := [.int v1, .int v3]) (rest := []) rfl rfl (Nat.le_of_ble_eq_true rfl) hm (pc := 21) dX11_takes_21 (fun t3 => ?_)
      refine j_istore hC (pc := 24) dX11_takes_24 (Nat.le_of_ble_eq_true rfl) (loc' := [(4, .int t3), (0, .ref (gad Γ 0)), (1, .int v1), (2, .int v2), (3, .int v3)]) rfl ?_
      refine j_iload_n hC (pc := 26) dX11_takes_26 3 rfl rfl ?_
      refine j_iload hC (pc := 27) dX11_takes_27 0 rfl ?_
      refine j_aload_n hC (pc := 29) dX11_takes_29 1 rfl rfl ?_
      refine j_iload_n hC (pc := 30) dX11_takes_30 2 rfl rfl ?_
      refine j_iload_n hC (pc := 31) dX11_takes_31 4 rfl rfl ?_
      refine j_callV_I hC hR (ctX11_entry hC.l hC.cn κ v1 v3) kc_RX11_121 (Nat.le_of_ble_eq_true rfl) (Nat.le_of_ble_eq_true rfl) lM_0 (Nat.le_of_ble_eq_true rfl) rfl (As := [.int v1, .int v3]) (rest := [.int t3, .int v2]) rfl rfl (Nat.le_of_ble_eq_true rfl) hm (pc := 32) dX11_takes_32 (fun t4 => ?_)
      refine j_icmp_ne hC (pc := 35) dX11_takes_35 (tgt := 42) rfl ?_ ?_
      · refine j_iconst hC (pc := 38) dX11_takes_38 ki_0 ?_
        refine j_goto hC (pc := 39) dX11_takes_39 (tgt := 43) rfl ?_
        refine j_sub [1, 2, 4, 0] (loc' := [(0, .ref (gad Γ 0)), (1, .int v1), (3, .int v3), (4, .int t3)]) rfl ?_
        exact wX11_takes_43 hC hR hm F κ v1 v3 t3 0 v2 (pX11_takes_9 F v1 fu) ih
      · refine j_iconst hC (pc := 42) dX11_takes_42 ki_1 ?_
        refine j_sub [1, 2, 4, 0] (loc' := [(0, .ref (gad Γ 0)), (1, .int v1), (3, .int v3), (4, .int t3)]) rfl ?_
        exact wX11_takes_43 hC hR hm F κ v1 v3 t3 1 v2 (pX11_takes_9 F v1 fu) ih
    · refine j_iload_n hC (pc := 59) dX11_takes_59 2 rfl rfl ?_
      exact j_iret hC (pc := 60) dX11_takes_60 rfl rfl rfl
set_option maxRecDepth 20000 in
theorem wX11_takes {Γ : JCtx} (hC : jC Γ cX11_takes 5 RX11 (some .int) layM 15) (hR : gR Γ = rmH 6) (hm : gcells Γ ≤ (gR Γ).cells ∧ gslots Γ ≤ (gR Γ).slots) (F : Nat) (κ : Mem) (v1 : Int32) : JP Γ (qf Γ oE) (pX11_takes F κ v1) κ 0 [(0, .ref (gad Γ 0)), (1, .int v1)] [] := by
  unfold pX11_takes
  refine j_aload_n hC (pc := 0) dX11_takes_0 0 rfl rfl ?_
  refine j_iload_n hC (pc := 1) dX11_takes_1 1 rfl rfl ?_
  refine j_callV_V hC hR (ctX11_laysLone hC.l hC.cn F κ v1) kc_RX11_235 (Nat.le_of_ble_eq_true rfl) (Nat.le_of_ble_eq_true rfl) lM_0 (Nat.le_of_ble_eq_true rfl) rfl (As := [.int v1]) (rest := []) rfl rfl (Nat.le_of_ble_eq_true rfl) hm (pc := 2) dX11_takes_2 (fun t1 => ?_)
  refine j_iconst hC (pc := 5) dX11_takes_5 ki_0 ?_
  refine j_istore_n hC (pc := 6) dX11_takes_6 rfl (Nat.le_of_ble_eq_true rfl) (loc' := [(2, .int 0), (0, .ref (gad Γ 0)), (1, .int v1)]) rfl ?_
  refine j_iconst hC (pc := 7) dX11_takes_7 ki_0 ?_
  refine j_istore_n hC (pc := 8) dX11_takes_8 rfl (Nat.le_of_ble_eq_true rfl) (loc' := [(3, .int 0), (2, .int 0), (0, .ref (gad Γ 0)), (1, .int v1)]) rfl ?_
  refine j_sub [2, 3, 1, 0] (loc' := [(0, .ref (gad Γ 0)), (1, .int v1), (2, .int 0), (3, .int 0)]) rfl ?_
  exact wX11_takes_9 hC hR hm F v1 F t1 0 0
theorem ctX11_takes {Δ : DCtx} {l : Launch} (hl : dlay Δ = layM) (hN : dN Δ = 15) (F : Nat) (κ : Mem) (v1 : Int32) : ∀ r, pX11_takes F κ v1 = some r → CT Δ l yX11_takes cX11_takes 5 (some .int) (rmH 6) [.ref (dad Δ 0), .int v1] κ (some (.int r.1)) r.2 :=
  ct_of (nL := 5) (ret := (some .int)) (lay := layM) (N := 15) (by decide +kernel) (fun Δ => [.ref (dad Δ 0), .int v1]) (fun _ => oE) (fun _ => (Nat.le_of_ble_eq_true rfl)) (fun Γ hR hm hC => wX11_takes hC hR hm F κ v1) Δ l hl hN
set_option maxRecDepth 20000 in
theorem wX11_betters_60 {Γ : JCtx} (hC : jC Γ cX11_betters 4 RX11 (some .int) layM 15) (hR : gR Γ = rmH 7) (hm : gcells Γ ≤ (gR Γ).cells ∧ gslots Γ ≤ (gR Γ).slots) (F : Nat) (κ : Mem) (v1 : Int32) (v2 : Int32) (y0 : Int32) (k6 : Mem → Int32 → Int32 → Int32 → Option (Int32 × Mem)) (hk6 : ∀ (κ : Mem) (v1 : Int32) (v2 : Int32) (v3 : Int32), JP Γ (qf Γ oE) (k6 κ v1 v2 v3) κ 6 [(0, .ref (gad Γ 0)), (1, .int v1), (2, .int v2), (3, .int v3)] []) : JP Γ (qf Γ oE) (pX11_betters_60 F k6 κ v1 v2 y0) κ 60 [(0, .ref (gad Γ 0)), (1, .int v1), (2, .int v2)] [.int y0] := by
  unfold pX11_betters_60
  refine j_istore_n hC (pc := 60) dX11_betters_60 rfl (Nat.le_of_ble_eq_true rfl) (loc' := [(3, .int y0), (0, .ref (gad Γ 0)), (1, .int v1), (2, .int v2)]) rfl ?_
  refine j_goto hC (pc := 61) dX11_betters_61 (tgt := 6) rfl ?_
  refine j_sub [1, 2, 3, 0] (loc' := [(0, .ref (gad Γ 0)), (1, .int v1), (2, .int v2), (3, .int y0)]) rfl ?_
  exact hk6 κ v1 v2 y0
set_option maxRecDepth 20000 in
theorem wX11_betters_43 {Γ : JCtx} (hC : jC Γ cX11_betters 4 RX11 (some .int) layM 15) (hR : gR Γ = rmH 7) (hm : gcells Γ ≤ (gR Γ).cells ∧ gslots Γ ≤ (gR Γ).slots) (F : Nat) (κ : Mem) (v1 : Int32) (v2 : Int32) (v3 : Int32) (k6 : Mem → Int32 → Int32 → Int32 → Option (Int32 × Mem)) (hk6 : ∀ (κ : Mem) (v1 : Int32) (v2 : Int32) (v3 : Int32), JP Γ (qf Γ oE) (k6 κ v1 v2 v3) κ 6 [(0, .ref (gad Γ 0)), (1, .int v1), (2, .int v2), (3, .int v3)] []) : JP Γ (qf Γ oE) (pX11_betters_43 F k6 κ v1 v2 v3) κ 43 [(0, .ref (gad Γ 0)), (1, .int v1), (2, .int v2), (3, .int v3)] [] := by
  unfold pX11_betters_43
  refine j_iload_n hC (pc := 43) dX11_betters_43 3 rfl rfl ?_
  refine j_iconst hC (pc := 44) dX11_betters_44 ki_1 ?_
  refine j_iadd hC (pc := 45) dX11_betters_45 ?_
  refine j_aload_n hC (pc := 46) dX11_betters_46 0 rfl rfl ?_
  refine j_callV_I hC hR (ctX11_players hC.l hC.cn κ) kc_RX11_108 (Nat.le_of_ble_eq_true rfl) (Nat.le_of_ble_eq_true rfl) lM_0 (Nat.le_of_ble_eq_true rfl) rfl (As := []) (rest := [.int (v3 + 1)]) rfl rfl (Nat.le_of_ble_eq_true rfl) hm (pc := 47) dX11_betters_47 (fun t5 => ?_)
  refine j_icmp_ne hC (pc := 50) dX11_betters_50 (tgt := 57) rfl ?_ ?_
  · refine j_iconst hC (pc := 53) dX11_betters_53 ki_0 ?_
    refine j_goto hC (pc := 54) dX11_betters_54 (tgt := 60) rfl ?_
    refine j_sub [0, 1, 2] (loc' := [(0, .ref (gad Γ 0)), (1, .int v1), (2, .int v2)]) rfl ?_
    exact wX11_betters_60 hC hR hm F κ v1 v2 0 k6 hk6
  · refine j_iload_n hC (pc := 57) dX11_betters_57 3 rfl rfl ?_
    refine j_iconst hC (pc := 58) dX11_betters_58 ki_1 ?_
    refine j_iadd hC (pc := 59) dX11_betters_59 ?_
    refine j_sub [0, 1, 2] (loc' := [(0, .ref (gad Γ 0)), (1, .int v1), (2, .int v2)]) rfl ?_
    exact wX11_betters_60 hC hR hm F κ v1 v2 (v3 + 1) k6 hk6
set_option maxRecDepth 20000 in
theorem wX11_betters_6 {Γ : JCtx} (hC : jC Γ cX11_betters 4 RX11 (some .int) layM 15) (hR : gR Γ = rmH 7) (hm : gcells Γ ≤ (gR Γ).cells ∧ gslots Γ ≤ (gR Γ).slots) (F : Nat) : ∀ (n : Nat) (κ : Mem) (v1 : Int32) (v2 : Int32) (v3 : Int32), JP Γ (qf Γ oE) (pX11_betters_6 F n κ v1 v2 v3) κ 6 [(0, .ref (gad Γ 0)), (1, .int v1), (2, .int v2), (3, .int v3)] [] := by
  intro n
  induction n with
  | zero =>
    intro κ v1 v2 v3
    rw [pX11_betters_6]
    exact j_none
  | succ fu ih =>
    intro κ v1 v2 v3
    rw [pX11_betters_6]
    refine j_iload_n hC (pc := 6) dX11_betters_6 2 rfl rfl ?_
    refine j_aload_n hC (pc := 7) dX11_betters_7 0 rfl rfl ?_
    refine j_callV_I hC hR (ctX11_players hC.l hC.cn κ) kc_RX11_108 (Nat.le_of_ble_eq_true rfl) (Nat.le_of_ble_eq_true rfl) lM_0 (Nat.le_of_ble_eq_true rfl) rfl (As := []) (rest := [.int v2]) rfl rfl (Nat.le_of_ble_eq_true rfl) hm (pc := 8) dX11_betters_8 (fun t1 => ?_)
    refine j_icmp_ge hC (pc := 11) dX11_betters_11 (tgt := 64) rfl ?_ ?_
    · refine j_aload_n hC (pc := 14) dX11_betters_14 0 rfl rfl ?_
      refine j_iload_n hC (pc := 15) dX11_betters_15 3 rfl rfl ?_
      refine j_callV_E hC hR (ctX11_lostWithBest hC.l hC.cn F κ v3) kc_RX11_241 (Nat.le_of_ble_eq_true rfl) (Nat.le_of_ble_eq_true rfl) lM_0 (Nat.le_of_ble_eq_true rfl) rfl (As := [.int v3]) (rest := []) rfl rfl (Nat.le_of_ble_eq_true rfl) hm (pc := 16) dX11_betters_16 (fun t2 => ?_)
      refine j_aload_n hC (pc := 19) dX11_betters_19 0 rfl rfl ?_
      refine j_callV_E hC hR (ctX11_lostNow hC.l hC.cn F t2.2) kc_RX11_214 (Nat.le_of_ble_eq_true rfl) (Nat.le_of_ble_eq_true rfl) lM_0 (Nat.le_of_ble_eq_true rfl) rfl (As := []) (rest := [.int (t2.1)]) rfl rfl (Nat.le_of_ble_eq_true rfl) hm (pc := 20) dX11_betters_20 (fun t3 => ?_)
      refine j_icmp_ge hC (pc := 23) dX11_betters_23 (tgt := 40) rfl ?_ ?_
      · refine j_aload_n hC (pc := 26) dX11_betters_26 0 rfl rfl ?_
        refine j_iload_n hC (pc := 27) dX11_betters_27 3 rfl rfl ?_
        refine j_callV_E hC hR (ctX11_takes hC.l hC.cn F t3.2 v3) kc_RX11_248 (Nat.le_of_ble_eq_true rfl) (Nat.le_of_ble_eq_true rfl) lM_0 (Nat.le_of_ble_eq_true rfl) rfl (As := [.int v3]) (rest := []) rfl rfl (Nat.le_of_ble_eq_true rfl) hm (pc := 28) dX11_betters_28 (fun t4 => ?_)
        refine j_pop hC (pc := 31) dX11_betters_31 rfl ?_
        refine j_iinc hC (pc := 32) dX11_betters_32 1 rfl ki_1 (Nat.le_of_ble_eq_true rfl) (loc' := [(1, .int (v1 + 1)), (0, .ref (gad Γ 0)), (2, .int v2), (3, .int v3)]) rfl ?_
        refine j_iconst hC (pc := 35) dX11_betters_35 ki_0 ?_
        refine j_istore_n hC (pc := 36) dX11_betters_36 rfl (Nat.le_of_ble_eq_true rfl) (loc' := [(2, .int 0), (1, .int (v1 + 1)), (0, .ref (gad Γ 0)), (3, .int v3)]) rfl ?_
        refine j_goto hC (pc := 37) dX11_betters_37 (tgt := 43) rfl ?_
        refine j_sub [2, 1, 0, 3] (loc' := [(0, .ref (gad Γ 0)), (1, .int (v1 + 1)), (2, .int 0), (3, .int v3)]) rfl ?_
        exact wX11_betters_43 hC hR hm F t4.2 (v1 + 1) 0 v3 (pX11_betters_6 F fu) ih
      · refine j_iinc hC (pc := 40) dX11_betters_40 2 rfl ki_1 (Nat.le_of_ble_eq_true rfl) (loc' := [(2, .int (v2 + 1)), (0, .ref (gad Γ 0)), (1, .int v1), (3, .int v3)]) rfl ?_
        refine j_sub [1, 2, 0, 3] (loc' := [(0, .ref (gad Γ 0)), (1, .int v1), (2, .int (v2 + 1)), (3, .int v3)]) rfl ?_
        exact wX11_betters_43 hC hR hm F t3.2 v1 (v2 + 1) v3 (pX11_betters_6 F fu) ih
    · refine j_iload_n hC (pc := 64) dX11_betters_64 1 rfl rfl ?_
      exact j_iret hC (pc := 65) dX11_betters_65 rfl rfl rfl
set_option maxRecDepth 20000 in
theorem wX11_betters {Γ : JCtx} (hC : jC Γ cX11_betters 4 RX11 (some .int) layM 15) (hR : gR Γ = rmH 7) (hm : gcells Γ ≤ (gR Γ).cells ∧ gslots Γ ≤ (gR Γ).slots) (F : Nat) (κ : Mem) : JP Γ (qf Γ oE) (pX11_betters F κ) κ 0 [(0, .ref (gad Γ 0))] [] := by
  unfold pX11_betters
  refine j_iconst hC (pc := 0) dX11_betters_0 ki_0 ?_
  refine j_istore_n hC (pc := 1) dX11_betters_1 rfl (Nat.le_of_ble_eq_true rfl) (loc' := [(1, .int 0), (0, .ref (gad Γ 0))]) rfl ?_
  refine j_iconst hC (pc := 2) dX11_betters_2 ki_0 ?_
  refine j_istore_n hC (pc := 3) dX11_betters_3 rfl (Nat.le_of_ble_eq_true rfl) (loc' := [(2, .int 0), (1, .int 0), (0, .ref (gad Γ 0))]) rfl ?_
  refine j_iconst hC (pc := 4) dX11_betters_4 ki_0 ?_
  refine j_istore_n hC (pc := 5) dX11_betters_5 rfl (Nat.le_of_ble_eq_true rfl) (loc' := [(3, .int 0), (2, .int 0), (1, .int 0), (0, .ref (gad Γ 0))]) rfl ?_
  refine j_sub [3, 2, 1, 0] (loc' := [(0, .ref (gad Γ 0)), (1, .int 0), (2, .int 0), (3, .int 0)]) rfl ?_
  exact wX11_betters_6 hC hR hm F F κ 0 0 0
theorem ctX11_betters {Δ : DCtx} {l : Launch} (hl : dlay Δ = layM) (hN : dN Δ = 15) (F : Nat) (κ : Mem) : ∀ r, pX11_betters F κ = some r → CT Δ l yX11_betters cX11_betters 4 (some .int) (rmH 7) [.ref (dad Δ 0)] κ (some (.int r.1)) r.2 :=
  ct_of (nL := 4) (ret := (some .int)) (lay := layM) (N := 15) (by decide +kernel) (fun Δ => [.ref (dad Δ 0)]) (fun _ => oE) (fun _ => (Nat.le_of_ble_eq_true rfl)) (fun Γ hR hm hC => wX11_betters hC hR hm F κ) Δ l hl hN
set_option maxRecDepth 20000 in
theorem wX11_waysMany_15 {Γ : JCtx} (hC : jC Γ cX11_waysMany 5 RX11 (some .int) layM 15) (hR : gR Γ = rmH 3) (hm : gcells Γ ≤ (gR Γ).cells ∧ gslots Γ ≤ (gR Γ).slots) (F : Nat) (κ : Mem) (v3 : Int32) (k4 : Int64 → Int32 → Option Int32) (hk4 : ∀ (v1 : Int64) (v3 : Int32), JP Γ (qf Γ (oI κ)) (k4 v1 v3) κ 4 [(0, .ref (gad Γ 0)), (1, .long v1), (3, .int v3)] []) : ∀ (n : Nat) (v1 : Int64) (v4 : Int32), JP Γ (qf Γ (oI κ)) (pX11_waysMany_15 F κ k4 v3 n v1 v4) κ 15 [(0, .ref (gad Γ 0)), (1, .long v1), (3, .int v3), (4, .int v4)] [] := by
  intro n
  induction n with
  | zero =>
    intro v1 v4
    rw [pX11_waysMany_15]
    exact j_none
  | succ fu ih =>
    intro v1 v4
    rw [pX11_waysMany_15]
    refine j_iload hC (pc := 15) dX11_waysMany_15 3 rfl ?_
    refine j_aload_n hC (pc := 17) dX11_waysMany_17 0 rfl rfl ?_
    refine j_iload_n hC (pc := 18) dX11_waysMany_18 2 rfl rfl ?_
    refine j_callV_I hC hR (ctX11_situations_ hC.l hC.cn F κ v3) kc_RX11_174 (Nat.le_of_ble_eq_true rfl) (Nat.le_of_ble_eq_true rfl) lM_0 (Nat.le_of_ble_eq_true rfl) rfl (As := [.int v3]) (rest := [.int v4]) rfl rfl (Nat.le_of_ble_eq_true rfl) hm (pc := 19) dX11_waysMany_19 (fun t2 => ?_)
    refine j_icmp_ge hC (pc := 22) dX11_waysMany_22 (tgt := 50) rfl ?_ ?_
    · refine j_lload_n hC (pc := 25) dX11_waysMany_25 1 rfl rfl ?_
      refine j_aload_n hC (pc := 26) dX11_waysMany_26 0 rfl rfl ?_
      refine j_iload_n hC (pc := 27) dX11_waysMany_27 2 rfl rfl ?_
      refine j_callV_I hC hR (ctX11_hats hC.l hC.cn κ v3) kc_RX11_111 (Nat.le_of_ble_eq_true rfl) (Nat.le_of_ble_eq_true rfl) lM_0 (Nat.le_of_ble_eq_true rfl) rfl (As := [.int v3]) (rest := [.long v1]) rfl rfl (Nat.le_of_ble_eq_true rfl) hm (pc := 28) dX11_waysMany_28 (fun t3 => ?_)
      refine j_i2l hC (pc := 31) dX11_waysMany_31 ?_
      refine j_lmul hC (pc := 32) dX11_waysMany_32 ?_
      refine j_nml (fun x4 => ?_)
      refine j_lstore_n hC (pc := 33) dX11_waysMany_33 rfl (Nat.le_of_ble_eq_true rfl) (loc' := [(1, .long x4), (0, .ref (gad Γ 0)), (3, .int v3), (4, .int v4)]) rfl ?_
      refine j_lload_n hC (pc := 34) dX11_waysMany_34 0 rfl rfl ?_
      refine j_ldc2 hC (pc := 35) dX11_waysMany_35 w_933 ?_
      refine j_lcmp hC (pc := 38) dX11_waysMany_38 ?_
      refine j_if_le hC (pc := 39) dX11_waysMany_39 (tgt := 44) rfl ?_ ?_
      · refine j_iinc hC (pc := 44) dX11_waysMany_44 3 rfl ki_1 (Nat.le_of_ble_eq_true rfl) (loc' := [(4, .int (v4 + 1)), (1, .long x4), (0, .ref (gad Γ 0)), (3, .int v3)]) rfl ?_
        refine j_goto hC (pc := 47) dX11_waysMany_47 (tgt := 15) rfl ?_
        refine j_sub [2, 1, 3, 0] (loc' := [(0, .ref (gad Γ 0)), (1, .long x4), (3, .int v3), (4, .int (v4 + 1))]) rfl ?_
        exact ih x4 (v4 + 1)
      · refine j_iconst hC (pc := 42) dX11_waysMany_42 ki_m1 ?_
        exact j_iret hC (pc := 43) dX11_waysMany_43 rfl rfl rfl
    · refine j_iinc hC (pc := 50) dX11_waysMany_50 2 rfl ki_1 (Nat.le_of_ble_eq_true rfl) (loc' := [(3, .int (v3 + 1)), (0, .ref (gad Γ 0)), (1, .long v1), (4, .int v4)]) rfl ?_
      refine j_goto hC (pc := 53) dX11_waysMany_53 (tgt := 4) rfl ?_
      refine j_sub [1, 2, 0] (loc' := [(0, .ref (gad Γ 0)), (1, .long v1), (3, .int (v3 + 1))]) rfl ?_
      exact hk4 v1 (v3 + 1)
set_option maxRecDepth 20000 in
theorem wX11_waysMany_4 {Γ : JCtx} (hC : jC Γ cX11_waysMany 5 RX11 (some .int) layM 15) (hR : gR Γ = rmH 3) (hm : gcells Γ ≤ (gR Γ).cells ∧ gslots Γ ≤ (gR Γ).slots) (F : Nat) (κ : Mem) : ∀ (n : Nat) (v1 : Int64) (v3 : Int32), JP Γ (qf Γ (oI κ)) (pX11_waysMany_4 F κ n v1 v3) κ 4 [(0, .ref (gad Γ 0)), (1, .long v1), (3, .int v3)] [] := by
  intro n
  induction n with
  | zero =>
    intro v1 v3
    rw [pX11_waysMany_4]
    exact j_none
  | succ fu ih =>
    intro v1 v3
    rw [pX11_waysMany_4]
    refine j_iload_n hC (pc := 4) dX11_waysMany_4 2 rfl rfl ?_
    refine j_aload_n hC (pc := 5) dX11_waysMany_5 0 rfl rfl ?_
    refine j_callV_I hC hR (ctX11_players hC.l hC.cn κ) kc_RX11_108 (Nat.le_of_ble_eq_true rfl) (Nat.le_of_ble_eq_true rfl) lM_0 (Nat.le_of_ble_eq_true rfl) rfl (As := []) (rest := [.int v3]) rfl rfl (Nat.le_of_ble_eq_true rfl) hm (pc := 6) dX11_waysMany_6 (fun t1 => ?_)
    refine j_icmp_ge hC (pc := 9) dX11_waysMany_9 (tgt := 56) rfl ?_ ?_
    · refine j_iconst hC (pc := 12) dX11_waysMany_12 ki_0 ?_
      refine j_istore hC (pc := 13) dX11_waysMany_13 (Nat.le_of_ble_eq_true rfl) (loc' := [(4, .int 0), (0, .ref (gad Γ 0)), (1, .long v1), (3, .int v3)]) rfl ?_
      refine j_sub [1, 2, 3, 0] (loc' := [(0, .ref (gad Γ 0)), (1, .long v1), (3, .int v3), (4, .int 0)]) rfl ?_
      exact wX11_waysMany_15 hC hR hm F κ v3 (pX11_waysMany_4 F κ fu) ih F v1 0
    · refine j_lload_n hC (pc := 56) dX11_waysMany_56 1 rfl rfl ?_
      refine j_l2i hC (pc := 57) dX11_waysMany_57 ?_
      exact j_iret hC (pc := 58) dX11_waysMany_58 rfl rfl rfl
set_option maxRecDepth 20000 in
theorem wX11_waysMany {Γ : JCtx} (hC : jC Γ cX11_waysMany 5 RX11 (some .int) layM 15) (hR : gR Γ = rmH 3) (hm : gcells Γ ≤ (gR Γ).cells ∧ gslots Γ ≤ (gR Γ).slots) (F : Nat) (κ : Mem) : JP Γ (qf Γ (oI κ)) (pX11_waysMany F κ) κ 0 [(0, .ref (gad Γ 0))] [] := by
  unfold pX11_waysMany
  refine j_lconst hC (pc := 0) dX11_waysMany_0 rfl ?_
  refine j_lstore_n hC (pc := 1) dX11_waysMany_1 rfl (Nat.le_of_ble_eq_true rfl) (loc' := [(1, .long 1), (0, .ref (gad Γ 0))]) rfl ?_
  refine j_iconst hC (pc := 2) dX11_waysMany_2 ki_0 ?_
  refine j_istore_n hC (pc := 3) dX11_waysMany_3 rfl (Nat.le_of_ble_eq_true rfl) (loc' := [(3, .int 0), (1, .long 1), (0, .ref (gad Γ 0))]) rfl ?_
  refine j_sub [2, 1, 0] (loc' := [(0, .ref (gad Γ 0)), (1, .long 1), (3, .int 0)]) rfl ?_
  exact wX11_waysMany_4 hC hR hm F κ F 1 0
theorem ctX11_waysMany {Δ : DCtx} {l : Launch} (hl : dlay Δ = layM) (hN : dN Δ = 15) (F : Nat) (κ : Mem) : ∀ r, pX11_waysMany F κ = some r → CT Δ l yX11_waysMany cX11_waysMany 5 (some .int) (rmH 3) [.ref (dad Δ 0)] κ (some (.int r)) κ :=
  ct_of (nL := 5) (ret := (some .int)) (lay := layM) (N := 15) (by decide +kernel) (fun Δ => [.ref (dad Δ 0)]) (fun _ => oI κ) (fun _ => (Nat.le_of_ble_eq_true rfl)) (fun Γ hR hm hC => wX11_waysMany hC hR hm F κ) Δ l hl hN
set_option maxRecDepth 20000 in
theorem wX11_copies_2 {Γ : JCtx} (hC : jC Γ cX11_copies 4 RX11 none layM 15) (hR : gR Γ = rmH 0) (hm : gcells Γ ≤ (gR Γ).cells ∧ gslots Γ ≤ (gR Γ).slots) (r1 : Nat) (hr1 : layM r1 = kIA (lenM r1)) (nr1 : r1 < 15) (r2 : Nat) (hr2 : layM r2 = kIA (lenM r2)) (nr2 : r2 < 15) (F : Nat) : ∀ (n : Nat) (κ : Mem) (v3 : Int32), JP Γ (qf Γ oV) (pX11_copies_2 F r1 r2 n κ v3) κ 2 [(1, .ref (gad Γ r1)), (2, .ref (gad Γ r2)), (3, .int v3)] [] := by
  intro n
  induction n with
  | zero =>
    intro κ v3
    rw [pX11_copies_2]
    exact j_none
  | succ fu ih =>
    intro κ v3
    rw [pX11_copies_2]
    refine j_iload_n hC (pc := 2) dX11_copies_2 2 rfl rfl ?_
    refine j_sipush hC (pc := 3) dX11_copies_3 ks_6157 ?_
    refine j_icmp_ge hC (pc := 6) dX11_copies_6 (tgt := 21) rfl ?_ ?_
    · refine j_aload_n hC (pc := 9) dX11_copies_9 1 rfl rfl ?_
      refine j_iload_n hC (pc := 10) dX11_copies_10 2 rfl rfl ?_
      refine j_aload_n hC (pc := 11) dX11_copies_11 0 rfl rfl ?_
      refine j_iload_n hC (pc := 12) dX11_copies_12 2 rfl rfl ?_
      refine j_iald hC (pc := 13) dX11_copies_13 hr1 nr1 ?_
      refine j_iast hC (pc := 14) dX11_copies_14 hr2 nr2 (fun κ1 => ?_)
      refine j_iinc hC (pc := 15) dX11_copies_15 2 rfl ki_1 (Nat.le_of_ble_eq_true rfl) (loc' := [(3, .int (v3 + 1)), (1, .ref (gad Γ r1)), (2, .ref (gad Γ r2))]) rfl ?_
      refine j_goto hC (pc := 18) dX11_copies_18 (tgt := 2) rfl ?_
      refine j_sub [1, 2, 0] (loc' := [(1, .ref (gad Γ r1)), (2, .ref (gad Γ r2)), (3, .int (v3 + 1))]) rfl ?_
      exact ih κ1 (v3 + 1)
    · exact j_vret hC (pc := 21) dX11_copies_21 rfl rfl
set_option maxRecDepth 20000 in
theorem wX11_copies {Γ : JCtx} (hC : jC Γ cX11_copies 4 RX11 none layM 15) (hR : gR Γ = rmH 0) (hm : gcells Γ ≤ (gR Γ).cells ∧ gslots Γ ≤ (gR Γ).slots) (r1 : Nat) (hr1 : layM r1 = kIA (lenM r1)) (nr1 : r1 < 15) (r2 : Nat) (hr2 : layM r2 = kIA (lenM r2)) (nr2 : r2 < 15) (F : Nat) (κ : Mem) : JP Γ (qf Γ oV) (pX11_copies F r1 r2 κ) κ 0 [(0, .ref (gad Γ 0)), (1, .ref (gad Γ r1)), (2, .ref (gad Γ r2))] [] := by
  unfold pX11_copies
  refine j_iconst hC (pc := 0) dX11_copies_0 ki_0 ?_
  refine j_istore_n hC (pc := 1) dX11_copies_1 rfl (Nat.le_of_ble_eq_true rfl) (loc' := [(3, .int 0), (0, .ref (gad Γ 0)), (1, .ref (gad Γ r1)), (2, .ref (gad Γ r2))]) rfl ?_
  refine j_sub [2, 3, 0] (loc' := [(1, .ref (gad Γ r1)), (2, .ref (gad Γ r2)), (3, .int 0)]) rfl ?_
  exact wX11_copies_2 hC hR hm r1 hr1 nr1 r2 hr2 nr2 F F κ 0
theorem ctX11_copies {Δ : DCtx} {l : Launch} (hl : dlay Δ = layM) (hN : dN Δ = 15) (r1 : Nat) (hr1 : layM r1 = kIA (lenM r1)) (nr1 : r1 < 15) (r2 : Nat) (hr2 : layM r2 = kIA (lenM r2)) (nr2 : r2 < 15) (F : Nat) (κ : Mem) : ∀ r, pX11_copies F r1 r2 κ = some r → CT Δ l yX11_copies cX11_copies 4 none (rmH 0) [.ref (dad Δ 0), .ref (dad Δ r1), .ref (dad Δ r2)] κ none r :=
  ct_of (nL := 4) (ret := none) (lay := layM) (N := 15) (by decide +kernel) (fun Δ => [.ref (dad Δ 0), .ref (dad Δ r1), .ref (dad Δ r2)]) (fun _ => oV) (fun _ => (Nat.le_of_ble_eq_true rfl)) (fun Γ hR hm hC => wX11_copies hC hR hm r1 hr1 nr1 r2 hr2 nr2 F κ) Δ l hl hN
set_option maxRecDepth 20000 in
theorem wX11_nextWay_12 {Γ : JCtx} (hC : jC Γ cX11_nextWay 3 RX11 (some .boolean) layM 15) (hR : gR Γ = rmH 3) (hm : gcells Γ ≤ (gR Γ).cells ∧ gslots Γ ≤ (gR Γ).slots) (F : Nat) (v1 : Int32) (k2 : Mem → Int32 → Option (Int32 × Mem)) (hk2 : ∀ (κ : Mem) (v1 : Int32), JP Γ (qf Γ oE) (k2 κ v1) κ 2 [(0, .ref (gad Γ 0)), (1, .int v1)] []) : ∀ (n : Nat) (κ : Mem) (v2 : Int32), JP Γ (qf Γ oE) (pX11_nextWay_12 F k2 v1 n κ v2) κ 12 [(0, .ref (gad Γ 0)), (1, .int v1), (2, .int v2)] [] := by
  intro n
  induction n with
  | zero =>
    intro κ v2
    rw [pX11_nextWay_12]
    exact j_none
  | succ fu ih =>
    intro κ v2
    rw [pX11_nextWay_12]
    refine j_iload_n hC (pc := 12) dX11_nextWay_12 2 rfl rfl ?_
    refine j_aload_n hC (pc := 13) dX11_nextWay_13 0 rfl rfl ?_
    refine j_iload_n hC (pc := 14) dX11_nextWay_14 1 rfl rfl ?_
    refine j_callV_I hC hR (ctX11_situations_ hC.l hC.cn F κ v1) kc_RX11_174 (Nat.le_of_ble_eq_true rfl) (Nat.le_of_ble_eq_true rfl) lM_0 (Nat.le_of_ble_eq_true rfl) rfl (As := [.int v1]) (rest := [.int v2]) rfl rfl (Nat.le_of_ble_eq_true rfl) hm (pc := 15) dX11_nextWay_15 (fun t2 => ?_)
    refine j_icmp_ge hC (pc := 18) dX11_nextWay_18 (tgt := 66) rfl ?_ ?_
    · refine j_aload_n hC (pc := 21) dX11_nextWay_21 0 rfl rfl ?_
      refine j_iload_n hC (pc := 22) dX11_nextWay_22 1 rfl rfl ?_
      refine j_iload_n hC (pc := 23) dX11_nextWay_23 2 rfl rfl ?_
      refine j_callV_I hC hR (ctX11_entry hC.l hC.cn κ v1 v2) kc_RX11_121 (Nat.le_of_ble_eq_true rfl) (Nat.le_of_ble_eq_true rfl) lM_0 (Nat.le_of_ble_eq_true rfl) rfl (As := [.int v1, .int v2]) (rest := []) rfl rfl (Nat.le_of_ble_eq_true rfl) hm (pc := 24) dX11_nextWay_24 (fun t3 => ?_)
      refine j_iconst hC (pc := 27) dX11_nextWay_27 ki_1 ?_
      refine j_iadd hC (pc := 28) dX11_nextWay_28 ?_
      refine j_aload_n hC (pc := 29) dX11_nextWay_29 0 rfl rfl ?_
      refine j_iload_n hC (pc := 30) dX11_nextWay_30 1 rfl rfl ?_
      refine j_callV_I hC hR (ctX11_hats hC.l hC.cn κ v1) kc_RX11_111 (Nat.le_of_ble_eq_true rfl) (Nat.le_of_ble_eq_true rfl) lM_0 (Nat.le_of_ble_eq_true rfl) rfl (As := [.int v1]) (rest := [.int (t3 + 1)]) rfl rfl (Nat.le_of_ble_eq_true rfl) hm (pc := 31) dX11_nextWay_31 (fun t4 => ?_)
      refine j_icmp_ge hC (pc := 34) dX11_nextWay_34 (tgt := 53) rfl ?_ ?_
      · refine j_aload_n hC (pc := 37) dX11_nextWay_37 0 rfl rfl ?_
        refine j_iload_n hC (pc := 38) dX11_nextWay_38 1 rfl rfl ?_
        refine j_iload_n hC (pc := 39) dX11_nextWay_39 2 rfl rfl ?_
        refine j_aload_n hC (pc := 40) dX11_nextWay_40 0 rfl rfl ?_
        refine j_iload_n hC (pc := 41) dX11_nextWay_41 1 rfl rfl ?_
        refine j_iload_n hC (pc := 42) dX11_nextWay_42 2 rfl rfl ?_
        refine j_callV_I hC hR (ctX11_entry hC.l hC.cn κ v1 v2) kc_RX11_121 (Nat.le_of_ble_eq_true rfl) (Nat.le_of_ble_eq_true rfl) lM_0 (Nat.le_of_ble_eq_true rfl) rfl (As := [.int v1, .int v2]) (rest := [.int v2, .int v1, .ref (gad Γ 0)]) rfl rfl (Nat.le_of_ble_eq_true rfl) hm (pc := 43) dX11_nextWay_43 (fun t5 => ?_)
        refine j_iconst hC (pc := 46) dX11_nextWay_46 ki_1 ?_
        refine j_iadd hC (pc := 47) dX11_nextWay_47 ?_
        refine j_callV_V hC hR (ctX11_enters hC.l hC.cn κ v1 v2 (t5 + 1)) kc_RX11_244 (Nat.le_of_ble_eq_true rfl) (Nat.le_of_ble_eq_true rfl) lM_0 (Nat.le_of_ble_eq_true rfl) rfl (As := [.int v1, .int v2, .int (t5 + 1)]) (rest := []) rfl rfl (Nat.le_of_ble_eq_true rfl) hm (pc := 48) dX11_nextWay_48 (fun t6 => ?_)
        refine j_iconst hC (pc := 51) dX11_nextWay_51 ki_1 ?_
        exact j_iret hC (pc := 52) dX11_nextWay_52 rfl rfl rfl
      · refine j_aload_n hC (pc := 53) dX11_nextWay_53 0 rfl rfl ?_
        refine j_iload_n hC (pc := 54) dX11_nextWay_54 1 rfl rfl ?_
        refine j_iload_n hC (pc := 55) dX11_nextWay_55 2 rfl rfl ?_
        refine j_iconst hC (pc := 56) dX11_nextWay_56 ki_0 ?_
        refine j_callV_V hC hR (ctX11_enters hC.l hC.cn κ v1 v2 0) kc_RX11_244 (Nat.le_of_ble_eq_true rfl) (Nat.le_of_ble_eq_true rfl) lM_0 (Nat.le_of_ble_eq_true rfl) rfl (As := [.int v1, .int v2, .int 0]) (rest := []) rfl rfl (Nat.le_of_ble_eq_true rfl) hm (pc := 57) dX11_nextWay_57 (fun t7 => ?_)
        refine j_iinc hC (pc := 60) dX11_nextWay_60 2 rfl ki_1 (Nat.le_of_ble_eq_true rfl) (loc' := [(2, .int (v2 + 1)), (0, .ref (gad Γ 0)), (1, .int v1)]) rfl ?_
        refine j_goto hC (pc := 63) dX11_nextWay_63 (tgt := 12) rfl ?_
        refine j_sub [1, 2, 0] (loc' := [(0, .ref (gad Γ 0)), (1, .int v1), (2, .int (v2 + 1))]) rfl ?_
        exact ih t7 (v2 + 1)
    · refine j_iinc hC (pc := 66) dX11_nextWay_66 1 rfl ki_1 (Nat.le_of_ble_eq_true rfl) (loc' := [(1, .int (v1 + 1)), (0, .ref (gad Γ 0)), (2, .int v2)]) rfl ?_
      refine j_goto hC (pc := 69) dX11_nextWay_69 (tgt := 2) rfl ?_
      refine j_sub [1, 0] (loc' := [(0, .ref (gad Γ 0)), (1, .int (v1 + 1))]) rfl ?_
      exact hk2 κ (v1 + 1)
set_option maxRecDepth 20000 in
theorem wX11_nextWay_2 {Γ : JCtx} (hC : jC Γ cX11_nextWay 3 RX11 (some .boolean) layM 15) (hR : gR Γ = rmH 3) (hm : gcells Γ ≤ (gR Γ).cells ∧ gslots Γ ≤ (gR Γ).slots) (F : Nat) : ∀ (n : Nat) (κ : Mem) (v1 : Int32), JP Γ (qf Γ oE) (pX11_nextWay_2 F n κ v1) κ 2 [(0, .ref (gad Γ 0)), (1, .int v1)] [] := by
  intro n
  induction n with
  | zero =>
    intro κ v1
    rw [pX11_nextWay_2]
    exact j_none
  | succ fu ih =>
    intro κ v1
    rw [pX11_nextWay_2]
    refine j_iload_n hC (pc := 2) dX11_nextWay_2 1 rfl rfl ?_
    refine j_aload_n hC (pc := 3) dX11_nextWay_3 0 rfl rfl ?_
    refine j_callV_I hC hR (ctX11_players hC.l hC.cn κ) kc_RX11_108 (Nat.le_of_ble_eq_true rfl) (Nat.le_of_ble_eq_true rfl) lM_0 (Nat.le_of_ble_eq_true rfl) rfl (As := []) (rest := [.int v1]) rfl rfl (Nat.le_of_ble_eq_true rfl) hm (pc := 4) dX11_nextWay_4 (fun t1 => ?_)
    refine j_icmp_ge hC (pc := 7) dX11_nextWay_7 (tgt := 72) rfl ?_ ?_
    · refine j_iconst hC (pc := 10) dX11_nextWay_10 ki_0 ?_
      refine j_istore_n hC (pc := 11) dX11_nextWay_11 rfl (Nat.le_of_ble_eq_true rfl) (loc' := [(2, .int 0), (0, .ref (gad Γ 0)), (1, .int v1)]) rfl ?_
      refine j_sub [1, 2, 0] (loc' := [(0, .ref (gad Γ 0)), (1, .int v1), (2, .int 0)]) rfl ?_
      exact wX11_nextWay_12 hC hR hm F v1 (pX11_nextWay_2 F fu) ih F κ 0
    · refine j_iconst hC (pc := 72) dX11_nextWay_72 ki_0 ?_
      exact j_iret hC (pc := 73) dX11_nextWay_73 rfl rfl rfl
set_option maxRecDepth 20000 in
theorem wX11_nextWay {Γ : JCtx} (hC : jC Γ cX11_nextWay 3 RX11 (some .boolean) layM 15) (hR : gR Γ = rmH 3) (hm : gcells Γ ≤ (gR Γ).cells ∧ gslots Γ ≤ (gR Γ).slots) (F : Nat) (κ : Mem) : JP Γ (qf Γ oE) (pX11_nextWay F κ) κ 0 [(0, .ref (gad Γ 0))] [] := by
  unfold pX11_nextWay
  refine j_iconst hC (pc := 0) dX11_nextWay_0 ki_0 ?_
  refine j_istore_n hC (pc := 1) dX11_nextWay_1 rfl (Nat.le_of_ble_eq_true rfl) (loc' := [(1, .int 0), (0, .ref (gad Γ 0))]) rfl ?_
  refine j_sub [1, 0] (loc' := [(0, .ref (gad Γ 0)), (1, .int 0)]) rfl ?_
  exact wX11_nextWay_2 hC hR hm F F κ 0
theorem ctX11_nextWay {Δ : DCtx} {l : Launch} (hl : dlay Δ = layM) (hN : dN Δ = 15) (F : Nat) (κ : Mem) : ∀ r, pX11_nextWay F κ = some r → CT Δ l yX11_nextWay cX11_nextWay 3 (some .boolean) (rmH 3) [.ref (dad Δ 0)] κ (some (.int r.1)) r.2 :=
  ct_of (nL := 3) (ret := (some .boolean)) (lay := layM) (N := 15) (by decide +kernel) (fun Δ => [.ref (dad Δ 0)]) (fun _ => oE) (fun _ => (Nat.le_of_ble_eq_true rfl)) (fun Γ hR hm hC => wX11_nextWay hC hR hm F κ) Δ l hl hN
set_option maxRecDepth 20000 in
theorem wX11_ways_178 {Γ : JCtx} (hC : jC Γ cX11_ways 4 RX11 (some .int) layM 15) (hR : gR Γ = rmH 6) (hm : gcells Γ ≤ (gR Γ).cells ∧ gslots Γ ≤ (gR Γ).slots) (F : Nat) (κ : Mem) (y0 : Int32) : JP Γ (qf Γ oE) (pX11_ways_178 F κ y0) κ 178 [] [.int y0] := by
  unfold pX11_ways_178
  exact j_iret hC (pc := 178) dX11_ways_178 rfl rfl rfl
set_option maxRecDepth 20000 in
theorem wX11_ways_139 {Γ : JCtx} (hC : jC Γ cX11_ways 4 RX11 (some .int) layM 15) (hR : gR Γ = rmH 6) (hm : gcells Γ ≤ (gR Γ).cells ∧ gslots Γ ≤ (gR Γ).slots) (F : Nat) (κ : Mem) (v1 : Int32) (y0 : Int32) (k95 : Mem → Int32 → Option (Int32 × Mem)) (hk95 : ∀ (κ : Mem) (v2 : Int32), JP Γ (qf Γ oE) (k95 κ v2) κ 95 [(0, .ref (gad Γ 0)), (1, .int v1), (2, .int v2)] []) : JP Γ (qf Γ oE) (pX11_ways_139 F k95 κ v1 y0) κ 139 [(0, .ref (gad Γ 0)), (1, .int v1)] [.int y0, .ref (gad Γ 0)] := by
  unfold pX11_ways_139
  refine j_putI hC (pc := 139) dX11_ways_139 kp_RX11_263 lM_0 (Nat.le_of_ble_eq_true rfl) rfl rfl rfl (fun κ11 => ?_)
  refine j_aload_n hC (pc := 142) dX11_ways_142 0 rfl rfl ?_
  refine j_callV_E hC hR (ctX11_nextWay hC.l hC.cn F κ11) kc_RX11_266 (Nat.le_of_ble_eq_true rfl) (Nat.le_of_ble_eq_true rfl) lM_0 (Nat.le_of_ble_eq_true rfl) rfl (As := []) (rest := []) rfl rfl (Nat.le_of_ble_eq_true rfl) hm (pc := 143) dX11_ways_143 (fun t12 => ?_)
  refine j_istore_n hC (pc := 146) dX11_ways_146 rfl (Nat.le_of_ble_eq_true rfl) (loc' := [(2, .int (t12.1)), (0, .ref (gad Γ 0)), (1, .int v1)]) rfl ?_
  refine j_goto hC (pc := 147) dX11_ways_147 (tgt := 95) rfl ?_
  refine j_sub [1, 2, 0] (loc' := [(0, .ref (gad Γ 0)), (1, .int v1), (2, .int (t12.1))]) rfl ?_
  exact hk95 t12.2 t12.1
set_option maxRecDepth 20000 in
theorem wX11_ways_118 {Γ : JCtx} (hC : jC Γ cX11_ways 4 RX11 (some .int) layM 15) (hR : gR Γ = rmH 6) (hm : gcells Γ ≤ (gR Γ).cells ∧ gslots Γ ≤ (gR Γ).slots) (F : Nat) (κ : Mem) (v1 : Int32) (v3 : Int32) (y0 : Int32) (y1 : Int32) (k95 : Mem → Int32 → Option (Int32 × Mem)) (hk95 : ∀ (κ : Mem) (v2 : Int32), JP Γ (qf Γ oE) (k95 κ v2) κ 95 [(0, .ref (gad Γ 0)), (1, .int v1), (2, .int v2)] []) : JP Γ (qf Γ oE) (pX11_ways_118 F k95 κ v1 v3 y0 y1) κ 118 [(0, .ref (gad Γ 0)), (1, .int v1), (3, .int v3)] [.int y0, .int y1, .ref (gad Γ 0)] := by
  unfold pX11_ways_118
  refine j_iadd hC (pc := 118) dX11_ways_118 ?_
  refine j_putI hC (pc := 119) dX11_ways_119 kp_RX11_260 lM_0 (Nat.le_of_ble_eq_true rfl) rfl rfl rfl (fun κ10 => ?_)
  refine j_aload_n hC (pc := 122) dX11_ways_122 0 rfl rfl ?_
  refine j_iload_n hC (pc := 123) dX11_ways_123 2 rfl rfl ?_
  refine j_aload_n hC (pc := 124) dX11_ways_124 0 rfl rfl ?_
  refine j_getI hC (pc := 125) dX11_ways_125 kf_RX11_263 lM_0 (Nat.le_of_ble_eq_true rfl) rfl ?_
  refine j_icmp_ge hC (pc := 128) dX11_ways_128 (tgt := 135) rfl ?_ ?_
  · refine j_iload_n hC (pc := 131) dX11_ways_131 2 rfl rfl ?_
    refine j_goto hC (pc := 132) dX11_ways_132 (tgt := 139) rfl ?_
    refine j_sub [0, 1] (loc' := [(0, .ref (gad Γ 0)), (1, .int v1)]) rfl ?_
    exact wX11_ways_139 hC hR hm F κ10 v1 v3 k95 hk95
  · refine j_aload_n hC (pc := 135) dX11_ways_135 0 rfl rfl ?_
    refine j_getI hC (pc := 136) dX11_ways_136 kf_RX11_263 lM_0 (Nat.le_of_ble_eq_true rfl) rfl ?_
    refine j_sub [0, 1] (loc' := [(0, .ref (gad Γ 0)), (1, .int v1)]) rfl ?_
    exact wX11_ways_139 hC hR hm F κ10 v1 (mi κ10 0 12) k95 hk95
set_option maxRecDepth 20000 in
theorem wX11_ways_95 {Γ : JCtx} (hC : jC Γ cX11_ways 4 RX11 (some .int) layM 15) (hR : gR Γ = rmH 6) (hm : gcells Γ ≤ (gR Γ).cells ∧ gslots Γ ≤ (gR Γ).slots) (F : Nat) (v1 : Int32) : ∀ (n : Nat) (κ : Mem) (v2 : Int32), JP Γ (qf Γ oE) (pX11_ways_95 F v1 n κ v2) κ 95 [(0, .ref (gad Γ 0)), (1, .int v1), (2, .int v2)] [] := by
  intro n
  induction n with
  | zero =>
    intro κ v2
    rw [pX11_ways_95]
    exact j_none
  | succ fu ih =>
    intro κ v2
    rw [pX11_ways_95]
    refine j_iload_n hC (pc := 95) dX11_ways_95 2 rfl rfl ?_
    refine j_if_eq hC (pc := 96) dX11_ways_96 (tgt := 150) rfl ?_ ?_
    · refine j_aload_n hC (pc := 150) dX11_ways_150 0 rfl rfl ?_
      refine j_aload_n hC (pc := 151) dX11_ways_151 0 rfl rfl ?_
      refine j_getR hC (pc := 152) dX11_ways_152 kf_RX11_20 lM_0 (Nat.le_of_ble_eq_true rfl) rfl ?_
      refine j_aload_n hC (pc := 155) dX11_ways_155 0 rfl rfl ?_
      refine j_getR hC (pc := 156) dX11_ways_156 kf_RX11_7 lM_0 (Nat.le_of_ble_eq_true rfl) rfl ?_
      refine j_callV_V hC hR (ctX11_copies hC.l hC.cn 4 (lenM_ok lM_4) (Nat.le_of_ble_eq_true rfl) 1 (lenM_ok lM_1) (Nat.le_of_ble_eq_true rfl) F κ) kc_RX11_256 (Nat.le_of_ble_eq_true rfl) (Nat.le_of_ble_eq_true rfl) lM_0 (Nat.le_of_ble_eq_true rfl) rfl (As := [.ref (gad Γ 4), .ref (gad Γ 1)]) (rest := []) rfl rfl (Nat.le_of_ble_eq_true rfl) hm (pc := 159) dX11_ways_159 (fun t8 => ?_)
      refine j_iload_n hC (pc := 162) dX11_ways_162 1 rfl rfl ?_
      refine j_iconst hC (pc := 163) dX11_ways_163 ki_1 ?_
      refine j_icmp_ne hC (pc := 164) dX11_ways_164 (tgt := 174) rfl ?_ ?_
      · refine j_aload_n hC (pc := 167) dX11_ways_167 0 rfl rfl ?_
        refine j_getI hC (pc := 168) dX11_ways_168 kf_RX11_260 lM_0 (Nat.le_of_ble_eq_true rfl) rfl ?_
        refine j_goto hC (pc := 171) dX11_ways_171 (tgt := 178) rfl ?_
        refine j_sub [] (loc' := []) rfl ?_
        exact wX11_ways_178 hC hR hm F t8 (mi t8 0 11)
      · refine j_aload_n hC (pc := 174) dX11_ways_174 0 rfl rfl ?_
        refine j_getI hC (pc := 175) dX11_ways_175 kf_RX11_263 lM_0 (Nat.le_of_ble_eq_true rfl) rfl ?_
        refine j_sub [] (loc' := []) rfl ?_
        exact wX11_ways_178 hC hR hm F t8 (mi t8 0 12)
    · refine j_aload_n hC (pc := 99) dX11_ways_99 0 rfl rfl ?_
      refine j_callV_E hC hR (ctX11_lostNow hC.l hC.cn F κ) kc_RX11_214 (Nat.le_of_ble_eq_true rfl) (Nat.le_of_ble_eq_true rfl) lM_0 (Nat.le_of_ble_eq_true rfl) rfl (As := []) (rest := []) rfl rfl (Nat.le_of_ble_eq_true rfl) hm (pc := 100) dX11_ways_100 (fun t9 => ?_)
      refine j_istore_n hC (pc := 103) dX11_ways_103 rfl (Nat.le_of_ble_eq_true rfl) (loc' := [(3, .int (t9.1)), (0, .ref (gad Γ 0)), (1, .int v1), (2, .int v2)]) rfl ?_
      refine j_aload_n hC (pc := 104) dX11_ways_104 1 rfl rfl ?_
      refine j_dup hC (pc := 105) dX11_ways_105 rfl ?_
      refine j_getI hC (pc := 106) dX11_ways_106 kf_RX11_260 lM_0 (Nat.le_of_ble_eq_true rfl) rfl ?_
      refine j_iload_n hC (pc := 109) dX11_ways_109 0 rfl rfl ?_
      refine j_if_ne hC (pc := 110) dX11_ways_110 (tgt := 117) rfl ?_ ?_
      · refine j_iconst hC (pc := 113) dX11_ways_113 ki_1 ?_
        refine j_goto hC (pc := 114) dX11_ways_114 (tgt := 118) rfl ?_
        refine j_sub [1, 2, 0] (loc' := [(0, .ref (gad Γ 0)), (1, .int v1), (3, .int (t9.1))]) rfl ?_
        exact wX11_ways_118 hC hR hm F t9.2 v1 t9.1 1 (mi t9.2 0 11) (pX11_ways_95 F v1 fu) ih
      · refine j_iconst hC (pc := 117) dX11_ways_117 ki_0 ?_
        refine j_sub [1, 2, 0] (loc' := [(0, .ref (gad Γ 0)), (1, .int v1), (3, .int (t9.1))]) rfl ?_
        exact wX11_ways_118 hC hR hm F t9.2 v1 t9.1 0 (mi t9.2 0 11) (pX11_ways_95 F v1 fu) ih
set_option maxRecDepth 20000 in
theorem wX11_ways_61 {Γ : JCtx} (hC : jC Γ cX11_ways 4 RX11 (some .int) layM 15) (hR : gR Γ = rmH 6) (hm : gcells Γ ≤ (gR Γ).cells ∧ gslots Γ ≤ (gR Γ).slots) (F : Nat) (v1 : Int32) : ∀ (n : Nat) (κ : Mem) (v2 : Int32), JP Γ (qf Γ oE) (pX11_ways_61 F v1 n κ v2) κ 61 [(0, .ref (gad Γ 0)), (1, .int v1), (2, .int v2)] [] := by
  intro n
  induction n with
  | zero =>
    intro κ v2
    rw [pX11_ways_61]
    exact j_none
  | succ fu ih =>
    intro κ v2
    rw [pX11_ways_61]
    refine j_iload_n hC (pc := 61) dX11_ways_61 2 rfl rfl ?_
    refine j_sipush hC (pc := 62) dX11_ways_62 ks_6157 ?_
    refine j_icmp_ge hC (pc := 65) dX11_ways_65 (tgt := 81) rfl ?_ ?_
    · refine j_aload_n hC (pc := 68) dX11_ways_68 0 rfl rfl ?_
      refine j_getR hC (pc := 69) dX11_ways_69 kf_RX11_7 lM_0 (Nat.le_of_ble_eq_true rfl) rfl ?_
      refine j_iload_n hC (pc := 72) dX11_ways_72 2 rfl rfl ?_
      refine j_iconst hC (pc := 73) dX11_ways_73 ki_0 ?_
      refine j_iast hC (pc := 74) dX11_ways_74 lM_1 (Nat.le_of_ble_eq_true rfl) (fun κ5 => ?_)
      refine j_iinc hC (pc := 75) dX11_ways_75 2 rfl ki_1 (Nat.le_of_ble_eq_true rfl) (loc' := [(2, .int (v2 + 1)), (0, .ref (gad Γ 0)), (1, .int v1)]) rfl ?_
      refine j_goto hC (pc := 78) dX11_ways_78 (tgt := 61) rfl ?_
      refine j_sub [1, 2, 0] (loc' := [(0, .ref (gad Γ 0)), (1, .int v1), (2, .int (v2 + 1))]) rfl ?_
      exact ih κ5 (v2 + 1)
    · refine j_aload_n hC (pc := 81) dX11_ways_81 0 rfl rfl ?_
      refine j_iconst hC (pc := 82) dX11_ways_82 ki_0 ?_
      refine j_putI hC (pc := 83) dX11_ways_83 kp_RX11_260 lM_0 (Nat.le_of_ble_eq_true rfl) rfl rfl rfl (fun κ6 => ?_)
      refine j_aload_n hC (pc := 86) dX11_ways_86 0 rfl rfl ?_
      refine j_sipush hC (pc := 87) dX11_ways_87 ks_4096 ?_
      refine j_putI hC (pc := 90) dX11_ways_90 kp_RX11_263 lM_0 (Nat.le_of_ble_eq_true rfl) rfl rfl rfl (fun κ7 => ?_)
      refine j_iconst hC (pc := 93) dX11_ways_93 ki_1 ?_
      refine j_istore_n hC (pc := 94) dX11_ways_94 rfl (Nat.le_of_ble_eq_true rfl) (loc' := [(2, .int 1), (0, .ref (gad Γ 0)), (1, .int v1)]) rfl ?_
      refine j_sub [1, 2, 0] (loc' := [(0, .ref (gad Γ 0)), (1, .int v1), (2, .int 1)]) rfl ?_
      exact wX11_ways_95 hC hR hm F v1 F κ7 1
set_option maxRecDepth 20000 in
theorem wX11_ways_29 {Γ : JCtx} (hC : jC Γ cX11_ways 4 RX11 (some .int) layM 15) (hR : gR Γ = rmH 6) (hm : gcells Γ ≤ (gR Γ).cells ∧ gslots Γ ≤ (gR Γ).slots) (F : Nat) (κ : Mem) (v1 : Int32) (y0 : Int32) : JP Γ (qf Γ oE) (pX11_ways_29 F κ v1 y0) κ 29 [(0, .ref (gad Γ 0)), (1, .int v1)] [.int y0, .ref (gad Γ 0)] := by
  unfold pX11_ways_29
  refine j_callV_E hC hR (ctX11_is hC.l hC.cn κ y0) kc_RX11_145 (Nat.le_of_ble_eq_true rfl) (Nat.le_of_ble_eq_true rfl) lM_0 (Nat.le_of_ble_eq_true rfl) rfl (As := [.int y0]) (rest := []) rfl rfl (Nat.le_of_ble_eq_true rfl) hm (pc := 29) dX11_ways_29 (fun t2 => ?_)
  refine j_if_ne hC (pc := 32) dX11_ways_32 (tgt := 37) rfl ?_ ?_
  · refine j_iconst hC (pc := 35) dX11_ways_35 ki_m1 ?_
    exact j_iret hC (pc := 36) dX11_ways_36 rfl rfl rfl
  · refine j_iload_n hC (pc := 37) dX11_ways_37 1 rfl rfl ?_
    refine j_if_ne hC (pc := 38) dX11_ways_38 (tgt := 46) rfl ?_ ?_
    · refine j_aload_n hC (pc := 41) dX11_ways_41 0 rfl rfl ?_
      refine j_callV_I hC hR (ctX11_waysMany hC.l hC.cn F t2.2) kc_RX11_253 (Nat.le_of_ble_eq_true rfl) (Nat.le_of_ble_eq_true rfl) lM_0 (Nat.le_of_ble_eq_true rfl) rfl (As := []) (rest := []) rfl rfl (Nat.le_of_ble_eq_true rfl) hm (pc := 42) dX11_ways_42 (fun t3 => ?_)
      exact j_iret hC (pc := 45) dX11_ways_45 rfl rfl rfl
    · refine j_aload_n hC (pc := 46) dX11_ways_46 0 rfl rfl ?_
      refine j_aload_n hC (pc := 47) dX11_ways_47 0 rfl rfl ?_
      refine j_getR hC (pc := 48) dX11_ways_48 kf_RX11_7 lM_0 (Nat.le_of_ble_eq_true rfl) rfl ?_
      refine j_aload_n hC (pc := 51) dX11_ways_51 0 rfl rfl ?_
      refine j_getR hC (pc := 52) dX11_ways_52 kf_RX11_20 lM_0 (Nat.le_of_ble_eq_true rfl) rfl ?_
      refine j_callV_V hC hR (ctX11_copies hC.l hC.cn 1 (lenM_ok lM_1) (Nat.le_of_ble_eq_true rfl) 4 (lenM_ok lM_4) (Nat.le_of_ble_eq_true rfl) F t2.2) kc_RX11_256 (Nat.le_of_ble_eq_true rfl) (Nat.le_of_ble_eq_true rfl) lM_0 (Nat.le_of_ble_eq_true rfl) rfl (As := [.ref (gad Γ 1), .ref (gad Γ 4)]) (rest := []) rfl rfl (Nat.le_of_ble_eq_true rfl) hm (pc := 55) dX11_ways_55 (fun t4 => ?_)
      refine j_bipush hC (pc := 58) dX11_ways_58 kb_13 ?_
      refine j_istore_n hC (pc := 60) dX11_ways_60 rfl (Nat.le_of_ble_eq_true rfl) (loc' := [(2, .int 13), (0, .ref (gad Γ 0)), (1, .int v1)]) rfl ?_
      refine j_sub [1, 2, 0] (loc' := [(0, .ref (gad Γ 0)), (1, .int v1), (2, .int 13)]) rfl ?_
      exact wX11_ways_61 hC hR hm F v1 F t4 13
set_option maxRecDepth 20000 in
theorem wX11_ways {Γ : JCtx} (hC : jC Γ cX11_ways 4 RX11 (some .int) layM 15) (hR : gR Γ = rmH 6) (hm : gcells Γ ≤ (gR Γ).cells ∧ gslots Γ ≤ (gR Γ).slots) (F : Nat) (κ : Mem) (v1 : Int32) : JP Γ (qf Γ oE) (pX11_ways F κ v1) κ 0 [(0, .ref (gad Γ 0)), (1, .int v1)] [] := by
  unfold pX11_ways
  refine j_aload_n hC (pc := 0) dX11_ways_0 0 rfl rfl ?_
  refine j_iload_n hC (pc := 1) dX11_ways_1 1 rfl rfl ?_
  refine j_i2l hC (pc := 2) dX11_ways_2 ?_
  refine j_lconst hC (pc := 3) dX11_ways_3 rfl ?_
  refine j_ldc2 hC (pc := 4) dX11_ways_4 w_879 ?_
  refine j_callS_I hC hR (ctX11_isIn hC.l hC.cn κ v1.toInt64 0 2) kc_RX11_92 (Nat.le_of_ble_eq_true rfl) (Nat.le_of_ble_eq_true rfl) (As := [.long (v1.toInt64), .long 0, .long 2]) (rest := [.ref (gad Γ 0)]) rfl rfl (Nat.le_of_ble_eq_true rfl) hm (pc := 7) dX11_ways_7 (fun t1 => ?_)
  refine j_if_ne hC (pc := 10) dX11_ways_10 (tgt := 17) rfl ?_ ?_
  · refine j_iconst hC (pc := 13) dX11_ways_13 ki_1 ?_
    refine j_goto hC (pc := 14) dX11_ways_14 (tgt := 29) rfl ?_
    exact wX11_ways_29 hC hR hm F κ v1 1
  · refine j_aload_n hC (pc := 17) dX11_ways_17 0 rfl rfl ?_
    refine j_callV_I hC hR (ctX11_waysMany hC.l hC.cn F κ) kc_RX11_253 (Nat.le_of_ble_eq_true rfl) (Nat.le_of_ble_eq_true rfl) lM_0 (Nat.le_of_ble_eq_true rfl) rfl (As := []) (rest := [.ref (gad Γ 0)]) rfl rfl (Nat.le_of_ble_eq_true rfl) hm (pc := 18) dX11_ways_18 (fun t13 => ?_)
    refine j_if_ge hC (pc := 21) dX11_ways_21 (tgt := 28) rfl ?_ ?_
    · refine j_iconst hC (pc := 24) dX11_ways_24 ki_3 ?_
      refine j_goto hC (pc := 25) dX11_ways_25 (tgt := 29) rfl ?_
      exact wX11_ways_29 hC hR hm F κ v1 3
    · refine j_iconst hC (pc := 28) dX11_ways_28 ki_0 ?_
      exact wX11_ways_29 hC hR hm F κ v1 0
theorem ctX11_ways {Δ : DCtx} {l : Launch} (hl : dlay Δ = layM) (hN : dN Δ = 15) (F : Nat) (κ : Mem) (v1 : Int32) : ∀ r, pX11_ways F κ v1 = some r → CT Δ l yX11_ways cX11_ways 4 (some .int) (rmH 6) [.ref (dad Δ 0), .int v1] κ (some (.int r.1)) r.2 :=
  ct_of (nL := 4) (ret := (some .int)) (lay := layM) (N := 15) (by decide +kernel) (fun Δ => [.ref (dad Δ 0), .int v1]) (fun _ => oE) (fun _ => (Nat.le_of_ble_eq_true rfl)) (fun Γ hR hm hC => wX11_ways hC hR hm F κ v1) Δ l hl hN
set_option maxRecDepth 20000 in
theorem wX11_draws_18 {Γ : JCtx} (hC : jC Γ cX11_draws 6 RX11 none layM 15) (hR : gR Γ = rmH 3) (hm : gcells Γ ≤ (gR Γ).cells ∧ gslots Γ ≤ (gR Γ).slots) (F : Nat) (v4 : Int32) (k6 : Mem → Int64 → Int32 → Option Mem) (hk6 : ∀ (κ : Mem) (v2 : Int64) (v4 : Int32), JP Γ (qf Γ oV) (k6 κ v2 v4) κ 6 [(0, .ref (gad Γ 0)), (2, .long v2), (4, .int v4)] []) : ∀ (n : Nat) (κ : Mem) (v2 : Int64) (v5 : Int32), JP Γ (qf Γ oV) (pX11_draws_18 F k6 v4 n κ v2 v5) κ 18 [(0, .ref (gad Γ 0)), (2, .long v2), (4, .int v4), (5, .int v5)] [] := by
  intro n
  induction n with
  | zero =>
    intro κ v2 v5
    rw [pX11_draws_18]
    exact j_none
  | succ fu ih =>
    intro κ v2 v5
    rw [pX11_draws_18]
    refine j_iload hC (pc := 18) dX11_draws_18 3 rfl ?_
    refine j_aload_n hC (pc := 20) dX11_draws_20 0 rfl rfl ?_
    refine j_iload hC (pc := 21) dX11_draws_21 2 rfl ?_
    refine j_callV_I hC hR (ctX11_situations_ hC.l hC.cn F κ v4) kc_RX11_174 (Nat.le_of_ble_eq_true rfl) (Nat.le_of_ble_eq_true rfl) lM_0 (Nat.le_of_ble_eq_true rfl) rfl (As := [.int v4]) (rest := [.int v5]) rfl rfl (Nat.le_of_ble_eq_true rfl) hm (pc := 23) dX11_draws_23 (fun t3 => ?_)
    refine j_icmp_ge hC (pc := 26) dX11_draws_26 (tgt := 66) rfl ?_ ?_
    · refine j_lload_n hC (pc := 29) dX11_draws_29 1 rfl rfl ?_
      refine j_ldc2 hC (pc := 30) dX11_draws_30 w_949 ?_
      refine j_lmul hC (pc := 33) dX11_draws_33 ?_
      refine j_ldc2 hC (pc := 34) dX11_draws_34 w_950 ?_
      refine j_ladd hC (pc := 37) dX11_draws_37 ?_
      refine j_nml (fun x4 => ?_)
      refine j_lstore_n hC (pc := 38) dX11_draws_38 rfl (Nat.le_of_ble_eq_true rfl) (loc' := [(2, .long x4), (0, .ref (gad Γ 0)), (4, .int v4), (5, .int v5)]) rfl ?_
      refine j_aload_n hC (pc := 39) dX11_draws_39 1 rfl rfl ?_
      refine j_iload hC (pc := 40) dX11_draws_40 2 rfl ?_
      refine j_iload hC (pc := 42) dX11_draws_42 3 rfl ?_
      refine j_lload_n hC (pc := 44) dX11_draws_44 0 rfl rfl ?_
      refine j_bipush hC (pc := 45) dX11_draws_45 kb_33 ?_
      refine j_lushr hC (pc := 47) dX11_draws_47 ?_
      refine j_aload_n hC (pc := 48) dX11_draws_48 1 rfl rfl ?_
      refine j_iload hC (pc := 49) dX11_draws_49 2 rfl ?_
      refine j_callV_I hC hR (ctX11_hats hC.l hC.cn κ v4) kc_RX11_111 (Nat.le_of_ble_eq_true rfl) (Nat.le_of_ble_eq_true rfl) lM_0 (Nat.le_of_ble_eq_true rfl) rfl (As := [.int v4]) (rest := [.long ((x4.toUInt64 >>> ((33 : Int32).toInt64.toUInt64 &&& Int64.toUInt64 63)).toInt64), .int v5, .int v4, .ref (gad Γ 0)]) rfl rfl (Nat.le_of_ble_eq_true rfl) hm (pc := 51) dX11_draws_51 (fun t5 => ?_)
      refine j_i2l hC (pc := 54) dX11_draws_54 ?_
      refine j_lrem hC (pc := 55) dX11_draws_55 ?_
      refine j_l2i hC (pc := 56) dX11_draws_56 ?_
      refine j_callV_V hC hR (ctX11_enters hC.l hC.cn κ v4 v5 (((x4.toUInt64 >>> ((33 : Int32).toInt64.toUInt64 &&& Int64.toUInt64 63)).toInt64 - (x4.toUInt64 >>> ((33 : Int32).toInt64.toUInt64 &&& Int64.toUInt64 63)).toInt64 / t5.toInt64 * t5.toInt64).toInt32)) kc_RX11_244 (Nat.le_of_ble_eq_true rfl) (Nat.le_of_ble_eq_true rfl) lM_0 (Nat.le_of_ble_eq_true rfl) rfl (As := [.int v4, .int v5, .int (((x4.toUInt64 >>> ((33 : Int32).toInt64.toUInt64 &&& Int64.toUInt64 63)).toInt64 - (x4.toUInt64 >>> ((33 : Int32).toInt64.toUInt64 &&& Int64.toUInt64 63)).toInt64 / t5.toInt64 * t5.toInt64).toInt32)]) (rest := []) rfl rfl (Nat.le_of_ble_eq_true rfl) hm (pc := 57) dX11_draws_57 (fun t6 => ?_)
      refine j_iinc hC (pc := 60) dX11_draws_60 3 rfl ki_1 (Nat.le_of_ble_eq_true rfl) (loc' := [(5, .int (v5 + 1)), (2, .long x4), (0, .ref (gad Γ 0)), (4, .int v4)]) rfl ?_
      refine j_goto hC (pc := 63) dX11_draws_63 (tgt := 18) rfl ?_
      refine j_sub [2, 1, 3, 0] (loc' := [(0, .ref (gad Γ 0)), (2, .long x4), (4, .int v4), (5, .int (v5 + 1))]) rfl ?_
      exact ih t6 x4 (v5 + 1)
    · refine j_iinc hC (pc := 66) dX11_draws_66 2 rfl ki_1 (Nat.le_of_ble_eq_true rfl) (loc' := [(4, .int (v4 + 1)), (0, .ref (gad Γ 0)), (2, .long v2), (5, .int v5)]) rfl ?_
      refine j_goto hC (pc := 69) dX11_draws_69 (tgt := 6) rfl ?_
      refine j_sub [1, 2, 0] (loc' := [(0, .ref (gad Γ 0)), (2, .long v2), (4, .int (v4 + 1))]) rfl ?_
      exact hk6 κ v2 (v4 + 1)
set_option maxRecDepth 20000 in
theorem wX11_draws_6 {Γ : JCtx} (hC : jC Γ cX11_draws 6 RX11 none layM 15) (hR : gR Γ = rmH 3) (hm : gcells Γ ≤ (gR Γ).cells ∧ gslots Γ ≤ (gR Γ).slots) (F : Nat) : ∀ (n : Nat) (κ : Mem) (v2 : Int64) (v4 : Int32), JP Γ (qf Γ oV) (pX11_draws_6 F n κ v2 v4) κ 6 [(0, .ref (gad Γ 0)), (2, .long v2), (4, .int v4)] [] := by
  intro n
  induction n with
  | zero =>
    intro κ v2 v4
    rw [pX11_draws_6]
    exact j_none
  | succ fu ih =>
    intro κ v2 v4
    rw [pX11_draws_6]
    refine j_iload hC (pc := 6) dX11_draws_6 2 rfl ?_
    refine j_aload_n hC (pc := 8) dX11_draws_8 0 rfl rfl ?_
    refine j_callV_I hC hR (ctX11_players hC.l hC.cn κ) kc_RX11_108 (Nat.le_of_ble_eq_true rfl) (Nat.le_of_ble_eq_true rfl) lM_0 (Nat.le_of_ble_eq_true rfl) rfl (As := []) (rest := [.int v4]) rfl rfl (Nat.le_of_ble_eq_true rfl) hm (pc := 9) dX11_draws_9 (fun t2 => ?_)
    refine j_icmp_ge hC (pc := 12) dX11_draws_12 (tgt := 72) rfl ?_ ?_
    · refine j_iconst hC (pc := 15) dX11_draws_15 ki_0 ?_
      refine j_istore hC (pc := 16) dX11_draws_16 (Nat.le_of_ble_eq_true rfl) (loc' := [(5, .int 0), (0, .ref (gad Γ 0)), (2, .long v2), (4, .int v4)]) rfl ?_
      refine j_sub [1, 2, 3, 0] (loc' := [(0, .ref (gad Γ 0)), (2, .long v2), (4, .int v4), (5, .int 0)]) rfl ?_
      exact wX11_draws_18 hC hR hm F v4 (pX11_draws_6 F fu) ih F κ v2 0
    · exact j_vret hC (pc := 72) dX11_draws_72 rfl rfl
set_option maxRecDepth 20000 in
theorem wX11_draws {Γ : JCtx} (hC : jC Γ cX11_draws 6 RX11 none layM 15) (hR : gR Γ = rmH 3) (hm : gcells Γ ≤ (gR Γ).cells ∧ gslots Γ ≤ (gR Γ).slots) (F : Nat) (κ : Mem) (v1 : Int32) : JP Γ (qf Γ oV) (pX11_draws F κ v1) κ 0 [(0, .ref (gad Γ 0)), (1, .int v1)] [] := by
  unfold pX11_draws
  refine j_iload_n hC (pc := 0) dX11_draws_0 1 rfl rfl ?_
  refine j_i2l hC (pc := 1) dX11_draws_1 ?_
  refine j_nml (fun x1 => ?_)
  refine j_lstore_n hC (pc := 2) dX11_draws_2 rfl (Nat.le_of_ble_eq_true rfl) (loc' := [(2, .long x1), (0, .ref (gad Γ 0)), (1, .int v1)]) rfl ?_
  refine j_iconst hC (pc := 3) dX11_draws_3 ki_0 ?_
  refine j_istore hC (pc := 4) dX11_draws_4 (Nat.le_of_ble_eq_true rfl) (loc' := [(4, .int 0), (2, .long x1), (0, .ref (gad Γ 0)), (1, .int v1)]) rfl ?_
  refine j_sub [2, 1, 0] (loc' := [(0, .ref (gad Γ 0)), (2, .long x1), (4, .int 0)]) rfl ?_
  exact wX11_draws_6 hC hR hm F F κ x1 0
theorem ctX11_draws {Δ : DCtx} {l : Launch} (hl : dlay Δ = layM) (hN : dN Δ = 15) (F : Nat) (κ : Mem) (v1 : Int32) : ∀ r, pX11_draws F κ v1 = some r → CT Δ l yX11_draws cX11_draws 6 none (rmH 3) [.ref (dad Δ 0), .int v1] κ none r :=
  ct_of (nL := 6) (ret := none) (lay := layM) (N := 15) (by decide +kernel) (fun Δ => [.ref (dad Δ 0), .int v1]) (fun _ => oV) (fun _ => (Nat.le_of_ble_eq_true rfl)) (fun Γ hR hm hC => wX11_draws hC hR hm F κ v1) Δ l hl hN
set_option maxRecDepth 20000 in
theorem wX11_search_139 {Γ : JCtx} (hC : jC Γ cX11_search 9 RX11 (some .int) layM 15) (hR : gR Γ = rmH 8) (hm : gcells Γ ≤ (gR Γ).cells ∧ gslots Γ ≤ (gR Γ).slots) (F : Nat) (κ : Mem) (v1 : Int32) (v2 : Int32) (v3 : Int32) (v5 : Int32) (v6 : Int32) (v7 : Int32) (k94 : Mem → Int32 → Int32 → Int32 → Option (Int32 × Mem)) (hk94 : ∀ (κ : Mem) (v5 : Int32) (v6 : Int32) (v7 : Int32), JP Γ (qf Γ oE) (k94 κ v5 v6 v7) κ 94 [(0, .ref (gad Γ 0)), (1, .int v1), (2, .int v2), (3, .int v3), (5, .int v5), (6, .int v6), (7, .int v7)] []) : JP Γ (qf Γ oE) (pX11_search_139 F k94 κ v1 v2 v3 v5 v6 v7) κ 139 [(0, .ref (gad Γ 0)), (1, .int v1), (2, .int v2), (3, .int v3), (5, .int v5), (6, .int v6), (7, .int v7)] [] := by
  unfold pX11_search_139
  refine j_iinc hC (pc := 139) dX11_search_139 6 rfl ki_1 (Nat.le_of_ble_eq_true rfl) (loc' := [(7, .int (v7 + 1)), (0, .ref (gad Γ 0)), (1, .int v1), (2, .int v2), (3, .int v3), (5, .int v5), (6, .int v6)]) rfl ?_
  refine j_goto hC (pc := 142) dX11_search_142 (tgt := 94) rfl ?_
  refine j_sub [1, 2, 3, 4, 5, 6, 0] (loc' := [(0, .ref (gad Γ 0)), (1, .int v1), (2, .int v2), (3, .int v3), (5, .int v5), (6, .int v6), (7, .int (v7 + 1))]) rfl ?_
  exact hk94 κ v5 v6 (v7 + 1)
set_option maxRecDepth 20000 in
theorem wX11_search_168 {Γ : JCtx} (hC : jC Γ cX11_search 9 RX11 (some .int) layM 15) (hR : gR Γ = rmH 8) (hm : gcells Γ ≤ (gR Γ).cells ∧ gslots Γ ≤ (gR Γ).slots) (F : Nat) (κ : Mem) (y0 : Int32) : JP Γ (qf Γ oE) (pX11_search_168 F κ y0) κ 168 [] [.int y0] := by
  unfold pX11_search_168
  exact j_iret hC (pc := 168) dX11_search_168 rfl rfl rfl
set_option maxRecDepth 20000 in
theorem wX11_search_94 {Γ : JCtx} (hC : jC Γ cX11_search 9 RX11 (some .int) layM 15) (hR : gR Γ = rmH 8) (hm : gcells Γ ≤ (gR Γ).cells ∧ gslots Γ ≤ (gR Γ).slots) (F : Nat) (v1 : Int32) (v2 : Int32) (v3 : Int32) : ∀ (n : Nat) (κ : Mem) (v5 : Int32) (v6 : Int32) (v7 : Int32), JP Γ (qf Γ oE) (pX11_search_94 F v1 v2 v3 n κ v5 v6 v7) κ 94 [(0, .ref (gad Γ 0)), (1, .int v1), (2, .int v2), (3, .int v3), (5, .int v5), (6, .int v6), (7, .int v7)] [] := by
  intro n
  induction n with
  | zero =>
    intro κ v5 v6 v7
    rw [pX11_search_94]
    exact j_none
  | succ fu ih =>
    intro κ v5 v6 v7
    rw [pX11_search_94]
    refine j_iload hC (pc := 94) dX11_search_94 6 rfl ?_
    refine j_iload_n hC (pc := 96) dX11_search_96 2 rfl rfl ?_
    refine j_icmp_ge hC (pc := 97) dX11_search_97 (tgt := 145) rfl ?_ ?_
    · refine j_aload_n hC (pc := 100) dX11_search_100 0 rfl rfl ?_
      refine j_iload_n hC (pc := 101) dX11_search_101 1 rfl rfl ?_
      refine j_iload hC (pc := 102) dX11_search_102 6 rfl ?_
      refine j_iadd hC (pc := 104) dX11_search_104 ?_
      refine j_callV_V hC hR (ctX11_draws hC.l hC.cn F κ (v1 + v7)) kc_RX11_277 (Nat.le_of_ble_eq_true rfl) (Nat.le_of_ble_eq_true rfl) lM_0 (Nat.le_of_ble_eq_true rfl) rfl (As := [.int (v1 + v7)]) (rest := []) rfl rfl (Nat.le_of_ble_eq_true rfl) hm (pc := 105) dX11_search_105 (fun t4 => ?_)
      refine j_aload_n hC (pc := 108) dX11_search_108 0 rfl rfl ?_
      refine j_callV_E hC hR (ctX11_betters hC.l hC.cn F t4) kc_RX11_280 (Nat.le_of_ble_eq_true rfl) (Nat.le_of_ble_eq_true rfl) lM_0 (Nat.le_of_ble_eq_true rfl) rfl (As := []) (rest := []) rfl rfl (Nat.le_of_ble_eq_true rfl) hm (pc := 109) dX11_search_109 (fun t5 => ?_)
      refine j_pop hC (pc := 112) dX11_search_112 rfl ?_
      refine j_aload_n hC (pc := 113) dX11_search_113 0 rfl rfl ?_
      refine j_callV_E hC hR (ctX11_lostNow hC.l hC.cn F t5.2) kc_RX11_214 (Nat.le_of_ble_eq_true rfl) (Nat.le_of_ble_eq_true rfl) lM_0 (Nat.le_of_ble_eq_true rfl) rfl (As := []) (rest := []) rfl rfl (Nat.le_of_ble_eq_true rfl) hm (pc := 114) dX11_search_114 (fun t6 => ?_)
      refine j_istore hC (pc := 117) dX11_search_117 (Nat.le_of_ble_eq_true rfl) (loc' := [(8, .int (t6.1)), (0, .ref (gad Γ 0)), (1, .int v1), (2, .int v2), (3, .int v3), (5, .int v5), (6, .int v6), (7, .int v7)]) rfl ?_
      refine j_iload hC (pc := 119) dX11_search_119 0 rfl ?_
      refine j_iload hC (pc := 121) dX11_search_121 6 rfl ?_
      refine j_icmp_lt hC (pc := 123) dX11_search_123 (tgt := 129) rfl ?_ ?_
      · refine j_iload hC (pc := 129) dX11_search_129 0 rfl ?_
        refine j_istore hC (pc := 131) dX11_search_131 (Nat.le_of_ble_eq_true rfl) (loc' := [(6, .int (t6.1)), (8, .int (t6.1)), (0, .ref (gad Γ 0)), (1, .int v1), (2, .int v2), (3, .int v3), (5, .int v5), (7, .int v7)]) rfl ?_
        refine j_iload_n hC (pc := 133) dX11_search_133 3 rfl rfl ?_
        refine j_iload hC (pc := 134) dX11_search_134 7 rfl ?_
        refine j_iadd hC (pc := 136) dX11_search_136 ?_
        refine j_nmi (fun x7 => ?_)
        refine j_istore hC (pc := 137) dX11_search_137 (Nat.le_of_ble_eq_true rfl) (loc' := [(5, .int x7), (6, .int (t6.1)), (8, .int (t6.1)), (0, .ref (gad Γ 0)), (1, .int v1), (2, .int v2), (3, .int v3), (7, .int v7)]) rfl ?_
        refine j_sub [3, 4, 5, 6, 0, 1, 7] (loc' := [(0, .ref (gad Γ 0)), (1, .int v1), (2, .int v2), (3, .int v3), (5, .int x7), (6, .int (t6.1)), (7, .int v7)]) rfl ?_
        exact wX11_search_139 hC hR hm F t6.2 v1 v2 v3 x7 t6.1 v7 (pX11_search_94 F v1 v2 v3 fu) ih
      · refine j_goto hC (pc := 126) dX11_search_126 (tgt := 139) rfl ?_
        refine j_sub [1, 2, 3, 4, 5, 6, 7] (loc' := [(0, .ref (gad Γ 0)), (1, .int v1), (2, .int v2), (3, .int v3), (5, .int v5), (6, .int v6), (7, .int v7)]) rfl ?_
        exact wX11_search_139 hC hR hm F t6.2 v1 v2 v3 v5 v6 v7 (pX11_search_94 F v1 v2 v3 fu) ih
    · refine j_aload_n hC (pc := 145) dX11_search_145 0 rfl rfl ?_
      refine j_aload_n hC (pc := 146) dX11_search_146 0 rfl rfl ?_
      refine j_getR hC (pc := 147) dX11_search_147 kf_RX11_20 lM_0 (Nat.le_of_ble_eq_true rfl) rfl ?_
      refine j_aload_n hC (pc := 150) dX11_search_150 0 rfl rfl ?_
      refine j_getR hC (pc := 151) dX11_search_151 kf_RX11_7 lM_0 (Nat.le_of_ble_eq_true rfl) rfl ?_
      refine j_callV_V hC hR (ctX11_copies hC.l hC.cn 4 (lenM_ok lM_4) (Nat.le_of_ble_eq_true rfl) 1 (lenM_ok lM_1) (Nat.le_of_ble_eq_true rfl) F κ) kc_RX11_256 (Nat.le_of_ble_eq_true rfl) (Nat.le_of_ble_eq_true rfl) lM_0 (Nat.le_of_ble_eq_true rfl) rfl (As := [.ref (gad Γ 4), .ref (gad Γ 1)]) (rest := []) rfl rfl (Nat.le_of_ble_eq_true rfl) hm (pc := 154) dX11_search_154 (fun t8 => ?_)
      refine j_iload_n hC (pc := 157) dX11_search_157 3 rfl rfl ?_
      refine j_if_ne hC (pc := 158) dX11_search_158 (tgt := 166) rfl ?_ ?_
      · refine j_iload hC (pc := 161) dX11_search_161 5 rfl ?_
        refine j_goto hC (pc := 163) dX11_search_163 (tgt := 168) rfl ?_
        refine j_sub [] (loc' := []) rfl ?_
        exact wX11_search_168 hC hR hm F t8 v6
      · refine j_iload hC (pc := 166) dX11_search_166 4 rfl ?_
        refine j_sub [] (loc' := []) rfl ?_
        exact wX11_search_168 hC hR hm F t8 v5
set_option maxRecDepth 20000 in
theorem wX11_search_63 {Γ : JCtx} (hC : jC Γ cX11_search 9 RX11 (some .int) layM 15) (hR : gR Γ = rmH 8) (hm : gcells Γ ≤ (gR Γ).cells ∧ gslots Γ ≤ (gR Γ).slots) (F : Nat) (κ : Mem) (v1 : Int32) (v2 : Int32) (v3 : Int32) (y0 : Int32) : JP Γ (qf Γ oE) (pX11_search_63 F κ v1 v2 v3 y0) κ 63 [(0, .ref (gad Γ 0)), (1, .int v1), (2, .int v2), (3, .int v3)] [.int y0, .ref (gad Γ 0)] := by
  unfold pX11_search_63
  refine j_callV_E hC hR (ctX11_is hC.l hC.cn κ y0) kc_RX11_145 (Nat.le_of_ble_eq_true rfl) (Nat.le_of_ble_eq_true rfl) lM_0 (Nat.le_of_ble_eq_true rfl) rfl (As := [.int y0]) (rest := []) rfl rfl (Nat.le_of_ble_eq_true rfl) hm (pc := 63) dX11_search_63 (fun t2 => ?_)
  refine j_if_ne hC (pc := 66) dX11_search_66 (tgt := 71) rfl ?_ ?_
  · refine j_iconst hC (pc := 69) dX11_search_69 ki_m1 ?_
    exact j_iret hC (pc := 70) dX11_search_70 rfl rfl rfl
  · refine j_aload_n hC (pc := 71) dX11_search_71 0 rfl rfl ?_
    refine j_aload_n hC (pc := 72) dX11_search_72 0 rfl rfl ?_
    refine j_getR hC (pc := 73) dX11_search_73 kf_RX11_7 lM_0 (Nat.le_of_ble_eq_true rfl) rfl ?_
    refine j_aload_n hC (pc := 76) dX11_search_76 0 rfl rfl ?_
    refine j_getR hC (pc := 77) dX11_search_77 kf_RX11_20 lM_0 (Nat.le_of_ble_eq_true rfl) rfl ?_
    refine j_callV_V hC hR (ctX11_copies hC.l hC.cn 1 (lenM_ok lM_1) (Nat.le_of_ble_eq_true rfl) 4 (lenM_ok lM_4) (Nat.le_of_ble_eq_true rfl) F t2.2) kc_RX11_256 (Nat.le_of_ble_eq_true rfl) (Nat.le_of_ble_eq_true rfl) lM_0 (Nat.le_of_ble_eq_true rfl) rfl (As := [.ref (gad Γ 1), .ref (gad Γ 4)]) (rest := []) rfl rfl (Nat.le_of_ble_eq_true rfl) hm (pc := 80) dX11_search_80 (fun t3 => ?_)
    refine j_iconst hC (pc := 83) dX11_search_83 ki_m1 ?_
    refine j_istore hC (pc := 84) dX11_search_84 (Nat.le_of_ble_eq_true rfl) (loc' := [(5, .int (-1)), (0, .ref (gad Γ 0)), (1, .int v1), (2, .int v2), (3, .int v3)]) rfl ?_
    refine j_sipush hC (pc := 86) dX11_search_86 ks_4097 ?_
    refine j_istore hC (pc := 89) dX11_search_89 (Nat.le_of_ble_eq_true rfl) (loc' := [(6, .int 4097), (5, .int (-1)), (0, .ref (gad Γ 0)), (1, .int v1), (2, .int v2), (3, .int v3)]) rfl ?_
    refine j_iconst hC (pc := 91) dX11_search_91 ki_0 ?_
    refine j_istore hC (pc := 92) dX11_search_92 (Nat.le_of_ble_eq_true rfl) (loc' := [(7, .int 0), (6, .int 4097), (5, .int (-1)), (0, .ref (gad Γ 0)), (1, .int v1), (2, .int v2), (3, .int v3)]) rfl ?_
    refine j_sub [3, 4, 5, 6, 2, 1, 0] (loc' := [(0, .ref (gad Γ 0)), (1, .int v1), (2, .int v2), (3, .int v3), (5, .int (-1)), (6, .int 4097), (7, .int 0)]) rfl ?_
    exact wX11_search_94 hC hR hm F v1 v2 v3 F t3 (-1) 4097 0
set_option maxRecDepth 20000 in
theorem wX11_search_39 {Γ : JCtx} (hC : jC Γ cX11_search 9 RX11 (some .int) layM 15) (hR : gR Γ = rmH 8) (hm : gcells Γ ≤ (gR Γ).cells ∧ gslots Γ ≤ (gR Γ).slots) (F : Nat) (κ : Mem) (v1 : Int32) (v2 : Int32) (v3 : Int32) (y0 : Int32) : JP Γ (qf Γ oE) (pX11_search_39 F κ v1 v2 v3 y0) κ 39 [(0, .ref (gad Γ 0)), (1, .int v1), (2, .int v2), (3, .int v3)] [.int y0] := by
  unfold pX11_search_39
  refine j_istore hC (pc := 39) dX11_search_39 (Nat.le_of_ble_eq_true rfl) (loc' := [(4, .int y0), (0, .ref (gad Γ 0)), (1, .int v1), (2, .int v2), (3, .int v3)]) rfl ?_
  refine j_aload_n hC (pc := 41) dX11_search_41 1 rfl rfl ?_
  refine j_iload hC (pc := 42) dX11_search_42 0 rfl ?_
  refine j_if_ne hC (pc := 44) dX11_search_44 (tgt := 51) rfl ?_ ?_
  · refine j_iconst hC (pc := 47) dX11_search_47 ki_1 ?_
    refine j_goto hC (pc := 48) dX11_search_48 (tgt := 63) rfl ?_
    refine j_sub [1, 2, 3, 4] (loc' := [(0, .ref (gad Γ 0)), (1, .int v1), (2, .int v2), (3, .int v3)]) rfl ?_
    exact wX11_search_63 hC hR hm F κ v1 v2 v3 1
  · refine j_aload_n hC (pc := 51) dX11_search_51 1 rfl rfl ?_
    refine j_callV_I hC hR (ctX11_players hC.l hC.cn κ) kc_RX11_108 (Nat.le_of_ble_eq_true rfl) (Nat.le_of_ble_eq_true rfl) lM_0 (Nat.le_of_ble_eq_true rfl) rfl (As := []) (rest := [.ref (gad Γ 0)]) rfl rfl (Nat.le_of_ble_eq_true rfl) hm (pc := 52) dX11_search_52 (fun t9 => ?_)
    refine j_if_ne hC (pc := 55) dX11_search_55 (tgt := 62) rfl ?_ ?_
    · refine j_iconst hC (pc := 58) dX11_search_58 ki_5 ?_
      refine j_goto hC (pc := 59) dX11_search_59 (tgt := 63) rfl ?_
      refine j_sub [1, 2, 3, 4] (loc' := [(0, .ref (gad Γ 0)), (1, .int v1), (2, .int v2), (3, .int v3)]) rfl ?_
      exact wX11_search_63 hC hR hm F κ v1 v2 v3 5
    · refine j_iconst hC (pc := 62) dX11_search_62 ki_0 ?_
      refine j_sub [1, 2, 3, 4] (loc' := [(0, .ref (gad Γ 0)), (1, .int v1), (2, .int v2), (3, .int v3)]) rfl ?_
      exact wX11_search_63 hC hR hm F κ v1 v2 v3 0
set_option maxRecDepth 20000 in
theorem wX11_search_38 {Γ : JCtx} (hC : jC Γ cX11_search 9 RX11 (some .int) layM 15) (hR : gR Γ = rmH 8) (hm : gcells Γ ≤ (gR Γ).cells ∧ gslots Γ ≤ (gR Γ).slots) (F : Nat) (κ : Mem) (v1 : Int32) (v2 : Int32) (v3 : Int32) : JP Γ (qf Γ oE) (pX11_search_38 F κ v1 v2 v3) κ 38 [(0, .ref (gad Γ 0)), (1, .int v1), (2, .int v2), (3, .int v3)] [] := by
  unfold pX11_search_38
  refine j_iconst hC (pc := 38) dX11_search_38 ki_0 ?_
  exact wX11_search_39 hC hR hm F κ v1 v2 v3 0
set_option maxRecDepth 20000 in
theorem wX11_search {Γ : JCtx} (hC : jC Γ cX11_search 9 RX11 (some .int) layM 15) (hR : gR Γ = rmH 8) (hm : gcells Γ ≤ (gR Γ).cells ∧ gslots Γ ≤ (gR Γ).slots) (F : Nat) (κ : Mem) (v1 : Int32) (v2 : Int32) (v3 : Int32) : JP Γ (qf Γ oE) (pX11_search F κ v1 v2 v3) κ 0 [(0, .ref (gad Γ 0)), (1, .int v1), (2, .int v2), (3, .int v3)] [] := by
  unfold pX11_search
  refine j_iload_n hC (pc := 0) dX11_search_0 1 rfl rfl ?_
  refine j_i2l hC (pc := 1) dX11_search_1 ?_
  refine j_lconst hC (pc := 2) dX11_search_2 rfl ?_
  refine j_ldc2 hC (pc := 3) dX11_search_3 w_951 ?_
  refine j_callS_I hC hR (ctX11_isIn hC.l hC.cn κ v1.toInt64 0 999999999) kc_RX11_92 (Nat.le_of_ble_eq_true rfl) (Nat.le_of_ble_eq_true rfl) (As := [.long (v1.toInt64), .long 0, .long 999999999]) (rest := []) rfl rfl (Nat.le_of_ble_eq_true rfl) hm (pc := 6) dX11_search_6 (fun t1 => ?_)
  refine j_if_eq hC (pc := 9) dX11_search_9 (tgt := 38) rfl ?_ ?_
  · exact wX11_search_38 hC hR hm F κ v1 v2 v3
  · refine j_iload_n hC (pc := 12) dX11_search_12 2 rfl rfl ?_
    refine j_i2l hC (pc := 13) dX11_search_13 ?_
    refine j_lconst hC (pc := 14) dX11_search_14 rfl ?_
    refine j_ldc2 hC (pc := 15) dX11_search_15 w_952 ?_
    refine j_callS_I hC hR (ctX11_isIn hC.l hC.cn κ v2.toInt64 1 10) kc_RX11_92 (Nat.le_of_ble_eq_true rfl) (Nat.le_of_ble_eq_true rfl) (As := [.long (v2.toInt64), .long 1, .long 10]) (rest := []) rfl rfl (Nat.le_of_ble_eq_true rfl) hm (pc := 18) dX11_search_18 (fun t10 => ?_)
    refine j_if_eq hC (pc := 21) dX11_search_21 (tgt := 38) rfl ?_ ?_
    · exact wX11_search_38 hC hR hm F κ v1 v2 v3
    · refine j_iload_n hC (pc := 24) dX11_search_24 3 rfl rfl ?_
      refine j_i2l hC (pc := 25) dX11_search_25 ?_
      refine j_lconst hC (pc := 26) dX11_search_26 rfl ?_
      refine j_lconst hC (pc := 27) dX11_search_27 rfl ?_
      refine j_callS_I hC hR (ctX11_isIn hC.l hC.cn κ v3.toInt64 0 1) kc_RX11_92 (Nat.le_of_ble_eq_true rfl) (Nat.le_of_ble_eq_true rfl) (As := [.long (v3.toInt64), .long 0, .long 1]) (rest := []) rfl rfl (Nat.le_of_ble_eq_true rfl) hm (pc := 28) dX11_search_28 (fun t11 => ?_)
      refine j_if_eq hC (pc := 31) dX11_search_31 (tgt := 38) rfl ?_ ?_
      · exact wX11_search_38 hC hR hm F κ v1 v2 v3
      · refine j_iconst hC (pc := 34) dX11_search_34 ki_1 ?_
        refine j_goto hC (pc := 35) dX11_search_35 (tgt := 39) rfl ?_
        exact wX11_search_39 hC hR hm F κ v1 v2 v3 1
theorem ctX11_search {Δ : DCtx} {l : Launch} (hl : dlay Δ = layM) (hN : dN Δ = 15) (F : Nat) (κ : Mem) (v1 : Int32) (v2 : Int32) (v3 : Int32) : ∀ r, pX11_search F κ v1 v2 v3 = some r → CT Δ l yX11_search cX11_search 9 (some .int) (rmH 8) [.ref (dad Δ 0), .int v1, .int v2, .int v3] κ (some (.int r.1)) r.2 :=
  ct_of (nL := 9) (ret := (some .int)) (lay := layM) (N := 15) (by decide +kernel) (fun Δ => [.ref (dad Δ 0), .int v1, .int v2, .int v3]) (fun _ => oE) (fun _ => (Nat.le_of_ble_eq_true rfl)) (fun Γ hR hm hC => wX11_search hC hR hm F κ v1 v2 v3) Δ l hl hN
set_option maxRecDepth 20000 in
theorem wX11_isRenumbering_32 {Γ : JCtx} (hC : jC Γ cX11_isRenumbering 3 RX11 (some .boolean) layM 15) (hR : gR Γ = rmH 2) (hm : gcells Γ ≤ (gR Γ).cells ∧ gslots Γ ≤ (gR Γ).slots) (F : Nat) (κ : Mem) (v1 : Int32) (k2 : Int32 → Option Int32) (hk2 : ∀ (v1 : Int32), JP Γ (qf Γ (oI κ)) (k2 v1) κ 2 [(0, .ref (gad Γ 0)), (1, .int v1)] []) : ∀ (n : Nat) (v2 : Int32), JP Γ (qf Γ (oI κ)) (pX11_isRenumbering_32 F κ k2 v1 n v2) κ 32 [(0, .ref (gad Γ 0)), (1, .int v1), (2, .int v2)] [] := by
  intro n
  induction n with
  | zero =>
    intro v2
    rw [pX11_isRenumbering_32]
    exact j_none
  | succ fu ih =>
    intro v2
    rw [pX11_isRenumbering_32]
    refine j_iload_n hC (pc := 32) dX11_isRenumbering_32 2 rfl rfl ?_
    refine j_aload_n hC (pc := 33) dX11_isRenumbering_33 0 rfl rfl ?_
    refine j_callV_I hC hR (ctX11_players hC.l hC.cn κ) kc_RX11_108 (Nat.le_of_ble_eq_true rfl) (Nat.le_of_ble_eq_true rfl) lM_0 (Nat.le_of_ble_eq_true rfl) rfl (As := []) (rest := [.int v2]) rfl rfl (Nat.le_of_ble_eq_true rfl) hm (pc := 34) dX11_isRenumbering_34 (fun t4 => ?_)
    refine j_icmp_ge hC (pc := 37) dX11_isRenumbering_37 (tgt := 73) rfl ?_ ?_
    · refine j_aload_n hC (pc := 40) dX11_isRenumbering_40 0 rfl rfl ?_
      refine j_iload_n hC (pc := 41) dX11_isRenumbering_41 1 rfl rfl ?_
      refine j_iload_n hC (pc := 42) dX11_isRenumbering_42 2 rfl rfl ?_
      refine j_callV_I hC hR (ctX11_sees hC.l hC.cn κ v1 v2) kc_RX11_115 (Nat.le_of_ble_eq_true rfl) (Nat.le_of_ble_eq_true rfl) lM_0 (Nat.le_of_ble_eq_true rfl) rfl (As := [.int v1, .int v2]) (rest := []) rfl rfl (Nat.le_of_ble_eq_true rfl) hm (pc := 43) dX11_isRenumbering_43 (fun t5 => ?_)
      refine j_aload_n hC (pc := 46) dX11_isRenumbering_46 0 rfl rfl ?_
      refine j_aload_n hC (pc := 47) dX11_isRenumbering_47 0 rfl rfl ?_
      refine j_getR hC (pc := 48) dX11_isRenumbering_48 kf_RX11_35 lM_0 (Nat.le_of_ble_eq_true rfl) rfl ?_
      refine j_iload_n hC (pc := 51) dX11_isRenumbering_51 1 rfl rfl ?_
      refine j_iald hC (pc := 52) dX11_isRenumbering_52 lM_9 (Nat.le_of_ble_eq_true rfl) ?_
      refine j_aload_n hC (pc := 53) dX11_isRenumbering_53 0 rfl rfl ?_
      refine j_getR hC (pc := 54) dX11_isRenumbering_54 kf_RX11_35 lM_0 (Nat.le_of_ble_eq_true rfl) rfl ?_
      refine j_iload_n hC (pc := 57) dX11_isRenumbering_57 2 rfl rfl ?_
      refine j_iald hC (pc := 58) dX11_isRenumbering_58 lM_9 (Nat.le_of_ble_eq_true rfl) ?_
      refine j_callV_I hC hR (ctX11_sees hC.l hC.cn κ (mi κ 9 v1.toNatClampNeg) (mi κ 9 v2.toNatClampNeg)) kc_RX11_115 (Nat.le_of_ble_eq_true rfl) (Nat.le_of_ble_eq_true rfl) lM_0 (Nat.le_of_ble_eq_true rfl) rfl (As := [.int (mi κ 9 v1.toNatClampNeg), .int (mi κ 9 v2.toNatClampNeg)]) (rest := [.int t5]) rfl rfl (Nat.le_of_ble_eq_true rfl) hm (pc := 59) dX11_isRenumbering_59 (fun t6 => ?_)
      refine j_icmp_eq hC (pc := 62) dX11_isRenumbering_62 (tgt := 67) rfl ?_ ?_
      · refine j_iinc hC (pc := 67) dX11_isRenumbering_67 2 rfl ki_1 (Nat.le_of_ble_eq_true rfl) (loc' := [(2, .int (v2 + 1)), (0, .ref (gad Γ 0)), (1, .int v1)]) rfl ?_
        refine j_goto hC (pc := 70) dX11_isRenumbering_70 (tgt := 32) rfl ?_
        refine j_sub [1, 2, 0] (loc' := [(0, .ref (gad Γ 0)), (1, .int v1), (2, .int (v2 + 1))]) rfl ?_
        exact ih (v2 + 1)
      · refine j_iconst hC (pc := 65) dX11_isRenumbering_65 ki_0 ?_
        exact j_iret hC (pc := 66) dX11_isRenumbering_66 rfl rfl rfl
    · refine j_iinc hC (pc := 73) dX11_isRenumbering_73 1 rfl ki_1 (Nat.le_of_ble_eq_true rfl) (loc' := [(1, .int (v1 + 1)), (0, .ref (gad Γ 0)), (2, .int v2)]) rfl ?_
      refine j_goto hC (pc := 76) dX11_isRenumbering_76 (tgt := 2) rfl ?_
      refine j_sub [1, 0] (loc' := [(0, .ref (gad Γ 0)), (1, .int (v1 + 1))]) rfl ?_
      exact hk2 (v1 + 1)
set_option maxRecDepth 20000 in
theorem wX11_isRenumbering_2 {Γ : JCtx} (hC : jC Γ cX11_isRenumbering 3 RX11 (some .boolean) layM 15) (hR : gR Γ = rmH 2) (hm : gcells Γ ≤ (gR Γ).cells ∧ gslots Γ ≤ (gR Γ).slots) (F : Nat) (κ : Mem) : ∀ (n : Nat) (v1 : Int32), JP Γ (qf Γ (oI κ)) (pX11_isRenumbering_2 F κ n v1) κ 2 [(0, .ref (gad Γ 0)), (1, .int v1)] [] := by
  intro n
  induction n with
  | zero =>
    intro v1
    rw [pX11_isRenumbering_2]
    exact j_none
  | succ fu ih =>
    intro v1
    rw [pX11_isRenumbering_2]
    refine j_iload_n hC (pc := 2) dX11_isRenumbering_2 1 rfl rfl ?_
    refine j_aload_n hC (pc := 3) dX11_isRenumbering_3 0 rfl rfl ?_
    refine j_callV_I hC hR (ctX11_players hC.l hC.cn κ) kc_RX11_108 (Nat.le_of_ble_eq_true rfl) (Nat.le_of_ble_eq_true rfl) lM_0 (Nat.le_of_ble_eq_true rfl) rfl (As := []) (rest := [.int v1]) rfl rfl (Nat.le_of_ble_eq_true rfl) hm (pc := 4) dX11_isRenumbering_4 (fun t1 => ?_)
    refine j_icmp_ge hC (pc := 7) dX11_isRenumbering_7 (tgt := 79) rfl ?_ ?_
    · refine j_aload_n hC (pc := 10) dX11_isRenumbering_10 0 rfl rfl ?_
      refine j_iload_n hC (pc := 11) dX11_isRenumbering_11 1 rfl rfl ?_
      refine j_callV_I hC hR (ctX11_hats hC.l hC.cn κ v1) kc_RX11_111 (Nat.le_of_ble_eq_true rfl) (Nat.le_of_ble_eq_true rfl) lM_0 (Nat.le_of_ble_eq_true rfl) rfl (As := [.int v1]) (rest := []) rfl rfl (Nat.le_of_ble_eq_true rfl) hm (pc := 12) dX11_isRenumbering_12 (fun t2 => ?_)
      refine j_aload_n hC (pc := 15) dX11_isRenumbering_15 0 rfl rfl ?_
      refine j_aload_n hC (pc := 16) dX11_isRenumbering_16 0 rfl rfl ?_
      refine j_getR hC (pc := 17) dX11_isRenumbering_17 kf_RX11_35 lM_0 (Nat.le_of_ble_eq_true rfl) rfl ?_
      refine j_iload_n hC (pc := 20) dX11_isRenumbering_20 1 rfl rfl ?_
      refine j_iald hC (pc := 21) dX11_isRenumbering_21 lM_9 (Nat.le_of_ble_eq_true rfl) ?_
      refine j_callV_I hC hR (ctX11_hats hC.l hC.cn κ (mi κ 9 v1.toNatClampNeg)) kc_RX11_111 (Nat.le_of_ble_eq_true rfl) (Nat.le_of_ble_eq_true rfl) lM_0 (Nat.le_of_ble_eq_true rfl) rfl (As := [.int (mi κ 9 v1.toNatClampNeg)]) (rest := [.int t2]) rfl rfl (Nat.le_of_ble_eq_true rfl) hm (pc := 22) dX11_isRenumbering_22 (fun t3 => ?_)
      refine j_icmp_eq hC (pc := 25) dX11_isRenumbering_25 (tgt := 30) rfl ?_ ?_
      · refine j_iconst hC (pc := 30) dX11_isRenumbering_30 ki_0 ?_
        refine j_istore_n hC (pc := 31) dX11_isRenumbering_31 rfl (Nat.le_of_ble_eq_true rfl) (loc' := [(2, .int 0), (0, .ref (gad Γ 0)), (1, .int v1)]) rfl ?_
        refine j_sub [1, 2, 0] (loc' := [(0, .ref (gad Γ 0)), (1, .int v1), (2, .int 0)]) rfl ?_
        exact wX11_isRenumbering_32 hC hR hm F κ v1 (pX11_isRenumbering_2 F κ fu) ih F 0
      · refine j_iconst hC (pc := 28) dX11_isRenumbering_28 ki_0 ?_
        exact j_iret hC (pc := 29) dX11_isRenumbering_29 rfl rfl rfl
    · refine j_iconst hC (pc := 79) dX11_isRenumbering_79 ki_1 ?_
      exact j_iret hC (pc := 80) dX11_isRenumbering_80 rfl rfl rfl
set_option maxRecDepth 20000 in
theorem wX11_isRenumbering {Γ : JCtx} (hC : jC Γ cX11_isRenumbering 3 RX11 (some .boolean) layM 15) (hR : gR Γ = rmH 2) (hm : gcells Γ ≤ (gR Γ).cells ∧ gslots Γ ≤ (gR Γ).slots) (F : Nat) (κ : Mem) : JP Γ (qf Γ (oI κ)) (pX11_isRenumbering F κ) κ 0 [(0, .ref (gad Γ 0))] [] := by
  unfold pX11_isRenumbering
  refine j_iconst hC (pc := 0) dX11_isRenumbering_0 ki_0 ?_
  refine j_istore_n hC (pc := 1) dX11_isRenumbering_1 rfl (Nat.le_of_ble_eq_true rfl) (loc' := [(1, .int 0), (0, .ref (gad Γ 0))]) rfl ?_
  refine j_sub [1, 0] (loc' := [(0, .ref (gad Γ 0)), (1, .int 0)]) rfl ?_
  exact wX11_isRenumbering_2 hC hR hm F κ F 0
theorem ctX11_isRenumbering {Δ : DCtx} {l : Launch} (hl : dlay Δ = layM) (hN : dN Δ = 15) (F : Nat) (κ : Mem) : ∀ r, pX11_isRenumbering F κ = some r → CT Δ l yX11_isRenumbering cX11_isRenumbering 3 (some .boolean) (rmH 2) [.ref (dad Δ 0)] κ (some (.int r)) κ :=
  ct_of (nL := 3) (ret := (some .boolean)) (lay := layM) (N := 15) (by decide +kernel) (fun Δ => [.ref (dad Δ 0)]) (fun _ => oI κ) (fun _ => (Nat.le_of_ble_eq_true rfl)) (fun Γ hR hm hC => wX11_isRenumbering hC hR hm F κ) Δ l hl hN
set_option maxRecDepth 20000 in
theorem wX11_isKeeping_110 {Γ : JCtx} (hC : jC Γ cX11_isKeeping 3 RX11 (some .boolean) layM 15) (hR : gR Γ = rmH 3) (hm : gcells Γ ≤ (gR Γ).cells ∧ gslots Γ ≤ (gR Γ).slots) (F : Nat) (κ : Mem) (v1 : Int32) (k2 : Mem → Int32 → Option (Int32 × Mem)) (hk2 : ∀ (κ : Mem) (v1 : Int32), JP Γ (qf Γ oE) (k2 κ v1) κ 2 [(0, .ref (gad Γ 0)), (1, .int v1)] []) : ∀ (n : Nat) (v2 : Int32), JP Γ (qf Γ oE) (pX11_isKeeping_110 F k2 κ v1 n v2) κ 110 [(0, .ref (gad Γ 0)), (1, .int v1), (2, .int v2)] [] := by
  intro n
  induction n with
  | zero =>
    intro v2
    rw [pX11_isKeeping_110]
    exact j_none
  | succ fu ih =>
    intro v2
    rw [pX11_isKeeping_110]
    refine j_iload_n hC (pc := 110) dX11_isKeeping_110 2 rfl rfl ?_
    refine j_aload_n hC (pc := 111) dX11_isKeeping_111 0 rfl rfl ?_
    refine j_callV_I hC hR (ctX11_players hC.l hC.cn κ) kc_RX11_108 (Nat.le_of_ble_eq_true rfl) (Nat.le_of_ble_eq_true rfl) lM_0 (Nat.le_of_ble_eq_true rfl) rfl (As := []) (rest := [.int v2]) rfl rfl (Nat.le_of_ble_eq_true rfl) hm (pc := 112) dX11_isKeeping_112 (fun t11 => ?_)
    refine j_icmp_ge hC (pc := 115) dX11_isKeeping_115 (tgt := 155) rfl ?_ ?_
    · refine j_aload_n hC (pc := 118) dX11_isKeeping_118 0 rfl rfl ?_
      refine j_aload_n hC (pc := 119) dX11_isKeeping_119 0 rfl rfl ?_
      refine j_getR hC (pc := 120) dX11_isKeeping_120 kf_RX11_35 lM_0 (Nat.le_of_ble_eq_true rfl) rfl ?_
      refine j_iload_n hC (pc := 123) dX11_isKeeping_123 2 rfl rfl ?_
      refine j_iald hC (pc := 124) dX11_isKeeping_124 lM_9 (Nat.le_of_ble_eq_true rfl) ?_
      refine j_aload_n hC (pc := 125) dX11_isKeeping_125 0 rfl rfl ?_
      refine j_aload_n hC (pc := 126) dX11_isKeeping_126 0 rfl rfl ?_
      refine j_getR hC (pc := 127) dX11_isKeeping_127 kf_RX11_35 lM_0 (Nat.le_of_ble_eq_true rfl) rfl ?_
      refine j_iload_n hC (pc := 130) dX11_isKeeping_130 2 rfl rfl ?_
      refine j_iald hC (pc := 131) dX11_isKeeping_131 lM_9 (Nat.le_of_ble_eq_true rfl) ?_
      refine j_callV_I hC hR (ctX11_situationOf hC.l hC.cn F κ (mi κ 9 v2.toNatClampNeg)) kc_RX11_118 (Nat.le_of_ble_eq_true rfl) (Nat.le_of_ble_eq_true rfl) lM_0 (Nat.le_of_ble_eq_true rfl) rfl (As := [.int (mi κ 9 v2.toNatClampNeg)]) (rest := [.int (mi κ 9 v2.toNatClampNeg), .ref (gad Γ 0)]) rfl rfl (Nat.le_of_ble_eq_true rfl) hm (pc := 132) dX11_isKeeping_132 (fun t12 => ?_)
      refine j_callV_I hC hR (ctX11_entry hC.l hC.cn κ (mi κ 9 v2.toNatClampNeg) t12) kc_RX11_121 (Nat.le_of_ble_eq_true rfl) (Nat.le_of_ble_eq_true rfl) lM_0 (Nat.le_of_ble_eq_true rfl) rfl (As := [.int (mi κ 9 v2.toNatClampNeg), .int t12]) (rest := []) rfl rfl (Nat.le_of_ble_eq_true rfl) hm (pc := 135) dX11_isKeeping_135 (fun t13 => ?_)
      refine j_aload_n hC (pc := 138) dX11_isKeeping_138 0 rfl rfl ?_
      refine j_getR hC (pc := 139) dX11_isKeeping_139 kf_RX11_29 lM_0 (Nat.le_of_ble_eq_true rfl) rfl ?_
      refine j_iload_n hC (pc := 142) dX11_isKeeping_142 2 rfl rfl ?_
      refine j_iald hC (pc := 143) dX11_isKeeping_143 lM_7 (Nat.le_of_ble_eq_true rfl) ?_
      refine j_icmp_eq hC (pc := 144) dX11_isKeeping_144 (tgt := 149) rfl ?_ ?_
      · refine j_iinc hC (pc := 149) dX11_isKeeping_149 2 rfl ki_1 (Nat.le_of_ble_eq_true rfl) (loc' := [(2, .int (v2 + 1)), (0, .ref (gad Γ 0)), (1, .int v1)]) rfl ?_
        refine j_goto hC (pc := 152) dX11_isKeeping_152 (tgt := 110) rfl ?_
        refine j_sub [1, 2, 0] (loc' := [(0, .ref (gad Γ 0)), (1, .int v1), (2, .int (v2 + 1))]) rfl ?_
        exact ih (v2 + 1)
      · refine j_iconst hC (pc := 147) dX11_isKeeping_147 ki_0 ?_
        exact j_iret hC (pc := 148) dX11_isKeeping_148 rfl rfl rfl
    · refine j_iinc hC (pc := 155) dX11_isKeeping_155 1 rfl ki_1 (Nat.le_of_ble_eq_true rfl) (loc' := [(1, .int (v1 + 1)), (0, .ref (gad Γ 0)), (2, .int v2)]) rfl ?_
      refine j_goto hC (pc := 158) dX11_isKeeping_158 (tgt := 2) rfl ?_
      refine j_sub [1, 0] (loc' := [(0, .ref (gad Γ 0)), (1, .int (v1 + 1))]) rfl ?_
      exact hk2 κ (v1 + 1)
set_option maxRecDepth 20000 in
theorem wX11_isKeeping_82 {Γ : JCtx} (hC : jC Γ cX11_isKeeping 3 RX11 (some .boolean) layM 15) (hR : gR Γ = rmH 3) (hm : gcells Γ ≤ (gR Γ).cells ∧ gslots Γ ≤ (gR Γ).slots) (F : Nat) (v1 : Int32) (k2 : Mem → Int32 → Option (Int32 × Mem)) (hk2 : ∀ (κ : Mem) (v1 : Int32), JP Γ (qf Γ oE) (k2 κ v1) κ 2 [(0, .ref (gad Γ 0)), (1, .int v1)] []) : ∀ (n : Nat) (κ : Mem) (v2 : Int32), JP Γ (qf Γ oE) (pX11_isKeeping_82 F k2 v1 n κ v2) κ 82 [(0, .ref (gad Γ 0)), (1, .int v1), (2, .int v2)] [] := by
  intro n
  induction n with
  | zero =>
    intro κ v2
    rw [pX11_isKeeping_82]
    exact j_none
  | succ fu ih =>
    intro κ v2
    rw [pX11_isKeeping_82]
    refine j_iload_n hC (pc := 82) dX11_isKeeping_82 2 rfl rfl ?_
    refine j_aload_n hC (pc := 83) dX11_isKeeping_83 0 rfl rfl ?_
    refine j_callV_I hC hR (ctX11_players hC.l hC.cn κ) kc_RX11_108 (Nat.le_of_ble_eq_true rfl) (Nat.le_of_ble_eq_true rfl) lM_0 (Nat.le_of_ble_eq_true rfl) rfl (As := []) (rest := [.int v2]) rfl rfl (Nat.le_of_ble_eq_true rfl) hm (pc := 84) dX11_isKeeping_84 (fun t9 => ?_)
    refine j_icmp_ge hC (pc := 87) dX11_isKeeping_87 (tgt := 108) rfl ?_ ?_
    · refine j_aload_n hC (pc := 90) dX11_isKeeping_90 0 rfl rfl ?_
      refine j_getR hC (pc := 91) dX11_isKeeping_91 kf_RX11_23 lM_0 (Nat.le_of_ble_eq_true rfl) rfl ?_
      refine j_iload_n hC (pc := 94) dX11_isKeeping_94 2 rfl rfl ?_
      refine j_aload_n hC (pc := 95) dX11_isKeeping_95 0 rfl rfl ?_
      refine j_getR hC (pc := 96) dX11_isKeeping_96 kf_RX11_38 lM_0 (Nat.le_of_ble_eq_true rfl) rfl ?_
      refine j_iload_n hC (pc := 99) dX11_isKeeping_99 2 rfl rfl ?_
      refine j_iald hC (pc := 100) dX11_isKeeping_100 lM_10 (Nat.le_of_ble_eq_true rfl) ?_
      refine j_iast hC (pc := 101) dX11_isKeeping_101 lM_5 (Nat.le_of_ble_eq_true rfl) (fun κ10 => ?_)
      refine j_iinc hC (pc := 102) dX11_isKeeping_102 2 rfl ki_1 (Nat.le_of_ble_eq_true rfl) (loc' := [(2, .int (v2 + 1)), (0, .ref (gad Γ 0)), (1, .int v1)]) rfl ?_
      refine j_goto hC (pc := 105) dX11_isKeeping_105 (tgt := 82) rfl ?_
      refine j_sub [1, 2, 0] (loc' := [(0, .ref (gad Γ 0)), (1, .int v1), (2, .int (v2 + 1))]) rfl ?_
      exact ih κ10 (v2 + 1)
    · refine j_iconst hC (pc := 108) dX11_isKeeping_108 ki_0 ?_
      refine j_istore_n hC (pc := 109) dX11_isKeeping_109 rfl (Nat.le_of_ble_eq_true rfl) (loc' := [(2, .int 0), (0, .ref (gad Γ 0)), (1, .int v1)]) rfl ?_
      refine j_sub [1, 2, 0] (loc' := [(0, .ref (gad Γ 0)), (1, .int v1), (2, .int 0)]) rfl ?_
      exact wX11_isKeeping_110 hC hR hm F κ v1 k2 hk2 F 0
set_option maxRecDepth 20000 in
theorem wX11_isKeeping_49 {Γ : JCtx} (hC : jC Γ cX11_isKeeping 3 RX11 (some .boolean) layM 15) (hR : gR Γ = rmH 3) (hm : gcells Γ ≤ (gR Γ).cells ∧ gslots Γ ≤ (gR Γ).slots) (F : Nat) (v1 : Int32) (k2 : Mem → Int32 → Option (Int32 × Mem)) (hk2 : ∀ (κ : Mem) (v1 : Int32), JP Γ (qf Γ oE) (k2 κ v1) κ 2 [(0, .ref (gad Γ 0)), (1, .int v1)] []) : ∀ (n : Nat) (κ : Mem) (v2 : Int32), JP Γ (qf Γ oE) (pX11_isKeeping_49 F k2 v1 n κ v2) κ 49 [(0, .ref (gad Γ 0)), (1, .int v1), (2, .int v2)] [] := by
  intro n
  induction n with
  | zero =>
    intro κ v2
    rw [pX11_isKeeping_49]
    exact j_none
  | succ fu ih =>
    intro κ v2
    rw [pX11_isKeeping_49]
    refine j_iload_n hC (pc := 49) dX11_isKeeping_49 2 rfl rfl ?_
    refine j_aload_n hC (pc := 50) dX11_isKeeping_50 0 rfl rfl ?_
    refine j_callV_I hC hR (ctX11_players hC.l hC.cn κ) kc_RX11_108 (Nat.le_of_ble_eq_true rfl) (Nat.le_of_ble_eq_true rfl) lM_0 (Nat.le_of_ble_eq_true rfl) rfl (As := []) (rest := [.int v2]) rfl rfl (Nat.le_of_ble_eq_true rfl) hm (pc := 51) dX11_isKeeping_51 (fun t7 => ?_)
    refine j_icmp_ge hC (pc := 54) dX11_isKeeping_54 (tgt := 80) rfl ?_ ?_
    · refine j_aload_n hC (pc := 57) dX11_isKeeping_57 0 rfl rfl ?_
      refine j_getR hC (pc := 58) dX11_isKeeping_58 kf_RX11_38 lM_0 (Nat.le_of_ble_eq_true rfl) rfl ?_
      refine j_aload_n hC (pc := 61) dX11_isKeeping_61 0 rfl rfl ?_
      refine j_getR hC (pc := 62) dX11_isKeeping_62 kf_RX11_35 lM_0 (Nat.le_of_ble_eq_true rfl) rfl ?_
      refine j_iload_n hC (pc := 65) dX11_isKeeping_65 2 rfl rfl ?_
      refine j_iald hC (pc := 66) dX11_isKeeping_66 lM_9 (Nat.le_of_ble_eq_true rfl) ?_
      refine j_aload_n hC (pc := 67) dX11_isKeeping_67 0 rfl rfl ?_
      refine j_getR hC (pc := 68) dX11_isKeeping_68 kf_RX11_23 lM_0 (Nat.le_of_ble_eq_true rfl) rfl ?_
      refine j_iload_n hC (pc := 71) dX11_isKeeping_71 2 rfl rfl ?_
      refine j_iald hC (pc := 72) dX11_isKeeping_72 lM_5 (Nat.le_of_ble_eq_true rfl) ?_
      refine j_iast hC (pc := 73) dX11_isKeeping_73 lM_10 (Nat.le_of_ble_eq_true rfl) (fun κ8 => ?_)
      refine j_iinc hC (pc := 74) dX11_isKeeping_74 2 rfl ki_1 (Nat.le_of_ble_eq_true rfl) (loc' := [(2, .int (v2 + 1)), (0, .ref (gad Γ 0)), (1, .int v1)]) rfl ?_
      refine j_goto hC (pc := 77) dX11_isKeeping_77 (tgt := 49) rfl ?_
      refine j_sub [1, 2, 0] (loc' := [(0, .ref (gad Γ 0)), (1, .int v1), (2, .int (v2 + 1))]) rfl ?_
      exact ih κ8 (v2 + 1)
    · refine j_iconst hC (pc := 80) dX11_isKeeping_80 ki_0 ?_
      refine j_istore_n hC (pc := 81) dX11_isKeeping_81 rfl (Nat.le_of_ble_eq_true rfl) (loc' := [(2, .int 0), (0, .ref (gad Γ 0)), (1, .int v1)]) rfl ?_
      refine j_sub [1, 2, 0] (loc' := [(0, .ref (gad Γ 0)), (1, .int v1), (2, .int 0)]) rfl ?_
      exact wX11_isKeeping_82 hC hR hm F v1 k2 hk2 F κ 0
set_option maxRecDepth 20000 in
theorem wX11_isKeeping_17 {Γ : JCtx} (hC : jC Γ cX11_isKeeping 3 RX11 (some .boolean) layM 15) (hR : gR Γ = rmH 3) (hm : gcells Γ ≤ (gR Γ).cells ∧ gslots Γ ≤ (gR Γ).slots) (F : Nat) (v1 : Int32) (k2 : Mem → Int32 → Option (Int32 × Mem)) (hk2 : ∀ (κ : Mem) (v1 : Int32), JP Γ (qf Γ oE) (k2 κ v1) κ 2 [(0, .ref (gad Γ 0)), (1, .int v1)] []) : ∀ (n : Nat) (κ : Mem) (v2 : Int32), JP Γ (qf Γ oE) (pX11_isKeeping_17 F k2 v1 n κ v2) κ 17 [(0, .ref (gad Γ 0)), (1, .int v1), (2, .int v2)] [] := by
  intro n
  induction n with
  | zero =>
    intro κ v2
    rw [pX11_isKeeping_17]
    exact j_none
  | succ fu ih =>
    intro κ v2
    rw [pX11_isKeeping_17]
    refine j_iload_n hC (pc := 17) dX11_isKeeping_17 2 rfl rfl ?_
    refine j_aload_n hC (pc := 18) dX11_isKeeping_18 0 rfl rfl ?_
    refine j_callV_I hC hR (ctX11_players hC.l hC.cn κ) kc_RX11_108 (Nat.le_of_ble_eq_true rfl) (Nat.le_of_ble_eq_true rfl) lM_0 (Nat.le_of_ble_eq_true rfl) rfl (As := []) (rest := [.int v2]) rfl rfl (Nat.le_of_ble_eq_true rfl) hm (pc := 19) dX11_isKeeping_19 (fun t3 => ?_)
    refine j_icmp_ge hC (pc := 22) dX11_isKeeping_22 (tgt := 47) rfl ?_ ?_
    · refine j_aload_n hC (pc := 25) dX11_isKeeping_25 0 rfl rfl ?_
      refine j_getR hC (pc := 26) dX11_isKeeping_26 kf_RX11_29 lM_0 (Nat.le_of_ble_eq_true rfl) rfl ?_
      refine j_iload_n hC (pc := 29) dX11_isKeeping_29 2 rfl rfl ?_
      refine j_aload_n hC (pc := 30) dX11_isKeeping_30 0 rfl rfl ?_
      refine j_iload_n hC (pc := 31) dX11_isKeeping_31 2 rfl rfl ?_
      refine j_aload_n hC (pc := 32) dX11_isKeeping_32 0 rfl rfl ?_
      refine j_iload_n hC (pc := 33) dX11_isKeeping_33 2 rfl rfl ?_
      refine j_callV_I hC hR (ctX11_situationOf hC.l hC.cn F κ v2) kc_RX11_118 (Nat.le_of_ble_eq_true rfl) (Nat.le_of_ble_eq_true rfl) lM_0 (Nat.le_of_ble_eq_true rfl) rfl (As := [.int v2]) (rest := [.int v2, .ref (gad Γ 0), .int v2, .ref (gad Γ 7)]) rfl rfl (Nat.le_of_ble_eq_true rfl) hm (pc := 34) dX11_isKeeping_34 (fun t4 => ?_)
      refine j_callV_I hC hR (ctX11_entry hC.l hC.cn κ v2 t4) kc_RX11_121 (Nat.le_of_ble_eq_true rfl) (Nat.le_of_ble_eq_true rfl) lM_0 (Nat.le_of_ble_eq_true rfl) rfl (As := [.int v2, .int t4]) (rest := [.int v2, .ref (gad Γ 7)]) rfl rfl (Nat.le_of_ble_eq_true rfl) hm (pc := 37) dX11_isKeeping_37 (fun t5 => ?_)
      refine j_iast hC (pc := 40) dX11_isKeeping_40 lM_7 (Nat.le_of_ble_eq_true rfl) (fun κ6 => ?_)
      refine j_iinc hC (pc := 41) dX11_isKeeping_41 2 rfl ki_1 (Nat.le_of_ble_eq_true rfl) (loc' := [(2, .int (v2 + 1)), (0, .ref (gad Γ 0)), (1, .int v1)]) rfl ?_
      refine j_goto hC (pc := 44) dX11_isKeeping_44 (tgt := 17) rfl ?_
      refine j_sub [1, 2, 0] (loc' := [(0, .ref (gad Γ 0)), (1, .int v1), (2, .int (v2 + 1))]) rfl ?_
      exact ih κ6 (v2 + 1)
    · refine j_iconst hC (pc := 47) dX11_isKeeping_47 ki_0 ?_
      refine j_istore_n hC (pc := 48) dX11_isKeeping_48 rfl (Nat.le_of_ble_eq_true rfl) (loc' := [(2, .int 0), (0, .ref (gad Γ 0)), (1, .int v1)]) rfl ?_
      refine j_sub [1, 2, 0] (loc' := [(0, .ref (gad Γ 0)), (1, .int v1), (2, .int 0)]) rfl ?_
      exact wX11_isKeeping_49 hC hR hm F v1 k2 hk2 F κ 0
set_option maxRecDepth 20000 in
theorem wX11_isKeeping_2 {Γ : JCtx} (hC : jC Γ cX11_isKeeping 3 RX11 (some .boolean) layM 15) (hR : gR Γ = rmH 3) (hm : gcells Γ ≤ (gR Γ).cells ∧ gslots Γ ≤ (gR Γ).slots) (F : Nat) : ∀ (n : Nat) (κ : Mem) (v1 : Int32), JP Γ (qf Γ oE) (pX11_isKeeping_2 F n κ v1) κ 2 [(0, .ref (gad Γ 0)), (1, .int v1)] [] := by
  intro n
  induction n with
  | zero =>
    intro κ v1
    rw [pX11_isKeeping_2]
    exact j_none
  | succ fu ih =>
    intro κ v1
    rw [pX11_isKeeping_2]
    refine j_iload_n hC (pc := 2) dX11_isKeeping_2 1 rfl rfl ?_
    refine j_aload_n hC (pc := 3) dX11_isKeeping_3 0 rfl rfl ?_
    refine j_callV_I hC hR (ctX11_colourings_ hC.l hC.cn F κ) kc_RX11_125 (Nat.le_of_ble_eq_true rfl) (Nat.le_of_ble_eq_true rfl) lM_0 (Nat.le_of_ble_eq_true rfl) rfl (As := []) (rest := [.int v1]) rfl rfl (Nat.le_of_ble_eq_true rfl) hm (pc := 4) dX11_isKeeping_4 (fun t1 => ?_)
    refine j_icmp_ge hC (pc := 7) dX11_isKeeping_7 (tgt := 161) rfl ?_ ?_
    · refine j_aload_n hC (pc := 10) dX11_isKeeping_10 0 rfl rfl ?_
      refine j_iload_n hC (pc := 11) dX11_isKeeping_11 1 rfl rfl ?_
      refine j_callV_V hC hR (ctX11_lays hC.l hC.cn F κ v1) kc_RX11_127 (Nat.le_of_ble_eq_true rfl) (Nat.le_of_ble_eq_true rfl) lM_0 (Nat.le_of_ble_eq_true rfl) rfl (As := [.int v1]) (rest := []) rfl rfl (Nat.le_of_ble_eq_true rfl) hm (pc := 12) dX11_isKeeping_12 (fun t2 => ?_)
      refine j_iconst hC (pc := 15) dX11_isKeeping_15 ki_0 ?_
      refine j_istore_n hC (pc := 16) dX11_isKeeping_16 rfl (Nat.le_of_ble_eq_true rfl) (loc' := [(2, .int 0), (0, .ref (gad Γ 0)), (1, .int v1)]) rfl ?_
      refine j_sub [1, 2, 0] (loc' := [(0, .ref (gad Γ 0)), (1, .int v1), (2, .int 0)]) rfl ?_
      exact wX11_isKeeping_17 hC hR hm F v1 (pX11_isKeeping_2 F fu) ih F t2 0
    · refine j_iconst hC (pc := 161) dX11_isKeeping_161 ki_1 ?_
      exact j_iret hC (pc := 162) dX11_isKeeping_162 rfl rfl rfl
set_option maxRecDepth 20000 in
theorem wX11_isKeeping {Γ : JCtx} (hC : jC Γ cX11_isKeeping 3 RX11 (some .boolean) layM 15) (hR : gR Γ = rmH 3) (hm : gcells Γ ≤ (gR Γ).cells ∧ gslots Γ ≤ (gR Γ).slots) (F : Nat) (κ : Mem) : JP Γ (qf Γ oE) (pX11_isKeeping F κ) κ 0 [(0, .ref (gad Γ 0))] [] := by
  unfold pX11_isKeeping
  refine j_iconst hC (pc := 0) dX11_isKeeping_0 ki_0 ?_
  refine j_istore_n hC (pc := 1) dX11_isKeeping_1 rfl (Nat.le_of_ble_eq_true rfl) (loc' := [(1, .int 0), (0, .ref (gad Γ 0))]) rfl ?_
  refine j_sub [1, 0] (loc' := [(0, .ref (gad Γ 0)), (1, .int 0)]) rfl ?_
  exact wX11_isKeeping_2 hC hR hm F F κ 0
theorem ctX11_isKeeping {Δ : DCtx} {l : Launch} (hl : dlay Δ = layM) (hN : dN Δ = 15) (F : Nat) (κ : Mem) : ∀ r, pX11_isKeeping F κ = some r → CT Δ l yX11_isKeeping cX11_isKeeping 3 (some .boolean) (rmH 3) [.ref (dad Δ 0)] κ (some (.int r.1)) r.2 :=
  ct_of (nL := 3) (ret := (some .boolean)) (lay := layM) (N := 15) (by decide +kernel) (fun Δ => [.ref (dad Δ 0)]) (fun _ => oE) (fun _ => (Nat.le_of_ble_eq_true rfl)) (fun Γ hR hm hC => wX11_isKeeping hC hR hm F κ) Δ l hl hN
set_option maxRecDepth 20000 in
theorem wX11_renumbers_43 {Γ : JCtx} (hC : jC Γ cX11_renumbers 4 RX11 none layM 15) {hd : Nat} (hR : gR Γ = rmH (4 + hd + 1)) (hm : gcells Γ ≤ (gR Γ).cells ∧ gslots Γ ≤ (gR Γ).slots) (F : Nat) (rec : Mem → Int32 → Int32 → Option Mem) (hrec : ∀ (κ : Mem) (a b : Int32) (r : Mem), rec κ a b = some r → CT (gΔ Γ) (gl Γ) yX11_renumbers cX11_renumbers 4 none (rmH (4 + hd)) [.ref (gad Γ 0), .int a, .int b] κ none r) (κ : Mem) (y0 : Int32) (y1 : Int32) : JP Γ (qf Γ oV) (pX11_renumbers_43 F rec κ y0 y1) κ 43 [] [.int y0, .int y1, .ref (gad Γ 0)] := by
  unfold pX11_renumbers_43
  refine j_iadd hC (pc := 43) dX11_renumbers_43 ?_
  refine j_putI hC (pc := 44) dX11_renumbers_44 kp_RX11_289 lM_0 (Nat.le_of_ble_eq_true rfl) rfl rfl rfl (fun κ5 => ?_)
  exact j_vret hC (pc := 47) dX11_renumbers_47 rfl rfl
set_option maxRecDepth 20000 in
theorem wX11_renumbers_88 {Γ : JCtx} (hC : jC Γ cX11_renumbers 4 RX11 none layM 15) {hd : Nat} (hR : gR Γ = rmH (4 + hd + 1)) (hm : gcells Γ ≤ (gR Γ).cells ∧ gslots Γ ≤ (gR Γ).slots) (F : Nat) (rec : Mem → Int32 → Int32 → Option Mem) (hrec : ∀ (κ : Mem) (a b : Int32) (r : Mem), rec κ a b = some r → CT (gΔ Γ) (gl Γ) yX11_renumbers cX11_renumbers 4 none (rmH (4 + hd)) [.ref (gad Γ 0), .int a, .int b] κ none r) (κ : Mem) (v1 : Int32) (v2 : Int32) (v3 : Int32) (k50 : Mem → Int32 → Option Mem) (hk50 : ∀ (κ : Mem) (v3 : Int32), JP Γ (qf Γ oV) (k50 κ v3) κ 50 [(0, .ref (gad Γ 0)), (1, .int v1), (2, .int v2), (3, .int v3)] []) : JP Γ (qf Γ oV) (pX11_renumbers_88 F rec k50 κ v1 v2 v3) κ 88 [(0, .ref (gad Γ 0)), (1, .int v1), (2, .int v2), (3, .int v3)] [] := by
  unfold pX11_renumbers_88
  refine j_iinc hC (pc := 88) dX11_renumbers_88 3 rfl ki_1 (Nat.le_of_ble_eq_true rfl) (loc' := [(3, .int (v3 + 1)), (0, .ref (gad Γ 0)), (1, .int v1), (2, .int v2)]) rfl ?_
  refine j_goto hC (pc := 91) dX11_renumbers_91 (tgt := 50) rfl ?_
  refine j_sub [1, 2, 3, 0] (loc' := [(0, .ref (gad Γ 0)), (1, .int v1), (2, .int v2), (3, .int (v3 + 1))]) rfl ?_
  exact hk50 κ (v3 + 1)
set_option maxRecDepth 20000 in
theorem wX11_renumbers_50 {Γ : JCtx} (hC : jC Γ cX11_renumbers 4 RX11 none layM 15) {hd : Nat} (hR : gR Γ = rmH (4 + hd + 1)) (hm : gcells Γ ≤ (gR Γ).cells ∧ gslots Γ ≤ (gR Γ).slots) (F : Nat) (rec : Mem → Int32 → Int32 → Option Mem) (hrec : ∀ (κ : Mem) (a b : Int32) (r : Mem), rec κ a b = some r → CT (gΔ Γ) (gl Γ) yX11_renumbers cX11_renumbers 4 none (rmH (4 + hd)) [.ref (gad Γ 0), .int a, .int b] κ none r) (v1 : Int32) (v2 : Int32) : ∀ (n : Nat) (κ : Mem) (v3 : Int32), JP Γ (qf Γ oV) (pX11_renumbers_50 F rec v1 v2 n κ v3) κ 50 [(0, .ref (gad Γ 0)), (1, .int v1), (2, .int v2), (3, .int v3)] [] := by
  intro n
  induction n with
  | zero =>
    intro κ v3
    rw [pX11_renumbers_50]
    exact j_none
  | succ fu ih =>
    intro κ v3
    rw [pX11_renumbers_50]
    refine j_iload_n hC (pc := 50) dX11_renumbers_50 3 rfl rfl ?_
    refine j_aload_n hC (pc := 51) dX11_renumbers_51 0 rfl rfl ?_
    refine j_callV_I hC hR (ctX11_players hC.l hC.cn κ) kc_RX11_108 (by omega) (Nat.le_of_ble_eq_true rfl) lM_0 (Nat.le_of_ble_eq_true rfl) rfl (As := []) (rest := [.int v3]) rfl rfl (Nat.le_of_ble_eq_true rfl) hm (pc := 52) dX11_renumbers_52 (fun t6 => ?_)
    refine j_icmp_ge hC (pc := 55) dX11_renumbers_55 (tgt := 94) rfl ?_ ?_
    · refine j_iload_n hC (pc := 58) dX11_renumbers_58 2 rfl rfl ?_
      refine j_iload_n hC (pc := 59) dX11_renumbers_59 3 rfl rfl ?_
      refine j_callS_I hC hR (ctX11_has hC.l hC.cn κ v2 v3) kc_RX11_88 (by omega) (Nat.le_of_ble_eq_true rfl) (As := [.int v2, .int v3]) (rest := []) rfl rfl (Nat.le_of_ble_eq_true rfl) hm (pc := 60) dX11_renumbers_60 (fun t7 => ?_)
      refine j_if_eq hC (pc := 63) dX11_renumbers_63 (tgt := 69) rfl ?_ ?_
      · refine j_aload_n hC (pc := 69) dX11_renumbers_69 0 rfl rfl ?_
        refine j_getR hC (pc := 70) dX11_renumbers_70 kf_RX11_35 lM_0 (Nat.le_of_ble_eq_true rfl) rfl ?_
        refine j_iload_n hC (pc := 73) dX11_renumbers_73 1 rfl rfl ?_
        refine j_iload_n hC (pc := 74) dX11_renumbers_74 3 rfl rfl ?_
        refine j_iast hC (pc := 75) dX11_renumbers_75 lM_9 (Nat.le_of_ble_eq_true rfl) (fun κ8 => ?_)
        refine j_aload_n hC (pc := 76) dX11_renumbers_76 0 rfl rfl ?_
        refine j_iload_n hC (pc := 77) dX11_renumbers_77 1 rfl rfl ?_
        refine j_iconst hC (pc := 78) dX11_renumbers_78 ki_1 ?_
        refine j_iadd hC (pc := 79) dX11_renumbers_79 ?_
        refine j_iload_n hC (pc := 80) dX11_renumbers_80 2 rfl rfl ?_
        refine j_iconst hC (pc := 81) dX11_renumbers_81 ki_1 ?_
        refine j_iload_n hC (pc := 82) dX11_renumbers_82 3 rfl rfl ?_
        refine j_ishl hC (pc := 83) dX11_renumbers_83 ?_
        refine j_ior hC (pc := 84) dX11_renumbers_84 ?_
        refine j_callV_V hC hR (hrec κ8 (v1 + 1) (v2 ||| (1 <<< (v3 &&& 31)))) kc_RX11_295 (Nat.lt_succ_self _) (Nat.le_of_ble_eq_true rfl) lM_0 (Nat.le_of_ble_eq_true rfl) rfl (As := [.int (v1 + 1), .int (v2 ||| (1 <<< (v3 &&& 31)))]) (rest := []) rfl rfl (Nat.le_of_ble_eq_true rfl) hm (pc := 85) dX11_renumbers_85 (fun t9 => ?_)
        exact wX11_renumbers_88 hC hR hm F rec hrec t9 v1 v2 v3 (pX11_renumbers_50 F rec v1 v2 fu) ih
      · refine j_goto hC (pc := 66) dX11_renumbers_66 (tgt := 88) rfl ?_
        exact wX11_renumbers_88 hC hR hm F rec hrec κ v1 v2 v3 (pX11_renumbers_50 F rec v1 v2 fu) ih
    · exact j_vret hC (pc := 94) dX11_renumbers_94 rfl rfl
set_option maxRecDepth 20000 in
theorem wX11_renumbers {Γ : JCtx} (hC : jC Γ cX11_renumbers 4 RX11 none layM 15) {hd : Nat} (hR : gR Γ = rmH (4 + hd + 1)) (hm : gcells Γ ≤ (gR Γ).cells ∧ gslots Γ ≤ (gR Γ).slots) (F : Nat) (rec : Mem → Int32 → Int32 → Option Mem) (hrec : ∀ (κ : Mem) (a b : Int32) (r : Mem), rec κ a b = some r → CT (gΔ Γ) (gl Γ) yX11_renumbers cX11_renumbers 4 none (rmH (4 + hd)) [.ref (gad Γ 0), .int a, .int b] κ none r) (κ : Mem) (v1 : Int32) (v2 : Int32) : JP Γ (qf Γ oV) (pX11_renumbers_b F rec κ v1 v2) κ 0 [(0, .ref (gad Γ 0)), (1, .int v1), (2, .int v2)] [] := by
  unfold pX11_renumbers_b
  refine j_iload_n hC (pc := 0) dX11_renumbers_0 1 rfl rfl ?_
  refine j_aload_n hC (pc := 1) dX11_renumbers_1 0 rfl rfl ?_
  refine j_callV_I hC hR (ctX11_players hC.l hC.cn κ) kc_RX11_108 (by omega) (Nat.le_of_ble_eq_true rfl) lM_0 (Nat.le_of_ble_eq_true rfl) rfl (As := []) (rest := [.int v1]) rfl rfl (Nat.le_of_ble_eq_true rfl) hm (pc := 2) dX11_renumbers_2 (fun t1 => ?_)
  refine j_icmp_ne hC (pc := 5) dX11_renumbers_5 (tgt := 48) rfl ?_ ?_
  · refine j_aload_n hC (pc := 8) dX11_renumbers_8 0 rfl rfl ?_
    refine j_callV_I hC hR (ctX11_isRenumbering hC.l hC.cn F κ) kc_RX11_283 (by omega) (Nat.le_of_ble_eq_true rfl) lM_0 (Nat.le_of_ble_eq_true rfl) rfl (As := []) (rest := []) rfl rfl (Nat.le_of_ble_eq_true rfl) hm (pc := 9) dX11_renumbers_9 (fun t2 => ?_)
    refine j_if_ne hC (pc := 12) dX11_renumbers_12 (tgt := 16) rfl ?_ ?_
    · exact j_vret hC (pc := 15) dX11_renumbers_15 rfl rfl
    · refine j_aload_n hC (pc := 16) dX11_renumbers_16 0 rfl rfl ?_
      refine j_dup hC (pc := 17) dX11_renumbers_17 rfl ?_
      refine j_getI hC (pc := 18) dX11_renumbers_18 kf_RX11_286 lM_0 (Nat.le_of_ble_eq_true rfl) rfl ?_
      refine j_iconst hC (pc := 21) dX11_renumbers_21 ki_1 ?_
      refine j_iadd hC (pc := 22) dX11_renumbers_22 ?_
      refine j_putI hC (pc := 23) dX11_renumbers_23 kp_RX11_286 lM_0 (Nat.le_of_ble_eq_true rfl) rfl rfl rfl (fun κ3 => ?_)
      refine j_aload_n hC (pc := 26) dX11_renumbers_26 0 rfl rfl ?_
      refine j_dup hC (pc := 27) dX11_renumbers_27 rfl ?_
      refine j_getI hC (pc := 28) dX11_renumbers_28 kf_RX11_289 lM_0 (Nat.le_of_ble_eq_true rfl) rfl ?_
      refine j_aload_n hC (pc := 31) dX11_renumbers_31 0 rfl rfl ?_
      refine j_callV_E hC hR (ctX11_isKeeping hC.l hC.cn F κ3) kc_RX11_292 (by omega) (Nat.le_of_ble_eq_true rfl) lM_0 (Nat.le_of_ble_eq_true rfl) rfl (As := []) (rest := [.int (mi κ3 0 15), .ref (gad Γ 0)]) rfl rfl (Nat.le_of_ble_eq_true rfl) hm (pc := 32) dX11_renumbers_32 (fun t4 => ?_)
      refine j_if_eq hC (pc := 35) dX11_renumbers_35 (tgt := 42) rfl ?_ ?_
      · refine j_iconst hC (pc := 42) dX11_renumbers_42 ki_0 ?_
        refine j_sub [] (loc' := []) rfl ?_
        exact wX11_renumbers_43 hC hR hm F rec hrec t4.2 0 (mi κ3 0 15)
      · refine j_iconst hC (pc := 38) dX11_renumbers_38 ki_1 ?_
        refine j_goto hC (pc := 39) dX11_renumbers_39 (tgt := 43) rfl ?_
        refine j_sub [] (loc' := []) rfl ?_
        exact wX11_renumbers_43 hC hR hm F rec hrec t4.2 1 (mi κ3 0 15)
  · refine j_iconst hC (pc := 48) dX11_renumbers_48 ki_0 ?_
    refine j_istore_n hC (pc := 49) dX11_renumbers_49 rfl (Nat.le_of_ble_eq_true rfl) (loc' := [(3, .int 0), (0, .ref (gad Γ 0)), (1, .int v1), (2, .int v2)]) rfl ?_
    refine j_sub [1, 2, 3, 0] (loc' := [(0, .ref (gad Γ 0)), (1, .int v1), (2, .int v2), (3, .int 0)]) rfl ?_
    exact wX11_renumbers_50 hC hR hm F rec hrec v1 v2 F κ 0
theorem ctX11_renumbers : ∀ (d : Nat) {Δ : DCtx} {l : Launch}, dlay Δ = layM → dN Δ = 15 → ∀ (F : Nat) (κ : Mem) (a b : Int32) (r : Mem), pX11_renumbers F d κ a b = some r → CT Δ l yX11_renumbers cX11_renumbers 4 none (rmH (4 + d)) [.ref (dad Δ 0), .int a, .int b] κ none r := by
  intro d
  induction d with
  | zero => intro Δ l _ _ F κ a b r h; cases h
  | succ d ih =>
    intro Δ l hl hN F κ a b r h
    exact ct_of (nL := 4) (ret := none) (lay := layM) (N := 15) (by decide +kernel) (fun Δ => [.ref (dad Δ 0), .int a, .int b]) (fun _ => oV) (fun _ => (Nat.le_of_ble_eq_true rfl)) (fun Γ hR hm hC => wX11_renumbers hC hR hm F (pX11_renumbers F d) (fun κ a b r => ih hC.l hC.cn F κ a b r) κ a b) Δ l hl hN r h
set_option maxRecDepth 20000 in
theorem wX11_renumber_55 {Γ : JCtx} (hC : jC Γ cX11_renumber 2 RX11 (some .int) layM 15) (hR : gR Γ = rmH 13) (hm : gcells Γ ≤ (gR Γ).cells ∧ gslots Γ ≤ (gR Γ).slots) (F : Nat) (κ : Mem) (y0 : Int32) : JP Γ (qf Γ oE) (pX11_renumber_55 F κ y0) κ 55 [] [.int y0] := by
  unfold pX11_renumber_55
  exact j_iret hC (pc := 55) dX11_renumber_55 rfl rfl rfl
set_option maxRecDepth 20000 in
theorem wX11_renumber_16 {Γ : JCtx} (hC : jC Γ cX11_renumber 2 RX11 (some .int) layM 15) (hR : gR Γ = rmH 13) (hm : gcells Γ ≤ (gR Γ).cells ∧ gslots Γ ≤ (gR Γ).slots) (F : Nat) (κ : Mem) (v1 : Int32) (y0 : Int32) : JP Γ (qf Γ oE) (pX11_renumber_16 F κ v1 y0) κ 16 [(0, .ref (gad Γ 0)), (1, .int v1)] [.int y0, .ref (gad Γ 0)] := by
  unfold pX11_renumber_16
  refine j_callV_E hC hR (ctX11_is hC.l hC.cn κ y0) kc_RX11_145 (Nat.le_of_ble_eq_true rfl) (Nat.le_of_ble_eq_true rfl) lM_0 (Nat.le_of_ble_eq_true rfl) rfl (As := [.int y0]) (rest := []) rfl rfl (Nat.le_of_ble_eq_true rfl) hm (pc := 16) dX11_renumber_16 (fun t2 => ?_)
  refine j_if_ne hC (pc := 19) dX11_renumber_19 (tgt := 24) rfl ?_ ?_
  · refine j_iconst hC (pc := 22) dX11_renumber_22 ki_m1 ?_
    exact j_iret hC (pc := 23) dX11_renumber_23 rfl rfl rfl
  · refine j_aload_n hC (pc := 24) dX11_renumber_24 0 rfl rfl ?_
    refine j_iconst hC (pc := 25) dX11_renumber_25 ki_0 ?_
    refine j_putI hC (pc := 26) dX11_renumber_26 kp_RX11_286 lM_0 (Nat.le_of_ble_eq_true rfl) rfl rfl rfl (fun κ3 => ?_)
    refine j_aload_n hC (pc := 29) dX11_renumber_29 0 rfl rfl ?_
    refine j_iconst hC (pc := 30) dX11_renumber_30 ki_0 ?_
    refine j_putI hC (pc := 31) dX11_renumber_31 kp_RX11_289 lM_0 (Nat.le_of_ble_eq_true rfl) rfl rfl rfl (fun κ4 => ?_)
    refine j_aload_n hC (pc := 34) dX11_renumber_34 0 rfl rfl ?_
    refine j_iconst hC (pc := 35) dX11_renumber_35 ki_0 ?_
    refine j_iconst hC (pc := 36) dX11_renumber_36 ki_0 ?_
    refine j_callV_V hC hR (ctX11_renumbers 8 hC.l hC.cn F κ4 0 0) kc_RX11_295 (Nat.le_of_ble_eq_true rfl) (Nat.le_of_ble_eq_true rfl) lM_0 (Nat.le_of_ble_eq_true rfl) rfl (As := [.int 0, .int 0]) (rest := []) rfl rfl (Nat.le_of_ble_eq_true rfl) hm (pc := 37) dX11_renumber_37 (fun t5 => ?_)
    refine j_iload_n hC (pc := 40) dX11_renumber_40 1 rfl rfl ?_
    refine j_if_ne hC (pc := 41) dX11_renumber_41 (tgt := 51) rfl ?_ ?_
    · refine j_aload_n hC (pc := 44) dX11_renumber_44 0 rfl rfl ?_
      refine j_getI hC (pc := 45) dX11_renumber_45 kf_RX11_286 lM_0 (Nat.le_of_ble_eq_true rfl) rfl ?_
      refine j_goto hC (pc := 48) dX11_renumber_48 (tgt := 55) rfl ?_
      refine j_sub [] (loc' := []) rfl ?_
      exact wX11_renumber_55 hC hR hm F t5 (mi t5 0 14)
    · refine j_aload_n hC (pc := 51) dX11_renumber_51 0 rfl rfl ?_
      refine j_getI hC (pc := 52) dX11_renumber_52 kf_RX11_289 lM_0 (Nat.le_of_ble_eq_true rfl) rfl ?_
      refine j_sub [] (loc' := []) rfl ?_
      exact wX11_renumber_55 hC hR hm F t5 (mi t5 0 15)
set_option maxRecDepth 20000 in
theorem wX11_renumber {Γ : JCtx} (hC : jC Γ cX11_renumber 2 RX11 (some .int) layM 15) (hR : gR Γ = rmH 13) (hm : gcells Γ ≤ (gR Γ).cells ∧ gslots Γ ≤ (gR Γ).slots) (F : Nat) (κ : Mem) (v1 : Int32) : JP Γ (qf Γ oE) (pX11_renumber F κ v1) κ 0 [(0, .ref (gad Γ 0)), (1, .int v1)] [] := by
  unfold pX11_renumber
  refine j_aload_n hC (pc := 0) dX11_renumber_0 0 rfl rfl ?_
  refine j_iload_n hC (pc := 1) dX11_renumber_1 1 rfl rfl ?_
  refine j_i2l hC (pc := 2) dX11_renumber_2 ?_
  refine j_lconst hC (pc := 3) dX11_renumber_3 rfl ?_
  refine j_lconst hC (pc := 4) dX11_renumber_4 rfl ?_
  refine j_callS_I hC hR (ctX11_isIn hC.l hC.cn κ v1.toInt64 0 1) kc_RX11_92 (Nat.le_of_ble_eq_true rfl) (Nat.le_of_ble_eq_true rfl) (As := [.long (v1.toInt64), .long 0, .long 1]) (rest := [.ref (gad Γ 0)]) rfl rfl (Nat.le_of_ble_eq_true rfl) hm (pc := 5) dX11_renumber_5 (fun t1 => ?_)
  refine j_if_eq hC (pc := 8) dX11_renumber_8 (tgt := 15) rfl ?_ ?_
  · refine j_iconst hC (pc := 15) dX11_renumber_15 ki_1 ?_
    exact wX11_renumber_16 hC hR hm F κ v1 1
  · refine j_iconst hC (pc := 11) dX11_renumber_11 ki_0 ?_
    refine j_goto hC (pc := 12) dX11_renumber_12 (tgt := 16) rfl ?_
    exact wX11_renumber_16 hC hR hm F κ v1 0
theorem ctX11_renumber {Δ : DCtx} {l : Launch} (hl : dlay Δ = layM) (hN : dN Δ = 15) (F : Nat) (κ : Mem) (v1 : Int32) : ∀ r, pX11_renumber F κ v1 = some r → CT Δ l yX11_renumber cX11_renumber 2 (some .int) (rmH 13) [.ref (dad Δ 0), .int v1] κ (some (.int r.1)) r.2 :=
  ct_of (nL := 2) (ret := (some .int)) (lay := layM) (N := 15) (by decide +kernel) (fun Δ => [.ref (dad Δ 0), .int v1]) (fun _ => oE) (fun _ => (Nat.le_of_ble_eq_true rfl)) (fun Γ hR hm hC => wX11_renumber hC hR hm F κ v1) Δ l hl hN
set_option maxRecDepth 20000 in
theorem wX11_alike_49 {Γ : JCtx} (hC : jC Γ cX11_alike 4 RX11 (some .int) layM 15) (hR : gR Γ = rmH 4) (hm : gcells Γ ≤ (gR Γ).cells ∧ gslots Γ ≤ (gR Γ).slots) (F : Nat) (κ : Mem) (v1 : Int32) (v2 : Int32) (v3 : Int32) (y0 : Int32) (y1 : Int32) (k17 : Mem → Int32 → Option (Int32 × Mem)) (hk17 : ∀ (κ : Mem) (v3 : Int32), JP Γ (qf Γ oE) (k17 κ v3) κ 17 [(0, .ref (gad Γ 0)), (1, .int v1), (2, .int v2), (3, .int v3)] []) : JP Γ (qf Γ oE) (pX11_alike_49 F k17 κ v1 v2 v3 y0 y1) κ 49 [(0, .ref (gad Γ 0)), (1, .int v1), (2, .int v2), (3, .int v3)] [.int y0, .int y1, .ref (gad Γ 9)] := by
  unfold pX11_alike_49
  refine j_iast hC (pc := 49) dX11_alike_49 lM_9 (Nat.le_of_ble_eq_true rfl) (fun κ4 => ?_)
  refine j_iinc hC (pc := 50) dX11_alike_50 3 rfl ki_1 (Nat.le_of_ble_eq_true rfl) (loc' := [(3, .int (v3 + 1)), (0, .ref (gad Γ 0)), (1, .int v1), (2, .int v2)]) rfl ?_
  refine j_goto hC (pc := 53) dX11_alike_53 (tgt := 17) rfl ?_
  refine j_sub [1, 2, 3, 0] (loc' := [(0, .ref (gad Γ 0)), (1, .int v1), (2, .int v2), (3, .int (v3 + 1))]) rfl ?_
  exact hk17 κ4 (v3 + 1)
set_option maxRecDepth 20000 in
theorem wX11_alike_75 {Γ : JCtx} (hC : jC Γ cX11_alike 4 RX11 (some .int) layM 15) (hR : gR Γ = rmH 4) (hm : gcells Γ ≤ (gR Γ).cells ∧ gslots Γ ≤ (gR Γ).slots) (F : Nat) (κ : Mem) (y0 : Int32) : JP Γ (qf Γ oE) (pX11_alike_75 F κ y0) κ 75 [] [.int y0] := by
  unfold pX11_alike_75
  exact j_iret hC (pc := 75) dX11_alike_75 rfl rfl rfl
set_option maxRecDepth 20000 in
theorem wX11_alike_74 {Γ : JCtx} (hC : jC Γ cX11_alike 4 RX11 (some .int) layM 15) (hR : gR Γ = rmH 4) (hm : gcells Γ ≤ (gR Γ).cells ∧ gslots Γ ≤ (gR Γ).slots) (F : Nat) (κ : Mem) : JP Γ (qf Γ oE) (pX11_alike_74 F κ) κ 74 [] [] := by
  unfold pX11_alike_74
  refine j_iconst hC (pc := 74) dX11_alike_74 ki_0 ?_
  exact wX11_alike_75 hC hR hm F κ 0
set_option maxRecDepth 20000 in
theorem wX11_alike_17 {Γ : JCtx} (hC : jC Γ cX11_alike 4 RX11 (some .int) layM 15) (hR : gR Γ = rmH 4) (hm : gcells Γ ≤ (gR Γ).cells ∧ gslots Γ ≤ (gR Γ).slots) (F : Nat) (v1 : Int32) (v2 : Int32) : ∀ (n : Nat) (κ : Mem) (v3 : Int32), JP Γ (qf Γ oE) (pX11_alike_17 F v1 v2 n κ v3) κ 17 [(0, .ref (gad Γ 0)), (1, .int v1), (2, .int v2), (3, .int v3)] [] := by
  intro n
  induction n with
  | zero =>
    intro κ v3
    rw [pX11_alike_17]
    exact j_none
  | succ fu ih =>
    intro κ v3
    rw [pX11_alike_17]
    refine j_iload_n hC (pc := 17) dX11_alike_17 3 rfl rfl ?_
    refine j_aload_n hC (pc := 18) dX11_alike_18 0 rfl rfl ?_
    refine j_callV_I hC hR (ctX11_players hC.l hC.cn κ) kc_RX11_108 (Nat.le_of_ble_eq_true rfl) (Nat.le_of_ble_eq_true rfl) lM_0 (Nat.le_of_ble_eq_true rfl) rfl (As := []) (rest := [.int v3]) rfl rfl (Nat.le_of_ble_eq_true rfl) hm (pc := 19) dX11_alike_19 (fun t3 => ?_)
    refine j_icmp_ge hC (pc := 22) dX11_alike_22 (tgt := 56) rfl ?_ ?_
    · refine j_aload_n hC (pc := 25) dX11_alike_25 0 rfl rfl ?_
      refine j_getR hC (pc := 26) dX11_alike_26 kf_RX11_35 lM_0 (Nat.le_of_ble_eq_true rfl) rfl ?_
      refine j_iload_n hC (pc := 29) dX11_alike_29 3 rfl rfl ?_
      refine j_iload_n hC (pc := 30) dX11_alike_30 3 rfl rfl ?_
      refine j_iload_n hC (pc := 31) dX11_alike_31 1 rfl rfl ?_
      refine j_icmp_ne hC (pc := 32) dX11_alike_32 (tgt := 39) rfl ?_ ?_
      · refine j_iload_n hC (pc := 35) dX11_alike_35 2 rfl rfl ?_
        refine j_goto hC (pc := 36) dX11_alike_36 (tgt := 49) rfl ?_
        exact wX11_alike_49 hC hR hm F κ v1 v2 v3 v2 v3 (pX11_alike_17 F v1 v2 fu) ih
      · refine j_iload_n hC (pc := 39) dX11_alike_39 3 rfl rfl ?_
        refine j_iload_n hC (pc := 40) dX11_alike_40 2 rfl rfl ?_
        refine j_icmp_ne hC (pc := 41) dX11_alike_41 (tgt := 48) rfl ?_ ?_
        · refine j_iload_n hC (pc := 44) dX11_alike_44 1 rfl rfl ?_
          refine j_goto hC (pc := 45) dX11_alike_45 (tgt := 49) rfl ?_
          exact wX11_alike_49 hC hR hm F κ v1 v2 v3 v1 v3 (pX11_alike_17 F v1 v2 fu) ih
        · refine j_iload_n hC (pc := 48) dX11_alike_48 3 rfl rfl ?_
          exact wX11_alike_49 hC hR hm F κ v1 v2 v3 v3 v3 (pX11_alike_17 F v1 v2 fu) ih
    · refine j_aload_n hC (pc := 56) dX11_alike_56 0 rfl rfl ?_
      refine j_callV_I hC hR (ctX11_isRenumbering hC.l hC.cn F κ) kc_RX11_283 (Nat.le_of_ble_eq_true rfl) (Nat.le_of_ble_eq_true rfl) lM_0 (Nat.le_of_ble_eq_true rfl) rfl (As := []) (rest := []) rfl rfl (Nat.le_of_ble_eq_true rfl) hm (pc := 57) dX11_alike_57 (fun t5 => ?_)
      refine j_if_eq hC (pc := 60) dX11_alike_60 (tgt := 74) rfl ?_ ?_
      · refine j_sub [] (loc' := []) rfl ?_
        exact wX11_alike_74 hC hR hm F κ
      · refine j_aload_n hC (pc := 63) dX11_alike_63 0 rfl rfl ?_
        refine j_callV_E hC hR (ctX11_isKeeping hC.l hC.cn F κ) kc_RX11_292 (Nat.le_of_ble_eq_true rfl) (Nat.le_of_ble_eq_true rfl) lM_0 (Nat.le_of_ble_eq_true rfl) rfl (As := []) (rest := []) rfl rfl (Nat.le_of_ble_eq_true rfl) hm (pc := 64) dX11_alike_64 (fun t6 => ?_)
        refine j_if_eq hC (pc := 67) dX11_alike_67 (tgt := 74) rfl ?_ ?_
        · refine j_sub [] (loc' := []) rfl ?_
          exact wX11_alike_74 hC hR hm F t6.2
        · refine j_iconst hC (pc := 70) dX11_alike_70 ki_1 ?_
          refine j_goto hC (pc := 71) dX11_alike_71 (tgt := 75) rfl ?_
          refine j_sub [] (loc' := []) rfl ?_
          exact wX11_alike_75 hC hR hm F t6.2 1
set_option maxRecDepth 20000 in
theorem wX11_alike {Γ : JCtx} (hC : jC Γ cX11_alike 4 RX11 (some .int) layM 15) (hR : gR Γ = rmH 4) (hm : gcells Γ ≤ (gR Γ).cells ∧ gslots Γ ≤ (gR Γ).slots) (F : Nat) (κ : Mem) (v1 : Int32) (v2 : Int32) : JP Γ (qf Γ oE) (pX11_alike F κ v1 v2) κ 0 [(0, .ref (gad Γ 0)), (1, .int v1), (2, .int v2)] [] := by
  unfold pX11_alike
  refine j_aload_n hC (pc := 0) dX11_alike_0 0 rfl rfl ?_
  refine j_aload_n hC (pc := 1) dX11_alike_1 0 rfl rfl ?_
  refine j_iload_n hC (pc := 2) dX11_alike_2 1 rfl rfl ?_
  refine j_iload_n hC (pc := 3) dX11_alike_3 2 rfl rfl ?_
  refine j_callV_I hC hR (ctX11_whyPair hC.l hC.cn κ v1 v2) kc_RX11_203 (Nat.le_of_ble_eq_true rfl) (Nat.le_of_ble_eq_true rfl) lM_0 (Nat.le_of_ble_eq_true rfl) rfl (As := [.int v1, .int v2]) (rest := [.ref (gad Γ 0)]) rfl rfl (Nat.le_of_ble_eq_true rfl) hm (pc := 4) dX11_alike_4 (fun t1 => ?_)
  refine j_callV_E hC hR (ctX11_is hC.l hC.cn κ t1) kc_RX11_145 (Nat.le_of_ble_eq_true rfl) (Nat.le_of_ble_eq_true rfl) lM_0 (Nat.le_of_ble_eq_true rfl) rfl (As := [.int t1]) (rest := []) rfl rfl (Nat.le_of_ble_eq_true rfl) hm (pc := 7) dX11_alike_7 (fun t2 => ?_)
  refine j_if_ne hC (pc := 10) dX11_alike_10 (tgt := 15) rfl ?_ ?_
  · refine j_iconst hC (pc := 13) dX11_alike_13 ki_m1 ?_
    exact j_iret hC (pc := 14) dX11_alike_14 rfl rfl rfl
  · refine j_iconst hC (pc := 15) dX11_alike_15 ki_0 ?_
    refine j_istore_n hC (pc := 16) dX11_alike_16 rfl (Nat.le_of_ble_eq_true rfl) (loc' := [(3, .int 0), (0, .ref (gad Γ 0)), (1, .int v1), (2, .int v2)]) rfl ?_
    refine j_sub [1, 2, 3, 0] (loc' := [(0, .ref (gad Γ 0)), (1, .int v1), (2, .int v2), (3, .int 0)]) rfl ?_
    exact wX11_alike_17 hC hR hm F v1 v2 F t2.2 0
theorem ctX11_alike {Δ : DCtx} {l : Launch} (hl : dlay Δ = layM) (hN : dN Δ = 15) (F : Nat) (κ : Mem) (v1 : Int32) (v2 : Int32) : ∀ r, pX11_alike F κ v1 v2 = some r → CT Δ l yX11_alike cX11_alike 4 (some .int) (rmH 4) [.ref (dad Δ 0), .int v1, .int v2] κ (some (.int r.1)) r.2 :=
  ct_of (nL := 4) (ret := (some .int)) (lay := layM) (N := 15) (by decide +kernel) (fun Δ => [.ref (dad Δ 0), .int v1, .int v2]) (fun _ => oE) (fun _ => (Nat.le_of_ble_eq_true rfl)) (fun Γ hR hm hC => wX11_alike hC hR hm F κ v1 v2) Δ l hl hN
set_option maxRecDepth 20000 in
theorem wX11_far_95 {Γ : JCtx} (hC : jC Γ cX11_far 7 RX11 (some .int) layM 15) (hR : gR Γ = rmH 2) (hm : gcells Γ ≤ (gR Γ).cells ∧ gslots Γ ≤ (gR Γ).slots) (F : Nat) (κ : Mem) (v2 : Int32) (v3 : Int32) (v4 : Int32) (v6 : Int32) (y0 : Int32) (y1 : Int32) (k61 : Int32 → Int32 → Option (Int32 × Mem)) (hk61 : ∀ (v5 : Int32) (v6 : Int32), JP Γ (qf Γ oE) (k61 v5 v6) κ 61 [(0, .ref (gad Γ 0)), (2, .int v2), (3, .int v3), (4, .int v4), (5, .int v5), (6, .int v6)] []) : JP Γ (qf Γ oE) (pX11_far_95 F k61 κ v2 v3 v4 v6 y0 y1) κ 95 [(0, .ref (gad Γ 0)), (2, .int v2), (3, .int v3), (4, .int v4), (6, .int v6)] [.int y0, .int y1] := by
  unfold pX11_far_95
  refine j_ior hC (pc := 95) dX11_far_95 ?_
  refine j_nmi (fun x7 => ?_)
  refine j_istore hC (pc := 96) dX11_far_96 (Nat.le_of_ble_eq_true rfl) (loc' := [(5, .int x7), (0, .ref (gad Γ 0)), (2, .int v2), (3, .int v3), (4, .int v4), (6, .int v6)]) rfl ?_
  refine j_iinc hC (pc := 98) dX11_far_98 5 rfl ki_1 (Nat.le_of_ble_eq_true rfl) (loc' := [(6, .int (v6 + 1)), (5, .int x7), (0, .ref (gad Γ 0)), (2, .int v2), (3, .int v3), (4, .int v4)]) rfl ?_
  refine j_goto hC (pc := 101) dX11_far_101 (tgt := 61) rfl ?_
  refine j_sub [2, 3, 4, 5, 1, 0] (loc' := [(0, .ref (gad Γ 0)), (2, .int v2), (3, .int v3), (4, .int v4), (5, .int x7), (6, .int (v6 + 1))]) rfl ?_
  exact hk61 x7 (v6 + 1)
set_option maxRecDepth 20000 in
theorem wX11_far_61 {Γ : JCtx} (hC : jC Γ cX11_far 7 RX11 (some .int) layM 15) (hR : gR Γ = rmH 2) (hm : gcells Γ ≤ (gR Γ).cells ∧ gslots Γ ≤ (gR Γ).slots) (F : Nat) (κ : Mem) (v2 : Int32) (v3 : Int32) (v4 : Int32) (k37 : Int32 → Int32 → Option (Int32 × Mem)) (hk37 : ∀ (v3 : Int32) (v4 : Int32), JP Γ (qf Γ oE) (k37 v3 v4) κ 37 [(0, .ref (gad Γ 0)), (2, .int v2), (3, .int v3), (4, .int v4)] []) : ∀ (n : Nat) (v5 : Int32) (v6 : Int32), JP Γ (qf Γ oE) (pX11_far_61 F k37 κ v2 v3 v4 n v5 v6) κ 61 [(0, .ref (gad Γ 0)), (2, .int v2), (3, .int v3), (4, .int v4), (5, .int v5), (6, .int v6)] [] := by
  intro n
  induction n with
  | zero =>
    intro v5 v6
    rw [pX11_far_61]
    exact j_none
  | succ fu ih =>
    intro v5 v6
    rw [pX11_far_61]
    refine j_iload hC (pc := 61) dX11_far_61 5 rfl ?_
    refine j_aload_n hC (pc := 63) dX11_far_63 0 rfl rfl ?_
    refine j_callV_I hC hR (ctX11_players hC.l hC.cn κ) kc_RX11_108 (Nat.le_of_ble_eq_true rfl) (Nat.le_of_ble_eq_true rfl) lM_0 (Nat.le_of_ble_eq_true rfl) rfl (As := []) (rest := [.int v6]) rfl rfl (Nat.le_of_ble_eq_true rfl) hm (pc := 64) dX11_far_64 (fun t5 => ?_)
    refine j_icmp_ge hC (pc := 67) dX11_far_67 (tgt := 104) rfl ?_ ?_
    · refine j_iload hC (pc := 70) dX11_far_70 4 rfl ?_
      refine j_iload_n hC (pc := 72) dX11_far_72 2 rfl rfl ?_
      refine j_iload hC (pc := 73) dX11_far_73 5 rfl ?_
      refine j_callS_I hC hR (ctX11_has hC.l hC.cn κ v3 v6) kc_RX11_88 (Nat.le_of_ble_eq_true rfl) (Nat.le_of_ble_eq_true rfl) (As := [.int v3, .int v6]) (rest := [.int v5]) rfl rfl (Nat.le_of_ble_eq_true rfl) hm (pc := 75) dX11_far_75 (fun t6 => ?_)
      refine j_if_eq hC (pc := 78) dX11_far_78 (tgt := 94) rfl ?_ ?_
      · refine j_iconst hC (pc := 94) dX11_far_94 ki_0 ?_
        refine j_sub [0, 1, 2, 3, 5] (loc' := [(0, .ref (gad Γ 0)), (2, .int v2), (3, .int v3), (4, .int v4), (6, .int v6)]) rfl ?_
        exact wX11_far_95 hC hR hm F κ v2 v3 v4 v6 0 v5 (pX11_far_61 F k37 κ v2 v3 v4 fu) ih
      · refine j_aload_n hC (pc := 81) dX11_far_81 0 rfl rfl ?_
        refine j_getR hC (pc := 82) dX11_far_82 kf_RX11_7 lM_0 (Nat.le_of_ble_eq_true rfl) rfl ?_
        refine j_bipush hC (pc := 85) dX11_far_85 kb_7 ?_
        refine j_iload hC (pc := 87) dX11_far_87 5 rfl ?_
        refine j_iadd hC (pc := 89) dX11_far_89 ?_
        refine j_iald hC (pc := 90) dX11_far_90 lM_1 (Nat.le_of_ble_eq_true rfl) ?_
        refine j_goto hC (pc := 91) dX11_far_91 (tgt := 95) rfl ?_
        refine j_sub [0, 1, 2, 3, 5] (loc' := [(0, .ref (gad Γ 0)), (2, .int v2), (3, .int v3), (4, .int v4), (6, .int v6)]) rfl ?_
        exact wX11_far_95 hC hR hm F κ v2 v3 v4 v6 (mi κ 1 (7 + v6).toNatClampNeg) v5 (pX11_far_61 F k37 κ v2 v3 v4 fu) ih
    · refine j_iload hC (pc := 104) dX11_far_104 4 rfl ?_
      refine j_istore_n hC (pc := 106) dX11_far_106 rfl (Nat.le_of_ble_eq_true rfl) (loc' := [(3, .int v5), (0, .ref (gad Γ 0)), (2, .int v2), (4, .int v4), (5, .int v5), (6, .int v6)]) rfl ?_
      refine j_iinc hC (pc := 107) dX11_far_107 3 rfl ki_1 (Nat.le_of_ble_eq_true rfl) (loc' := [(4, .int (v4 + 1)), (3, .int v5), (0, .ref (gad Γ 0)), (2, .int v2), (5, .int v5), (6, .int v6)]) rfl ?_
      refine j_goto hC (pc := 110) dX11_far_110 (tgt := 37) rfl ?_
      refine j_sub [2, 3, 1, 0] (loc' := [(0, .ref (gad Γ 0)), (2, .int v2), (3, .int v5), (4, .int (v4 + 1))]) rfl ?_
      exact hk37 v5 (v4 + 1)
set_option maxRecDepth 20000 in
theorem wX11_far_37 {Γ : JCtx} (hC : jC Γ cX11_far 7 RX11 (some .int) layM 15) (hR : gR Γ = rmH 2) (hm : gcells Γ ≤ (gR Γ).cells ∧ gslots Γ ≤ (gR Γ).slots) (F : Nat) (κ : Mem) (v2 : Int32) : ∀ (n : Nat) (v3 : Int32) (v4 : Int32), JP Γ (qf Γ oE) (pX11_far_37 F κ v2 n v3 v4) κ 37 [(0, .ref (gad Γ 0)), (2, .int v2), (3, .int v3), (4, .int v4)] [] := by
  intro n
  induction n with
  | zero =>
    intro v3 v4
    rw [pX11_far_37]
    exact j_none
  | succ fu ih =>
    intro v3 v4
    rw [pX11_far_37]
    refine j_iload hC (pc := 37) dX11_far_37 3 rfl ?_
    refine j_bipush hC (pc := 39) dX11_far_39 kb_6 ?_
    refine j_icmp_ge hC (pc := 41) dX11_far_41 (tgt := 113) rfl ?_ ?_
    · refine j_iload_n hC (pc := 44) dX11_far_44 2 rfl rfl ?_
      refine j_iload_n hC (pc := 45) dX11_far_45 1 rfl rfl ?_
      refine j_callS_I hC hR (ctX11_has hC.l hC.cn κ v3 v2) kc_RX11_88 (Nat.le_of_ble_eq_true rfl) (Nat.le_of_ble_eq_true rfl) (As := [.int v3, .int v2]) (rest := []) rfl rfl (Nat.le_of_ble_eq_true rfl) hm (pc := 46) dX11_far_46 (fun t4 => ?_)
      refine j_if_eq hC (pc := 49) dX11_far_49 (tgt := 55) rfl ?_ ?_
      · refine j_iload_n hC (pc := 55) dX11_far_55 2 rfl rfl ?_
        refine j_istore hC (pc := 56) dX11_far_56 (Nat.le_of_ble_eq_true rfl) (loc' := [(5, .int v3), (0, .ref (gad Γ 0)), (2, .int v2), (3, .int v3), (4, .int v4)]) rfl ?_
        refine j_iconst hC (pc := 58) dX11_far_58 ki_0 ?_
        refine j_istore hC (pc := 59) dX11_far_59 (Nat.le_of_ble_eq_true rfl) (loc' := [(6, .int 0), (5, .int v3), (0, .ref (gad Γ 0)), (2, .int v2), (3, .int v3), (4, .int v4)]) rfl ?_
        refine j_sub [2, 3, 4, 5, 1, 0] (loc' := [(0, .ref (gad Γ 0)), (2, .int v2), (3, .int v3), (4, .int v4), (5, .int v3), (6, .int 0)]) rfl ?_
        exact wX11_far_61 hC hR hm F κ v2 v3 v4 (pX11_far_37 F κ v2 fu) ih F v3 0
      · refine j_iload hC (pc := 52) dX11_far_52 3 rfl ?_
        exact j_iret hC (pc := 54) dX11_far_54 rfl rfl rfl
    · refine j_aload_n hC (pc := 113) dX11_far_113 0 rfl rfl ?_
      refine j_iconst hC (pc := 114) dX11_far_114 ki_5 ?_
      refine j_callV_E hC hR (ctX11_refuse hC.l hC.cn κ 5) kc_RX11_195 (Nat.le_of_ble_eq_true rfl) (Nat.le_of_ble_eq_true rfl) lM_0 (Nat.le_of_ble_eq_true rfl) rfl (As := [.int 5]) (rest := []) rfl rfl (Nat.le_of_ble_eq_true rfl) hm (pc := 115) dX11_far_115 (fun t8 => ?_)
      exact j_iret hC (pc := 118) dX11_far_118 rfl rfl rfl
set_option maxRecDepth 20000 in
theorem wX11_far_22 {Γ : JCtx} (hC : jC Γ cX11_far 7 RX11 (some .int) layM 15) (hR : gR Γ = rmH 2) (hm : gcells Γ ≤ (gR Γ).cells ∧ gslots Γ ≤ (gR Γ).slots) (F : Nat) (κ : Mem) (v1 : Int32) (v2 : Int32) (y0 : Int32) : JP Γ (qf Γ oE) (pX11_far_22 F κ v1 v2 y0) κ 22 [(0, .ref (gad Γ 0)), (1, .int v1), (2, .int v2)] [.int y0, .ref (gad Γ 0)] := by
  unfold pX11_far_22
  refine j_callV_E hC hR (ctX11_is hC.l hC.cn κ y0) kc_RX11_145 (Nat.le_of_ble_eq_true rfl) (Nat.le_of_ble_eq_true rfl) lM_0 (Nat.le_of_ble_eq_true rfl) rfl (As := [.int y0]) (rest := []) rfl rfl (Nat.le_of_ble_eq_true rfl) hm (pc := 22) dX11_far_22 (fun t2 => ?_)
  refine j_if_ne hC (pc := 25) dX11_far_25 (tgt := 30) rfl ?_ ?_
  · refine j_iconst hC (pc := 28) dX11_far_28 ki_m1 ?_
    exact j_iret hC (pc := 29) dX11_far_29 rfl rfl rfl
  · refine j_iconst hC (pc := 30) dX11_far_30 ki_1 ?_
    refine j_iload_n hC (pc := 31) dX11_far_31 1 rfl rfl ?_
    refine j_ishl hC (pc := 32) dX11_far_32 ?_
    refine j_nmi (fun x3 => ?_)
    refine j_istore_n hC (pc := 33) dX11_far_33 rfl (Nat.le_of_ble_eq_true rfl) (loc' := [(3, .int x3), (0, .ref (gad Γ 0)), (1, .int v1), (2, .int v2)]) rfl ?_
    refine j_iconst hC (pc := 34) dX11_far_34 ki_0 ?_
    refine j_istore hC (pc := 35) dX11_far_35 (Nat.le_of_ble_eq_true rfl) (loc' := [(4, .int 0), (3, .int x3), (0, .ref (gad Γ 0)), (1, .int v1), (2, .int v2)]) rfl ?_
    refine j_sub [2, 4, 1, 0] (loc' := [(0, .ref (gad Γ 0)), (2, .int v2), (3, .int x3), (4, .int 0)]) rfl ?_
    exact wX11_far_37 hC hR hm F t2.2 v2 F x3 0
set_option maxRecDepth 20000 in
theorem wX11_far_21 {Γ : JCtx} (hC : jC Γ cX11_far 7 RX11 (some .int) layM 15) (hR : gR Γ = rmH 2) (hm : gcells Γ ≤ (gR Γ).cells ∧ gslots Γ ≤ (gR Γ).slots) (F : Nat) (κ : Mem) (v1 : Int32) (v2 : Int32) : JP Γ (qf Γ oE) (pX11_far_21 F κ v1 v2) κ 21 [(0, .ref (gad Γ 0)), (1, .int v1), (2, .int v2)] [.ref (gad Γ 0)] := by
  unfold pX11_far_21
  refine j_iconst hC (pc := 21) dX11_far_21 ki_2 ?_
  exact wX11_far_22 hC hR hm F κ v1 v2 2
set_option maxRecDepth 20000 in
theorem wX11_far {Γ : JCtx} (hC : jC Γ cX11_far 7 RX11 (some .int) layM 15) (hR : gR Γ = rmH 2) (hm : gcells Γ ≤ (gR Γ).cells ∧ gslots Γ ≤ (gR Γ).slots) (F : Nat) (κ : Mem) (v1 : Int32) (v2 : Int32) : JP Γ (qf Γ oE) (pX11_far F κ v1 v2) κ 0 [(0, .ref (gad Γ 0)), (1, .int v1), (2, .int v2)] [] := by
  unfold pX11_far
  refine j_aload_n hC (pc := 0) dX11_far_0 0 rfl rfl ?_
  refine j_aload_n hC (pc := 1) dX11_far_1 0 rfl rfl ?_
  refine j_iload_n hC (pc := 2) dX11_far_2 1 rfl rfl ?_
  refine j_callV_I hC hR (ctX11_isPlayer hC.l hC.cn κ v1) kc_RX11_164 (Nat.le_of_ble_eq_true rfl) (Nat.le_of_ble_eq_true rfl) lM_0 (Nat.le_of_ble_eq_true rfl) rfl (As := [.int v1]) (rest := [.ref (gad Γ 0)]) rfl rfl (Nat.le_of_ble_eq_true rfl) hm (pc := 3) dX11_far_3 (fun t1 => ?_)
  refine j_if_eq hC (pc := 6) dX11_far_6 (tgt := 21) rfl ?_ ?_
  · exact wX11_far_21 hC hR hm F κ v1 v2
  · refine j_aload_n hC (pc := 9) dX11_far_9 0 rfl rfl ?_
    refine j_iload_n hC (pc := 10) dX11_far_10 2 rfl rfl ?_
    refine j_callV_I hC hR (ctX11_isPlayer hC.l hC.cn κ v2) kc_RX11_164 (Nat.le_of_ble_eq_true rfl) (Nat.le_of_ble_eq_true rfl) lM_0 (Nat.le_of_ble_eq_true rfl) rfl (As := [.int v2]) (rest := [.ref (gad Γ 0)]) rfl rfl (Nat.le_of_ble_eq_true rfl) hm (pc := 11) dX11_far_11 (fun t9 => ?_)
    refine j_if_eq hC (pc := 14) dX11_far_14 (tgt := 21) rfl ?_ ?_
    · exact wX11_far_21 hC hR hm F κ v1 v2
    · refine j_iconst hC (pc := 17) dX11_far_17 ki_0 ?_
      refine j_goto hC (pc := 18) dX11_far_18 (tgt := 22) rfl ?_
      exact wX11_far_22 hC hR hm F κ v1 v2 0
theorem ctX11_far {Δ : DCtx} {l : Launch} (hl : dlay Δ = layM) (hN : dN Δ = 15) (F : Nat) (κ : Mem) (v1 : Int32) (v2 : Int32) : ∀ r, pX11_far F κ v1 v2 = some r → CT Δ l yX11_far cX11_far 7 (some .int) (rmH 2) [.ref (dad Δ 0), .int v1, .int v2] κ (some (.int r.1)) r.2 :=
  ct_of (nL := 7) (ret := (some .int)) (lay := layM) (N := 15) (by decide +kernel) (fun Δ => [.ref (dad Δ 0), .int v1, .int v2]) (fun _ => oE) (fun _ => (Nat.le_of_ble_eq_true rfl)) (fun Γ hR hm hC => wX11_far hC hR hm F κ v1 v2) Δ l hl hN
set_option maxRecDepth 20000 in
theorem wX11_along_81 {Γ : JCtx} (hC : jC Γ cX11_along 7 RX11 (some .int) layM 15) (hR : gR Γ = rmH 3) (hm : gcells Γ ≤ (gR Γ).cells ∧ gslots Γ ≤ (gR Γ).slots) (F : Nat) (κ : Mem) (v2 : Int32) (v3 : Int32) (v4 : Int32) (v5 : Int32) (v6 : Int32) (k29 : Int32 → Int32 → Option Int32) (hk29 : ∀ (v3 : Int32) (v6 : Int32), JP Γ (qf Γ (oI κ)) (k29 v3 v6) κ 29 [(0, .ref (gad Γ 0)), (2, .int v2), (3, .int v3), (4, .int v4), (5, .int v5), (6, .int v6)] []) : JP Γ (qf Γ (oI κ)) (pX11_along_81 F κ k29 v2 v3 v4 v5 v6) κ 81 [(0, .ref (gad Γ 0)), (2, .int v2), (3, .int v3), (4, .int v4), (5, .int v5), (6, .int v6)] [] := by
  unfold pX11_along_81
  refine j_iinc hC (pc := 81) dX11_along_81 5 rfl ki_1 (Nat.le_of_ble_eq_true rfl) (loc' := [(6, .int (v6 + 1)), (0, .ref (gad Γ 0)), (2, .int v2), (3, .int v3), (4, .int v4), (5, .int v5)]) rfl ?_
  refine j_goto hC (pc := 84) dX11_along_84 (tgt := 29) rfl ?_
  refine j_sub [1, 2, 3, 4, 5, 0] (loc' := [(0, .ref (gad Γ 0)), (2, .int v2), (3, .int v3), (4, .int v4), (5, .int v5), (6, .int (v6 + 1))]) rfl ?_
  exact hk29 v3 (v6 + 1)
set_option maxRecDepth 20000 in
theorem wX11_along_29 {Γ : JCtx} (hC : jC Γ cX11_along 7 RX11 (some .int) layM 15) (hR : gR Γ = rmH 3) (hm : gcells Γ ≤ (gR Γ).cells ∧ gslots Γ ≤ (gR Γ).slots) (F : Nat) (κ : Mem) (v2 : Int32) (v4 : Int32) (v5 : Int32) (k17 : Int32 → Int32 → Option Int32) (hk17 : ∀ (v3 : Int32) (v5 : Int32), JP Γ (qf Γ (oI κ)) (k17 v3 v5) κ 17 [(0, .ref (gad Γ 0)), (2, .int v2), (3, .int v3), (4, .int v4), (5, .int v5)] []) : ∀ (n : Nat) (v3 : Int32) (v6 : Int32), JP Γ (qf Γ (oI κ)) (pX11_along_29 F κ k17 v2 v4 v5 n v3 v6) κ 29 [(0, .ref (gad Γ 0)), (2, .int v2), (3, .int v3), (4, .int v4), (5, .int v5), (6, .int v6)] [] := by
  intro n
  induction n with
  | zero =>
    intro v3 v6
    rw [pX11_along_29]
    exact j_none
  | succ fu ih =>
    intro v3 v6
    rw [pX11_along_29]
    refine j_iload hC (pc := 29) dX11_along_29 5 rfl ?_
    refine j_aload_n hC (pc := 31) dX11_along_31 0 rfl rfl ?_
    refine j_callV_I hC hR (ctX11_players hC.l hC.cn κ) kc_RX11_108 (Nat.le_of_ble_eq_true rfl) (Nat.le_of_ble_eq_true rfl) lM_0 (Nat.le_of_ble_eq_true rfl) rfl (As := []) (rest := [.int v6]) rfl rfl (Nat.le_of_ble_eq_true rfl) hm (pc := 32) dX11_along_32 (fun t3 => ?_)
    refine j_icmp_ge hC (pc := 35) dX11_along_35 (tgt := 87) rfl ?_ ?_
    · refine j_iload_n hC (pc := 38) dX11_along_38 2 rfl rfl ?_
      refine j_iload hC (pc := 39) dX11_along_39 4 rfl ?_
      refine j_callS_I hC hR (ctX11_has hC.l hC.cn κ v3 v5) kc_RX11_88 (Nat.le_of_ble_eq_true rfl) (Nat.le_of_ble_eq_true rfl) (As := [.int v3, .int v5]) (rest := []) rfl rfl (Nat.le_of_ble_eq_true rfl) hm (pc := 41) dX11_along_41 (fun t4 => ?_)
      refine j_if_eq hC (pc := 44) dX11_along_44 (tgt := 81) rfl ?_ ?_
      · exact wX11_along_81 hC hR hm F κ v2 v3 v4 v5 v6 (pX11_along_29 F κ k17 v2 v4 v5 fu) ih
      · refine j_iload_n hC (pc := 47) dX11_along_47 1 rfl rfl ?_
        refine j_iload hC (pc := 48) dX11_along_48 5 rfl ?_
        refine j_callS_I hC hR (ctX11_has hC.l hC.cn κ v2 v6) kc_RX11_88 (Nat.le_of_ble_eq_true rfl) (Nat.le_of_ble_eq_true rfl) (As := [.int v2, .int v6]) (rest := []) rfl rfl (Nat.le_of_ble_eq_true rfl) hm (pc := 50) dX11_along_50 (fun t5 => ?_)
        refine j_if_eq hC (pc := 53) dX11_along_53 (tgt := 81) rfl ?_ ?_
        · exact wX11_along_81 hC hR hm F κ v2 v3 v4 v5 v6 (pX11_along_29 F κ k17 v2 v4 v5 fu) ih
        · refine j_iload hC (pc := 56) dX11_along_56 4 rfl ?_
          refine j_iload hC (pc := 58) dX11_along_58 5 rfl ?_
          refine j_icmp_eq hC (pc := 60) dX11_along_60 (tgt := 81) rfl ?_ ?_
          · exact wX11_along_81 hC hR hm F κ v2 v3 v4 v5 v6 (pX11_along_29 F κ k17 v2 v4 v5 fu) ih
          · refine j_aload_n hC (pc := 63) dX11_along_63 0 rfl rfl ?_
            refine j_iload hC (pc := 64) dX11_along_64 4 rfl ?_
            refine j_iload hC (pc := 66) dX11_along_66 5 rfl ?_
            refine j_callV_I hC hR (ctX11_isLink hC.l hC.cn κ v5 v6) kc_RX11_140 (Nat.le_of_ble_eq_true rfl) (Nat.le_of_ble_eq_true rfl) lM_0 (Nat.le_of_ble_eq_true rfl) rfl (As := [.int v5, .int v6]) (rest := []) rfl rfl (Nat.le_of_ble_eq_true rfl) hm (pc := 68) dX11_along_68 (fun t6 => ?_)
            refine j_if_eq hC (pc := 71) dX11_along_71 (tgt := 81) rfl ?_ ?_
            · exact wX11_along_81 hC hR hm F κ v2 v3 v4 v5 v6 (pX11_along_29 F κ k17 v2 v4 v5 fu) ih
            · refine j_iload_n hC (pc := 74) dX11_along_74 2 rfl rfl ?_
              refine j_iconst hC (pc := 75) dX11_along_75 ki_1 ?_
              refine j_iload hC (pc := 76) dX11_along_76 5 rfl ?_
              refine j_ishl hC (pc := 78) dX11_along_78 ?_
              refine j_ior hC (pc := 79) dX11_along_79 ?_
              refine j_nmi (fun x7 => ?_)
              refine j_istore_n hC (pc := 80) dX11_along_80 rfl (Nat.le_of_ble_eq_true rfl) (loc' := [(3, .int x7), (0, .ref (gad Γ 0)), (2, .int v2), (4, .int v4), (5, .int v5), (6, .int v6)]) rfl ?_
              refine j_sub [1, 2, 0, 3, 4, 5] (loc' := [(0, .ref (gad Γ 0)), (2, .int v2), (3, .int x7), (4, .int v4), (5, .int v5), (6, .int v6)]) rfl ?_
              exact wX11_along_81 hC hR hm F κ v2 x7 v4 v5 v6 (pX11_along_29 F κ k17 v2 v4 v5 fu) ih
    · refine j_iinc hC (pc := 87) dX11_along_87 4 rfl ki_1 (Nat.le_of_ble_eq_true rfl) (loc' := [(5, .int (v5 + 1)), (0, .ref (gad Γ 0)), (2, .int v2), (3, .int v3), (4, .int v4), (6, .int v6)]) rfl ?_
      refine j_goto hC (pc := 90) dX11_along_90 (tgt := 17) rfl ?_
      refine j_sub [1, 2, 3, 4, 0] (loc' := [(0, .ref (gad Γ 0)), (2, .int v2), (3, .int v3), (4, .int v4), (5, .int (v5 + 1))]) rfl ?_
      exact hk17 v3 (v5 + 1)
set_option maxRecDepth 20000 in
theorem wX11_along_17 {Γ : JCtx} (hC : jC Γ cX11_along 7 RX11 (some .int) layM 15) (hR : gR Γ = rmH 3) (hm : gcells Γ ≤ (gR Γ).cells ∧ gslots Γ ≤ (gR Γ).slots) (F : Nat) (κ : Mem) (v2 : Int32) (v4 : Int32) (k7 : Int32 → Int32 → Option Int32) (hk7 : ∀ (v3 : Int32) (v4 : Int32), JP Γ (qf Γ (oI κ)) (k7 v3 v4) κ 7 [(0, .ref (gad Γ 0)), (2, .int v2), (3, .int v3), (4, .int v4)] []) : ∀ (n : Nat) (v3 : Int32) (v5 : Int32), JP Γ (qf Γ (oI κ)) (pX11_along_17 F κ k7 v2 v4 n v3 v5) κ 17 [(0, .ref (gad Γ 0)), (2, .int v2), (3, .int v3), (4, .int v4), (5, .int v5)] [] := by
  intro n
  induction n with
  | zero =>
    intro v3 v5
    rw [pX11_along_17]
    exact j_none
  | succ fu ih =>
    intro v3 v5
    rw [pX11_along_17]
    refine j_iload hC (pc := 17) dX11_along_17 4 rfl ?_
    refine j_aload_n hC (pc := 19) dX11_along_19 0 rfl rfl ?_
    refine j_callV_I hC hR (ctX11_players hC.l hC.cn κ) kc_RX11_108 (Nat.le_of_ble_eq_true rfl) (Nat.le_of_ble_eq_true rfl) lM_0 (Nat.le_of_ble_eq_true rfl) rfl (As := []) (rest := [.int v5]) rfl rfl (Nat.le_of_ble_eq_true rfl) hm (pc := 20) dX11_along_20 (fun t2 => ?_)
    refine j_icmp_ge hC (pc := 23) dX11_along_23 (tgt := 93) rfl ?_ ?_
    · refine j_iconst hC (pc := 26) dX11_along_26 ki_0 ?_
      refine j_istore hC (pc := 27) dX11_along_27 (Nat.le_of_ble_eq_true rfl) (loc' := [(6, .int 0), (0, .ref (gad Γ 0)), (2, .int v2), (3, .int v3), (4, .int v4), (5, .int v5)]) rfl ?_
      refine j_sub [1, 2, 3, 4, 5, 0] (loc' := [(0, .ref (gad Γ 0)), (2, .int v2), (3, .int v3), (4, .int v4), (5, .int v5), (6, .int 0)]) rfl ?_
      exact wX11_along_29 hC hR hm F κ v2 v4 v5 (pX11_along_17 F κ k7 v2 v4 fu) ih F v3 0
    · refine j_iinc hC (pc := 93) dX11_along_93 3 rfl ki_1 (Nat.le_of_ble_eq_true rfl) (loc' := [(4, .int (v4 + 1)), (0, .ref (gad Γ 0)), (2, .int v2), (3, .int v3), (5, .int v5)]) rfl ?_
      refine j_goto hC (pc := 96) dX11_along_96 (tgt := 7) rfl ?_
      refine j_sub [1, 2, 3, 0] (loc' := [(0, .ref (gad Γ 0)), (2, .int v2), (3, .int v3), (4, .int (v4 + 1))]) rfl ?_
      exact hk7 v3 (v4 + 1)
set_option maxRecDepth 20000 in
theorem wX11_along_7 {Γ : JCtx} (hC : jC Γ cX11_along 7 RX11 (some .int) layM 15) (hR : gR Γ = rmH 3) (hm : gcells Γ ≤ (gR Γ).cells ∧ gslots Γ ≤ (gR Γ).slots) (F : Nat) (κ : Mem) (v2 : Int32) : ∀ (n : Nat) (v3 : Int32) (v4 : Int32), JP Γ (qf Γ (oI κ)) (pX11_along_7 F κ v2 n v3 v4) κ 7 [(0, .ref (gad Γ 0)), (2, .int v2), (3, .int v3), (4, .int v4)] [] := by
  intro n
  induction n with
  | zero =>
    intro v3 v4
    rw [pX11_along_7]
    exact j_none
  | succ fu ih =>
    intro v3 v4
    rw [pX11_along_7]
    refine j_iload hC (pc := 7) dX11_along_7 3 rfl ?_
    refine j_bipush hC (pc := 9) dX11_along_9 kb_6 ?_
    refine j_icmp_ge hC (pc := 11) dX11_along_11 (tgt := 99) rfl ?_ ?_
    · refine j_iconst hC (pc := 14) dX11_along_14 ki_0 ?_
      refine j_istore hC (pc := 15) dX11_along_15 (Nat.le_of_ble_eq_true rfl) (loc' := [(5, .int 0), (0, .ref (gad Γ 0)), (2, .int v2), (3, .int v3), (4, .int v4)]) rfl ?_
      refine j_sub [1, 2, 3, 4, 0] (loc' := [(0, .ref (gad Γ 0)), (2, .int v2), (3, .int v3), (4, .int v4), (5, .int 0)]) rfl ?_
      exact wX11_along_17 hC hR hm F κ v2 v4 (pX11_along_7 F κ v2 fu) ih F v3 0
    · refine j_iload_n hC (pc := 99) dX11_along_99 2 rfl rfl ?_
      exact j_iret hC (pc := 100) dX11_along_100 rfl rfl rfl
set_option maxRecDepth 20000 in
theorem wX11_along {Γ : JCtx} (hC : jC Γ cX11_along 7 RX11 (some .int) layM 15) (hR : gR Γ = rmH 3) (hm : gcells Γ ≤ (gR Γ).cells ∧ gslots Γ ≤ (gR Γ).slots) (F : Nat) (κ : Mem) (v1 : Int32) (v2 : Int32) : JP Γ (qf Γ (oI κ)) (pX11_along F κ v1 v2) κ 0 [(0, .ref (gad Γ 0)), (1, .int v1), (2, .int v2)] [] := by
  unfold pX11_along
  refine j_iconst hC (pc := 0) dX11_along_0 ki_1 ?_
  refine j_iload_n hC (pc := 1) dX11_along_1 1 rfl rfl ?_
  refine j_ishl hC (pc := 2) dX11_along_2 ?_
  refine j_nmi (fun x1 => ?_)
  refine j_istore_n hC (pc := 3) dX11_along_3 rfl (Nat.le_of_ble_eq_true rfl) (loc' := [(3, .int x1), (0, .ref (gad Γ 0)), (1, .int v1), (2, .int v2)]) rfl ?_
  refine j_iconst hC (pc := 4) dX11_along_4 ki_0 ?_
  refine j_istore hC (pc := 5) dX11_along_5 (Nat.le_of_ble_eq_true rfl) (loc' := [(4, .int 0), (3, .int x1), (0, .ref (gad Γ 0)), (1, .int v1), (2, .int v2)]) rfl ?_
  refine j_sub [2, 4, 1, 0] (loc' := [(0, .ref (gad Γ 0)), (2, .int v2), (3, .int x1), (4, .int 0)]) rfl ?_
  exact wX11_along_7 hC hR hm F κ v2 F x1 0
theorem ctX11_along {Δ : DCtx} {l : Launch} (hl : dlay Δ = layM) (hN : dN Δ = 15) (F : Nat) (κ : Mem) (v1 : Int32) (v2 : Int32) : ∀ r, pX11_along F κ v1 v2 = some r → CT Δ l yX11_along cX11_along 7 (some .int) (rmH 3) [.ref (dad Δ 0), .int v1, .int v2] κ (some (.int r)) κ :=
  ct_of (nL := 7) (ret := (some .int)) (lay := layM) (N := 15) (by decide +kernel) (fun Δ => [.ref (dad Δ 0), .int v1, .int v2]) (fun _ => oI κ) (fun _ => (Nat.le_of_ble_eq_true rfl)) (fun Γ hR hm hC => wX11_along hC hR hm F κ v1 v2) Δ l hl hN
set_option maxRecDepth 20000 in
theorem wX11_part_33 {Γ : JCtx} (hC : jC Γ cX11_part 2 RX11 (some .int) layM 15) (hR : gR Γ = rmH 4) (hm : gcells Γ ≤ (gR Γ).cells ∧ gslots Γ ≤ (gR Γ).slots) (F : Nat) (κ : Mem) (y0 : Int32) : JP Γ (qf Γ oE) (pX11_part_33 F κ y0) κ 33 [] [.int y0] := by
  unfold pX11_part_33
  exact j_iret hC (pc := 33) dX11_part_33 rfl rfl rfl
set_option maxRecDepth 20000 in
theorem wX11_part_14 {Γ : JCtx} (hC : jC Γ cX11_part 2 RX11 (some .int) layM 15) (hR : gR Γ = rmH 4) (hm : gcells Γ ≤ (gR Γ).cells ∧ gslots Γ ≤ (gR Γ).slots) (F : Nat) (κ : Mem) (v1 : Int32) (y0 : Int32) : JP Γ (qf Γ oE) (pX11_part_14 F κ v1 y0) κ 14 [(0, .ref (gad Γ 0)), (1, .int v1)] [.int y0, .ref (gad Γ 0)] := by
  unfold pX11_part_14
  refine j_callV_E hC hR (ctX11_is hC.l hC.cn κ y0) kc_RX11_145 (Nat.le_of_ble_eq_true rfl) (Nat.le_of_ble_eq_true rfl) lM_0 (Nat.le_of_ble_eq_true rfl) rfl (As := [.int y0]) (rest := []) rfl rfl (Nat.le_of_ble_eq_true rfl) hm (pc := 14) dX11_part_14 (fun t2 => ?_)
  refine j_if_eq hC (pc := 17) dX11_part_17 (tgt := 32) rfl ?_ ?_
  · refine j_iconst hC (pc := 32) dX11_part_32 ki_m1 ?_
    refine j_sub [] (loc' := []) rfl ?_
    exact wX11_part_33 hC hR hm F t2.2 (-1)
  · refine j_aload_n hC (pc := 20) dX11_part_20 0 rfl rfl ?_
    refine j_iload_n hC (pc := 21) dX11_part_21 1 rfl rfl ?_
    refine j_aload_n hC (pc := 22) dX11_part_22 0 rfl rfl ?_
    refine j_callV_I hC hR (ctX11_all hC.l hC.cn t2.2) kc_RX11_96 (Nat.le_of_ble_eq_true rfl) (Nat.le_of_ble_eq_true rfl) lM_0 (Nat.le_of_ble_eq_true rfl) rfl (As := []) (rest := [.int v1, .ref (gad Γ 0)]) rfl rfl (Nat.le_of_ble_eq_true rfl) hm (pc := 23) dX11_part_23 (fun t3 => ?_)
    refine j_callV_I hC hR (ctX11_along hC.l hC.cn F t2.2 v1 t3) kc_RX11_298 (Nat.le_of_ble_eq_true rfl) (Nat.le_of_ble_eq_true rfl) lM_0 (Nat.le_of_ble_eq_true rfl) rfl (As := [.int v1, .int t3]) (rest := []) rfl rfl (Nat.le_of_ble_eq_true rfl) hm (pc := 26) dX11_part_26 (fun t4 => ?_)
    refine j_goto hC (pc := 29) dX11_part_29 (tgt := 33) rfl ?_
    refine j_sub [] (loc' := []) rfl ?_
    exact wX11_part_33 hC hR hm F t2.2 t4
set_option maxRecDepth 20000 in
theorem wX11_part {Γ : JCtx} (hC : jC Γ cX11_part 2 RX11 (some .int) layM 15) (hR : gR Γ = rmH 4) (hm : gcells Γ ≤ (gR Γ).cells ∧ gslots Γ ≤ (gR Γ).slots) (F : Nat) (κ : Mem) (v1 : Int32) : JP Γ (qf Γ oE) (pX11_part F κ v1) κ 0 [(0, .ref (gad Γ 0)), (1, .int v1)] [] := by
  unfold pX11_part
  refine j_aload_n hC (pc := 0) dX11_part_0 0 rfl rfl ?_
  refine j_aload_n hC (pc := 1) dX11_part_1 0 rfl rfl ?_
  refine j_iload_n hC (pc := 2) dX11_part_2 1 rfl rfl ?_
  refine j_callV_I hC hR (ctX11_isPlayer hC.l hC.cn κ v1) kc_RX11_164 (Nat.le_of_ble_eq_true rfl) (Nat.le_of_ble_eq_true rfl) lM_0 (Nat.le_of_ble_eq_true rfl) rfl (As := [.int v1]) (rest := [.ref (gad Γ 0)]) rfl rfl (Nat.le_of_ble_eq_true rfl) hm (pc := 3) dX11_part_3 (fun t1 => ?_)
  refine j_if_eq hC (pc := 6) dX11_part_6 (tgt := 13) rfl ?_ ?_
  · refine j_iconst hC (pc := 13) dX11_part_13 ki_2 ?_
    exact wX11_part_14 hC hR hm F κ v1 2
  · refine j_iconst hC (pc := 9) dX11_part_9 ki_0 ?_
    refine j_goto hC (pc := 10) dX11_part_10 (tgt := 14) rfl ?_
    exact wX11_part_14 hC hR hm F κ v1 0
theorem ctX11_part {Δ : DCtx} {l : Launch} (hl : dlay Δ = layM) (hN : dN Δ = 15) (F : Nat) (κ : Mem) (v1 : Int32) : ∀ r, pX11_part F κ v1 = some r → CT Δ l yX11_part cX11_part 2 (some .int) (rmH 4) [.ref (dad Δ 0), .int v1] κ (some (.int r.1)) r.2 :=
  ct_of (nL := 2) (ret := (some .int)) (lay := layM) (N := 15) (by decide +kernel) (fun Δ => [.ref (dad Δ 0), .int v1]) (fun _ => oE) (fun _ => (Nat.le_of_ble_eq_true rfl)) (fun Γ hR hm hC => wX11_part hC hR hm F κ v1) Δ l hl hN
set_option maxRecDepth 20000 in
theorem wX11_isRing_64 {Γ : JCtx} (hC : jC Γ cX11_isRing 4 RX11 (some .boolean) layM 15) (hR : gR Γ = rmH 4) (hm : gcells Γ ≤ (gR Γ).cells ∧ gslots Γ ≤ (gR Γ).slots) (F : Nat) (κ : Mem) (v1 : Int32) (v2 : Int32) (v3 : Int32) (k28 : Int32 → Option Int32) (hk28 : ∀ (v3 : Int32), JP Γ (qf Γ (oI κ)) (k28 v3) κ 28 [(0, .ref (gad Γ 0)), (1, .int v1), (2, .int v2), (3, .int v3)] []) : JP Γ (qf Γ (oI κ)) (pX11_isRing_64 F κ k28 v1 v2 v3) κ 64 [(0, .ref (gad Γ 0)), (1, .int v1), (2, .int v2), (3, .int v3)] [] := by
  unfold pX11_isRing_64
  refine j_iinc hC (pc := 64) dX11_isRing_64 3 rfl ki_1 (Nat.le_of_ble_eq_true rfl) (loc' := [(3, .int (v3 + 1)), (0, .ref (gad Γ 0)), (1, .int v1), (2, .int v2)]) rfl ?_
  refine j_goto hC (pc := 67) dX11_isRing_67 (tgt := 28) rfl ?_
  refine j_sub [1, 2, 3, 0] (loc' := [(0, .ref (gad Γ 0)), (1, .int v1), (2, .int v2), (3, .int (v3 + 1))]) rfl ?_
  exact hk28 (v3 + 1)
set_option maxRecDepth 20000 in
theorem wX11_isRing_85 {Γ : JCtx} (hC : jC Γ cX11_isRing 4 RX11 (some .boolean) layM 15) (hR : gR Γ = rmH 4) (hm : gcells Γ ≤ (gR Γ).cells ∧ gslots Γ ≤ (gR Γ).slots) (F : Nat) (κ : Mem) (y0 : Int32) : JP Γ (qf Γ (oI κ)) (pX11_isRing_85 F κ y0) κ 85 [] [.int y0] := by
  unfold pX11_isRing_85
  refine j_ckP (fun hq7 => ?_)
  exact j_iret hC (pc := 85) dX11_isRing_85 rfl (isB_n hq7) rfl
set_option maxRecDepth 20000 in
theorem wX11_isRing_28 {Γ : JCtx} (hC : jC Γ cX11_isRing 4 RX11 (some .boolean) layM 15) (hR : gR Γ = rmH 4) (hm : gcells Γ ≤ (gR Γ).cells ∧ gslots Γ ≤ (gR Γ).slots) (F : Nat) (κ : Mem) (v1 : Int32) (v2 : Int32) : ∀ (n : Nat) (v3 : Int32), JP Γ (qf Γ (oI κ)) (pX11_isRing_28 F κ v1 v2 n v3) κ 28 [(0, .ref (gad Γ 0)), (1, .int v1), (2, .int v2), (3, .int v3)] [] := by
  intro n
  induction n with
  | zero =>
    intro v3
    rw [pX11_isRing_28]
    exact j_none
  | succ fu ih =>
    intro v3
    rw [pX11_isRing_28]
    refine j_iload_n hC (pc := 28) dX11_isRing_28 3 rfl rfl ?_
    refine j_aload_n hC (pc := 29) dX11_isRing_29 0 rfl rfl ?_
    refine j_callV_I hC hR (ctX11_players hC.l hC.cn κ) kc_RX11_108 (Nat.le_of_ble_eq_true rfl) (Nat.le_of_ble_eq_true rfl) lM_0 (Nat.le_of_ble_eq_true rfl) rfl (As := []) (rest := [.int v3]) rfl rfl (Nat.le_of_ble_eq_true rfl) hm (pc := 30) dX11_isRing_30 (fun t3 => ?_)
    refine j_icmp_ge hC (pc := 33) dX11_isRing_33 (tgt := 70) rfl ?_ ?_
    · refine j_iload_n hC (pc := 36) dX11_isRing_36 1 rfl rfl ?_
      refine j_iload_n hC (pc := 37) dX11_isRing_37 3 rfl rfl ?_
      refine j_callS_I hC hR (ctX11_has hC.l hC.cn κ v1 v3) kc_RX11_88 (Nat.le_of_ble_eq_true rfl) (Nat.le_of_ble_eq_true rfl) (As := [.int v1, .int v3]) (rest := []) rfl rfl (Nat.le_of_ble_eq_true rfl) hm (pc := 38) dX11_isRing_38 (fun t4 => ?_)
      refine j_if_eq hC (pc := 41) dX11_isRing_41 (tgt := 64) rfl ?_ ?_
      · exact wX11_isRing_64 hC hR hm F κ v1 v2 v3 (pX11_isRing_28 F κ v1 v2 fu) ih
      · refine j_aload_n hC (pc := 44) dX11_isRing_44 0 rfl rfl ?_
        refine j_getR hC (pc := 45) dX11_isRing_45 kf_RX11_7 lM_0 (Nat.le_of_ble_eq_true rfl) rfl ?_
        refine j_bipush hC (pc := 48) dX11_isRing_48 kb_7 ?_
        refine j_iload_n hC (pc := 50) dX11_isRing_50 3 rfl rfl ?_
        refine j_iadd hC (pc := 51) dX11_isRing_51 ?_
        refine j_iald hC (pc := 52) dX11_isRing_52 lM_1 (Nat.le_of_ble_eq_true rfl) ?_
        refine j_iload_n hC (pc := 53) dX11_isRing_53 1 rfl rfl ?_
        refine j_iand hC (pc := 54) dX11_isRing_54 ?_
        refine j_callS_I hC hR (ctX11_ones hC.l hC.cn F κ ((mi κ 1 (7 + v3).toNatClampNeg) &&& v1)) kc_RX11_149 (Nat.le_of_ble_eq_true rfl) (Nat.le_of_ble_eq_true rfl) (As := [.int ((mi κ 1 (7 + v3).toNatClampNeg) &&& v1)]) (rest := []) rfl rfl (Nat.le_of_ble_eq_true rfl) hm (pc := 55) dX11_isRing_55 (fun t5 => ?_)
        refine j_iconst hC (pc := 58) dX11_isRing_58 ki_2 ?_
        refine j_icmp_eq hC (pc := 59) dX11_isRing_59 (tgt := 64) rfl ?_ ?_
        · exact wX11_isRing_64 hC hR hm F κ v1 v2 v3 (pX11_isRing_28 F κ v1 v2 fu) ih
        · refine j_iconst hC (pc := 62) dX11_isRing_62 ki_0 ?_
          exact j_iret hC (pc := 63) dX11_isRing_63 rfl rfl rfl
    · refine j_aload_n hC (pc := 70) dX11_isRing_70 0 rfl rfl ?_
      refine j_iload_n hC (pc := 71) dX11_isRing_71 2 rfl rfl ?_
      refine j_iload_n hC (pc := 72) dX11_isRing_72 1 rfl rfl ?_
      refine j_callV_I hC hR (ctX11_along hC.l hC.cn F κ v2 v1) kc_RX11_298 (Nat.le_of_ble_eq_true rfl) (Nat.le_of_ble_eq_true rfl) lM_0 (Nat.le_of_ble_eq_true rfl) rfl (As := [.int v2, .int v1]) (rest := []) rfl rfl (Nat.le_of_ble_eq_true rfl) hm (pc := 73) dX11_isRing_73 (fun t6 => ?_)
      refine j_iload_n hC (pc := 76) dX11_isRing_76 1 rfl rfl ?_
      refine j_icmp_ne hC (pc := 77) dX11_isRing_77 (tgt := 84) rfl ?_ ?_
      · refine j_iconst hC (pc := 80) dX11_isRing_80 ki_1 ?_
        refine j_goto hC (pc := 81) dX11_isRing_81 (tgt := 85) rfl ?_
        refine j_sub [] (loc' := []) rfl ?_
        exact wX11_isRing_85 hC hR hm F κ 1
      · refine j_iconst hC (pc := 84) dX11_isRing_84 ki_0 ?_
        refine j_sub [] (loc' := []) rfl ?_
        exact wX11_isRing_85 hC hR hm F κ 0
set_option maxRecDepth 20000 in
theorem wX11_isRing_12 {Γ : JCtx} (hC : jC Γ cX11_isRing 4 RX11 (some .boolean) layM 15) (hR : gR Γ = rmH 4) (hm : gcells Γ ≤ (gR Γ).cells ∧ gslots Γ ≤ (gR Γ).slots) (F : Nat) (κ : Mem) (v1 : Int32) : ∀ (n : Nat) (v2 : Int32), JP Γ (qf Γ (oI κ)) (pX11_isRing_12 F κ v1 n v2) κ 12 [(0, .ref (gad Γ 0)), (1, .int v1), (2, .int v2)] [] := by
  intro n
  induction n with
  | zero =>
    intro v2
    rw [pX11_isRing_12]
    exact j_none
  | succ fu ih =>
    intro v2
    rw [pX11_isRing_12]
    refine j_iload_n hC (pc := 12) dX11_isRing_12 1 rfl rfl ?_
    refine j_iload_n hC (pc := 13) dX11_isRing_13 2 rfl rfl ?_
    refine j_callS_I hC hR (ctX11_has hC.l hC.cn κ v1 v2) kc_RX11_88 (Nat.le_of_ble_eq_true rfl) (Nat.le_of_ble_eq_true rfl) (As := [.int v1, .int v2]) (rest := []) rfl rfl (Nat.le_of_ble_eq_true rfl) hm (pc := 14) dX11_isRing_14 (fun t2 => ?_)
    refine j_if_ne hC (pc := 17) dX11_isRing_17 (tgt := 26) rfl ?_ ?_
    · refine j_iinc hC (pc := 20) dX11_isRing_20 2 rfl ki_1 (Nat.le_of_ble_eq_true rfl) (loc' := [(2, .int (v2 + 1)), (0, .ref (gad Γ 0)), (1, .int v1)]) rfl ?_
      refine j_goto hC (pc := 23) dX11_isRing_23 (tgt := 12) rfl ?_
      refine j_sub [1, 2, 0] (loc' := [(0, .ref (gad Γ 0)), (1, .int v1), (2, .int (v2 + 1))]) rfl ?_
      exact ih (v2 + 1)
    · refine j_iconst hC (pc := 26) dX11_isRing_26 ki_0 ?_
      refine j_istore_n hC (pc := 27) dX11_isRing_27 rfl (Nat.le_of_ble_eq_true rfl) (loc' := [(3, .int 0), (0, .ref (gad Γ 0)), (1, .int v1), (2, .int v2)]) rfl ?_
      refine j_sub [1, 2, 3, 0] (loc' := [(0, .ref (gad Γ 0)), (1, .int v1), (2, .int v2), (3, .int 0)]) rfl ?_
      exact wX11_isRing_28 hC hR hm F κ v1 v2 F 0
set_option maxRecDepth 20000 in
theorem wX11_isRing {Γ : JCtx} (hC : jC Γ cX11_isRing 4 RX11 (some .boolean) layM 15) (hR : gR Γ = rmH 4) (hm : gcells Γ ≤ (gR Γ).cells ∧ gslots Γ ≤ (gR Γ).slots) (F : Nat) (κ : Mem) (v1 : Int32) : JP Γ (qf Γ (oI κ)) (pX11_isRing F κ v1) κ 0 [(0, .ref (gad Γ 0)), (1, .int v1)] [] := by
  unfold pX11_isRing
  refine j_iload_n hC (pc := 0) dX11_isRing_0 1 rfl rfl ?_
  refine j_callS_I hC hR (ctX11_ones hC.l hC.cn F κ v1) kc_RX11_149 (Nat.le_of_ble_eq_true rfl) (Nat.le_of_ble_eq_true rfl) (As := [.int v1]) (rest := []) rfl rfl (Nat.le_of_ble_eq_true rfl) hm (pc := 1) dX11_isRing_1 (fun t1 => ?_)
  refine j_iconst hC (pc := 4) dX11_isRing_4 ki_3 ?_
  refine j_icmp_ge hC (pc := 5) dX11_isRing_5 (tgt := 10) rfl ?_ ?_
  · refine j_iconst hC (pc := 8) dX11_isRing_8 ki_0 ?_
    exact j_iret hC (pc := 9) dX11_isRing_9 rfl rfl rfl
  · refine j_iconst hC (pc := 10) dX11_isRing_10 ki_0 ?_
    refine j_istore_n hC (pc := 11) dX11_isRing_11 rfl (Nat.le_of_ble_eq_true rfl) (loc' := [(2, .int 0), (0, .ref (gad Γ 0)), (1, .int v1)]) rfl ?_
    refine j_sub [1, 2, 0] (loc' := [(0, .ref (gad Γ 0)), (1, .int v1), (2, .int 0)]) rfl ?_
    exact wX11_isRing_12 hC hR hm F κ v1 F 0
theorem ctX11_isRing {Δ : DCtx} {l : Launch} (hl : dlay Δ = layM) (hN : dN Δ = 15) (F : Nat) (κ : Mem) (v1 : Int32) : ∀ r, pX11_isRing F κ v1 = some r → CT Δ l yX11_isRing cX11_isRing 4 (some .boolean) (rmH 4) [.ref (dad Δ 0), .int v1] κ (some (.int r)) κ :=
  ct_of (nL := 4) (ret := (some .boolean)) (lay := layM) (N := 15) (by decide +kernel) (fun Δ => [.ref (dad Δ 0), .int v1]) (fun _ => oI κ) (fun _ => (Nat.le_of_ble_eq_true rfl)) (fun Γ hR hm hC => wX11_isRing hC hR hm F κ v1) Δ l hl hN
set_option maxRecDepth 20000 in
theorem wX11_hubOf_53 {Γ : JCtx} (hC : jC Γ cX11_hubOf 3 RX11 (some .int) layM 15) (hR : gR Γ = rmH 5) (hm : gcells Γ ≤ (gR Γ).cells ∧ gslots Γ ≤ (gR Γ).slots) (F : Nat) (κ : Mem) (v1 : Int32) (k11 : Int32 → Option Int32) (hk11 : ∀ (v1 : Int32), JP Γ (qf Γ (oI κ)) (k11 v1) κ 11 [(0, .ref (gad Γ 0)), (1, .int v1)] []) : JP Γ (qf Γ (oI κ)) (pX11_hubOf_53 F κ k11 v1) κ 53 [(0, .ref (gad Γ 0)), (1, .int v1)] [] := by
  unfold pX11_hubOf_53
  refine j_iinc hC (pc := 53) dX11_hubOf_53 1 rfl ki_1 (Nat.le_of_ble_eq_true rfl) (loc' := [(1, .int (v1 + 1)), (0, .ref (gad Γ 0))]) rfl ?_
  refine j_goto hC (pc := 56) dX11_hubOf_56 (tgt := 11) rfl ?_
  refine j_sub [1, 0] (loc' := [(0, .ref (gad Γ 0)), (1, .int (v1 + 1))]) rfl ?_
  exact hk11 (v1 + 1)
set_option maxRecDepth 20000 in
theorem wX11_hubOf_11 {Γ : JCtx} (hC : jC Γ cX11_hubOf 3 RX11 (some .int) layM 15) (hR : gR Γ = rmH 5) (hm : gcells Γ ≤ (gR Γ).cells ∧ gslots Γ ≤ (gR Γ).slots) (F : Nat) (κ : Mem) : ∀ (n : Nat) (v1 : Int32), JP Γ (qf Γ (oI κ)) (pX11_hubOf_11 F κ n v1) κ 11 [(0, .ref (gad Γ 0)), (1, .int v1)] [] := by
  intro n
  induction n with
  | zero =>
    intro v1
    rw [pX11_hubOf_11]
    exact j_none
  | succ fu ih =>
    intro v1
    rw [pX11_hubOf_11]
    refine j_iload_n hC (pc := 11) dX11_hubOf_11 1 rfl rfl ?_
    refine j_aload_n hC (pc := 12) dX11_hubOf_12 0 rfl rfl ?_
    refine j_callV_I hC hR (ctX11_players hC.l hC.cn κ) kc_RX11_108 (Nat.le_of_ble_eq_true rfl) (Nat.le_of_ble_eq_true rfl) lM_0 (Nat.le_of_ble_eq_true rfl) rfl (As := []) (rest := [.int v1]) rfl rfl (Nat.le_of_ble_eq_true rfl) hm (pc := 13) dX11_hubOf_13 (fun t2 => ?_)
    refine j_icmp_ge hC (pc := 16) dX11_hubOf_16 (tgt := 59) rfl ?_ ?_
    · refine j_aload_n hC (pc := 19) dX11_hubOf_19 0 rfl rfl ?_
      refine j_callV_I hC hR (ctX11_all hC.l hC.cn κ) kc_RX11_96 (Nat.le_of_ble_eq_true rfl) (Nat.le_of_ble_eq_true rfl) lM_0 (Nat.le_of_ble_eq_true rfl) rfl (As := []) (rest := []) rfl rfl (Nat.le_of_ble_eq_true rfl) hm (pc := 20) dX11_hubOf_20 (fun t3 => ?_)
      refine j_iconst hC (pc := 23) dX11_hubOf_23 ki_1 ?_
      refine j_iload_n hC (pc := 24) dX11_hubOf_24 1 rfl rfl ?_
      refine j_ishl hC (pc := 25) dX11_hubOf_25 ?_
      refine j_iconst hC (pc := 26) dX11_hubOf_26 ki_m1 ?_
      refine j_ixor hC (pc := 27) dX11_hubOf_27 ?_
      refine j_iand hC (pc := 28) dX11_hubOf_28 ?_
      refine j_nmi (fun x4 => ?_)
      refine j_istore_n hC (pc := 29) dX11_hubOf_29 rfl (Nat.le_of_ble_eq_true rfl) (loc' := [(2, .int x4), (0, .ref (gad Γ 0)), (1, .int v1)]) rfl ?_
      refine j_aload_n hC (pc := 30) dX11_hubOf_30 1 rfl rfl ?_
      refine j_getR hC (pc := 31) dX11_hubOf_31 kf_RX11_7 lM_0 (Nat.le_of_ble_eq_true rfl) rfl ?_
      refine j_bipush hC (pc := 34) dX11_hubOf_34 kb_7 ?_
      refine j_iload_n hC (pc := 36) dX11_hubOf_36 2 rfl rfl ?_
      refine j_iadd hC (pc := 37) dX11_hubOf_37 ?_
      refine j_iald hC (pc := 38) dX11_hubOf_38 lM_1 (Nat.le_of_ble_eq_true rfl) ?_
      refine j_iload_n hC (pc := 39) dX11_hubOf_39 0 rfl rfl ?_
      refine j_icmp_ne hC (pc := 40) dX11_hubOf_40 (tgt := 53) rfl ?_ ?_
      · refine j_aload_n hC (pc := 43) dX11_hubOf_43 1 rfl rfl ?_
        refine j_iload_n hC (pc := 44) dX11_hubOf_44 0 rfl rfl ?_
        refine j_callV_I hC hR (ctX11_isRing hC.l hC.cn F κ x4) kc_RX11_301 (Nat.le_of_ble_eq_true rfl) (Nat.le_of_ble_eq_true rfl) lM_0 (Nat.le_of_ble_eq_true rfl) rfl (As := [.int x4]) (rest := []) rfl rfl (Nat.le_of_ble_eq_true rfl) hm (pc := 45) dX11_hubOf_45 (fun t5 => ?_)
        refine j_if_eq hC (pc := 48) dX11_hubOf_48 (tgt := 53) rfl ?_ ?_
        · refine j_sub [1, 2] (loc' := [(0, .ref (gad Γ 0)), (1, .int v1)]) rfl ?_
          exact wX11_hubOf_53 hC hR hm F κ v1 (pX11_hubOf_11 F κ fu) ih
        · refine j_iload_n hC (pc := 51) dX11_hubOf_51 2 rfl rfl ?_
          exact j_iret hC (pc := 52) dX11_hubOf_52 rfl rfl rfl
      · refine j_sub [1, 2] (loc' := [(0, .ref (gad Γ 0)), (1, .int v1)]) rfl ?_
        exact wX11_hubOf_53 hC hR hm F κ v1 (pX11_hubOf_11 F κ fu) ih
    · refine j_iconst hC (pc := 59) dX11_hubOf_59 ki_m1 ?_
      exact j_iret hC (pc := 60) dX11_hubOf_60 rfl rfl rfl
set_option maxRecDepth 20000 in
theorem wX11_hubOf {Γ : JCtx} (hC : jC Γ cX11_hubOf 3 RX11 (some .int) layM 15) (hR : gR Γ = rmH 5) (hm : gcells Γ ≤ (gR Γ).cells ∧ gslots Γ ≤ (gR Γ).slots) (F : Nat) (κ : Mem) : JP Γ (qf Γ (oI κ)) (pX11_hubOf F κ) κ 0 [(0, .ref (gad Γ 0))] [] := by
  unfold pX11_hubOf
  refine j_aload_n hC (pc := 0) dX11_hubOf_0 0 rfl rfl ?_
  refine j_callV_I hC hR (ctX11_isMutual hC.l hC.cn F κ) kc_RX11_158 (Nat.le_of_ble_eq_true rfl) (Nat.le_of_ble_eq_true rfl) lM_0 (Nat.le_of_ble_eq_true rfl) rfl (As := []) (rest := []) rfl rfl (Nat.le_of_ble_eq_true rfl) hm (pc := 1) dX11_hubOf_1 (fun t1 => ?_)
  refine j_if_ne hC (pc := 4) dX11_hubOf_4 (tgt := 9) rfl ?_ ?_
  · refine j_iconst hC (pc := 7) dX11_hubOf_7 ki_m1 ?_
    exact j_iret hC (pc := 8) dX11_hubOf_8 rfl rfl rfl
  · refine j_iconst hC (pc := 9) dX11_hubOf_9 ki_0 ?_
    refine j_istore_n hC (pc := 10) dX11_hubOf_10 rfl (Nat.le_of_ble_eq_true rfl) (loc' := [(1, .int 0), (0, .ref (gad Γ 0))]) rfl ?_
    refine j_sub [1, 0] (loc' := [(0, .ref (gad Γ 0)), (1, .int 0)]) rfl ?_
    exact wX11_hubOf_11 hC hR hm F κ F 0
theorem ctX11_hubOf {Δ : DCtx} {l : Launch} (hl : dlay Δ = layM) (hN : dN Δ = 15) (F : Nat) (κ : Mem) : ∀ r, pX11_hubOf F κ = some r → CT Δ l yX11_hubOf cX11_hubOf 3 (some .int) (rmH 5) [.ref (dad Δ 0)] κ (some (.int r)) κ :=
  ct_of (nL := 3) (ret := (some .int)) (lay := layM) (N := 15) (by decide +kernel) (fun Δ => [.ref (dad Δ 0)]) (fun _ => oI κ) (fun _ => (Nat.le_of_ble_eq_true rfl)) (fun Γ hR hm hC => wX11_hubOf hC hR hm F κ) Δ l hl hN
set_option maxRecDepth 20000 in
theorem wX11_isTree_34 {Γ : JCtx} (hC : jC Γ cX11_isTree 1 RX11 (some .boolean) layM 15) (hR : gR Γ = rmH 4) (hm : gcells Γ ≤ (gR Γ).cells ∧ gslots Γ ≤ (gR Γ).slots) (F : Nat) (κ : Mem) (y0 : Int32) : JP Γ (qf Γ (oI κ)) (pX11_isTree_34 F κ y0) κ 34 [] [.int y0] := by
  unfold pX11_isTree_34
  refine j_ckP (fun hq6 => ?_)
  exact j_iret hC (pc := 34) dX11_isTree_34 rfl (isB_n hq6) rfl
set_option maxRecDepth 20000 in
theorem wX11_isTree_33 {Γ : JCtx} (hC : jC Γ cX11_isTree 1 RX11 (some .boolean) layM 15) (hR : gR Γ = rmH 4) (hm : gcells Γ ≤ (gR Γ).cells ∧ gslots Γ ≤ (gR Γ).slots) (F : Nat) (κ : Mem) : JP Γ (qf Γ (oI κ)) (pX11_isTree_33 F κ) κ 33 [] [] := by
  unfold pX11_isTree_33
  refine j_iconst hC (pc := 33) dX11_isTree_33 ki_0 ?_
  exact wX11_isTree_34 hC hR hm F κ 0
set_option maxRecDepth 20000 in
theorem wX11_isTree {Γ : JCtx} (hC : jC Γ cX11_isTree 1 RX11 (some .boolean) layM 15) (hR : gR Γ = rmH 4) (hm : gcells Γ ≤ (gR Γ).cells ∧ gslots Γ ≤ (gR Γ).slots) (F : Nat) (κ : Mem) : JP Γ (qf Γ (oI κ)) (pX11_isTree F κ) κ 0 [(0, .ref (gad Γ 0))] [] := by
  unfold pX11_isTree
  refine j_aload_n hC (pc := 0) dX11_isTree_0 0 rfl rfl ?_
  refine j_iconst hC (pc := 1) dX11_isTree_1 ki_0 ?_
  refine j_aload_n hC (pc := 2) dX11_isTree_2 0 rfl rfl ?_
  refine j_callV_I hC hR (ctX11_all hC.l hC.cn κ) kc_RX11_96 (Nat.le_of_ble_eq_true rfl) (Nat.le_of_ble_eq_true rfl) lM_0 (Nat.le_of_ble_eq_true rfl) rfl (As := []) (rest := [.int 0, .ref (gad Γ 0)]) rfl rfl (Nat.le_of_ble_eq_true rfl) hm (pc := 3) dX11_isTree_3 (fun t1 => ?_)
  refine j_callV_I hC hR (ctX11_along hC.l hC.cn F κ 0 t1) kc_RX11_298 (Nat.le_of_ble_eq_true rfl) (Nat.le_of_ble_eq_true rfl) lM_0 (Nat.le_of_ble_eq_true rfl) rfl (As := [.int 0, .int t1]) (rest := []) rfl rfl (Nat.le_of_ble_eq_true rfl) hm (pc := 6) dX11_isTree_6 (fun t2 => ?_)
  refine j_aload_n hC (pc := 9) dX11_isTree_9 0 rfl rfl ?_
  refine j_callV_I hC hR (ctX11_all hC.l hC.cn κ) kc_RX11_96 (Nat.le_of_ble_eq_true rfl) (Nat.le_of_ble_eq_true rfl) lM_0 (Nat.le_of_ble_eq_true rfl) rfl (As := []) (rest := [.int t2]) rfl rfl (Nat.le_of_ble_eq_true rfl) hm (pc := 10) dX11_isTree_10 (fun t3 => ?_)
  refine j_icmp_ne hC (pc := 13) dX11_isTree_13 (tgt := 33) rfl ?_ ?_
  · refine j_aload_n hC (pc := 16) dX11_isTree_16 0 rfl rfl ?_
    refine j_callV_I hC hR (ctX11_links hC.l hC.cn F κ) kc_RX11_152 (Nat.le_of_ble_eq_true rfl) (Nat.le_of_ble_eq_true rfl) lM_0 (Nat.le_of_ble_eq_true rfl) rfl (As := []) (rest := []) rfl rfl (Nat.le_of_ble_eq_true rfl) hm (pc := 17) dX11_isTree_17 (fun t4 => ?_)
    refine j_aload_n hC (pc := 20) dX11_isTree_20 0 rfl rfl ?_
    refine j_callV_I hC hR (ctX11_players hC.l hC.cn κ) kc_RX11_108 (Nat.le_of_ble_eq_true rfl) (Nat.le_of_ble_eq_true rfl) lM_0 (Nat.le_of_ble_eq_true rfl) rfl (As := []) (rest := [.int t4]) rfl rfl (Nat.le_of_ble_eq_true rfl) hm (pc := 21) dX11_isTree_21 (fun t5 => ?_)
    refine j_iconst hC (pc := 24) dX11_isTree_24 ki_1 ?_
    refine j_isub hC (pc := 25) dX11_isTree_25 ?_
    refine j_icmp_ne hC (pc := 26) dX11_isTree_26 (tgt := 33) rfl ?_ ?_
    · refine j_iconst hC (pc := 29) dX11_isTree_29 ki_1 ?_
      refine j_goto hC (pc := 30) dX11_isTree_30 (tgt := 34) rfl ?_
      refine j_sub [] (loc' := []) rfl ?_
      exact wX11_isTree_34 hC hR hm F κ 1
    · refine j_sub [] (loc' := []) rfl ?_
      exact wX11_isTree_33 hC hR hm F κ
  · refine j_sub [] (loc' := []) rfl ?_
    exact wX11_isTree_33 hC hR hm F κ
theorem ctX11_isTree {Δ : DCtx} {l : Launch} (hl : dlay Δ = layM) (hN : dN Δ = 15) (F : Nat) (κ : Mem) : ∀ r, pX11_isTree F κ = some r → CT Δ l yX11_isTree cX11_isTree 1 (some .boolean) (rmH 4) [.ref (dad Δ 0)] κ (some (.int r)) κ :=
  ct_of (nL := 1) (ret := (some .boolean)) (lay := layM) (N := 15) (by decide +kernel) (fun Δ => [.ref (dad Δ 0)]) (fun _ => oI κ) (fun _ => (Nat.le_of_ble_eq_true rfl)) (fun Γ hR hm hC => wX11_isTree hC hR hm F κ) Δ l hl hN
set_option maxRecDepth 20000 in
theorem wX11_shape_89 {Γ : JCtx} (hC : jC Γ cX11_shape 1 RX11 (some .int) layM 15) (hR : gR Γ = rmH 6) (hm : gcells Γ ≤ (gR Γ).cells ∧ gslots Γ ≤ (gR Γ).slots) (F : Nat) (κ : Mem) (y0 : Int32) : JP Γ (qf Γ oE) (pX11_shape_89 F κ y0) κ 89 [] [.int y0] := by
  unfold pX11_shape_89
  exact j_iret hC (pc := 89) dX11_shape_89 rfl rfl rfl
set_option maxRecDepth 20000 in
theorem wX11_shape_51 {Γ : JCtx} (hC : jC Γ cX11_shape 1 RX11 (some .int) layM 15) (hR : gR Γ = rmH 6) (hm : gcells Γ ≤ (gR Γ).cells ∧ gslots Γ ≤ (gR Γ).slots) (F : Nat) (κ : Mem) : JP Γ (qf Γ oE) (pX11_shape_51 F κ) κ 51 [(0, .ref (gad Γ 0))] [] := by
  unfold pX11_shape_51
  refine j_aload_n hC (pc := 51) dX11_shape_51 0 rfl rfl ?_
  refine j_callV_I hC hR (ctX11_hubOf hC.l hC.cn F κ) kc_RX11_304 (Nat.le_of_ble_eq_true rfl) (Nat.le_of_ble_eq_true rfl) lM_0 (Nat.le_of_ble_eq_true rfl) rfl (As := []) (rest := []) rfl rfl (Nat.le_of_ble_eq_true rfl) hm (pc := 52) dX11_shape_52 (fun t5 => ?_)
  refine j_if_lt hC (pc := 55) dX11_shape_55 (tgt := 62) rfl ?_ ?_
  · refine j_aload_n hC (pc := 62) dX11_shape_62 0 rfl rfl ?_
    refine j_aload_n hC (pc := 63) dX11_shape_63 0 rfl rfl ?_
    refine j_callV_I hC hR (ctX11_all hC.l hC.cn κ) kc_RX11_96 (Nat.le_of_ble_eq_true rfl) (Nat.le_of_ble_eq_true rfl) lM_0 (Nat.le_of_ble_eq_true rfl) rfl (As := []) (rest := [.ref (gad Γ 0)]) rfl rfl (Nat.le_of_ble_eq_true rfl) hm (pc := 64) dX11_shape_64 (fun t6 => ?_)
    refine j_callV_I hC hR (ctX11_isRing hC.l hC.cn F κ t6) kc_RX11_301 (Nat.le_of_ble_eq_true rfl) (Nat.le_of_ble_eq_true rfl) lM_0 (Nat.le_of_ble_eq_true rfl) rfl (As := [.int t6]) (rest := []) rfl rfl (Nat.le_of_ble_eq_true rfl) hm (pc := 67) dX11_shape_67 (fun t7 => ?_)
    refine j_if_eq hC (pc := 70) dX11_shape_70 (tgt := 77) rfl ?_ ?_
    · refine j_aload_n hC (pc := 77) dX11_shape_77 0 rfl rfl ?_
      refine j_callV_I hC hR (ctX11_isTree hC.l hC.cn F κ) kc_RX11_307 (Nat.le_of_ble_eq_true rfl) (Nat.le_of_ble_eq_true rfl) lM_0 (Nat.le_of_ble_eq_true rfl) rfl (As := []) (rest := []) rfl rfl (Nat.le_of_ble_eq_true rfl) hm (pc := 78) dX11_shape_78 (fun t8 => ?_)
      refine j_if_eq hC (pc := 81) dX11_shape_81 (tgt := 88) rfl ?_ ?_
      · refine j_iconst hC (pc := 88) dX11_shape_88 ki_0 ?_
        refine j_sub [] (loc' := []) rfl ?_
        exact wX11_shape_89 hC hR hm F κ 0
      · refine j_iconst hC (pc := 84) dX11_shape_84 ki_1 ?_
        refine j_goto hC (pc := 85) dX11_shape_85 (tgt := 89) rfl ?_
        refine j_sub [] (loc' := []) rfl ?_
        exact wX11_shape_89 hC hR hm F κ 1
    · refine j_iconst hC (pc := 73) dX11_shape_73 ki_2 ?_
      refine j_goto hC (pc := 74) dX11_shape_74 (tgt := 89) rfl ?_
      refine j_sub [] (loc' := []) rfl ?_
      exact wX11_shape_89 hC hR hm F κ 2
  · refine j_iconst hC (pc := 58) dX11_shape_58 ki_3 ?_
    refine j_goto hC (pc := 59) dX11_shape_59 (tgt := 89) rfl ?_
    refine j_sub [] (loc' := []) rfl ?_
    exact wX11_shape_89 hC hR hm F κ 3
set_option maxRecDepth 20000 in
theorem wX11_shape_13 {Γ : JCtx} (hC : jC Γ cX11_shape 1 RX11 (some .int) layM 15) (hR : gR Γ = rmH 6) (hm : gcells Γ ≤ (gR Γ).cells ∧ gslots Γ ≤ (gR Γ).slots) (F : Nat) (κ : Mem) (y0 : Int32) : JP Γ (qf Γ oE) (pX11_shape_13 F κ y0) κ 13 [(0, .ref (gad Γ 0))] [.int y0, .ref (gad Γ 0)] := by
  unfold pX11_shape_13
  refine j_callV_E hC hR (ctX11_is hC.l hC.cn κ y0) kc_RX11_145 (Nat.le_of_ble_eq_true rfl) (Nat.le_of_ble_eq_true rfl) lM_0 (Nat.le_of_ble_eq_true rfl) rfl (As := [.int y0]) (rest := []) rfl rfl (Nat.le_of_ble_eq_true rfl) hm (pc := 13) dX11_shape_13 (fun t2 => ?_)
  refine j_if_ne hC (pc := 16) dX11_shape_16 (tgt := 21) rfl ?_ ?_
  · refine j_iconst hC (pc := 19) dX11_shape_19 ki_m1 ?_
    exact j_iret hC (pc := 20) dX11_shape_20 rfl rfl rfl
  · refine j_aload_n hC (pc := 21) dX11_shape_21 0 rfl rfl ?_
    refine j_callV_I hC hR (ctX11_isMutual hC.l hC.cn F t2.2) kc_RX11_158 (Nat.le_of_ble_eq_true rfl) (Nat.le_of_ble_eq_true rfl) lM_0 (Nat.le_of_ble_eq_true rfl) rfl (As := []) (rest := []) rfl rfl (Nat.le_of_ble_eq_true rfl) hm (pc := 22) dX11_shape_22 (fun t3 => ?_)
    refine j_if_ne hC (pc := 25) dX11_shape_25 (tgt := 30) rfl ?_ ?_
    · refine j_iconst hC (pc := 28) dX11_shape_28 ki_0 ?_
      exact j_iret hC (pc := 29) dX11_shape_29 rfl rfl rfl
    · refine j_aload_n hC (pc := 30) dX11_shape_30 0 rfl rfl ?_
      refine j_callV_I hC hR (ctX11_players hC.l hC.cn t2.2) kc_RX11_108 (Nat.le_of_ble_eq_true rfl) (Nat.le_of_ble_eq_true rfl) lM_0 (Nat.le_of_ble_eq_true rfl) rfl (As := []) (rest := []) rfl rfl (Nat.le_of_ble_eq_true rfl) hm (pc := 31) dX11_shape_31 (fun t4 => ?_)
      refine j_iconst hC (pc := 34) dX11_shape_34 ki_3 ?_
      refine j_icmp_le hC (pc := 35) dX11_shape_35 (tgt := 51) rfl ?_ ?_
      · exact wX11_shape_51 hC hR hm F t2.2
      · refine j_aload_n hC (pc := 38) dX11_shape_38 0 rfl rfl ?_
        refine j_aload_n hC (pc := 39) dX11_shape_39 0 rfl rfl ?_
        refine j_callV_I hC hR (ctX11_all hC.l hC.cn t2.2) kc_RX11_96 (Nat.le_of_ble_eq_true rfl) (Nat.le_of_ble_eq_true rfl) lM_0 (Nat.le_of_ble_eq_true rfl) rfl (As := []) (rest := [.ref (gad Γ 0)]) rfl rfl (Nat.le_of_ble_eq_true rfl) hm (pc := 40) dX11_shape_40 (fun t9 => ?_)
        refine j_callV_I hC hR (ctX11_isClique hC.l hC.cn F t2.2 t9) kc_RX11_232 (Nat.le_of_ble_eq_true rfl) (Nat.le_of_ble_eq_true rfl) lM_0 (Nat.le_of_ble_eq_true rfl) rfl (As := [.int t9]) (rest := []) rfl rfl (Nat.le_of_ble_eq_true rfl) hm (pc := 43) dX11_shape_43 (fun t10 => ?_)
        refine j_if_eq hC (pc := 46) dX11_shape_46 (tgt := 51) rfl ?_ ?_
        · exact wX11_shape_51 hC hR hm F t2.2
        · refine j_iconst hC (pc := 49) dX11_shape_49 ki_4 ?_
          exact j_iret hC (pc := 50) dX11_shape_50 rfl rfl rfl
set_option maxRecDepth 20000 in
theorem wX11_shape {Γ : JCtx} (hC : jC Γ cX11_shape 1 RX11 (some .int) layM 15) (hR : gR Γ = rmH 6) (hm : gcells Γ ≤ (gR Γ).cells ∧ gslots Γ ≤ (gR Γ).slots) (F : Nat) (κ : Mem) : JP Γ (qf Γ oE) (pX11_shape F κ) κ 0 [(0, .ref (gad Γ 0))] [] := by
  unfold pX11_shape
  refine j_aload_n hC (pc := 0) dX11_shape_0 0 rfl rfl ?_
  refine j_aload_n hC (pc := 1) dX11_shape_1 0 rfl rfl ?_
  refine j_callV_I hC hR (ctX11_players hC.l hC.cn κ) kc_RX11_108 (Nat.le_of_ble_eq_true rfl) (Nat.le_of_ble_eq_true rfl) lM_0 (Nat.le_of_ble_eq_true rfl) rfl (As := []) (rest := [.ref (gad Γ 0)]) rfl rfl (Nat.le_of_ble_eq_true rfl) hm (pc := 2) dX11_shape_2 (fun t1 => ?_)
  refine j_if_ne hC (pc := 5) dX11_shape_5 (tgt := 12) rfl ?_ ?_
  · refine j_iconst hC (pc := 8) dX11_shape_8 ki_5 ?_
    refine j_goto hC (pc := 9) dX11_shape_9 (tgt := 13) rfl ?_
    exact wX11_shape_13 hC hR hm F κ 5
  · refine j_iconst hC (pc := 12) dX11_shape_12 ki_0 ?_
    exact wX11_shape_13 hC hR hm F κ 0
theorem ctX11_shape {Δ : DCtx} {l : Launch} (hl : dlay Δ = layM) (hN : dN Δ = 15) (F : Nat) (κ : Mem) : ∀ r, pX11_shape F κ = some r → CT Δ l yX11_shape cX11_shape 1 (some .int) (rmH 6) [.ref (dad Δ 0)] κ (some (.int r.1)) r.2 :=
  ct_of (nL := 1) (ret := (some .int)) (lay := layM) (N := 15) (by decide +kernel) (fun Δ => [.ref (dad Δ 0)]) (fun _ => oE) (fun _ => (Nat.le_of_ble_eq_true rfl)) (fun Γ hR hm hC => wX11_shape hC hR hm F κ) Δ l hl hN
set_option maxRecDepth 20000 in
theorem wX11_hub_28 {Γ : JCtx} (hC : jC Γ cX11_hub 2 RX11 (some .int) layM 15) (hR : gR Γ = rmH 6) (hm : gcells Γ ≤ (gR Γ).cells ∧ gslots Γ ≤ (gR Γ).slots) (F : Nat) (κ : Mem) (y0 : Int32) : JP Γ (qf Γ oE) (pX11_hub_28 F κ y0) κ 28 [] [.int y0] := by
  unfold pX11_hub_28
  exact j_iret hC (pc := 28) dX11_hub_28 rfl rfl rfl
set_option maxRecDepth 20000 in
theorem wX11_hub {Γ : JCtx} (hC : jC Γ cX11_hub 2 RX11 (some .int) layM 15) (hR : gR Γ = rmH 6) (hm : gcells Γ ≤ (gR Γ).cells ∧ gslots Γ ≤ (gR Γ).slots) (F : Nat) (κ : Mem) : JP Γ (qf Γ oE) (pX11_hub F κ) κ 0 [(0, .ref (gad Γ 0))] [] := by
  unfold pX11_hub
  refine j_aload_n hC (pc := 0) dX11_hub_0 0 rfl rfl ?_
  refine j_iconst hC (pc := 1) dX11_hub_1 ki_0 ?_
  refine j_callV_E hC hR (ctX11_is hC.l hC.cn κ 0) kc_RX11_145 (Nat.le_of_ble_eq_true rfl) (Nat.le_of_ble_eq_true rfl) lM_0 (Nat.le_of_ble_eq_true rfl) rfl (As := [.int 0]) (rest := []) rfl rfl (Nat.le_of_ble_eq_true rfl) hm (pc := 2) dX11_hub_2 (fun t1 => ?_)
  refine j_if_ne hC (pc := 5) dX11_hub_5 (tgt := 10) rfl ?_ ?_
  · refine j_iconst hC (pc := 8) dX11_hub_8 ki_m1 ?_
    exact j_iret hC (pc := 9) dX11_hub_9 rfl rfl rfl
  · refine j_aload_n hC (pc := 10) dX11_hub_10 0 rfl rfl ?_
    refine j_callV_I hC hR (ctX11_hubOf hC.l hC.cn F t1.2) kc_RX11_304 (Nat.le_of_ble_eq_true rfl) (Nat.le_of_ble_eq_true rfl) lM_0 (Nat.le_of_ble_eq_true rfl) rfl (As := []) (rest := []) rfl rfl (Nat.le_of_ble_eq_true rfl) hm (pc := 11) dX11_hub_11 (fun t2 => ?_)
    refine j_istore_n hC (pc := 14) dX11_hub_14 rfl (Nat.le_of_ble_eq_true rfl) (loc' := [(1, .int t2), (0, .ref (gad Γ 0))]) rfl ?_
    refine j_iload_n hC (pc := 15) dX11_hub_15 0 rfl rfl ?_
    refine j_if_ge hC (pc := 16) dX11_hub_16 (tgt := 27) rfl ?_ ?_
    · refine j_aload_n hC (pc := 19) dX11_hub_19 1 rfl rfl ?_
      refine j_iconst hC (pc := 20) dX11_hub_20 ki_5 ?_
      refine j_callV_E hC hR (ctX11_refuse hC.l hC.cn t1.2 5) kc_RX11_195 (Nat.le_of_ble_eq_true rfl) (Nat.le_of_ble_eq_true rfl) lM_0 (Nat.le_of_ble_eq_true rfl) rfl (As := [.int 5]) (rest := []) rfl rfl (Nat.le_of_ble_eq_true rfl) hm (pc := 21) dX11_hub_21 (fun t3 => ?_)
      refine j_goto hC (pc := 24) dX11_hub_24 (tgt := 28) rfl ?_
      refine j_sub [] (loc' := []) rfl ?_
      exact wX11_hub_28 hC hR hm F t3.2 t3.1
    · refine j_iload_n hC (pc := 27) dX11_hub_27 0 rfl rfl ?_
      refine j_sub [] (loc' := []) rfl ?_
      exact wX11_hub_28 hC hR hm F t1.2 t2
theorem ctX11_hub {Δ : DCtx} {l : Launch} (hl : dlay Δ = layM) (hN : dN Δ = 15) (F : Nat) (κ : Mem) : ∀ r, pX11_hub F κ = some r → CT Δ l yX11_hub cX11_hub 2 (some .int) (rmH 6) [.ref (dad Δ 0)] κ (some (.int r.1)) r.2 :=
  ct_of (nL := 2) (ret := (some .int)) (lay := layM) (N := 15) (by decide +kernel) (fun Δ => [.ref (dad Δ 0)]) (fun _ => oE) (fun _ => (Nat.le_of_ble_eq_true rfl)) (fun Γ hR hm hC => wX11_hub hC hR hm F κ) Δ l hl hN
set_option maxRecDepth 20000 in
theorem wX11_remembers_52 {Γ : JCtx} (hC : jC Γ cX11_remembers 2 RX11 none layM 15) (hR : gR Γ = rmH 0) (hm : gcells Γ ≤ (gR Γ).cells ∧ gslots Γ ≤ (gR Γ).slots) (F : Nat) : ∀ (n : Nat) (κ : Mem) (v1 : Int32), JP Γ (qf Γ oV) (pX11_remembers_52 F n κ v1) κ 52 [(0, .ref (gad Γ 0)), (1, .int v1)] [] := by
  intro n
  induction n with
  | zero =>
    intro κ v1
    rw [pX11_remembers_52]
    exact j_none
  | succ fu ih =>
    intro κ v1
    rw [pX11_remembers_52]
    refine j_iload_n hC (pc := 52) dX11_remembers_52 1 rfl rfl ?_
    refine j_sipush hC (pc := 53) dX11_remembers_53 ks_6157 ?_
    refine j_icmp_ge hC (pc := 56) dX11_remembers_56 (tgt := 86) rfl ?_ ?_
    · refine j_aload_n hC (pc := 59) dX11_remembers_59 0 rfl rfl ?_
      refine j_getR hC (pc := 60) dX11_remembers_60 kf_RX11_17 lM_0 (Nat.le_of_ble_eq_true rfl) rfl ?_
      refine j_sipush hC (pc := 63) dX11_remembers_63 ks_6157 ?_
      refine j_aload_n hC (pc := 66) dX11_remembers_66 0 rfl rfl ?_
      refine j_getI hC (pc := 67) dX11_remembers_67 kf_RX11_155 lM_0 (Nat.le_of_ble_eq_true rfl) rfl ?_
      refine j_imul hC (pc := 70) dX11_remembers_70 ?_
      refine j_iload_n hC (pc := 71) dX11_remembers_71 1 rfl rfl ?_
      refine j_iadd hC (pc := 72) dX11_remembers_72 ?_
      refine j_aload_n hC (pc := 73) dX11_remembers_73 0 rfl rfl ?_
      refine j_getR hC (pc := 74) dX11_remembers_74 kf_RX11_7 lM_0 (Nat.le_of_ble_eq_true rfl) rfl ?_
      refine j_iload_n hC (pc := 77) dX11_remembers_77 1 rfl rfl ?_
      refine j_iald hC (pc := 78) dX11_remembers_78 lM_1 (Nat.le_of_ble_eq_true rfl) ?_
      refine j_iast hC (pc := 79) dX11_remembers_79 lM_3 (Nat.le_of_ble_eq_true rfl) (fun κ3 => ?_)
      refine j_iinc hC (pc := 80) dX11_remembers_80 1 rfl ki_1 (Nat.le_of_ble_eq_true rfl) (loc' := [(1, .int (v1 + 1)), (0, .ref (gad Γ 0))]) rfl ?_
      refine j_goto hC (pc := 83) dX11_remembers_83 (tgt := 52) rfl ?_
      refine j_sub [1, 0] (loc' := [(0, .ref (gad Γ 0)), (1, .int (v1 + 1))]) rfl ?_
      exact ih κ3 (v1 + 1)
    · refine j_aload_n hC (pc := 86) dX11_remembers_86 0 rfl rfl ?_
      refine j_dup hC (pc := 87) dX11_remembers_87 rfl ?_
      refine j_getI hC (pc := 88) dX11_remembers_88 kf_RX11_155 lM_0 (Nat.le_of_ble_eq_true rfl) rfl ?_
      refine j_iconst hC (pc := 91) dX11_remembers_91 ki_1 ?_
      refine j_iadd hC (pc := 92) dX11_remembers_92 ?_
      refine j_putI hC (pc := 93) dX11_remembers_93 kp_RX11_155 lM_0 (Nat.le_of_ble_eq_true rfl) rfl rfl rfl (fun κ4 => ?_)
      exact j_vret hC (pc := 96) dX11_remembers_96 rfl rfl
set_option maxRecDepth 20000 in
theorem wX11_remembers_50 {Γ : JCtx} (hC : jC Γ cX11_remembers 2 RX11 none layM 15) (hR : gR Γ = rmH 0) (hm : gcells Γ ≤ (gR Γ).cells ∧ gslots Γ ≤ (gR Γ).slots) (F : Nat) (κ : Mem) : JP Γ (qf Γ oV) (pX11_remembers_50 F κ) κ 50 [(0, .ref (gad Γ 0))] [] := by
  unfold pX11_remembers_50
  refine j_iconst hC (pc := 50) dX11_remembers_50 ki_0 ?_
  refine j_istore_n hC (pc := 51) dX11_remembers_51 rfl (Nat.le_of_ble_eq_true rfl) (loc' := [(1, .int 0), (0, .ref (gad Γ 0))]) rfl ?_
  refine j_sub [1, 0] (loc' := [(0, .ref (gad Γ 0)), (1, .int 0)]) rfl ?_
  exact wX11_remembers_52 hC hR hm F F κ 0
set_option maxRecDepth 20000 in
theorem wX11_remembers_11 {Γ : JCtx} (hC : jC Γ cX11_remembers 2 RX11 none layM 15) (hR : gR Γ = rmH 0) (hm : gcells Γ ≤ (gR Γ).cells ∧ gslots Γ ≤ (gR Γ).slots) (F : Nat) : ∀ (n : Nat) (κ : Mem) (v1 : Int32), JP Γ (qf Γ oV) (pX11_remembers_11 F n κ v1) κ 11 [(0, .ref (gad Γ 0)), (1, .int v1)] [] := by
  intro n
  induction n with
  | zero =>
    intro κ v1
    rw [pX11_remembers_11]
    exact j_none
  | succ fu ih =>
    intro κ v1
    rw [pX11_remembers_11]
    refine j_iload_n hC (pc := 11) dX11_remembers_11 1 rfl rfl ?_
    refine j_sipush hC (pc := 12) dX11_remembers_12 ks_30785 ?_
    refine j_icmp_ge hC (pc := 15) dX11_remembers_15 (tgt := 40) rfl ?_ ?_
    · refine j_aload_n hC (pc := 18) dX11_remembers_18 0 rfl rfl ?_
      refine j_getR hC (pc := 19) dX11_remembers_19 kf_RX11_17 lM_0 (Nat.le_of_ble_eq_true rfl) rfl ?_
      refine j_iload_n hC (pc := 22) dX11_remembers_22 1 rfl rfl ?_
      refine j_aload_n hC (pc := 23) dX11_remembers_23 0 rfl rfl ?_
      refine j_getR hC (pc := 24) dX11_remembers_24 kf_RX11_17 lM_0 (Nat.le_of_ble_eq_true rfl) rfl ?_
      refine j_iload_n hC (pc := 27) dX11_remembers_27 1 rfl rfl ?_
      refine j_sipush hC (pc := 28) dX11_remembers_28 ks_6157 ?_
      refine j_iadd hC (pc := 31) dX11_remembers_31 ?_
      refine j_iald hC (pc := 32) dX11_remembers_32 lM_3 (Nat.le_of_ble_eq_true rfl) ?_
      refine j_iast hC (pc := 33) dX11_remembers_33 lM_3 (Nat.le_of_ble_eq_true rfl) (fun κ1 => ?_)
      refine j_iinc hC (pc := 34) dX11_remembers_34 1 rfl ki_1 (Nat.le_of_ble_eq_true rfl) (loc' := [(1, .int (v1 + 1)), (0, .ref (gad Γ 0))]) rfl ?_
      refine j_goto hC (pc := 37) dX11_remembers_37 (tgt := 11) rfl ?_
      refine j_sub [1, 0] (loc' := [(0, .ref (gad Γ 0)), (1, .int (v1 + 1))]) rfl ?_
      exact ih κ1 (v1 + 1)
    · refine j_aload_n hC (pc := 40) dX11_remembers_40 0 rfl rfl ?_
      refine j_dup hC (pc := 41) dX11_remembers_41 rfl ?_
      refine j_getI hC (pc := 42) dX11_remembers_42 kf_RX11_155 lM_0 (Nat.le_of_ble_eq_true rfl) rfl ?_
      refine j_iconst hC (pc := 45) dX11_remembers_45 ki_1 ?_
      refine j_isub hC (pc := 46) dX11_remembers_46 ?_
      refine j_putI hC (pc := 47) dX11_remembers_47 kp_RX11_155 lM_0 (Nat.le_of_ble_eq_true rfl) rfl rfl rfl (fun κ2 => ?_)
      refine j_sub [0] (loc' := [(0, .ref (gad Γ 0))]) rfl ?_
      exact wX11_remembers_50 hC hR hm F κ2
set_option maxRecDepth 20000 in
theorem wX11_remembers {Γ : JCtx} (hC : jC Γ cX11_remembers 2 RX11 none layM 15) (hR : gR Γ = rmH 0) (hm : gcells Γ ≤ (gR Γ).cells ∧ gslots Γ ≤ (gR Γ).slots) (F : Nat) (κ : Mem) : JP Γ (qf Γ oV) (pX11_remembers F κ) κ 0 [(0, .ref (gad Γ 0))] [] := by
  unfold pX11_remembers
  refine j_aload_n hC (pc := 0) dX11_remembers_0 0 rfl rfl ?_
  refine j_getI hC (pc := 1) dX11_remembers_1 kf_RX11_155 lM_0 (Nat.le_of_ble_eq_true rfl) rfl ?_
  refine j_bipush hC (pc := 4) dX11_remembers_4 kb_6 ?_
  refine j_icmp_ne hC (pc := 6) dX11_remembers_6 (tgt := 50) rfl ?_ ?_
  · refine j_iconst hC (pc := 9) dX11_remembers_9 ki_0 ?_
    refine j_istore_n hC (pc := 10) dX11_remembers_10 rfl (Nat.le_of_ble_eq_true rfl) (loc' := [(1, .int 0), (0, .ref (gad Γ 0))]) rfl ?_
    refine j_sub [1, 0] (loc' := [(0, .ref (gad Γ 0)), (1, .int 0)]) rfl ?_
    exact wX11_remembers_11 hC hR hm F F κ 0
  · exact wX11_remembers_50 hC hR hm F κ
theorem ctX11_remembers {Δ : DCtx} {l : Launch} (hl : dlay Δ = layM) (hN : dN Δ = 15) (F : Nat) (κ : Mem) : ∀ r, pX11_remembers F κ = some r → CT Δ l yX11_remembers cX11_remembers 2 none (rmH 0) [.ref (dad Δ 0)] κ none r :=
  ct_of (nL := 2) (ret := none) (lay := layM) (N := 15) (by decide +kernel) (fun Δ => [.ref (dad Δ 0)]) (fun _ => oV) (fun _ => (Nat.le_of_ble_eq_true rfl)) (fun Γ hR hm hC => wX11_remembers hC hR hm F κ) Δ l hl hN
set_option maxRecDepth 20000 in
theorem wX11_set_38 {Γ : JCtx} (hC : jC Γ cX11_set 4 RX11 (some .int) layM 15) (hR : gR Γ = rmH 6) (hm : gcells Γ ≤ (gR Γ).cells ∧ gslots Γ ≤ (gR Γ).slots) (F : Nat) (κ : Mem) (v1 : Int32) (v2 : Int32) (v3 : Int32) (y0 : Int32) : JP Γ (qf Γ oE) (pX11_set_38 F κ v1 v2 v3 y0) κ 38 [(0, .ref (gad Γ 0)), (1, .int v1), (2, .int v2), (3, .int v3)] [.int y0, .ref (gad Γ 0)] := by
  unfold pX11_set_38
  refine j_callV_E hC hR (ctX11_is hC.l hC.cn κ y0) kc_RX11_145 (Nat.le_of_ble_eq_true rfl) (Nat.le_of_ble_eq_true rfl) lM_0 (Nat.le_of_ble_eq_true rfl) rfl (As := [.int y0]) (rest := []) rfl rfl (Nat.le_of_ble_eq_true rfl) hm (pc := 38) dX11_set_38 (fun t2 => ?_)
  refine j_if_ne hC (pc := 41) dX11_set_41 (tgt := 46) rfl ?_ ?_
  · refine j_iconst hC (pc := 44) dX11_set_44 ki_m1 ?_
    exact j_iret hC (pc := 45) dX11_set_45 rfl rfl rfl
  · refine j_aload_n hC (pc := 46) dX11_set_46 0 rfl rfl ?_
    refine j_callV_V hC hR (ctX11_remembers hC.l hC.cn F t2.2) kc_RX11_310 (Nat.le_of_ble_eq_true rfl) (Nat.le_of_ble_eq_true rfl) lM_0 (Nat.le_of_ble_eq_true rfl) rfl (As := []) (rest := []) rfl rfl (Nat.le_of_ble_eq_true rfl) hm (pc := 47) dX11_set_47 (fun t3 => ?_)
    refine j_aload_n hC (pc := 50) dX11_set_50 0 rfl rfl ?_
    refine j_iload_n hC (pc := 51) dX11_set_51 1 rfl rfl ?_
    refine j_iload_n hC (pc := 52) dX11_set_52 2 rfl rfl ?_
    refine j_iload_n hC (pc := 53) dX11_set_53 3 rfl rfl ?_
    refine j_callV_V hC hR (ctX11_enters hC.l hC.cn t3 v1 v2 v3) kc_RX11_244 (Nat.le_of_ble_eq_true rfl) (Nat.le_of_ble_eq_true rfl) lM_0 (Nat.le_of_ble_eq_true rfl) rfl (As := [.int v1, .int v2, .int v3]) (rest := []) rfl rfl (Nat.le_of_ble_eq_true rfl) hm (pc := 54) dX11_set_54 (fun t4 => ?_)
    refine j_aload_n hC (pc := 57) dX11_set_57 0 rfl rfl ?_
    refine j_callV_E hC hR (ctX11_lostNow hC.l hC.cn F t4) kc_RX11_214 (Nat.le_of_ble_eq_true rfl) (Nat.le_of_ble_eq_true rfl) lM_0 (Nat.le_of_ble_eq_true rfl) rfl (As := []) (rest := []) rfl rfl (Nat.le_of_ble_eq_true rfl) hm (pc := 58) dX11_set_58 (fun t5 => ?_)
    exact j_iret hC (pc := 61) dX11_set_61 rfl rfl rfl
set_option maxRecDepth 20000 in
theorem wX11_set_19 {Γ : JCtx} (hC : jC Γ cX11_set 4 RX11 (some .int) layM 15) (hR : gR Γ = rmH 6) (hm : gcells Γ ≤ (gR Γ).cells ∧ gslots Γ ≤ (gR Γ).slots) (F : Nat) (κ : Mem) (v1 : Int32) (v2 : Int32) (v3 : Int32) : JP Γ (qf Γ oE) (pX11_set_19 F κ v1 v2 v3) κ 19 [(0, .ref (gad Γ 0)), (1, .int v1), (2, .int v2), (3, .int v3)] [.ref (gad Γ 0)] := by
  unfold pX11_set_19
  refine j_iconst hC (pc := 19) dX11_set_19 ki_2 ?_
  refine j_goto hC (pc := 20) dX11_set_20 (tgt := 38) rfl ?_
  exact wX11_set_38 hC hR hm F κ v1 v2 v3 2
set_option maxRecDepth 20000 in
theorem wX11_set {Γ : JCtx} (hC : jC Γ cX11_set 4 RX11 (some .int) layM 15) (hR : gR Γ = rmH 6) (hm : gcells Γ ≤ (gR Γ).cells ∧ gslots Γ ≤ (gR Γ).slots) (F : Nat) (κ : Mem) (v1 : Int32) (v2 : Int32) (v3 : Int32) : JP Γ (qf Γ oE) (pX11_set F κ v1 v2 v3) κ 0 [(0, .ref (gad Γ 0)), (1, .int v1), (2, .int v2), (3, .int v3)] [] := by
  unfold pX11_set
  refine j_aload_n hC (pc := 0) dX11_set_0 0 rfl rfl ?_
  refine j_aload_n hC (pc := 1) dX11_set_1 0 rfl rfl ?_
  refine j_iload_n hC (pc := 2) dX11_set_2 1 rfl rfl ?_
  refine j_iload_n hC (pc := 3) dX11_set_3 2 rfl rfl ?_
  refine j_callV_I hC hR (ctX11_isSituation hC.l hC.cn F κ v1 v2) kc_RX11_176 (Nat.le_of_ble_eq_true rfl) (Nat.le_of_ble_eq_true rfl) lM_0 (Nat.le_of_ble_eq_true rfl) rfl (As := [.int v1, .int v2]) (rest := [.ref (gad Γ 0)]) rfl rfl (Nat.le_of_ble_eq_true rfl) hm (pc := 4) dX11_set_4 (fun t1 => ?_)
  refine j_if_eq hC (pc := 7) dX11_set_7 (tgt := 19) rfl ?_ ?_
  · exact wX11_set_19 hC hR hm F κ v1 v2 v3
  · refine j_aload_n hC (pc := 10) dX11_set_10 0 rfl rfl ?_
    refine j_iload_n hC (pc := 11) dX11_set_11 1 rfl rfl ?_
    refine j_iload_n hC (pc := 12) dX11_set_12 3 rfl rfl ?_
    refine j_callV_I hC hR (ctX11_isColour hC.l hC.cn κ v1 v3) kc_RX11_182 (Nat.le_of_ble_eq_true rfl) (Nat.le_of_ble_eq_true rfl) lM_0 (Nat.le_of_ble_eq_true rfl) rfl (As := [.int v1, .int v3]) (rest := [.ref (gad Γ 0)]) rfl rfl (Nat.le_of_ble_eq_true rfl) hm (pc := 13) dX11_set_13 (fun t6 => ?_)
    refine j_if_ne hC (pc := 16) dX11_set_16 (tgt := 23) rfl ?_ ?_
    · exact wX11_set_19 hC hR hm F κ v1 v2 v3
    · refine j_aload_n hC (pc := 23) dX11_set_23 0 rfl rfl ?_
      refine j_iload_n hC (pc := 24) dX11_set_24 1 rfl rfl ?_
      refine j_iload_n hC (pc := 25) dX11_set_25 2 rfl rfl ?_
      refine j_callV_I hC hR (ctX11_entry hC.l hC.cn κ v1 v2) kc_RX11_121 (Nat.le_of_ble_eq_true rfl) (Nat.le_of_ble_eq_true rfl) lM_0 (Nat.le_of_ble_eq_true rfl) rfl (As := [.int v1, .int v2]) (rest := [.ref (gad Γ 0)]) rfl rfl (Nat.le_of_ble_eq_true rfl) hm (pc := 26) dX11_set_26 (fun t7 => ?_)
      refine j_iload_n hC (pc := 29) dX11_set_29 3 rfl rfl ?_
      refine j_icmp_ne hC (pc := 30) dX11_set_30 (tgt := 37) rfl ?_ ?_
      · refine j_iconst hC (pc := 33) dX11_set_33 ki_4 ?_
        refine j_goto hC (pc := 34) dX11_set_34 (tgt := 38) rfl ?_
        exact wX11_set_38 hC hR hm F κ v1 v2 v3 4
      · refine j_iconst hC (pc := 37) dX11_set_37 ki_0 ?_
        exact wX11_set_38 hC hR hm F κ v1 v2 v3 0
theorem ctX11_set {Δ : DCtx} {l : Launch} (hl : dlay Δ = layM) (hN : dN Δ = 15) (F : Nat) (κ : Mem) (v1 : Int32) (v2 : Int32) (v3 : Int32) : ∀ r, pX11_set F κ v1 v2 v3 = some r → CT Δ l yX11_set cX11_set 4 (some .int) (rmH 6) [.ref (dad Δ 0), .int v1, .int v2, .int v3] κ (some (.int r.1)) r.2 :=
  ct_of (nL := 4) (ret := (some .int)) (lay := layM) (N := 15) (by decide +kernel) (fun Δ => [.ref (dad Δ 0), .int v1, .int v2, .int v3]) (fun _ => oE) (fun _ => (Nat.le_of_ble_eq_true rfl)) (fun Γ hR hm hC => wX11_set hC hR hm F κ v1 v2 v3) Δ l hl hN
set_option maxRecDepth 20000 in
theorem wX11_isOther_2 {Γ : JCtx} (hC : jC Γ cX11_isOther 2 RX11 (some .boolean) layM 15) (hR : gR Γ = rmH 0) (hm : gcells Γ ≤ (gR Γ).cells ∧ gslots Γ ≤ (gR Γ).slots) (F : Nat) (κ : Mem) : ∀ (n : Nat) (v1 : Int32), JP Γ (qf Γ (oI κ)) (pX11_isOther_2 F κ n v1) κ 2 [(0, .ref (gad Γ 0)), (1, .int v1)] [] := by
  intro n
  induction n with
  | zero =>
    intro v1
    rw [pX11_isOther_2]
    exact j_none
  | succ fu ih =>
    intro v1
    rw [pX11_isOther_2]
    refine j_iload_n hC (pc := 2) dX11_isOther_2 1 rfl rfl ?_
    refine j_sipush hC (pc := 3) dX11_isOther_3 ks_6157 ?_
    refine j_icmp_ge hC (pc := 6) dX11_isOther_6 (tgt := 32) rfl ?_ ?_
    · refine j_aload_n hC (pc := 9) dX11_isOther_9 0 rfl rfl ?_
      refine j_getR hC (pc := 10) dX11_isOther_10 kf_RX11_7 lM_0 (Nat.le_of_ble_eq_true rfl) rfl ?_
      refine j_iload_n hC (pc := 13) dX11_isOther_13 1 rfl rfl ?_
      refine j_iald hC (pc := 14) dX11_isOther_14 lM_1 (Nat.le_of_ble_eq_true rfl) ?_
      refine j_aload_n hC (pc := 15) dX11_isOther_15 0 rfl rfl ?_
      refine j_getR hC (pc := 16) dX11_isOther_16 kf_RX11_20 lM_0 (Nat.le_of_ble_eq_true rfl) rfl ?_
      refine j_iload_n hC (pc := 19) dX11_isOther_19 1 rfl rfl ?_
      refine j_iald hC (pc := 20) dX11_isOther_20 lM_4 (Nat.le_of_ble_eq_true rfl) ?_
      refine j_icmp_eq hC (pc := 21) dX11_isOther_21 (tgt := 26) rfl ?_ ?_
      · refine j_iinc hC (pc := 26) dX11_isOther_26 1 rfl ki_1 (Nat.le_of_ble_eq_true rfl) (loc' := [(1, .int (v1 + 1)), (0, .ref (gad Γ 0))]) rfl ?_
        refine j_goto hC (pc := 29) dX11_isOther_29 (tgt := 2) rfl ?_
        refine j_sub [1, 0] (loc' := [(0, .ref (gad Γ 0)), (1, .int (v1 + 1))]) rfl ?_
        exact ih (v1 + 1)
      · refine j_iconst hC (pc := 24) dX11_isOther_24 ki_1 ?_
        exact j_iret hC (pc := 25) dX11_isOther_25 rfl rfl rfl
    · refine j_iconst hC (pc := 32) dX11_isOther_32 ki_0 ?_
      exact j_iret hC (pc := 33) dX11_isOther_33 rfl rfl rfl
set_option maxRecDepth 20000 in
theorem wX11_isOther {Γ : JCtx} (hC : jC Γ cX11_isOther 2 RX11 (some .boolean) layM 15) (hR : gR Γ = rmH 0) (hm : gcells Γ ≤ (gR Γ).cells ∧ gslots Γ ≤ (gR Γ).slots) (F : Nat) (κ : Mem) : JP Γ (qf Γ (oI κ)) (pX11_isOther F κ) κ 0 [(0, .ref (gad Γ 0))] [] := by
  unfold pX11_isOther
  refine j_iconst hC (pc := 0) dX11_isOther_0 ki_0 ?_
  refine j_istore_n hC (pc := 1) dX11_isOther_1 rfl (Nat.le_of_ble_eq_true rfl) (loc' := [(1, .int 0), (0, .ref (gad Γ 0))]) rfl ?_
  refine j_sub [1, 0] (loc' := [(0, .ref (gad Γ 0)), (1, .int 0)]) rfl ?_
  exact wX11_isOther_2 hC hR hm F κ F 0
theorem ctX11_isOther {Δ : DCtx} {l : Launch} (hl : dlay Δ = layM) (hN : dN Δ = 15) (F : Nat) (κ : Mem) : ∀ r, pX11_isOther F κ = some r → CT Δ l yX11_isOther cX11_isOther 2 (some .boolean) (rmH 0) [.ref (dad Δ 0)] κ (some (.int r)) κ :=
  ct_of (nL := 2) (ret := (some .boolean)) (lay := layM) (N := 15) (by decide +kernel) (fun Δ => [.ref (dad Δ 0)]) (fun _ => oI κ) (fun _ => (Nat.le_of_ble_eq_true rfl)) (fun Γ hR hm hC => wX11_isOther hC hR hm F κ) Δ l hl hN
set_option maxRecDepth 20000 in
theorem wX11_isAct {Γ : JCtx} (hC : jC Γ cX11_isAct 1 RX11 none layM 15) (hR : gR Γ = rmH 1) (hm : gcells Γ ≤ (gR Γ).cells ∧ gslots Γ ≤ (gR Γ).slots) (F : Nat) (κ : Mem) : JP Γ (qf Γ oV) (pX11_isAct F κ) κ 0 [(0, .ref (gad Γ 0))] [] := by
  unfold pX11_isAct
  refine j_aload_n hC (pc := 0) dX11_isAct_0 0 rfl rfl ?_
  refine j_aload_n hC (pc := 1) dX11_isAct_1 0 rfl rfl ?_
  refine j_getR hC (pc := 2) dX11_isAct_2 kf_RX11_7 lM_0 (Nat.le_of_ble_eq_true rfl) rfl ?_
  refine j_aload_n hC (pc := 5) dX11_isAct_5 0 rfl rfl ?_
  refine j_getR hC (pc := 6) dX11_isAct_6 kf_RX11_13 lM_0 (Nat.le_of_ble_eq_true rfl) rfl ?_
  refine j_callV_V hC hR (ctX11_copies hC.l hC.cn 1 (lenM_ok lM_1) (Nat.le_of_ble_eq_true rfl) 2 (lenM_ok lM_2) (Nat.le_of_ble_eq_true rfl) F κ) kc_RX11_256 (Nat.le_of_ble_eq_true rfl) (Nat.le_of_ble_eq_true rfl) lM_0 (Nat.le_of_ble_eq_true rfl) rfl (As := [.ref (gad Γ 1), .ref (gad Γ 2)]) (rest := []) rfl rfl (Nat.le_of_ble_eq_true rfl) hm (pc := 9) dX11_isAct_9 (fun t1 => ?_)
  refine j_aload_n hC (pc := 12) dX11_isAct_12 0 rfl rfl ?_
  refine j_aload_n hC (pc := 13) dX11_isAct_13 0 rfl rfl ?_
  refine j_getR hC (pc := 14) dX11_isAct_14 kf_RX11_20 lM_0 (Nat.le_of_ble_eq_true rfl) rfl ?_
  refine j_aload_n hC (pc := 17) dX11_isAct_17 0 rfl rfl ?_
  refine j_getR hC (pc := 18) dX11_isAct_18 kf_RX11_7 lM_0 (Nat.le_of_ble_eq_true rfl) rfl ?_
  refine j_callV_V hC hR (ctX11_copies hC.l hC.cn 4 (lenM_ok lM_4) (Nat.le_of_ble_eq_true rfl) 1 (lenM_ok lM_1) (Nat.le_of_ble_eq_true rfl) F t1) kc_RX11_256 (Nat.le_of_ble_eq_true rfl) (Nat.le_of_ble_eq_true rfl) lM_0 (Nat.le_of_ble_eq_true rfl) rfl (As := [.ref (gad Γ 4), .ref (gad Γ 1)]) (rest := []) rfl rfl (Nat.le_of_ble_eq_true rfl) hm (pc := 21) dX11_isAct_21 (fun t2 => ?_)
  refine j_aload_n hC (pc := 24) dX11_isAct_24 0 rfl rfl ?_
  refine j_callV_V hC hR (ctX11_remembers hC.l hC.cn F t2) kc_RX11_310 (Nat.le_of_ble_eq_true rfl) (Nat.le_of_ble_eq_true rfl) lM_0 (Nat.le_of_ble_eq_true rfl) rfl (As := []) (rest := []) rfl rfl (Nat.le_of_ble_eq_true rfl) hm (pc := 25) dX11_isAct_25 (fun t3 => ?_)
  refine j_aload_n hC (pc := 28) dX11_isAct_28 0 rfl rfl ?_
  refine j_aload_n hC (pc := 29) dX11_isAct_29 0 rfl rfl ?_
  refine j_getR hC (pc := 30) dX11_isAct_30 kf_RX11_13 lM_0 (Nat.le_of_ble_eq_true rfl) rfl ?_
  refine j_aload_n hC (pc := 33) dX11_isAct_33 0 rfl rfl ?_
  refine j_getR hC (pc := 34) dX11_isAct_34 kf_RX11_7 lM_0 (Nat.le_of_ble_eq_true rfl) rfl ?_
  refine j_callV_V hC hR (ctX11_copies hC.l hC.cn 2 (lenM_ok lM_2) (Nat.le_of_ble_eq_true rfl) 1 (lenM_ok lM_1) (Nat.le_of_ble_eq_true rfl) F t3) kc_RX11_256 (Nat.le_of_ble_eq_true rfl) (Nat.le_of_ble_eq_true rfl) lM_0 (Nat.le_of_ble_eq_true rfl) rfl (As := [.ref (gad Γ 2), .ref (gad Γ 1)]) (rest := []) rfl rfl (Nat.le_of_ble_eq_true rfl) hm (pc := 37) dX11_isAct_37 (fun t4 => ?_)
  exact j_vret hC (pc := 40) dX11_isAct_40 rfl rfl
theorem ctX11_isAct {Δ : DCtx} {l : Launch} (hl : dlay Δ = layM) (hN : dN Δ = 15) (F : Nat) (κ : Mem) : ∀ r, pX11_isAct F κ = some r → CT Δ l yX11_isAct cX11_isAct 1 none (rmH 1) [.ref (dad Δ 0)] κ none r :=
  ct_of (nL := 1) (ret := none) (lay := layM) (N := 15) (by decide +kernel) (fun Δ => [.ref (dad Δ 0)]) (fun _ => oV) (fun _ => (Nat.le_of_ble_eq_true rfl)) (fun Γ hR hm hC => wX11_isAct hC hR hm F κ) Δ l hl hN
set_option maxRecDepth 20000 in
theorem wX11_take_14 {Γ : JCtx} (hC : jC Γ cX11_take 3 RX11 (some .int) layM 15) (hR : gR Γ = rmH 7) (hm : gcells Γ ≤ (gR Γ).cells ∧ gslots Γ ≤ (gR Γ).slots) (F : Nat) (κ : Mem) (v1 : Int32) (y0 : Int32) : JP Γ (qf Γ oE) (pX11_take_14 F κ v1 y0) κ 14 [(0, .ref (gad Γ 0)), (1, .int v1)] [.int y0, .ref (gad Γ 0)] := by
  unfold pX11_take_14
  refine j_callV_E hC hR (ctX11_is hC.l hC.cn κ y0) kc_RX11_145 (Nat.le_of_ble_eq_true rfl) (Nat.le_of_ble_eq_true rfl) lM_0 (Nat.le_of_ble_eq_true rfl) rfl (As := [.int y0]) (rest := []) rfl rfl (Nat.le_of_ble_eq_true rfl) hm (pc := 14) dX11_take_14 (fun t2 => ?_)
  refine j_if_ne hC (pc := 17) dX11_take_17 (tgt := 22) rfl ?_ ?_
  · refine j_iconst hC (pc := 20) dX11_take_20 ki_m1 ?_
    exact j_iret hC (pc := 21) dX11_take_21 rfl rfl rfl
  · refine j_aload_n hC (pc := 22) dX11_take_22 0 rfl rfl ?_
    refine j_aload_n hC (pc := 23) dX11_take_23 0 rfl rfl ?_
    refine j_getR hC (pc := 24) dX11_take_24 kf_RX11_7 lM_0 (Nat.le_of_ble_eq_true rfl) rfl ?_
    refine j_aload_n hC (pc := 27) dX11_take_27 0 rfl rfl ?_
    refine j_getR hC (pc := 28) dX11_take_28 kf_RX11_20 lM_0 (Nat.le_of_ble_eq_true rfl) rfl ?_
    refine j_callV_V hC hR (ctX11_copies hC.l hC.cn 1 (lenM_ok lM_1) (Nat.le_of_ble_eq_true rfl) 4 (lenM_ok lM_4) (Nat.le_of_ble_eq_true rfl) F t2.2) kc_RX11_256 (Nat.le_of_ble_eq_true rfl) (Nat.le_of_ble_eq_true rfl) lM_0 (Nat.le_of_ble_eq_true rfl) rfl (As := [.ref (gad Γ 1), .ref (gad Γ 4)]) (rest := []) rfl rfl (Nat.le_of_ble_eq_true rfl) hm (pc := 31) dX11_take_31 (fun t3 => ?_)
    refine j_aload_n hC (pc := 34) dX11_take_34 0 rfl rfl ?_
    refine j_iload_n hC (pc := 35) dX11_take_35 1 rfl rfl ?_
    refine j_callV_E hC hR (ctX11_takes hC.l hC.cn F t3 v1) kc_RX11_248 (Nat.le_of_ble_eq_true rfl) (Nat.le_of_ble_eq_true rfl) lM_0 (Nat.le_of_ble_eq_true rfl) rfl (As := [.int v1]) (rest := []) rfl rfl (Nat.le_of_ble_eq_true rfl) hm (pc := 36) dX11_take_36 (fun t4 => ?_)
    refine j_istore_n hC (pc := 39) dX11_take_39 rfl (Nat.le_of_ble_eq_true rfl) (loc' := [(2, .int (t4.1)), (0, .ref (gad Γ 0)), (1, .int v1)]) rfl ?_
    refine j_iload_n hC (pc := 40) dX11_take_40 0 rfl rfl ?_
    refine j_if_ne hC (pc := 41) dX11_take_41 (tgt := 50) rfl ?_ ?_
    · refine j_aload_n hC (pc := 44) dX11_take_44 1 rfl rfl ?_
      refine j_iconst hC (pc := 45) dX11_take_45 ki_4 ?_
      refine j_callV_E hC hR (ctX11_refuse hC.l hC.cn t4.2 4) kc_RX11_195 (Nat.le_of_ble_eq_true rfl) (Nat.le_of_ble_eq_true rfl) lM_0 (Nat.le_of_ble_eq_true rfl) rfl (As := [.int 4]) (rest := []) rfl rfl (Nat.le_of_ble_eq_true rfl) hm (pc := 46) dX11_take_46 (fun t5 => ?_)
      exact j_iret hC (pc := 49) dX11_take_49 rfl rfl rfl
    · refine j_aload_n hC (pc := 50) dX11_take_50 1 rfl rfl ?_
      refine j_callV_V hC hR (ctX11_isAct hC.l hC.cn F t4.2) kc_RX11_313 (Nat.le_of_ble_eq_true rfl) (Nat.le_of_ble_eq_true rfl) lM_0 (Nat.le_of_ble_eq_true rfl) rfl (As := []) (rest := []) rfl rfl (Nat.le_of_ble_eq_true rfl) hm (pc := 51) dX11_take_51 (fun t6 => ?_)
      refine j_iload_n hC (pc := 54) dX11_take_54 0 rfl rfl ?_
      exact j_iret hC (pc := 55) dX11_take_55 rfl rfl rfl
set_option maxRecDepth 20000 in
theorem wX11_take {Γ : JCtx} (hC : jC Γ cX11_take 3 RX11 (some .int) layM 15) (hR : gR Γ = rmH 7) (hm : gcells Γ ≤ (gR Γ).cells ∧ gslots Γ ≤ (gR Γ).slots) (F : Nat) (κ : Mem) (v1 : Int32) : JP Γ (qf Γ oE) (pX11_take F κ v1) κ 0 [(0, .ref (gad Γ 0)), (1, .int v1)] [] := by
  unfold pX11_take
  refine j_aload_n hC (pc := 0) dX11_take_0 0 rfl rfl ?_
  refine j_aload_n hC (pc := 1) dX11_take_1 0 rfl rfl ?_
  refine j_iload_n hC (pc := 2) dX11_take_2 1 rfl rfl ?_
  refine j_callV_I hC hR (ctX11_isPlayer hC.l hC.cn κ v1) kc_RX11_164 (Nat.le_of_ble_eq_true rfl) (Nat.le_of_ble_eq_true rfl) lM_0 (Nat.le_of_ble_eq_true rfl) rfl (As := [.int v1]) (rest := [.ref (gad Γ 0)]) rfl rfl (Nat.le_of_ble_eq_true rfl) hm (pc := 3) dX11_take_3 (fun t1 => ?_)
  refine j_if_eq hC (pc := 6) dX11_take_6 (tgt := 13) rfl ?_ ?_
  · refine j_iconst hC (pc := 13) dX11_take_13 ki_2 ?_
    exact wX11_take_14 hC hR hm F κ v1 2
  · refine j_iconst hC (pc := 9) dX11_take_9 ki_0 ?_
    refine j_goto hC (pc := 10) dX11_take_10 (tgt := 14) rfl ?_
    exact wX11_take_14 hC hR hm F κ v1 0
theorem ctX11_take {Δ : DCtx} {l : Launch} (hl : dlay Δ = layM) (hN : dN Δ = 15) (F : Nat) (κ : Mem) (v1 : Int32) : ∀ r, pX11_take F κ v1 = some r → CT Δ l yX11_take cX11_take 3 (some .int) (rmH 7) [.ref (dad Δ 0), .int v1] κ (some (.int r.1)) r.2 :=
  ct_of (nL := 3) (ret := (some .int)) (lay := layM) (N := 15) (by decide +kernel) (fun Δ => [.ref (dad Δ 0), .int v1]) (fun _ => oE) (fun _ => (Nat.le_of_ble_eq_true rfl)) (fun Γ hR hm hC => wX11_take hC hR hm F κ v1) Δ l hl hN
set_option maxRecDepth 20000 in
theorem wX11_better {Γ : JCtx} (hC : jC Γ cX11_better 2 RX11 (some .int) layM 15) (hR : gR Γ = rmH 8) (hm : gcells Γ ≤ (gR Γ).cells ∧ gslots Γ ≤ (gR Γ).slots) (F : Nat) (κ : Mem) : JP Γ (qf Γ oE) (pX11_better F κ) κ 0 [(0, .ref (gad Γ 0))] [] := by
  unfold pX11_better
  refine j_aload_n hC (pc := 0) dX11_better_0 0 rfl rfl ?_
  refine j_iconst hC (pc := 1) dX11_better_1 ki_0 ?_
  refine j_callV_E hC hR (ctX11_is hC.l hC.cn κ 0) kc_RX11_145 (Nat.le_of_ble_eq_true rfl) (Nat.le_of_ble_eq_true rfl) lM_0 (Nat.le_of_ble_eq_true rfl) rfl (As := [.int 0]) (rest := []) rfl rfl (Nat.le_of_ble_eq_true rfl) hm (pc := 2) dX11_better_2 (fun t1 => ?_)
  refine j_if_ne hC (pc := 5) dX11_better_5 (tgt := 10) rfl ?_ ?_
  · refine j_iconst hC (pc := 8) dX11_better_8 ki_m1 ?_
    exact j_iret hC (pc := 9) dX11_better_9 rfl rfl rfl
  · refine j_aload_n hC (pc := 10) dX11_better_10 0 rfl rfl ?_
    refine j_aload_n hC (pc := 11) dX11_better_11 0 rfl rfl ?_
    refine j_getR hC (pc := 12) dX11_better_12 kf_RX11_7 lM_0 (Nat.le_of_ble_eq_true rfl) rfl ?_
    refine j_aload_n hC (pc := 15) dX11_better_15 0 rfl rfl ?_
    refine j_getR hC (pc := 16) dX11_better_16 kf_RX11_20 lM_0 (Nat.le_of_ble_eq_true rfl) rfl ?_
    refine j_callV_V hC hR (ctX11_copies hC.l hC.cn 1 (lenM_ok lM_1) (Nat.le_of_ble_eq_true rfl) 4 (lenM_ok lM_4) (Nat.le_of_ble_eq_true rfl) F t1.2) kc_RX11_256 (Nat.le_of_ble_eq_true rfl) (Nat.le_of_ble_eq_true rfl) lM_0 (Nat.le_of_ble_eq_true rfl) rfl (As := [.ref (gad Γ 1), .ref (gad Γ 4)]) (rest := []) rfl rfl (Nat.le_of_ble_eq_true rfl) hm (pc := 19) dX11_better_19 (fun t2 => ?_)
    refine j_aload_n hC (pc := 22) dX11_better_22 0 rfl rfl ?_
    refine j_callV_E hC hR (ctX11_betters hC.l hC.cn F t2) kc_RX11_280 (Nat.le_of_ble_eq_true rfl) (Nat.le_of_ble_eq_true rfl) lM_0 (Nat.le_of_ble_eq_true rfl) rfl (As := []) (rest := []) rfl rfl (Nat.le_of_ble_eq_true rfl) hm (pc := 23) dX11_better_23 (fun t3 => ?_)
    refine j_istore_n hC (pc := 26) dX11_better_26 rfl (Nat.le_of_ble_eq_true rfl) (loc' := [(1, .int (t3.1)), (0, .ref (gad Γ 0))]) rfl ?_
    refine j_iload_n hC (pc := 27) dX11_better_27 0 rfl rfl ?_
    refine j_if_ne hC (pc := 28) dX11_better_28 (tgt := 37) rfl ?_ ?_
    · refine j_aload_n hC (pc := 31) dX11_better_31 1 rfl rfl ?_
      refine j_iconst hC (pc := 32) dX11_better_32 ki_4 ?_
      refine j_callV_E hC hR (ctX11_refuse hC.l hC.cn t3.2 4) kc_RX11_195 (Nat.le_of_ble_eq_true rfl) (Nat.le_of_ble_eq_true rfl) lM_0 (Nat.le_of_ble_eq_true rfl) rfl (As := [.int 4]) (rest := []) rfl rfl (Nat.le_of_ble_eq_true rfl) hm (pc := 33) dX11_better_33 (fun t4 => ?_)
      exact j_iret hC (pc := 36) dX11_better_36 rfl rfl rfl
    · refine j_aload_n hC (pc := 37) dX11_better_37 1 rfl rfl ?_
      refine j_callV_V hC hR (ctX11_isAct hC.l hC.cn F t3.2) kc_RX11_313 (Nat.le_of_ble_eq_true rfl) (Nat.le_of_ble_eq_true rfl) lM_0 (Nat.le_of_ble_eq_true rfl) rfl (As := []) (rest := []) rfl rfl (Nat.le_of_ble_eq_true rfl) hm (pc := 38) dX11_better_38 (fun t5 => ?_)
      refine j_iload_n hC (pc := 41) dX11_better_41 0 rfl rfl ?_
      exact j_iret hC (pc := 42) dX11_better_42 rfl rfl rfl
theorem ctX11_better {Δ : DCtx} {l : Launch} (hl : dlay Δ = layM) (hN : dN Δ = 15) (F : Nat) (κ : Mem) : ∀ r, pX11_better F κ = some r → CT Δ l yX11_better cX11_better 2 (some .int) (rmH 8) [.ref (dad Δ 0)] κ (some (.int r.1)) r.2 :=
  ct_of (nL := 2) (ret := (some .int)) (lay := layM) (N := 15) (by decide +kernel) (fun Δ => [.ref (dad Δ 0)]) (fun _ => oE) (fun _ => (Nat.le_of_ble_eq_true rfl)) (fun Γ hR hm hC => wX11_better hC hR hm F κ) Δ l hl hN
set_option maxRecDepth 20000 in
theorem wX11_cliqueGuess_52 {Γ : JCtx} (hC : jC Γ cX11_cliqueGuess 8 RX11 (some .int) layM 15) (hR : gR Γ = rmH 1) (hm : gcells Γ ≤ (gR Γ).cells ∧ gslots Γ ≤ (gR Γ).slots) (F : Nat) (κ : Mem) (v1 : Int32) (v2 : Int32) (v3 : Int32) (v4 : Int32) (v6 : Int32) (y0 : Int32) (y1 : Int32) (k6 : Int32 → Int32 → Option Int32) (hk6 : ∀ (v5 : Int32) (v6 : Int32), JP Γ (qf Γ (oI κ)) (k6 v5 v6) κ 6 [(0, .ref (gad Γ 0)), (1, .int v1), (2, .int v2), (3, .int v3), (4, .int v4), (5, .int v5), (6, .int v6)] []) : JP Γ (qf Γ (oI κ)) (pX11_cliqueGuess_52 F κ k6 v1 v2 v3 v4 v6 y0 y1) κ 52 [(0, .ref (gad Γ 0)), (1, .int v1), (2, .int v2), (3, .int v3), (4, .int v4), (6, .int v6)] [.int y0, .int y1] := by
  unfold pX11_cliqueGuess_52
  refine j_iadd hC (pc := 52) dX11_cliqueGuess_52 ?_
  refine j_nmi (fun x3 => ?_)
  refine j_istore hC (pc := 53) dX11_cliqueGuess_53 (Nat.le_of_ble_eq_true rfl) (loc' := [(5, .int x3), (0, .ref (gad Γ 0)), (1, .int v1), (2, .int v2), (3, .int v3), (4, .int v4), (6, .int v6)]) rfl ?_
  refine j_iinc hC (pc := 55) dX11_cliqueGuess_55 6 rfl ki_1 (Nat.le_of_ble_eq_true rfl) (loc' := [(6, .int (v6 + 1)), (5, .int x3), (0, .ref (gad Γ 0)), (1, .int v1), (2, .int v2), (3, .int v3), (4, .int v4)]) rfl ?_
  refine j_goto hC (pc := 58) dX11_cliqueGuess_58 (tgt := 6) rfl ?_
  refine j_sub [2, 3, 4, 5, 6, 1, 0] (loc' := [(0, .ref (gad Γ 0)), (1, .int v1), (2, .int v2), (3, .int v3), (4, .int v4), (5, .int x3), (6, .int (v6 + 1))]) rfl ?_
  exact hk6 x3 (v6 + 1)
set_option maxRecDepth 20000 in
theorem wX11_cliqueGuess_51 {Γ : JCtx} (hC : jC Γ cX11_cliqueGuess 8 RX11 (some .int) layM 15) (hR : gR Γ = rmH 1) (hm : gcells Γ ≤ (gR Γ).cells ∧ gslots Γ ≤ (gR Γ).slots) (F : Nat) (κ : Mem) (v1 : Int32) (v2 : Int32) (v3 : Int32) (v4 : Int32) (v6 : Int32) (y0 : Int32) (k6 : Int32 → Int32 → Option Int32) (hk6 : ∀ (v5 : Int32) (v6 : Int32), JP Γ (qf Γ (oI κ)) (k6 v5 v6) κ 6 [(0, .ref (gad Γ 0)), (1, .int v1), (2, .int v2), (3, .int v3), (4, .int v4), (5, .int v5), (6, .int v6)] []) : JP Γ (qf Γ (oI κ)) (pX11_cliqueGuess_51 F κ k6 v1 v2 v3 v4 v6 y0) κ 51 [(0, .ref (gad Γ 0)), (1, .int v1), (2, .int v2), (3, .int v3), (4, .int v4), (6, .int v6)] [.int y0] := by
  unfold pX11_cliqueGuess_51
  refine j_iconst hC (pc := 51) dX11_cliqueGuess_51 ki_0 ?_
  exact wX11_cliqueGuess_52 hC hR hm F κ v1 v2 v3 v4 v6 0 y0 k6 hk6
set_option maxRecDepth 20000 in
theorem wX11_cliqueGuess_73 {Γ : JCtx} (hC : jC Γ cX11_cliqueGuess 8 RX11 (some .int) layM 15) (hR : gR Γ = rmH 1) (hm : gcells Γ ≤ (gR Γ).cells ∧ gslots Γ ≤ (gR Γ).slots) (F : Nat) (κ : Mem) (v2 : Int32) (v3 : Int32) (v4 : Int32) (v5 : Int32) (v6 : Int32) : ∀ (n : Nat) (v7 : Int32), JP Γ (qf Γ (oI κ)) (pX11_cliqueGuess_73 F κ v2 v3 v4 v5 v6 n v7) κ 73 [(0, .ref (gad Γ 0)), (2, .int v2), (3, .int v3), (4, .int v4), (5, .int v5), (6, .int v6), (7, .int v7)] [] := by
  intro n
  induction n with
  | zero =>
    intro v7
    rw [pX11_cliqueGuess_73]
    exact j_none
  | succ fu ih =>
    intro v7
    rw [pX11_cliqueGuess_73]
    refine j_iload hC (pc := 73) dX11_cliqueGuess_73 6 rfl ?_
    refine j_aload_n hC (pc := 75) dX11_cliqueGuess_75 0 rfl rfl ?_
    refine j_iload_n hC (pc := 76) dX11_cliqueGuess_76 1 rfl rfl ?_
    refine j_callV_I hC hR (ctX11_hats hC.l hC.cn κ v2) kc_RX11_111 (Nat.le_of_ble_eq_true rfl) (Nat.le_of_ble_eq_true rfl) lM_0 (Nat.le_of_ble_eq_true rfl) rfl (As := [.int v2]) (rest := [.int v7]) rfl rfl (Nat.le_of_ble_eq_true rfl) hm (pc := 77) dX11_cliqueGuess_77 (fun t7 => ?_)
    refine j_icmp_ge hC (pc := 80) dX11_cliqueGuess_80 (tgt := 115) rfl ?_ ?_
    · refine j_iload hC (pc := 83) dX11_cliqueGuess_83 4 rfl ?_
      refine j_iload hC (pc := 85) dX11_cliqueGuess_85 6 rfl ?_
      refine j_iload hC (pc := 87) dX11_cliqueGuess_87 5 rfl ?_
      refine j_imul hC (pc := 89) dX11_cliqueGuess_89 ?_
      refine j_iadd hC (pc := 90) dX11_cliqueGuess_90 ?_
      refine j_iload hC (pc := 91) dX11_cliqueGuess_91 3 rfl ?_
      refine j_isub hC (pc := 93) dX11_cliqueGuess_93 ?_
      refine j_iload_n hC (pc := 94) dX11_cliqueGuess_94 2 rfl rfl ?_
      refine j_bipush hC (pc := 95) dX11_cliqueGuess_95 kb_6 ?_
      refine j_imul hC (pc := 97) dX11_cliqueGuess_97 ?_
      refine j_iadd hC (pc := 98) dX11_cliqueGuess_98 ?_
      refine j_iload_n hC (pc := 99) dX11_cliqueGuess_99 2 rfl rfl ?_
      refine j_irem hC (pc := 100) dX11_cliqueGuess_100 ?_
      refine j_iload hC (pc := 101) dX11_cliqueGuess_101 5 rfl ?_
      refine j_icmp_ge hC (pc := 103) dX11_cliqueGuess_103 (tgt := 109) rfl ?_ ?_
      · refine j_iload hC (pc := 106) dX11_cliqueGuess_106 6 rfl ?_
        exact j_iret hC (pc := 108) dX11_cliqueGuess_108 rfl rfl rfl
      · refine j_iinc hC (pc := 109) dX11_cliqueGuess_109 6 rfl ki_1 (Nat.le_of_ble_eq_true rfl) (loc' := [(7, .int (v7 + 1)), (0, .ref (gad Γ 0)), (2, .int v2), (3, .int v3), (4, .int v4), (5, .int v5), (6, .int v6)]) rfl ?_
        refine j_goto hC (pc := 112) dX11_cliqueGuess_112 (tgt := 73) rfl ?_
        refine j_sub [1, 2, 3, 4, 5, 6, 0] (loc' := [(0, .ref (gad Γ 0)), (2, .int v2), (3, .int v3), (4, .int v4), (5, .int v5), (6, .int v6), (7, .int (v7 + 1))]) rfl ?_
        exact ih (v7 + 1)
    · refine j_iconst hC (pc := 115) dX11_cliqueGuess_115 ki_m1 ?_
      exact j_iret hC (pc := 116) dX11_cliqueGuess_116 rfl rfl rfl
set_option maxRecDepth 20000 in
theorem wX11_cliqueGuess_6 {Γ : JCtx} (hC : jC Γ cX11_cliqueGuess 8 RX11 (some .int) layM 15) (hR : gR Γ = rmH 1) (hm : gcells Γ ≤ (gR Γ).cells ∧ gslots Γ ≤ (gR Γ).slots) (F : Nat) (κ : Mem) (v1 : Int32) (v2 : Int32) (v3 : Int32) (v4 : Int32) : ∀ (n : Nat) (v5 : Int32) (v6 : Int32), JP Γ (qf Γ (oI κ)) (pX11_cliqueGuess_6 F κ v1 v2 v3 v4 n v5 v6) κ 6 [(0, .ref (gad Γ 0)), (1, .int v1), (2, .int v2), (3, .int v3), (4, .int v4), (5, .int v5), (6, .int v6)] [] := by
  intro n
  induction n with
  | zero =>
    intro v5 v6
    rw [pX11_cliqueGuess_6]
    exact j_none
  | succ fu ih =>
    intro v5 v6
    rw [pX11_cliqueGuess_6]
    refine j_iload hC (pc := 6) dX11_cliqueGuess_6 6 rfl ?_
    refine j_aload_n hC (pc := 8) dX11_cliqueGuess_8 0 rfl rfl ?_
    refine j_callV_I hC hR (ctX11_players hC.l hC.cn κ) kc_RX11_108 (Nat.le_of_ble_eq_true rfl) (Nat.le_of_ble_eq_true rfl) lM_0 (Nat.le_of_ble_eq_true rfl) rfl (As := []) (rest := [.int v6]) rfl rfl (Nat.le_of_ble_eq_true rfl) hm (pc := 9) dX11_cliqueGuess_9 (fun t1 => ?_)
    refine j_icmp_ge hC (pc := 12) dX11_cliqueGuess_12 (tgt := 61) rfl ?_ ?_
    · refine j_iload hC (pc := 15) dX11_cliqueGuess_15 5 rfl ?_
      refine j_iload_n hC (pc := 17) dX11_cliqueGuess_17 1 rfl rfl ?_
      refine j_iload hC (pc := 18) dX11_cliqueGuess_18 6 rfl ?_
      refine j_callS_I hC hR (ctX11_has hC.l hC.cn κ v1 v6) kc_RX11_88 (Nat.le_of_ble_eq_true rfl) (Nat.le_of_ble_eq_true rfl) (As := [.int v1, .int v6]) (rest := [.int v5]) rfl rfl (Nat.le_of_ble_eq_true rfl) hm (pc := 20) dX11_cliqueGuess_20 (fun t2 => ?_)
      refine j_if_eq hC (pc := 23) dX11_cliqueGuess_23 (tgt := 51) rfl ?_ ?_
      · refine j_sub [0, 1, 2, 3, 4, 6] (loc' := [(0, .ref (gad Γ 0)), (1, .int v1), (2, .int v2), (3, .int v3), (4, .int v4), (6, .int v6)]) rfl ?_
        exact wX11_cliqueGuess_51 hC hR hm F κ v1 v2 v3 v4 v6 v5 (pX11_cliqueGuess_6 F κ v1 v2 v3 v4 fu) ih
      · refine j_iload hC (pc := 26) dX11_cliqueGuess_26 6 rfl ?_
        refine j_iload_n hC (pc := 28) dX11_cliqueGuess_28 2 rfl rfl ?_
        refine j_icmp_eq hC (pc := 29) dX11_cliqueGuess_29 (tgt := 51) rfl ?_ ?_
        · refine j_sub [0, 1, 2, 3, 4, 6] (loc' := [(0, .ref (gad Γ 0)), (1, .int v1), (2, .int v2), (3, .int v3), (4, .int v4), (6, .int v6)]) rfl ?_
          exact wX11_cliqueGuess_51 hC hR hm F κ v1 v2 v3 v4 v6 v5 (pX11_cliqueGuess_6 F κ v1 v2 v3 v4 fu) ih
        · refine j_aload_n hC (pc := 32) dX11_cliqueGuess_32 0 rfl rfl ?_
          refine j_getR hC (pc := 33) dX11_cliqueGuess_33 kf_RX11_23 lM_0 (Nat.le_of_ble_eq_true rfl) rfl ?_
          refine j_iload hC (pc := 36) dX11_cliqueGuess_36 6 rfl ?_
          refine j_iald hC (pc := 38) dX11_cliqueGuess_38 lM_5 (Nat.le_of_ble_eq_true rfl) ?_
          refine j_iload_n hC (pc := 39) dX11_cliqueGuess_39 3 rfl rfl ?_
          refine j_aload_n hC (pc := 40) dX11_cliqueGuess_40 0 rfl rfl ?_
          refine j_iload hC (pc := 41) dX11_cliqueGuess_41 6 rfl ?_
          refine j_callV_I hC hR (ctX11_hats hC.l hC.cn κ v6) kc_RX11_111 (Nat.le_of_ble_eq_true rfl) (Nat.le_of_ble_eq_true rfl) lM_0 (Nat.le_of_ble_eq_true rfl) rfl (As := [.int v6]) (rest := [.int v3, .int (mi κ 5 v6.toNatClampNeg), .int v5]) rfl rfl (Nat.le_of_ble_eq_true rfl) hm (pc := 43) dX11_cliqueGuess_43 (fun t4 => ?_)
          refine j_idiv hC (pc := 46) dX11_cliqueGuess_46 ?_
          refine j_imul hC (pc := 47) dX11_cliqueGuess_47 ?_
          refine j_goto hC (pc := 48) dX11_cliqueGuess_48 (tgt := 52) rfl ?_
          refine j_sub [0, 1, 2, 3, 4, 6] (loc' := [(0, .ref (gad Γ 0)), (1, .int v1), (2, .int v2), (3, .int v3), (4, .int v4), (6, .int v6)]) rfl ?_
          exact wX11_cliqueGuess_52 hC hR hm F κ v1 v2 v3 v4 v6 ((mi κ 5 v6.toNatClampNeg) * (v3 / t4)) v5 (pX11_cliqueGuess_6 F κ v1 v2 v3 v4 fu) ih
    · refine j_iload_n hC (pc := 61) dX11_cliqueGuess_61 3 rfl rfl ?_
      refine j_aload_n hC (pc := 62) dX11_cliqueGuess_62 0 rfl rfl ?_
      refine j_iload_n hC (pc := 63) dX11_cliqueGuess_63 2 rfl rfl ?_
      refine j_callV_I hC hR (ctX11_hats hC.l hC.cn κ v2) kc_RX11_111 (Nat.le_of_ble_eq_true rfl) (Nat.le_of_ble_eq_true rfl) lM_0 (Nat.le_of_ble_eq_true rfl) rfl (As := [.int v2]) (rest := [.int v3]) rfl rfl (Nat.le_of_ble_eq_true rfl) hm (pc := 64) dX11_cliqueGuess_64 (fun t5 => ?_)
      refine j_idiv hC (pc := 67) dX11_cliqueGuess_67 ?_
      refine j_nmi (fun x6 => ?_)
      refine j_istore hC (pc := 68) dX11_cliqueGuess_68 (Nat.le_of_ble_eq_true rfl) (loc' := [(6, .int x6), (0, .ref (gad Γ 0)), (1, .int v1), (2, .int v2), (3, .int v3), (4, .int v4), (5, .int v5)]) rfl ?_
      refine j_iconst hC (pc := 70) dX11_cliqueGuess_70 ki_0 ?_
      refine j_istore hC (pc := 71) dX11_cliqueGuess_71 (Nat.le_of_ble_eq_true rfl) (loc' := [(7, .int 0), (6, .int x6), (0, .ref (gad Γ 0)), (1, .int v1), (2, .int v2), (3, .int v3), (4, .int v4), (5, .int v5)]) rfl ?_
      refine j_sub [2, 4, 5, 6, 7, 1, 0] (loc' := [(0, .ref (gad Γ 0)), (2, .int v2), (3, .int v3), (4, .int v4), (5, .int v5), (6, .int x6), (7, .int 0)]) rfl ?_
      exact wX11_cliqueGuess_73 hC hR hm F κ v2 v3 v4 v5 x6 F 0
set_option maxRecDepth 20000 in
theorem wX11_cliqueGuess {Γ : JCtx} (hC : jC Γ cX11_cliqueGuess 8 RX11 (some .int) layM 15) (hR : gR Γ = rmH 1) (hm : gcells Γ ≤ (gR Γ).cells ∧ gslots Γ ≤ (gR Γ).slots) (F : Nat) (κ : Mem) (v1 : Int32) (v2 : Int32) (v3 : Int32) (v4 : Int32) : JP Γ (qf Γ (oI κ)) (pX11_cliqueGuess F κ v1 v2 v3 v4) κ 0 [(0, .ref (gad Γ 0)), (1, .int v1), (2, .int v2), (3, .int v3), (4, .int v4)] [] := by
  unfold pX11_cliqueGuess
  refine j_iconst hC (pc := 0) dX11_cliqueGuess_0 ki_0 ?_
  refine j_istore hC (pc := 1) dX11_cliqueGuess_1 (Nat.le_of_ble_eq_true rfl) (loc' := [(5, .int 0), (0, .ref (gad Γ 0)), (1, .int v1), (2, .int v2), (3, .int v3), (4, .int v4)]) rfl ?_
  refine j_iconst hC (pc := 3) dX11_cliqueGuess_3 ki_0 ?_
  refine j_istore hC (pc := 4) dX11_cliqueGuess_4 (Nat.le_of_ble_eq_true rfl) (loc' := [(6, .int 0), (5, .int 0), (0, .ref (gad Γ 0)), (1, .int v1), (2, .int v2), (3, .int v3), (4, .int v4)]) rfl ?_
  refine j_sub [2, 3, 4, 5, 6, 1, 0] (loc' := [(0, .ref (gad Γ 0)), (1, .int v1), (2, .int v2), (3, .int v3), (4, .int v4), (5, .int 0), (6, .int 0)]) rfl ?_
  exact wX11_cliqueGuess_6 hC hR hm F κ v1 v2 v3 v4 F 0 0
theorem ctX11_cliqueGuess {Δ : DCtx} {l : Launch} (hl : dlay Δ = layM) (hN : dN Δ = 15) (F : Nat) (κ : Mem) (v1 : Int32) (v2 : Int32) (v3 : Int32) (v4 : Int32) : ∀ r, pX11_cliqueGuess F κ v1 v2 v3 v4 = some r → CT Δ l yX11_cliqueGuess cX11_cliqueGuess 8 (some .int) (rmH 1) [.ref (dad Δ 0), .int v1, .int v2, .int v3, .int v4] κ (some (.int r)) κ :=
  ct_of (nL := 8) (ret := (some .int)) (lay := layM) (N := 15) (by decide +kernel) (fun Δ => [.ref (dad Δ 0), .int v1, .int v2, .int v3, .int v4]) (fun _ => oI κ) (fun _ => (Nat.le_of_ble_eq_true rfl)) (fun Γ hR hm hC => wX11_cliqueGuess hC hR hm F κ v1 v2 v3 v4) Δ l hl hN
set_option maxRecDepth 20000 in
theorem wX11_build_88 {Γ : JCtx} (hC : jC Γ cX11_build 6 RX11 (some .int) layM 15) (hR : gR Γ = rmH 6) (hm : gcells Γ ≤ (gR Γ).cells ∧ gslots Γ ≤ (gR Γ).slots) (F : Nat) (κ : Mem) (v1 : Int32) (v3 : Int32) (y0 : Int32) (k51 : Int32 → Int32 → Option (Int32 × Mem)) (hk51 : ∀ (v2 : Int32) (v3 : Int32), JP Γ (qf Γ oE) (k51 v2 v3) κ 51 [(0, .ref (gad Γ 0)), (1, .int v1), (2, .int v2), (3, .int v3)] []) : JP Γ (qf Γ oE) (pX11_build_88 F k51 κ v1 v3 y0) κ 88 [(0, .ref (gad Γ 0)), (1, .int v1), (3, .int v3)] [.int y0] := by
  unfold pX11_build_88
  refine j_istore_n hC (pc := 88) dX11_build_88 rfl (Nat.le_of_ble_eq_true rfl) (loc' := [(2, .int y0), (0, .ref (gad Γ 0)), (1, .int v1), (3, .int v3)]) rfl ?_
  refine j_iinc hC (pc := 89) dX11_build_89 3 rfl ki_1 (Nat.le_of_ble_eq_true rfl) (loc' := [(3, .int (v3 + 1)), (2, .int y0), (0, .ref (gad Γ 0)), (1, .int v1)]) rfl ?_
  refine j_goto hC (pc := 92) dX11_build_92 (tgt := 51) rfl ?_
  refine j_sub [2, 3, 1, 0] (loc' := [(0, .ref (gad Γ 0)), (1, .int v1), (2, .int y0), (3, .int (v3 + 1))]) rfl ?_
  exact hk51 y0 (v3 + 1)
set_option maxRecDepth 20000 in
theorem wX11_build_179 {Γ : JCtx} (hC : jC Γ cX11_build 6 RX11 (some .int) layM 15) (hR : gR Γ = rmH 6) (hm : gcells Γ ≤ (gR Γ).cells ∧ gslots Γ ≤ (gR Γ).slots) (F : Nat) (κ : Mem) (v1 : Int32) (v2 : Int32) (v3 : Int32) (v4 : Int32) (k100 : Mem → Int32 → Int32 → Option (Int32 × Mem)) (hk100 : ∀ (κ : Mem) (v3 : Int32) (v4 : Int32), JP Γ (qf Γ oE) (k100 κ v3 v4) κ 100 [(0, .ref (gad Γ 0)), (1, .int v1), (2, .int v2), (3, .int v3), (4, .int v4)] []) : JP Γ (qf Γ oE) (pX11_build_179 F k100 κ v1 v2 v3 v4) κ 179 [(0, .ref (gad Γ 0)), (1, .int v1), (2, .int v2), (3, .int v3), (4, .int v4)] [] := by
  unfold pX11_build_179
  refine j_iinc hC (pc := 179) dX11_build_179 4 rfl ki_1 (Nat.le_of_ble_eq_true rfl) (loc' := [(4, .int (v4 + 1)), (0, .ref (gad Γ 0)), (1, .int v1), (2, .int v2), (3, .int v3)]) rfl ?_
  refine j_goto hC (pc := 182) dX11_build_182 (tgt := 100) rfl ?_
  refine j_sub [1, 2, 3, 4, 0] (loc' := [(0, .ref (gad Γ 0)), (1, .int v1), (2, .int v2), (3, .int v3), (4, .int (v4 + 1))]) rfl ?_
  exact hk100 κ v3 (v4 + 1)
set_option maxRecDepth 20000 in
theorem wX11_build_124 {Γ : JCtx} (hC : jC Γ cX11_build 6 RX11 (some .int) layM 15) (hR : gR Γ = rmH 6) (hm : gcells Γ ≤ (gR Γ).cells ∧ gslots Γ ≤ (gR Γ).slots) (F : Nat) (v1 : Int32) (v2 : Int32) (v3 : Int32) (v4 : Int32) (k100 : Mem → Int32 → Int32 → Option (Int32 × Mem)) (hk100 : ∀ (κ : Mem) (v3 : Int32) (v4 : Int32), JP Γ (qf Γ oE) (k100 κ v3 v4) κ 100 [(0, .ref (gad Γ 0)), (1, .int v1), (2, .int v2), (3, .int v3), (4, .int v4)] []) : ∀ (n : Nat) (κ : Mem) (v5 : Int32), JP Γ (qf Γ oE) (pX11_build_124 F k100 v1 v2 v3 v4 n κ v5) κ 124 [(0, .ref (gad Γ 0)), (1, .int v1), (2, .int v2), (3, .int v3), (4, .int v4), (5, .int v5)] [] := by
  intro n
  induction n with
  | zero =>
    intro κ v5
    rw [pX11_build_124]
    exact j_none
  | succ fu ih =>
    intro κ v5
    rw [pX11_build_124]
    refine j_iload hC (pc := 124) dX11_build_124 5 rfl ?_
    refine j_aload_n hC (pc := 126) dX11_build_126 0 rfl rfl ?_
    refine j_iload hC (pc := 127) dX11_build_127 4 rfl ?_
    refine j_callV_I hC hR (ctX11_situations_ hC.l hC.cn F κ v4) kc_RX11_174 (Nat.le_of_ble_eq_true rfl) (Nat.le_of_ble_eq_true rfl) lM_0 (Nat.le_of_ble_eq_true rfl) rfl (As := [.int v4]) (rest := [.int v5]) rfl rfl (Nat.le_of_ble_eq_true rfl) hm (pc := 129) dX11_build_129 (fun t11 => ?_)
    refine j_icmp_ge hC (pc := 132) dX11_build_132 (tgt := 166) rfl ?_ ?_
    · refine j_aload_n hC (pc := 135) dX11_build_135 0 rfl rfl ?_
      refine j_iload hC (pc := 136) dX11_build_136 4 rfl ?_
      refine j_iload hC (pc := 138) dX11_build_138 5 rfl ?_
      refine j_callV_V hC hR (ctX11_laysSeen hC.l hC.cn F κ v4 v5) kc_RX11_185 (Nat.le_of_ble_eq_true rfl) (Nat.le_of_ble_eq_true rfl) lM_0 (Nat.le_of_ble_eq_true rfl) rfl (As := [.int v4, .int v5]) (rest := []) rfl rfl (Nat.le_of_ble_eq_true rfl) hm (pc := 140) dX11_build_140 (fun t12 => ?_)
      refine j_aload_n hC (pc := 143) dX11_build_143 0 rfl rfl ?_
      refine j_iload hC (pc := 144) dX11_build_144 4 rfl ?_
      refine j_iload hC (pc := 146) dX11_build_146 5 rfl ?_
      refine j_aload_n hC (pc := 148) dX11_build_148 0 rfl rfl ?_
      refine j_iload_n hC (pc := 149) dX11_build_149 1 rfl rfl ?_
      refine j_iload hC (pc := 150) dX11_build_150 4 rfl ?_
      refine j_iload_n hC (pc := 152) dX11_build_152 2 rfl rfl ?_
      refine j_iload_n hC (pc := 153) dX11_build_153 3 rfl rfl ?_
      refine j_callV_I hC hR (ctX11_cliqueGuess hC.l hC.cn F t12 v1 v4 v2 v3) kc_RX11_316 (Nat.le_of_ble_eq_true rfl) (Nat.le_of_ble_eq_true rfl) lM_0 (Nat.le_of_ble_eq_true rfl) rfl (As := [.int v1, .int v4, .int v2, .int v3]) (rest := [.int v5, .int v4, .ref (gad Γ 0)]) rfl rfl (Nat.le_of_ble_eq_true rfl) hm (pc := 154) dX11_build_154 (fun t13 => ?_)
      refine j_callV_V hC hR (ctX11_enters hC.l hC.cn t12 v4 v5 t13) kc_RX11_244 (Nat.le_of_ble_eq_true rfl) (Nat.le_of_ble_eq_true rfl) lM_0 (Nat.le_of_ble_eq_true rfl) rfl (As := [.int v4, .int v5, .int t13]) (rest := []) rfl rfl (Nat.le_of_ble_eq_true rfl) hm (pc := 157) dX11_build_157 (fun t14 => ?_)
      refine j_iinc hC (pc := 160) dX11_build_160 5 rfl ki_1 (Nat.le_of_ble_eq_true rfl) (loc' := [(5, .int (v5 + 1)), (0, .ref (gad Γ 0)), (1, .int v1), (2, .int v2), (3, .int v3), (4, .int v4)]) rfl ?_
      refine j_goto hC (pc := 163) dX11_build_163 (tgt := 124) rfl ?_
      refine j_sub [1, 2, 3, 4, 5, 0] (loc' := [(0, .ref (gad Γ 0)), (1, .int v1), (2, .int v2), (3, .int v3), (4, .int v4), (5, .int (v5 + 1))]) rfl ?_
      exact ih t14 (v5 + 1)
    · refine j_iload_n hC (pc := 166) dX11_build_166 3 rfl rfl ?_
      refine j_iload_n hC (pc := 167) dX11_build_167 2 rfl rfl ?_
      refine j_aload_n hC (pc := 168) dX11_build_168 0 rfl rfl ?_
      refine j_iload hC (pc := 169) dX11_build_169 4 rfl ?_
      refine j_callV_I hC hR (ctX11_hats hC.l hC.cn κ v4) kc_RX11_111 (Nat.le_of_ble_eq_true rfl) (Nat.le_of_ble_eq_true rfl) lM_0 (Nat.le_of_ble_eq_true rfl) rfl (As := [.int v4]) (rest := [.int v2, .int v3]) rfl rfl (Nat.le_of_ble_eq_true rfl) hm (pc := 171) dX11_build_171 (fun t15 => ?_)
      refine j_idiv hC (pc := 174) dX11_build_174 ?_
      refine j_iadd hC (pc := 175) dX11_build_175 ?_
      refine j_iload_n hC (pc := 176) dX11_build_176 2 rfl rfl ?_
      refine j_irem hC (pc := 177) dX11_build_177 ?_
      refine j_nmi (fun x16 => ?_)
      refine j_istore_n hC (pc := 178) dX11_build_178 rfl (Nat.le_of_ble_eq_true rfl) (loc' := [(3, .int x16), (0, .ref (gad Γ 0)), (1, .int v1), (2, .int v2), (4, .int v4), (5, .int v5)]) rfl ?_
      refine j_sub [1, 2, 3, 0, 4] (loc' := [(0, .ref (gad Γ 0)), (1, .int v1), (2, .int v2), (3, .int x16), (4, .int v4)]) rfl ?_
      exact wX11_build_179 hC hR hm F κ v1 v2 x16 v4 k100 hk100
set_option maxRecDepth 20000 in
theorem wX11_build_100 {Γ : JCtx} (hC : jC Γ cX11_build 6 RX11 (some .int) layM 15) (hR : gR Γ = rmH 6) (hm : gcells Γ ≤ (gR Γ).cells ∧ gslots Γ ≤ (gR Γ).slots) (F : Nat) (v1 : Int32) (v2 : Int32) : ∀ (n : Nat) (κ : Mem) (v3 : Int32) (v4 : Int32), JP Γ (qf Γ oE) (pX11_build_100 F v1 v2 n κ v3 v4) κ 100 [(0, .ref (gad Γ 0)), (1, .int v1), (2, .int v2), (3, .int v3), (4, .int v4)] [] := by
  intro n
  induction n with
  | zero =>
    intro κ v3 v4
    rw [pX11_build_100]
    exact j_none
  | succ fu ih =>
    intro κ v3 v4
    rw [pX11_build_100]
    refine j_iload hC (pc := 100) dX11_build_100 4 rfl ?_
    refine j_aload_n hC (pc := 102) dX11_build_102 0 rfl rfl ?_
    refine j_callV_I hC hR (ctX11_players hC.l hC.cn κ) kc_RX11_108 (Nat.le_of_ble_eq_true rfl) (Nat.le_of_ble_eq_true rfl) lM_0 (Nat.le_of_ble_eq_true rfl) rfl (As := []) (rest := [.int v4]) rfl rfl (Nat.le_of_ble_eq_true rfl) hm (pc := 103) dX11_build_103 (fun t9 => ?_)
    refine j_icmp_ge hC (pc := 106) dX11_build_106 (tgt := 185) rfl ?_ ?_
    · refine j_iload_n hC (pc := 109) dX11_build_109 1 rfl rfl ?_
      refine j_iload hC (pc := 110) dX11_build_110 4 rfl ?_
      refine j_callS_I hC hR (ctX11_has hC.l hC.cn κ v1 v4) kc_RX11_88 (Nat.le_of_ble_eq_true rfl) (Nat.le_of_ble_eq_true rfl) (As := [.int v1, .int v4]) (rest := []) rfl rfl (Nat.le_of_ble_eq_true rfl) hm (pc := 112) dX11_build_112 (fun t10 => ?_)
      refine j_if_ne hC (pc := 115) dX11_build_115 (tgt := 121) rfl ?_ ?_
      · refine j_goto hC (pc := 118) dX11_build_118 (tgt := 179) rfl ?_
        exact wX11_build_179 hC hR hm F κ v1 v2 v3 v4 (pX11_build_100 F v1 v2 fu) ih
      · refine j_iconst hC (pc := 121) dX11_build_121 ki_0 ?_
        refine j_istore hC (pc := 122) dX11_build_122 (Nat.le_of_ble_eq_true rfl) (loc' := [(5, .int 0), (0, .ref (gad Γ 0)), (1, .int v1), (2, .int v2), (3, .int v3), (4, .int v4)]) rfl ?_
        refine j_sub [1, 2, 3, 4, 5, 0] (loc' := [(0, .ref (gad Γ 0)), (1, .int v1), (2, .int v2), (3, .int v3), (4, .int v4), (5, .int 0)]) rfl ?_
        exact wX11_build_124 hC hR hm F v1 v2 v3 v4 (pX11_build_100 F v1 v2 fu) ih F κ 0
    · refine j_aload_n hC (pc := 185) dX11_build_185 0 rfl rfl ?_
      refine j_callV_I hC hR (ctX11_isOther hC.l hC.cn F κ) kc_RX11_320 (Nat.le_of_ble_eq_true rfl) (Nat.le_of_ble_eq_true rfl) lM_0 (Nat.le_of_ble_eq_true rfl) rfl (As := []) (rest := []) rfl rfl (Nat.le_of_ble_eq_true rfl) hm (pc := 186) dX11_build_186 (fun t17 => ?_)
      refine j_if_ne hC (pc := 189) dX11_build_189 (tgt := 198) rfl ?_ ?_
      · refine j_aload_n hC (pc := 192) dX11_build_192 0 rfl rfl ?_
        refine j_iconst hC (pc := 193) dX11_build_193 ki_4 ?_
        refine j_callV_E hC hR (ctX11_refuse hC.l hC.cn κ 4) kc_RX11_195 (Nat.le_of_ble_eq_true rfl) (Nat.le_of_ble_eq_true rfl) lM_0 (Nat.le_of_ble_eq_true rfl) rfl (As := [.int 4]) (rest := []) rfl rfl (Nat.le_of_ble_eq_true rfl) hm (pc := 194) dX11_build_194 (fun t18 => ?_)
        exact j_iret hC (pc := 197) dX11_build_197 rfl rfl rfl
      · refine j_aload_n hC (pc := 198) dX11_build_198 0 rfl rfl ?_
        refine j_callV_V hC hR (ctX11_isAct hC.l hC.cn F κ) kc_RX11_313 (Nat.le_of_ble_eq_true rfl) (Nat.le_of_ble_eq_true rfl) lM_0 (Nat.le_of_ble_eq_true rfl) rfl (As := []) (rest := []) rfl rfl (Nat.le_of_ble_eq_true rfl) hm (pc := 199) dX11_build_199 (fun t19 => ?_)
        refine j_aload_n hC (pc := 202) dX11_build_202 0 rfl rfl ?_
        refine j_callV_E hC hR (ctX11_lostNow hC.l hC.cn F t19) kc_RX11_214 (Nat.le_of_ble_eq_true rfl) (Nat.le_of_ble_eq_true rfl) lM_0 (Nat.le_of_ble_eq_true rfl) rfl (As := []) (rest := []) rfl rfl (Nat.le_of_ble_eq_true rfl) hm (pc := 203) dX11_build_203 (fun t20 => ?_)
        exact j_iret hC (pc := 206) dX11_build_206 rfl rfl rfl
set_option maxRecDepth 20000 in
theorem wX11_build_51 {Γ : JCtx} (hC : jC Γ cX11_build 6 RX11 (some .int) layM 15) (hR : gR Γ = rmH 6) (hm : gcells Γ ≤ (gR Γ).cells ∧ gslots Γ ≤ (gR Γ).slots) (F : Nat) (κ : Mem) (v1 : Int32) : ∀ (n : Nat) (v2 : Int32) (v3 : Int32), JP Γ (qf Γ oE) (pX11_build_51 F κ v1 n v2 v3) κ 51 [(0, .ref (gad Γ 0)), (1, .int v1), (2, .int v2), (3, .int v3)] [] := by
  intro n
  induction n with
  | zero =>
    intro v2 v3
    rw [pX11_build_51]
    exact j_none
  | succ fu ih =>
    intro v2 v3
    rw [pX11_build_51]
    refine j_iload_n hC (pc := 51) dX11_build_51 3 rfl rfl ?_
    refine j_aload_n hC (pc := 52) dX11_build_52 0 rfl rfl ?_
    refine j_callV_I hC hR (ctX11_players hC.l hC.cn κ) kc_RX11_108 (Nat.le_of_ble_eq_true rfl) (Nat.le_of_ble_eq_true rfl) lM_0 (Nat.le_of_ble_eq_true rfl) rfl (As := []) (rest := [.int v3]) rfl rfl (Nat.le_of_ble_eq_true rfl) hm (pc := 53) dX11_build_53 (fun t4 => ?_)
    refine j_icmp_ge hC (pc := 56) dX11_build_56 (tgt := 95) rfl ?_ ?_
    · refine j_iload_n hC (pc := 59) dX11_build_59 1 rfl rfl ?_
      refine j_iload_n hC (pc := 60) dX11_build_60 3 rfl rfl ?_
      refine j_callS_I hC hR (ctX11_has hC.l hC.cn κ v1 v3) kc_RX11_88 (Nat.le_of_ble_eq_true rfl) (Nat.le_of_ble_eq_true rfl) (As := [.int v1, .int v3]) (rest := []) rfl rfl (Nat.le_of_ble_eq_true rfl) hm (pc := 61) dX11_build_61 (fun t5 => ?_)
      refine j_if_eq hC (pc := 64) dX11_build_64 (tgt := 87) rfl ?_ ?_
      · refine j_iload_n hC (pc := 87) dX11_build_87 2 rfl rfl ?_
        refine j_sub [0, 1, 3] (loc' := [(0, .ref (gad Γ 0)), (1, .int v1), (3, .int v3)]) rfl ?_
        exact wX11_build_88 hC hR hm F κ v1 v3 v2 (pX11_build_51 F κ v1 fu) ih
      · refine j_iload_n hC (pc := 67) dX11_build_67 2 rfl rfl ?_
        refine j_iload_n hC (pc := 68) dX11_build_68 2 rfl rfl ?_
        refine j_aload_n hC (pc := 69) dX11_build_69 0 rfl rfl ?_
        refine j_iload_n hC (pc := 70) dX11_build_70 3 rfl rfl ?_
        refine j_callV_I hC hR (ctX11_hats hC.l hC.cn κ v3) kc_RX11_111 (Nat.le_of_ble_eq_true rfl) (Nat.le_of_ble_eq_true rfl) lM_0 (Nat.le_of_ble_eq_true rfl) rfl (As := [.int v3]) (rest := [.int v2, .int v2]) rfl rfl (Nat.le_of_ble_eq_true rfl) hm (pc := 71) dX11_build_71 (fun t6 => ?_)
        refine j_callS_I hC hR (ctX11_common hC.l hC.cn F κ v2 t6) kc_RX11_229 (Nat.le_of_ble_eq_true rfl) (Nat.le_of_ble_eq_true rfl) (As := [.int v2, .int t6]) (rest := [.int v2]) rfl rfl (Nat.le_of_ble_eq_true rfl) hm (pc := 74) dX11_build_74 (fun t7 => ?_)
        refine j_idiv hC (pc := 77) dX11_build_77 ?_
        refine j_aload_n hC (pc := 78) dX11_build_78 0 rfl rfl ?_
        refine j_iload_n hC (pc := 79) dX11_build_79 3 rfl rfl ?_
        refine j_callV_I hC hR (ctX11_hats hC.l hC.cn κ v3) kc_RX11_111 (Nat.le_of_ble_eq_true rfl) (Nat.le_of_ble_eq_true rfl) lM_0 (Nat.le_of_ble_eq_true rfl) rfl (As := [.int v3]) (rest := [.int (v2 / t7)]) rfl rfl (Nat.le_of_ble_eq_true rfl) hm (pc := 80) dX11_build_80 (fun t8 => ?_)
        refine j_imul hC (pc := 83) dX11_build_83 ?_
        refine j_goto hC (pc := 84) dX11_build_84 (tgt := 88) rfl ?_
        refine j_sub [0, 1, 3] (loc' := [(0, .ref (gad Γ 0)), (1, .int v1), (3, .int v3)]) rfl ?_
        exact wX11_build_88 hC hR hm F κ v1 v3 ((v2 / t7) * t8) (pX11_build_51 F κ v1 fu) ih
    · refine j_iconst hC (pc := 95) dX11_build_95 ki_0 ?_
      refine j_istore_n hC (pc := 96) dX11_build_96 rfl (Nat.le_of_ble_eq_true rfl) (loc' := [(3, .int 0), (0, .ref (gad Γ 0)), (1, .int v1), (2, .int v2)]) rfl ?_
      refine j_iconst hC (pc := 97) dX11_build_97 ki_0 ?_
      refine j_istore hC (pc := 98) dX11_build_98 (Nat.le_of_ble_eq_true rfl) (loc' := [(4, .int 0), (3, .int 0), (0, .ref (gad Γ 0)), (1, .int v1), (2, .int v2)]) rfl ?_
      refine j_sub [2, 3, 4, 1, 0] (loc' := [(0, .ref (gad Γ 0)), (1, .int v1), (2, .int v2), (3, .int 0), (4, .int 0)]) rfl ?_
      exact wX11_build_100 hC hR hm F v1 v2 F κ 0 0
set_option maxRecDepth 20000 in
theorem wX11_build_27 {Γ : JCtx} (hC : jC Γ cX11_build 6 RX11 (some .int) layM 15) (hR : gR Γ = rmH 6) (hm : gcells Γ ≤ (gR Γ).cells ∧ gslots Γ ≤ (gR Γ).slots) (F : Nat) (κ : Mem) (v1 : Int32) (y0 : Int32) : JP Γ (qf Γ oE) (pX11_build_27 F κ v1 y0) κ 27 [(0, .ref (gad Γ 0)), (1, .int v1)] [.int y0, .ref (gad Γ 0)] := by
  unfold pX11_build_27
  refine j_callV_E hC hR (ctX11_is hC.l hC.cn κ y0) kc_RX11_145 (Nat.le_of_ble_eq_true rfl) (Nat.le_of_ble_eq_true rfl) lM_0 (Nat.le_of_ble_eq_true rfl) rfl (As := [.int y0]) (rest := []) rfl rfl (Nat.le_of_ble_eq_true rfl) hm (pc := 27) dX11_build_27 (fun t2 => ?_)
  refine j_if_ne hC (pc := 30) dX11_build_30 (tgt := 35) rfl ?_ ?_
  · refine j_iconst hC (pc := 33) dX11_build_33 ki_m1 ?_
    exact j_iret hC (pc := 34) dX11_build_34 rfl rfl rfl
  · refine j_aload_n hC (pc := 35) dX11_build_35 0 rfl rfl ?_
    refine j_aload_n hC (pc := 36) dX11_build_36 0 rfl rfl ?_
    refine j_getR hC (pc := 37) dX11_build_37 kf_RX11_7 lM_0 (Nat.le_of_ble_eq_true rfl) rfl ?_
    refine j_aload_n hC (pc := 40) dX11_build_40 0 rfl rfl ?_
    refine j_getR hC (pc := 41) dX11_build_41 kf_RX11_20 lM_0 (Nat.le_of_ble_eq_true rfl) rfl ?_
    refine j_callV_V hC hR (ctX11_copies hC.l hC.cn 1 (lenM_ok lM_1) (Nat.le_of_ble_eq_true rfl) 4 (lenM_ok lM_4) (Nat.le_of_ble_eq_true rfl) F t2.2) kc_RX11_256 (Nat.le_of_ble_eq_true rfl) (Nat.le_of_ble_eq_true rfl) lM_0 (Nat.le_of_ble_eq_true rfl) rfl (As := [.ref (gad Γ 1), .ref (gad Γ 4)]) (rest := []) rfl rfl (Nat.le_of_ble_eq_true rfl) hm (pc := 44) dX11_build_44 (fun t3 => ?_)
    refine j_iconst hC (pc := 47) dX11_build_47 ki_1 ?_
    refine j_istore_n hC (pc := 48) dX11_build_48 rfl (Nat.le_of_ble_eq_true rfl) (loc' := [(2, .int 1), (0, .ref (gad Γ 0)), (1, .int v1)]) rfl ?_
    refine j_iconst hC (pc := 49) dX11_build_49 ki_0 ?_
    refine j_istore_n hC (pc := 50) dX11_build_50 rfl (Nat.le_of_ble_eq_true rfl) (loc' := [(3, .int 0), (2, .int 1), (0, .ref (gad Γ 0)), (1, .int v1)]) rfl ?_
    refine j_sub [2, 3, 1, 0] (loc' := [(0, .ref (gad Γ 0)), (1, .int v1), (2, .int 1), (3, .int 0)]) rfl ?_
    exact wX11_build_51 hC hR hm F t3 v1 F 1 0
set_option maxRecDepth 20000 in
theorem wX11_build {Γ : JCtx} (hC : jC Γ cX11_build 6 RX11 (some .int) layM 15) (hR : gR Γ = rmH 6) (hm : gcells Γ ≤ (gR Γ).cells ∧ gslots Γ ≤ (gR Γ).slots) (F : Nat) (κ : Mem) (v1 : Int32) : JP Γ (qf Γ oE) (pX11_build F κ v1) κ 0 [(0, .ref (gad Γ 0)), (1, .int v1)] [] := by
  unfold pX11_build
  refine j_aload_n hC (pc := 0) dX11_build_0 0 rfl rfl ?_
  refine j_aload_n hC (pc := 1) dX11_build_1 0 rfl rfl ?_
  refine j_iload_n hC (pc := 2) dX11_build_2 1 rfl rfl ?_
  refine j_callV_I hC hR (ctX11_isSet hC.l hC.cn κ v1) kc_RX11_206 (Nat.le_of_ble_eq_true rfl) (Nat.le_of_ble_eq_true rfl) lM_0 (Nat.le_of_ble_eq_true rfl) rfl (As := [.int v1]) (rest := [.ref (gad Γ 0)]) rfl rfl (Nat.le_of_ble_eq_true rfl) hm (pc := 3) dX11_build_3 (fun t1 => ?_)
  refine j_if_ne hC (pc := 6) dX11_build_6 (tgt := 13) rfl ?_ ?_
  · refine j_iconst hC (pc := 9) dX11_build_9 ki_2 ?_
    refine j_goto hC (pc := 10) dX11_build_10 (tgt := 27) rfl ?_
    exact wX11_build_27 hC hR hm F κ v1 2
  · refine j_aload_n hC (pc := 13) dX11_build_13 0 rfl rfl ?_
    refine j_iload_n hC (pc := 14) dX11_build_14 1 rfl rfl ?_
    refine j_callV_I hC hR (ctX11_isClique hC.l hC.cn F κ v1) kc_RX11_232 (Nat.le_of_ble_eq_true rfl) (Nat.le_of_ble_eq_true rfl) lM_0 (Nat.le_of_ble_eq_true rfl) rfl (As := [.int v1]) (rest := [.ref (gad Γ 0)]) rfl rfl (Nat.le_of_ble_eq_true rfl) hm (pc := 15) dX11_build_15 (fun t21 => ?_)
    refine j_if_eq hC (pc := 18) dX11_build_18 (tgt := 25) rfl ?_ ?_
    · refine j_bipush hC (pc := 25) dX11_build_25 kb_7 ?_
      exact wX11_build_27 hC hR hm F κ v1 7
    · refine j_iconst hC (pc := 21) dX11_build_21 ki_0 ?_
      refine j_goto hC (pc := 22) dX11_build_22 (tgt := 27) rfl ?_
      exact wX11_build_27 hC hR hm F κ v1 0
theorem ctX11_build {Δ : DCtx} {l : Launch} (hl : dlay Δ = layM) (hN : dN Δ = 15) (F : Nat) (κ : Mem) (v1 : Int32) : ∀ r, pX11_build F κ v1 = some r → CT Δ l yX11_build cX11_build 6 (some .int) (rmH 6) [.ref (dad Δ 0), .int v1] κ (some (.int r.1)) r.2 :=
  ct_of (nL := 6) (ret := (some .int)) (lay := layM) (N := 15) (by decide +kernel) (fun Δ => [.ref (dad Δ 0), .int v1]) (fun _ => oE) (fun _ => (Nat.le_of_ble_eq_true rfl)) (fun Γ hR hm hC => wX11_build hC hR hm F κ v1) Δ l hl hN
set_option maxRecDepth 20000 in
theorem wX11_renamed_19 {Γ : JCtx} (hC : jC Γ cX11_renamed 3 RX11 (some .int) layM 15) (hR : gR Γ = rmH 0) (hm : gcells Γ ≤ (gR Γ).cells ∧ gslots Γ ≤ (gR Γ).slots) (κ : Mem) (y0 : Int32) : JP Γ (qf Γ (oI κ)) (pX11_renamed_19 κ y0) κ 19 [] [.int y0] := by
  unfold pX11_renamed_19
  exact j_iret hC (pc := 19) dX11_renamed_19 rfl rfl rfl
set_option maxRecDepth 20000 in
theorem wX11_renamed {Γ : JCtx} (hC : jC Γ cX11_renamed 3 RX11 (some .int) layM 15) (hR : gR Γ = rmH 0) (hm : gcells Γ ≤ (gR Γ).cells ∧ gslots Γ ≤ (gR Γ).slots) (κ : Mem) (v0 : Int32) (v1 : Int32) (v2 : Int32) : JP Γ (qf Γ (oI κ)) (pX11_renamed κ v0 v1 v2) κ 0 [(0, .int v0), (1, .int v1), (2, .int v2)] [] := by
  unfold pX11_renamed
  refine j_iload_n hC (pc := 0) dX11_renamed_0 0 rfl rfl ?_
  refine j_iload_n hC (pc := 1) dX11_renamed_1 1 rfl rfl ?_
  refine j_icmp_ne hC (pc := 2) dX11_renamed_2 (tgt := 9) rfl ?_ ?_
  · refine j_iload_n hC (pc := 5) dX11_renamed_5 2 rfl rfl ?_
    refine j_goto hC (pc := 6) dX11_renamed_6 (tgt := 19) rfl ?_
    refine j_sub [] (loc' := []) rfl ?_
    exact wX11_renamed_19 hC hR hm κ v2
  · refine j_iload_n hC (pc := 9) dX11_renamed_9 0 rfl rfl ?_
    refine j_iload_n hC (pc := 10) dX11_renamed_10 2 rfl rfl ?_
    refine j_icmp_ne hC (pc := 11) dX11_renamed_11 (tgt := 18) rfl ?_ ?_
    · refine j_iload_n hC (pc := 14) dX11_renamed_14 1 rfl rfl ?_
      refine j_goto hC (pc := 15) dX11_renamed_15 (tgt := 19) rfl ?_
      refine j_sub [] (loc' := []) rfl ?_
      exact wX11_renamed_19 hC hR hm κ v1
    · refine j_iload_n hC (pc := 18) dX11_renamed_18 0 rfl rfl ?_
      refine j_sub [] (loc' := []) rfl ?_
      exact wX11_renamed_19 hC hR hm κ v0
theorem ctX11_renamed {Δ : DCtx} {l : Launch} (hl : dlay Δ = layM) (hN : dN Δ = 15) (κ : Mem) (v0 : Int32) (v1 : Int32) (v2 : Int32) : ∀ r, pX11_renamed κ v0 v1 v2 = some r → CT Δ l yX11_renamed cX11_renamed 3 (some .int) (rmH 0) [.int v0, .int v1, .int v2] κ (some (.int r)) κ :=
  ct_of (nL := 3) (ret := (some .int)) (lay := layM) (N := 15) (by decide +kernel) (fun Δ => [.int v0, .int v1, .int v2]) (fun _ => oI κ) (fun _ => (Nat.le_of_ble_eq_true rfl)) (fun Γ hR hm hC => wX11_renamed hC hR hm κ v0 v1 v2) Δ l hl hN
set_option maxRecDepth 20000 in
theorem wX11_rename_190 {Γ : JCtx} (hC : jC Γ cX11_rename 6 RX11 (some .int) layM 15) (hR : gR Γ = rmH 3) (hm : gcells Γ ≤ (gR Γ).cells ∧ gslots Γ ≤ (gR Γ).slots) (F : Nat) (κ : Mem) (v1 : Int32) (v2 : Int32) (v3 : Int32) (v4 : Int32) (k94 : Mem → Int32 → Option (Int32 × Mem)) (hk94 : ∀ (κ : Mem) (v4 : Int32), JP Γ (qf Γ oE) (k94 κ v4) κ 94 [(0, .ref (gad Γ 0)), (1, .int v1), (2, .int v2), (3, .int v3), (4, .int v4)] []) : JP Γ (qf Γ oE) (pX11_rename_190 F k94 κ v1 v2 v3 v4) κ 190 [(0, .ref (gad Γ 0)), (1, .int v1), (2, .int v2), (3, .int v3), (4, .int v4)] [] := by
  unfold pX11_rename_190
  refine j_iinc hC (pc := 190) dX11_rename_190 4 rfl ki_1 (Nat.le_of_ble_eq_true rfl) (loc' := [(4, .int (v4 + 1)), (0, .ref (gad Γ 0)), (1, .int v1), (2, .int v2), (3, .int v3)]) rfl ?_
  refine j_goto hC (pc := 193) dX11_rename_193 (tgt := 94) rfl ?_
  refine j_sub [1, 2, 3, 4, 0] (loc' := [(0, .ref (gad Γ 0)), (1, .int v1), (2, .int v2), (3, .int v3), (4, .int (v4 + 1))]) rfl ?_
  exact hk94 κ (v4 + 1)
set_option maxRecDepth 20000 in
theorem wX11_rename_119 {Γ : JCtx} (hC : jC Γ cX11_rename 6 RX11 (some .int) layM 15) (hR : gR Γ = rmH 3) (hm : gcells Γ ≤ (gR Γ).cells ∧ gslots Γ ≤ (gR Γ).slots) (F : Nat) (v1 : Int32) (v2 : Int32) (v3 : Int32) (v4 : Int32) (k94 : Mem → Int32 → Option (Int32 × Mem)) (hk94 : ∀ (κ : Mem) (v4 : Int32), JP Γ (qf Γ oE) (k94 κ v4) κ 94 [(0, .ref (gad Γ 0)), (1, .int v1), (2, .int v2), (3, .int v3), (4, .int v4)] []) : ∀ (n : Nat) (κ : Mem) (v5 : Int32), JP Γ (qf Γ oE) (pX11_rename_119 F k94 v1 v2 v3 v4 n κ v5) κ 119 [(0, .ref (gad Γ 0)), (1, .int v1), (2, .int v2), (3, .int v3), (4, .int v4), (5, .int v5)] [] := by
  intro n
  induction n with
  | zero =>
    intro κ v5
    rw [pX11_rename_119]
    exact j_none
  | succ fu ih =>
    intro κ v5
    rw [pX11_rename_119]
    refine j_iload hC (pc := 119) dX11_rename_119 5 rfl ?_
    refine j_aload_n hC (pc := 121) dX11_rename_121 0 rfl rfl ?_
    refine j_iload hC (pc := 122) dX11_rename_122 4 rfl ?_
    refine j_callV_I hC hR (ctX11_situations_ hC.l hC.cn F κ v4) kc_RX11_174 (Nat.le_of_ble_eq_true rfl) (Nat.le_of_ble_eq_true rfl) lM_0 (Nat.le_of_ble_eq_true rfl) rfl (As := [.int v4]) (rest := [.int v5]) rfl rfl (Nat.le_of_ble_eq_true rfl) hm (pc := 124) dX11_rename_124 (fun t10 => ?_)
    refine j_icmp_ge hC (pc := 127) dX11_rename_127 (tgt := 190) rfl ?_ ?_
    · refine j_aload_n hC (pc := 130) dX11_rename_130 0 rfl rfl ?_
      refine j_iload hC (pc := 131) dX11_rename_131 4 rfl ?_
      refine j_iload hC (pc := 133) dX11_rename_133 5 rfl ?_
      refine j_callV_V hC hR (ctX11_laysSeen hC.l hC.cn F κ v4 v5) kc_RX11_185 (Nat.le_of_ble_eq_true rfl) (Nat.le_of_ble_eq_true rfl) lM_0 (Nat.le_of_ble_eq_true rfl) rfl (As := [.int v4, .int v5]) (rest := []) rfl rfl (Nat.le_of_ble_eq_true rfl) hm (pc := 135) dX11_rename_135 (fun t11 => ?_)
      refine j_aload_n hC (pc := 138) dX11_rename_138 0 rfl rfl ?_
      refine j_getR hC (pc := 139) dX11_rename_139 kf_RX11_23 lM_0 (Nat.le_of_ble_eq_true rfl) rfl ?_
      refine j_iload_n hC (pc := 142) dX11_rename_142 1 rfl rfl ?_
      refine j_aload_n hC (pc := 143) dX11_rename_143 0 rfl rfl ?_
      refine j_getR hC (pc := 144) dX11_rename_144 kf_RX11_23 lM_0 (Nat.le_of_ble_eq_true rfl) rfl ?_
      refine j_iload_n hC (pc := 147) dX11_rename_147 1 rfl rfl ?_
      refine j_iald hC (pc := 148) dX11_rename_148 lM_5 (Nat.le_of_ble_eq_true rfl) ?_
      refine j_iload_n hC (pc := 149) dX11_rename_149 2 rfl rfl ?_
      refine j_iload_n hC (pc := 150) dX11_rename_150 3 rfl rfl ?_
      refine j_callS_I hC hR (ctX11_renamed hC.l hC.cn t11 (mi t11 5 v1.toNatClampNeg) v2 v3) kc_RX11_323 (Nat.le_of_ble_eq_true rfl) (Nat.le_of_ble_eq_true rfl) (As := [.int (mi t11 5 v1.toNatClampNeg), .int v2, .int v3]) (rest := [.int v1, .ref (gad Γ 5)]) rfl rfl (Nat.le_of_ble_eq_true rfl) hm (pc := 151) dX11_rename_151 (fun t12 => ?_)
      refine j_iast hC (pc := 154) dX11_rename_154 lM_5 (Nat.le_of_ble_eq_true rfl) (fun κ13 => ?_)
      refine j_aload_n hC (pc := 155) dX11_rename_155 0 rfl rfl ?_
      refine j_iload hC (pc := 156) dX11_rename_156 4 rfl ?_
      refine j_aload_n hC (pc := 158) dX11_rename_158 0 rfl rfl ?_
      refine j_iload hC (pc := 159) dX11_rename_159 4 rfl ?_
      refine j_callV_I hC hR (ctX11_situationOf hC.l hC.cn F κ13 v4) kc_RX11_118 (Nat.le_of_ble_eq_true rfl) (Nat.le_of_ble_eq_true rfl) lM_0 (Nat.le_of_ble_eq_true rfl) rfl (As := [.int v4]) (rest := [.int v4, .ref (gad Γ 0)]) rfl rfl (Nat.le_of_ble_eq_true rfl) hm (pc := 161) dX11_rename_161 (fun t14 => ?_)
      refine j_aload_n hC (pc := 164) dX11_rename_164 0 rfl rfl ?_
      refine j_getR hC (pc := 165) dX11_rename_165 kf_RX11_20 lM_0 (Nat.le_of_ble_eq_true rfl) rfl ?_
      refine j_bipush hC (pc := 168) dX11_rename_168 kb_13 ?_
      refine j_sipush hC (pc := 170) dX11_rename_170 ks_1024 ?_
      refine j_iload hC (pc := 173) dX11_rename_173 4 rfl ?_
      refine j_imul hC (pc := 175) dX11_rename_175 ?_
      refine j_iadd hC (pc := 176) dX11_rename_176 ?_
      refine j_iload hC (pc := 177) dX11_rename_177 5 rfl ?_
      refine j_iadd hC (pc := 179) dX11_rename_179 ?_
      refine j_iald hC (pc := 180) dX11_rename_180 lM_4 (Nat.le_of_ble_eq_true rfl) ?_
      refine j_callV_V hC hR (ctX11_enters hC.l hC.cn κ13 v4 t14 (mi κ13 4 ((13 + (1024 * v4)) + v5).toNatClampNeg)) kc_RX11_244 (Nat.le_of_ble_eq_true rfl) (Nat.le_of_ble_eq_true rfl) lM_0 (Nat.le_of_ble_eq_true rfl) rfl (As := [.int v4, .int t14, .int (mi κ13 4 ((13 + (1024 * v4)) + v5).toNatClampNeg)]) (rest := []) rfl rfl (Nat.le_of_ble_eq_true rfl) hm (pc := 181) dX11_rename_181 (fun t15 => ?_)
      refine j_iinc hC (pc := 184) dX11_rename_184 5 rfl ki_1 (Nat.le_of_ble_eq_true rfl) (loc' := [(5, .int (v5 + 1)), (0, .ref (gad Γ 0)), (1, .int v1), (2, .int v2), (3, .int v3), (4, .int v4)]) rfl ?_
      refine j_goto hC (pc := 187) dX11_rename_187 (tgt := 119) rfl ?_
      refine j_sub [1, 2, 3, 4, 5, 0] (loc' := [(0, .ref (gad Γ 0)), (1, .int v1), (2, .int v2), (3, .int v3), (4, .int v4), (5, .int (v5 + 1))]) rfl ?_
      exact ih t15 (v5 + 1)
    · refine j_sub [0, 1, 2, 3, 4] (loc' := [(0, .ref (gad Γ 0)), (1, .int v1), (2, .int v2), (3, .int v3), (4, .int v4)]) rfl ?_
      exact wX11_rename_190 hC hR hm F κ v1 v2 v3 v4 k94 hk94
set_option maxRecDepth 20000 in
theorem wX11_rename_235 {Γ : JCtx} (hC : jC Γ cX11_rename 6 RX11 (some .int) layM 15) (hR : gR Γ = rmH 3) (hm : gcells Γ ≤ (gR Γ).cells ∧ gslots Γ ≤ (gR Γ).slots) (F : Nat) (κ : Mem) (v5 : Int32) (y0 : Int32) (y1 : Int32) (k203 : Int32 → Int32 → Option (Int32 × Mem)) (hk203 : ∀ (v4 : Int32) (v5 : Int32), JP Γ (qf Γ oE) (k203 v4 v5) κ 203 [(0, .ref (gad Γ 0)), (4, .int v4), (5, .int v5)] []) : JP Γ (qf Γ oE) (pX11_rename_235 F k203 κ v5 y0 y1) κ 235 [(0, .ref (gad Γ 0)), (5, .int v5)] [.int y0, .int y1] := by
  unfold pX11_rename_235
  refine j_iadd hC (pc := 235) dX11_rename_235 ?_
  refine j_nmi (fun x16 => ?_)
  refine j_istore hC (pc := 236) dX11_rename_236 (Nat.le_of_ble_eq_true rfl) (loc' := [(4, .int x16), (0, .ref (gad Γ 0)), (5, .int v5)]) rfl ?_
  refine j_iinc hC (pc := 238) dX11_rename_238 2 rfl ki_1 (Nat.le_of_ble_eq_true rfl) (loc' := [(5, .int (v5 + 1)), (4, .int x16), (0, .ref (gad Γ 0))]) rfl ?_
  refine j_goto hC (pc := 241) dX11_rename_241 (tgt := 203) rfl ?_
  refine j_sub [2, 1, 0] (loc' := [(0, .ref (gad Γ 0)), (4, .int x16), (5, .int (v5 + 1))]) rfl ?_
  exact hk203 x16 (v5 + 1)
set_option maxRecDepth 20000 in
theorem wX11_rename_203 {Γ : JCtx} (hC : jC Γ cX11_rename 6 RX11 (some .int) layM 15) (hR : gR Γ = rmH 3) (hm : gcells Γ ≤ (gR Γ).cells ∧ gslots Γ ≤ (gR Γ).slots) (F : Nat) (κ : Mem) : ∀ (n : Nat) (v4 : Int32) (v5 : Int32), JP Γ (qf Γ oE) (pX11_rename_203 F κ n v4 v5) κ 203 [(0, .ref (gad Γ 0)), (4, .int v4), (5, .int v5)] [] := by
  intro n
  induction n with
  | zero =>
    intro v4 v5
    rw [pX11_rename_203]
    exact j_none
  | succ fu ih =>
    intro v4 v5
    rw [pX11_rename_203]
    refine j_iload hC (pc := 203) dX11_rename_203 2 rfl ?_
    refine j_sipush hC (pc := 205) dX11_rename_205 ks_6157 ?_
    refine j_icmp_ge hC (pc := 208) dX11_rename_208 (tgt := 244) rfl ?_ ?_
    · refine j_iload hC (pc := 211) dX11_rename_211 1 rfl ?_
      refine j_aload_n hC (pc := 213) dX11_rename_213 0 rfl rfl ?_
      refine j_getR hC (pc := 214) dX11_rename_214 kf_RX11_7 lM_0 (Nat.le_of_ble_eq_true rfl) rfl ?_
      refine j_iload hC (pc := 217) dX11_rename_217 2 rfl ?_
      refine j_iald hC (pc := 219) dX11_rename_219 lM_1 (Nat.le_of_ble_eq_true rfl) ?_
      refine j_aload_n hC (pc := 220) dX11_rename_220 0 rfl rfl ?_
      refine j_getR hC (pc := 221) dX11_rename_221 kf_RX11_20 lM_0 (Nat.le_of_ble_eq_true rfl) rfl ?_
      refine j_iload hC (pc := 224) dX11_rename_224 2 rfl ?_
      refine j_iald hC (pc := 226) dX11_rename_226 lM_4 (Nat.le_of_ble_eq_true rfl) ?_
      refine j_icmp_ne hC (pc := 227) dX11_rename_227 (tgt := 234) rfl ?_ ?_
      · refine j_iconst hC (pc := 230) dX11_rename_230 ki_0 ?_
        refine j_goto hC (pc := 231) dX11_rename_231 (tgt := 235) rfl ?_
        refine j_sub [0, 2] (loc' := [(0, .ref (gad Γ 0)), (5, .int v5)]) rfl ?_
        exact wX11_rename_235 hC hR hm F κ v5 0 v4 (pX11_rename_203 F κ fu) ih
      · refine j_iconst hC (pc := 234) dX11_rename_234 ki_1 ?_
        refine j_sub [0, 2] (loc' := [(0, .ref (gad Γ 0)), (5, .int v5)]) rfl ?_
        exact wX11_rename_235 hC hR hm F κ v5 1 v4 (pX11_rename_203 F κ fu) ih
    · refine j_aload_n hC (pc := 244) dX11_rename_244 0 rfl rfl ?_
      refine j_callV_V hC hR (ctX11_isAct hC.l hC.cn F κ) kc_RX11_313 (Nat.le_of_ble_eq_true rfl) (Nat.le_of_ble_eq_true rfl) lM_0 (Nat.le_of_ble_eq_true rfl) rfl (As := []) (rest := []) rfl rfl (Nat.le_of_ble_eq_true rfl) hm (pc := 245) dX11_rename_245 (fun t17 => ?_)
      refine j_iload hC (pc := 248) dX11_rename_248 1 rfl ?_
      exact j_iret hC (pc := 250) dX11_rename_250 rfl rfl rfl
set_option maxRecDepth 20000 in
theorem wX11_rename_94 {Γ : JCtx} (hC : jC Γ cX11_rename 6 RX11 (some .int) layM 15) (hR : gR Γ = rmH 3) (hm : gcells Γ ≤ (gR Γ).cells ∧ gslots Γ ≤ (gR Γ).slots) (F : Nat) (v1 : Int32) (v2 : Int32) (v3 : Int32) : ∀ (n : Nat) (κ : Mem) (v4 : Int32), JP Γ (qf Γ oE) (pX11_rename_94 F v1 v2 v3 n κ v4) κ 94 [(0, .ref (gad Γ 0)), (1, .int v1), (2, .int v2), (3, .int v3), (4, .int v4)] [] := by
  intro n
  induction n with
  | zero =>
    intro κ v4
    rw [pX11_rename_94]
    exact j_none
  | succ fu ih =>
    intro κ v4
    rw [pX11_rename_94]
    refine j_iload hC (pc := 94) dX11_rename_94 4 rfl ?_
    refine j_aload_n hC (pc := 96) dX11_rename_96 0 rfl rfl ?_
    refine j_callV_I hC hR (ctX11_players hC.l hC.cn κ) kc_RX11_108 (Nat.le_of_ble_eq_true rfl) (Nat.le_of_ble_eq_true rfl) lM_0 (Nat.le_of_ble_eq_true rfl) rfl (As := []) (rest := [.int v4]) rfl rfl (Nat.le_of_ble_eq_true rfl) hm (pc := 97) dX11_rename_97 (fun t8 => ?_)
    refine j_icmp_ge hC (pc := 100) dX11_rename_100 (tgt := 196) rfl ?_ ?_
    · refine j_aload_n hC (pc := 103) dX11_rename_103 0 rfl rfl ?_
      refine j_iload hC (pc := 104) dX11_rename_104 4 rfl ?_
      refine j_iload_n hC (pc := 106) dX11_rename_106 1 rfl rfl ?_
      refine j_callV_I hC hR (ctX11_sees hC.l hC.cn κ v4 v1) kc_RX11_115 (Nat.le_of_ble_eq_true rfl) (Nat.le_of_ble_eq_true rfl) lM_0 (Nat.le_of_ble_eq_true rfl) rfl (As := [.int v4, .int v1]) (rest := []) rfl rfl (Nat.le_of_ble_eq_true rfl) hm (pc := 107) dX11_rename_107 (fun t9 => ?_)
      refine j_if_ne hC (pc := 110) dX11_rename_110 (tgt := 116) rfl ?_ ?_
      · refine j_goto hC (pc := 113) dX11_rename_113 (tgt := 190) rfl ?_
        exact wX11_rename_190 hC hR hm F κ v1 v2 v3 v4 (pX11_rename_94 F v1 v2 v3 fu) ih
      · refine j_iconst hC (pc := 116) dX11_rename_116 ki_0 ?_
        refine j_istore hC (pc := 117) dX11_rename_117 (Nat.le_of_ble_eq_true rfl) (loc' := [(5, .int 0), (0, .ref (gad Γ 0)), (1, .int v1), (2, .int v2), (3, .int v3), (4, .int v4)]) rfl ?_
        refine j_sub [1, 2, 3, 4, 5, 0] (loc' := [(0, .ref (gad Γ 0)), (1, .int v1), (2, .int v2), (3, .int v3), (4, .int v4), (5, .int 0)]) rfl ?_
        exact wX11_rename_119 hC hR hm F v1 v2 v3 v4 (pX11_rename_94 F v1 v2 v3 fu) ih F κ 0
    · refine j_iconst hC (pc := 196) dX11_rename_196 ki_0 ?_
      refine j_istore hC (pc := 197) dX11_rename_197 (Nat.le_of_ble_eq_true rfl) (loc' := [(4, .int 0), (0, .ref (gad Γ 0)), (1, .int v1), (2, .int v2), (3, .int v3)]) rfl ?_
      refine j_bipush hC (pc := 199) dX11_rename_199 kb_13 ?_
      refine j_istore hC (pc := 201) dX11_rename_201 (Nat.le_of_ble_eq_true rfl) (loc' := [(5, .int 13), (4, .int 0), (0, .ref (gad Γ 0)), (1, .int v1), (2, .int v2), (3, .int v3)]) rfl ?_
      refine j_sub [2, 1, 0] (loc' := [(0, .ref (gad Γ 0)), (4, .int 0), (5, .int 13)]) rfl ?_
      exact wX11_rename_203 hC hR hm F κ F 0 13
set_option maxRecDepth 20000 in
theorem wX11_rename_56 {Γ : JCtx} (hC : jC Γ cX11_rename 6 RX11 (some .int) layM 15) (hR : gR Γ = rmH 3) (hm : gcells Γ ≤ (gR Γ).cells ∧ gslots Γ ≤ (gR Γ).slots) (F : Nat) (v1 : Int32) (v2 : Int32) (v3 : Int32) : ∀ (n : Nat) (κ : Mem) (v4 : Int32), JP Γ (qf Γ oE) (pX11_rename_56 F v1 v2 v3 n κ v4) κ 56 [(0, .ref (gad Γ 0)), (1, .int v1), (2, .int v2), (3, .int v3), (4, .int v4)] [] := by
  intro n
  induction n with
  | zero =>
    intro κ v4
    rw [pX11_rename_56]
    exact j_none
  | succ fu ih =>
    intro κ v4
    rw [pX11_rename_56]
    refine j_iload hC (pc := 56) dX11_rename_56 4 rfl ?_
    refine j_aload_n hC (pc := 58) dX11_rename_58 0 rfl rfl ?_
    refine j_iload_n hC (pc := 59) dX11_rename_59 1 rfl rfl ?_
    refine j_callV_I hC hR (ctX11_situations_ hC.l hC.cn F κ v1) kc_RX11_174 (Nat.le_of_ble_eq_true rfl) (Nat.le_of_ble_eq_true rfl) lM_0 (Nat.le_of_ble_eq_true rfl) rfl (As := [.int v1]) (rest := [.int v4]) rfl rfl (Nat.le_of_ble_eq_true rfl) hm (pc := 60) dX11_rename_60 (fun t4 => ?_)
    refine j_icmp_ge hC (pc := 63) dX11_rename_63 (tgt := 91) rfl ?_ ?_
    · refine j_aload_n hC (pc := 66) dX11_rename_66 0 rfl rfl ?_
      refine j_iload_n hC (pc := 67) dX11_rename_67 1 rfl rfl ?_
      refine j_iload hC (pc := 68) dX11_rename_68 4 rfl ?_
      refine j_aload_n hC (pc := 70) dX11_rename_70 0 rfl rfl ?_
      refine j_iload_n hC (pc := 71) dX11_rename_71 1 rfl rfl ?_
      refine j_iload hC (pc := 72) dX11_rename_72 4 rfl ?_
      refine j_callV_I hC hR (ctX11_entry hC.l hC.cn κ v1 v4) kc_RX11_121 (Nat.le_of_ble_eq_true rfl) (Nat.le_of_ble_eq_true rfl) lM_0 (Nat.le_of_ble_eq_true rfl) rfl (As := [.int v1, .int v4]) (rest := [.int v4, .int v1, .ref (gad Γ 0)]) rfl rfl (Nat.le_of_ble_eq_true rfl) hm (pc := 74) dX11_rename_74 (fun t5 => ?_)
      refine j_iload_n hC (pc := 77) dX11_rename_77 2 rfl rfl ?_
      refine j_iload_n hC (pc := 78) dX11_rename_78 3 rfl rfl ?_
      refine j_callS_I hC hR (ctX11_renamed hC.l hC.cn κ t5 v2 v3) kc_RX11_323 (Nat.le_of_ble_eq_true rfl) (Nat.le_of_ble_eq_true rfl) (As := [.int t5, .int v2, .int v3]) (rest := [.int v4, .int v1, .ref (gad Γ 0)]) rfl rfl (Nat.le_of_ble_eq_true rfl) hm (pc := 79) dX11_rename_79 (fun t6 => ?_)
      refine j_callV_V hC hR (ctX11_enters hC.l hC.cn κ v1 v4 t6) kc_RX11_244 (Nat.le_of_ble_eq_true rfl) (Nat.le_of_ble_eq_true rfl) lM_0 (Nat.le_of_ble_eq_true rfl) rfl (As := [.int v1, .int v4, .int t6]) (rest := []) rfl rfl (Nat.le_of_ble_eq_true rfl) hm (pc := 82) dX11_rename_82 (fun t7 => ?_)
      refine j_iinc hC (pc := 85) dX11_rename_85 4 rfl ki_1 (Nat.le_of_ble_eq_true rfl) (loc' := [(4, .int (v4 + 1)), (0, .ref (gad Γ 0)), (1, .int v1), (2, .int v2), (3, .int v3)]) rfl ?_
      refine j_goto hC (pc := 88) dX11_rename_88 (tgt := 56) rfl ?_
      refine j_sub [1, 2, 3, 4, 0] (loc' := [(0, .ref (gad Γ 0)), (1, .int v1), (2, .int v2), (3, .int v3), (4, .int (v4 + 1))]) rfl ?_
      exact ih t7 (v4 + 1)
    · refine j_iconst hC (pc := 91) dX11_rename_91 ki_0 ?_
      refine j_istore hC (pc := 92) dX11_rename_92 (Nat.le_of_ble_eq_true rfl) (loc' := [(4, .int 0), (0, .ref (gad Γ 0)), (1, .int v1), (2, .int v2), (3, .int v3)]) rfl ?_
      refine j_sub [1, 2, 3, 4, 0] (loc' := [(0, .ref (gad Γ 0)), (1, .int v1), (2, .int v2), (3, .int v3), (4, .int 0)]) rfl ?_
      exact wX11_rename_94 hC hR hm F v1 v2 v3 F κ 0
set_option maxRecDepth 20000 in
theorem wX11_rename_33 {Γ : JCtx} (hC : jC Γ cX11_rename 6 RX11 (some .int) layM 15) (hR : gR Γ = rmH 3) (hm : gcells Γ ≤ (gR Γ).cells ∧ gslots Γ ≤ (gR Γ).slots) (F : Nat) (κ : Mem) (v1 : Int32) (v2 : Int32) (v3 : Int32) (y0 : Int32) : JP Γ (qf Γ oE) (pX11_rename_33 F κ v1 v2 v3 y0) κ 33 [(0, .ref (gad Γ 0)), (1, .int v1), (2, .int v2), (3, .int v3)] [.int y0, .ref (gad Γ 0)] := by
  unfold pX11_rename_33
  refine j_callV_E hC hR (ctX11_is hC.l hC.cn κ y0) kc_RX11_145 (Nat.le_of_ble_eq_true rfl) (Nat.le_of_ble_eq_true rfl) lM_0 (Nat.le_of_ble_eq_true rfl) rfl (As := [.int y0]) (rest := []) rfl rfl (Nat.le_of_ble_eq_true rfl) hm (pc := 33) dX11_rename_33 (fun t2 => ?_)
  refine j_if_ne hC (pc := 36) dX11_rename_36 (tgt := 41) rfl ?_ ?_
  · refine j_iconst hC (pc := 39) dX11_rename_39 ki_m1 ?_
    exact j_iret hC (pc := 40) dX11_rename_40 rfl rfl rfl
  · refine j_aload_n hC (pc := 41) dX11_rename_41 0 rfl rfl ?_
    refine j_aload_n hC (pc := 42) dX11_rename_42 0 rfl rfl ?_
    refine j_getR hC (pc := 43) dX11_rename_43 kf_RX11_7 lM_0 (Nat.le_of_ble_eq_true rfl) rfl ?_
    refine j_aload_n hC (pc := 46) dX11_rename_46 0 rfl rfl ?_
    refine j_getR hC (pc := 47) dX11_rename_47 kf_RX11_20 lM_0 (Nat.le_of_ble_eq_true rfl) rfl ?_
    refine j_callV_V hC hR (ctX11_copies hC.l hC.cn 1 (lenM_ok lM_1) (Nat.le_of_ble_eq_true rfl) 4 (lenM_ok lM_4) (Nat.le_of_ble_eq_true rfl) F t2.2) kc_RX11_256 (Nat.le_of_ble_eq_true rfl) (Nat.le_of_ble_eq_true rfl) lM_0 (Nat.le_of_ble_eq_true rfl) rfl (As := [.ref (gad Γ 1), .ref (gad Γ 4)]) (rest := []) rfl rfl (Nat.le_of_ble_eq_true rfl) hm (pc := 50) dX11_rename_50 (fun t3 => ?_)
    refine j_iconst hC (pc := 53) dX11_rename_53 ki_0 ?_
    refine j_istore hC (pc := 54) dX11_rename_54 (Nat.le_of_ble_eq_true rfl) (loc' := [(4, .int 0), (0, .ref (gad Γ 0)), (1, .int v1), (2, .int v2), (3, .int v3)]) rfl ?_
    refine j_sub [1, 2, 3, 4, 0] (loc' := [(0, .ref (gad Γ 0)), (1, .int v1), (2, .int v2), (3, .int v3), (4, .int 0)]) rfl ?_
    exact wX11_rename_56 hC hR hm F v1 v2 v3 F t3 0
set_option maxRecDepth 20000 in
theorem wX11_rename_19 {Γ : JCtx} (hC : jC Γ cX11_rename 6 RX11 (some .int) layM 15) (hR : gR Γ = rmH 3) (hm : gcells Γ ≤ (gR Γ).cells ∧ gslots Γ ≤ (gR Γ).slots) (F : Nat) (κ : Mem) (v1 : Int32) (v2 : Int32) (v3 : Int32) : JP Γ (qf Γ oE) (pX11_rename_19 F κ v1 v2 v3) κ 19 [(0, .ref (gad Γ 0)), (1, .int v1), (2, .int v2), (3, .int v3)] [.ref (gad Γ 0)] := by
  unfold pX11_rename_19
  refine j_iconst hC (pc := 19) dX11_rename_19 ki_2 ?_
  refine j_goto hC (pc := 20) dX11_rename_20 (tgt := 33) rfl ?_
  exact wX11_rename_33 hC hR hm F κ v1 v2 v3 2
set_option maxRecDepth 20000 in
theorem wX11_rename {Γ : JCtx} (hC : jC Γ cX11_rename 6 RX11 (some .int) layM 15) (hR : gR Γ = rmH 3) (hm : gcells Γ ≤ (gR Γ).cells ∧ gslots Γ ≤ (gR Γ).slots) (F : Nat) (κ : Mem) (v1 : Int32) (v2 : Int32) (v3 : Int32) : JP Γ (qf Γ oE) (pX11_rename F κ v1 v2 v3) κ 0 [(0, .ref (gad Γ 0)), (1, .int v1), (2, .int v2), (3, .int v3)] [] := by
  unfold pX11_rename
  refine j_aload_n hC (pc := 0) dX11_rename_0 0 rfl rfl ?_
  refine j_aload_n hC (pc := 1) dX11_rename_1 0 rfl rfl ?_
  refine j_iload_n hC (pc := 2) dX11_rename_2 1 rfl rfl ?_
  refine j_iload_n hC (pc := 3) dX11_rename_3 2 rfl rfl ?_
  refine j_callV_I hC hR (ctX11_isColour hC.l hC.cn κ v1 v2) kc_RX11_182 (Nat.le_of_ble_eq_true rfl) (Nat.le_of_ble_eq_true rfl) lM_0 (Nat.le_of_ble_eq_true rfl) rfl (As := [.int v1, .int v2]) (rest := [.ref (gad Γ 0)]) rfl rfl (Nat.le_of_ble_eq_true rfl) hm (pc := 4) dX11_rename_4 (fun t1 => ?_)
  refine j_if_eq hC (pc := 7) dX11_rename_7 (tgt := 19) rfl ?_ ?_
  · exact wX11_rename_19 hC hR hm F κ v1 v2 v3
  · refine j_aload_n hC (pc := 10) dX11_rename_10 0 rfl rfl ?_
    refine j_iload_n hC (pc := 11) dX11_rename_11 1 rfl rfl ?_
    refine j_iload_n hC (pc := 12) dX11_rename_12 3 rfl rfl ?_
    refine j_callV_I hC hR (ctX11_isColour hC.l hC.cn κ v1 v3) kc_RX11_182 (Nat.le_of_ble_eq_true rfl) (Nat.le_of_ble_eq_true rfl) lM_0 (Nat.le_of_ble_eq_true rfl) rfl (As := [.int v1, .int v3]) (rest := [.ref (gad Γ 0)]) rfl rfl (Nat.le_of_ble_eq_true rfl) hm (pc := 13) dX11_rename_13 (fun t18 => ?_)
    refine j_if_ne hC (pc := 16) dX11_rename_16 (tgt := 23) rfl ?_ ?_
    · exact wX11_rename_19 hC hR hm F κ v1 v2 v3
    · refine j_iload_n hC (pc := 23) dX11_rename_23 2 rfl rfl ?_
      refine j_iload_n hC (pc := 24) dX11_rename_24 3 rfl rfl ?_
      refine j_icmp_ne hC (pc := 25) dX11_rename_25 (tgt := 32) rfl ?_ ?_
      · refine j_iconst hC (pc := 28) dX11_rename_28 ki_4 ?_
        refine j_goto hC (pc := 29) dX11_rename_29 (tgt := 33) rfl ?_
        exact wX11_rename_33 hC hR hm F κ v1 v2 v3 4
      · refine j_iconst hC (pc := 32) dX11_rename_32 ki_0 ?_
        exact wX11_rename_33 hC hR hm F κ v1 v2 v3 0
theorem ctX11_rename {Δ : DCtx} {l : Launch} (hl : dlay Δ = layM) (hN : dN Δ = 15) (F : Nat) (κ : Mem) (v1 : Int32) (v2 : Int32) (v3 : Int32) : ∀ r, pX11_rename F κ v1 v2 v3 = some r → CT Δ l yX11_rename cX11_rename 6 (some .int) (rmH 3) [.ref (dad Δ 0), .int v1, .int v2, .int v3] κ (some (.int r.1)) r.2 :=
  ct_of (nL := 6) (ret := (some .int)) (lay := layM) (N := 15) (by decide +kernel) (fun Δ => [.ref (dad Δ 0), .int v1, .int v2, .int v3]) (fun _ => oE) (fun _ => (Nat.le_of_ble_eq_true rfl)) (fun Γ hR hm hC => wX11_rename hC hR hm F κ v1 v2 v3) Δ l hl hN
set_option maxRecDepth 20000 in
theorem wX11_see_161 {Γ : JCtx} (hC : jC Γ cX11_see 8 RX11 (some .int) layM 15) (hR : gR Γ = rmH 3) (hm : gcells Γ ≤ (gR Γ).cells ∧ gslots Γ ≤ (gR Γ).slots) (F : Nat) (κ : Mem) (v1 : Int32) (v2 : Int32) (v4 : Int32) (v5 : Int32) (v7 : Int32) (y0 : Int32) (k113 : Int32 → Int32 → Option (Int32 × Mem)) (hk113 : ∀ (v6 : Int32) (v7 : Int32), JP Γ (qf Γ oE) (k113 v6 v7) κ 113 [(0, .ref (gad Γ 0)), (1, .int v1), (2, .int v2), (4, .int v4), (5, .int v5), (6, .int v6), (7, .int v7)] []) : JP Γ (qf Γ oE) (pX11_see_161 F k113 κ v1 v2 v4 v5 v7 y0) κ 161 [(0, .ref (gad Γ 0)), (1, .int v1), (2, .int v2), (4, .int v4), (5, .int v5), (7, .int v7)] [.int y0] := by
  unfold pX11_see_161
  refine j_istore hC (pc := 161) dX11_see_161 (Nat.le_of_ble_eq_true rfl) (loc' := [(6, .int y0), (0, .ref (gad Γ 0)), (1, .int v1), (2, .int v2), (4, .int v4), (5, .int v5), (7, .int v7)]) rfl ?_
  refine j_iinc hC (pc := 163) dX11_see_163 6 rfl ki_1 (Nat.le_of_ble_eq_true rfl) (loc' := [(7, .int (v7 + 1)), (6, .int y0), (0, .ref (gad Γ 0)), (1, .int v1), (2, .int v2), (4, .int v4), (5, .int v5)]) rfl ?_
  refine j_goto hC (pc := 166) dX11_see_166 (tgt := 113) rfl ?_
  refine j_sub [2, 3, 4, 5, 6, 1, 0] (loc' := [(0, .ref (gad Γ 0)), (1, .int v1), (2, .int v2), (4, .int v4), (5, .int v5), (6, .int y0), (7, .int (v7 + 1))]) rfl ?_
  exact hk113 y0 (v7 + 1)
set_option maxRecDepth 20000 in
theorem wX11_see_113 {Γ : JCtx} (hC : jC Γ cX11_see 8 RX11 (some .int) layM 15) (hR : gR Γ = rmH 3) (hm : gcells Γ ≤ (gR Γ).cells ∧ gslots Γ ≤ (gR Γ).slots) (F : Nat) (κ : Mem) (v1 : Int32) (v2 : Int32) (v4 : Int32) (v5 : Int32) (k86 : Mem → Int32 → Option (Int32 × Mem)) (hk86 : ∀ (κ : Mem) (v5 : Int32), JP Γ (qf Γ oE) (k86 κ v5) κ 86 [(0, .ref (gad Γ 0)), (1, .int v1), (2, .int v2), (4, .int v4), (5, .int v5)] []) : ∀ (n : Nat) (v6 : Int32) (v7 : Int32), JP Γ (qf Γ oE) (pX11_see_113 F k86 κ v1 v2 v4 v5 n v6 v7) κ 113 [(0, .ref (gad Γ 0)), (1, .int v1), (2, .int v2), (4, .int v4), (5, .int v5), (6, .int v6), (7, .int v7)] [] := by
  intro n
  induction n with
  | zero =>
    intro v6 v7
    rw [pX11_see_113]
    exact j_none
  | succ fu ih =>
    intro v6 v7
    rw [pX11_see_113]
    refine j_iload hC (pc := 113) dX11_see_113 6 rfl ?_
    refine j_aload_n hC (pc := 115) dX11_see_115 0 rfl rfl ?_
    refine j_callV_I hC hR (ctX11_players hC.l hC.cn κ) kc_RX11_108 (Nat.le_of_ble_eq_true rfl) (Nat.le_of_ble_eq_true rfl) lM_0 (Nat.le_of_ble_eq_true rfl) rfl (As := []) (rest := [.int v7]) rfl rfl (Nat.le_of_ble_eq_true rfl) hm (pc := 116) dX11_see_116 (fun t9 => ?_)
    refine j_icmp_ge hC (pc := 119) dX11_see_119 (tgt := 169) rfl ?_ ?_
    · refine j_aload_n hC (pc := 122) dX11_see_122 0 rfl rfl ?_
      refine j_getR hC (pc := 123) dX11_see_123 kf_RX11_20 lM_0 (Nat.le_of_ble_eq_true rfl) rfl ?_
      refine j_bipush hC (pc := 126) dX11_see_126 kb_7 ?_
      refine j_iload_n hC (pc := 128) dX11_see_128 1 rfl rfl ?_
      refine j_iadd hC (pc := 129) dX11_see_129 ?_
      refine j_iald hC (pc := 130) dX11_see_130 lM_4 (Nat.le_of_ble_eq_true rfl) ?_
      refine j_iload hC (pc := 131) dX11_see_131 6 rfl ?_
      refine j_callS_I hC hR (ctX11_has hC.l hC.cn κ (mi κ 4 (7 + v1).toNatClampNeg) v7) kc_RX11_88 (Nat.le_of_ble_eq_true rfl) (Nat.le_of_ble_eq_true rfl) (As := [.int (mi κ 4 (7 + v1).toNatClampNeg), .int v7]) (rest := []) rfl rfl (Nat.le_of_ble_eq_true rfl) hm (pc := 133) dX11_see_133 (fun t10 => ?_)
      refine j_if_eq hC (pc := 136) dX11_see_136 (tgt := 159) rfl ?_ ?_
      · refine j_iload hC (pc := 159) dX11_see_159 5 rfl ?_
        refine j_sub [0, 1, 2, 3, 4, 6] (loc' := [(0, .ref (gad Γ 0)), (1, .int v1), (2, .int v2), (4, .int v4), (5, .int v5), (7, .int v7)]) rfl ?_
        exact wX11_see_161 hC hR hm F κ v1 v2 v4 v5 v7 v6 (pX11_see_113 F k86 κ v1 v2 v4 v5 fu) ih
      · refine j_iload hC (pc := 139) dX11_see_139 5 rfl ?_
        refine j_aload_n hC (pc := 141) dX11_see_141 0 rfl rfl ?_
        refine j_iload hC (pc := 142) dX11_see_142 6 rfl ?_
        refine j_callV_I hC hR (ctX11_hats hC.l hC.cn κ v7) kc_RX11_111 (Nat.le_of_ble_eq_true rfl) (Nat.le_of_ble_eq_true rfl) lM_0 (Nat.le_of_ble_eq_true rfl) rfl (As := [.int v7]) (rest := [.int v6]) rfl rfl (Nat.le_of_ble_eq_true rfl) hm (pc := 144) dX11_see_144 (fun t11 => ?_)
        refine j_imul hC (pc := 147) dX11_see_147 ?_
        refine j_aload_n hC (pc := 148) dX11_see_148 0 rfl rfl ?_
        refine j_getR hC (pc := 149) dX11_see_149 kf_RX11_23 lM_0 (Nat.le_of_ble_eq_true rfl) rfl ?_
        refine j_iload hC (pc := 152) dX11_see_152 6 rfl ?_
        refine j_iald hC (pc := 154) dX11_see_154 lM_5 (Nat.le_of_ble_eq_true rfl) ?_
        refine j_iadd hC (pc := 155) dX11_see_155 ?_
        refine j_goto hC (pc := 156) dX11_see_156 (tgt := 161) rfl ?_
        refine j_sub [0, 1, 2, 3, 4, 6] (loc' := [(0, .ref (gad Γ 0)), (1, .int v1), (2, .int v2), (4, .int v4), (5, .int v5), (7, .int v7)]) rfl ?_
        exact wX11_see_161 hC hR hm F κ v1 v2 v4 v5 v7 ((v6 * t11) + (mi κ 5 v7.toNatClampNeg)) (pX11_see_113 F k86 κ v1 v2 v4 v5 fu) ih
    · refine j_aload_n hC (pc := 169) dX11_see_169 0 rfl rfl ?_
      refine j_iload_n hC (pc := 170) dX11_see_170 1 rfl rfl ?_
      refine j_iload hC (pc := 171) dX11_see_171 4 rfl ?_
      refine j_aload_n hC (pc := 173) dX11_see_173 0 rfl rfl ?_
      refine j_getR hC (pc := 174) dX11_see_174 kf_RX11_20 lM_0 (Nat.le_of_ble_eq_true rfl) rfl ?_
      refine j_bipush hC (pc := 177) dX11_see_177 kb_13 ?_
      refine j_sipush hC (pc := 179) dX11_see_179 ks_1024 ?_
      refine j_iload_n hC (pc := 182) dX11_see_182 1 rfl rfl ?_
      refine j_imul hC (pc := 183) dX11_see_183 ?_
      refine j_iadd hC (pc := 184) dX11_see_184 ?_
      refine j_iload hC (pc := 185) dX11_see_185 5 rfl ?_
      refine j_iadd hC (pc := 187) dX11_see_187 ?_
      refine j_iald hC (pc := 188) dX11_see_188 lM_4 (Nat.le_of_ble_eq_true rfl) ?_
      refine j_callV_V hC hR (ctX11_enters hC.l hC.cn κ v1 v5 (mi κ 4 ((13 + (1024 * v1)) + v6).toNatClampNeg)) kc_RX11_244 (Nat.le_of_ble_eq_true rfl) (Nat.le_of_ble_eq_true rfl) lM_0 (Nat.le_of_ble_eq_true rfl) rfl (As := [.int v1, .int v5, .int (mi κ 4 ((13 + (1024 * v1)) + v6).toNatClampNeg)]) (rest := []) rfl rfl (Nat.le_of_ble_eq_true rfl) hm (pc := 189) dX11_see_189 (fun t12 => ?_)
      refine j_iinc hC (pc := 192) dX11_see_192 4 rfl ki_1 (Nat.le_of_ble_eq_true rfl) (loc' := [(5, .int (v5 + 1)), (0, .ref (gad Γ 0)), (1, .int v1), (2, .int v2), (4, .int v4), (6, .int v6), (7, .int v7)]) rfl ?_
      refine j_goto hC (pc := 195) dX11_see_195 (tgt := 86) rfl ?_
      refine j_sub [1, 2, 3, 4, 0] (loc' := [(0, .ref (gad Γ 0)), (1, .int v1), (2, .int v2), (4, .int v4), (5, .int (v5 + 1))]) rfl ?_
      exact hk86 t12 (v5 + 1)
set_option maxRecDepth 20000 in
theorem wX11_see_202 {Γ : JCtx} (hC : jC Γ cX11_see 8 RX11 (some .int) layM 15) (hR : gR Γ = rmH 3) (hm : gcells Γ ≤ (gR Γ).cells ∧ gslots Γ ≤ (gR Γ).slots) (F : Nat) (v1 : Int32) (v4 : Int32) : ∀ (n : Nat) (κ : Mem) (v5 : Int32), JP Γ (qf Γ oE) (pX11_see_202 F v1 v4 n κ v5) κ 202 [(0, .ref (gad Γ 0)), (1, .int v1), (4, .int v4), (5, .int v5)] [] := by
  intro n
  induction n with
  | zero =>
    intro κ v5
    rw [pX11_see_202]
    exact j_none
  | succ fu ih =>
    intro κ v5
    rw [pX11_see_202]
    refine j_iload hC (pc := 202) dX11_see_202 3 rfl ?_
    refine j_sipush hC (pc := 204) dX11_see_204 ks_1024 ?_
    refine j_icmp_ge hC (pc := 207) dX11_see_207 (tgt := 224) rfl ?_ ?_
    · refine j_aload_n hC (pc := 210) dX11_see_210 0 rfl rfl ?_
      refine j_iload_n hC (pc := 211) dX11_see_211 1 rfl rfl ?_
      refine j_iload hC (pc := 212) dX11_see_212 3 rfl ?_
      refine j_iconst hC (pc := 214) dX11_see_214 ki_0 ?_
      refine j_callV_V hC hR (ctX11_enters hC.l hC.cn κ v1 v5 0) kc_RX11_244 (Nat.le_of_ble_eq_true rfl) (Nat.le_of_ble_eq_true rfl) lM_0 (Nat.le_of_ble_eq_true rfl) rfl (As := [.int v1, .int v5, .int 0]) (rest := []) rfl rfl (Nat.le_of_ble_eq_true rfl) hm (pc := 215) dX11_see_215 (fun t13 => ?_)
      refine j_iinc hC (pc := 218) dX11_see_218 3 rfl ki_1 (Nat.le_of_ble_eq_true rfl) (loc' := [(5, .int (v5 + 1)), (0, .ref (gad Γ 0)), (1, .int v1), (4, .int v4)]) rfl ?_
      refine j_goto hC (pc := 221) dX11_see_221 (tgt := 202) rfl ?_
      refine j_sub [1, 2, 3, 0] (loc' := [(0, .ref (gad Γ 0)), (1, .int v1), (4, .int v4), (5, .int (v5 + 1))]) rfl ?_
      exact ih t13 (v5 + 1)
    · refine j_aload_n hC (pc := 224) dX11_see_224 0 rfl rfl ?_
      refine j_callV_V hC hR (ctX11_isAct hC.l hC.cn F κ) kc_RX11_313 (Nat.le_of_ble_eq_true rfl) (Nat.le_of_ble_eq_true rfl) lM_0 (Nat.le_of_ble_eq_true rfl) rfl (As := []) (rest := []) rfl rfl (Nat.le_of_ble_eq_true rfl) hm (pc := 225) dX11_see_225 (fun t14 => ?_)
      refine j_iload hC (pc := 228) dX11_see_228 2 rfl ?_
      exact j_iret hC (pc := 230) dX11_see_230 rfl rfl rfl
set_option maxRecDepth 20000 in
theorem wX11_see_86 {Γ : JCtx} (hC : jC Γ cX11_see 8 RX11 (some .int) layM 15) (hR : gR Γ = rmH 3) (hm : gcells Γ ≤ (gR Γ).cells ∧ gslots Γ ≤ (gR Γ).slots) (F : Nat) (v1 : Int32) (v2 : Int32) (v4 : Int32) : ∀ (n : Nat) (κ : Mem) (v5 : Int32), JP Γ (qf Γ oE) (pX11_see_86 F v1 v2 v4 n κ v5) κ 86 [(0, .ref (gad Γ 0)), (1, .int v1), (2, .int v2), (4, .int v4), (5, .int v5)] [] := by
  intro n
  induction n with
  | zero =>
    intro κ v5
    rw [pX11_see_86]
    exact j_none
  | succ fu ih =>
    intro κ v5
    rw [pX11_see_86]
    refine j_iload hC (pc := 86) dX11_see_86 4 rfl ?_
    refine j_iload hC (pc := 88) dX11_see_88 3 rfl ?_
    refine j_icmp_ge hC (pc := 90) dX11_see_90 (tgt := 198) rfl ?_ ?_
    · refine j_aload_n hC (pc := 93) dX11_see_93 0 rfl rfl ?_
      refine j_getR hC (pc := 94) dX11_see_94 kf_RX11_23 lM_0 (Nat.le_of_ble_eq_true rfl) rfl ?_
      refine j_iload_n hC (pc := 97) dX11_see_97 2 rfl rfl ?_
      refine j_iconst hC (pc := 98) dX11_see_98 ki_0 ?_
      refine j_iast hC (pc := 99) dX11_see_99 lM_5 (Nat.le_of_ble_eq_true rfl) (fun κ7 => ?_)
      refine j_aload_n hC (pc := 100) dX11_see_100 0 rfl rfl ?_
      refine j_iload_n hC (pc := 101) dX11_see_101 1 rfl rfl ?_
      refine j_iload hC (pc := 102) dX11_see_102 4 rfl ?_
      refine j_callV_V hC hR (ctX11_laysSeen hC.l hC.cn F κ7 v1 v5) kc_RX11_185 (Nat.le_of_ble_eq_true rfl) (Nat.le_of_ble_eq_true rfl) lM_0 (Nat.le_of_ble_eq_true rfl) rfl (As := [.int v1, .int v5]) (rest := []) rfl rfl (Nat.le_of_ble_eq_true rfl) hm (pc := 104) dX11_see_104 (fun t8 => ?_)
      refine j_iconst hC (pc := 107) dX11_see_107 ki_0 ?_
      refine j_istore hC (pc := 108) dX11_see_108 (Nat.le_of_ble_eq_true rfl) (loc' := [(6, .int 0), (0, .ref (gad Γ 0)), (1, .int v1), (2, .int v2), (4, .int v4), (5, .int v5)]) rfl ?_
      refine j_iconst hC (pc := 110) dX11_see_110 ki_0 ?_
      refine j_istore hC (pc := 111) dX11_see_111 (Nat.le_of_ble_eq_true rfl) (loc' := [(7, .int 0), (6, .int 0), (0, .ref (gad Γ 0)), (1, .int v1), (2, .int v2), (4, .int v4), (5, .int v5)]) rfl ?_
      refine j_sub [2, 3, 4, 5, 6, 1, 0] (loc' := [(0, .ref (gad Γ 0)), (1, .int v1), (2, .int v2), (4, .int v4), (5, .int v5), (6, .int 0), (7, .int 0)]) rfl ?_
      exact wX11_see_113 hC hR hm F t8 v1 v2 v4 v5 (pX11_see_86 F v1 v2 v4 fu) ih F 0 0
    · refine j_iload hC (pc := 198) dX11_see_198 3 rfl ?_
      refine j_istore hC (pc := 200) dX11_see_200 (Nat.le_of_ble_eq_true rfl) (loc' := [(5, .int v4), (0, .ref (gad Γ 0)), (1, .int v1), (2, .int v2), (4, .int v4)]) rfl ?_
      refine j_sub [1, 2, 4, 0] (loc' := [(0, .ref (gad Γ 0)), (1, .int v1), (4, .int v4), (5, .int v4)]) rfl ?_
      exact wX11_see_202 hC hR hm F v1 v4 F κ v4
set_option maxRecDepth 20000 in
theorem wX11_see_41 {Γ : JCtx} (hC : jC Γ cX11_see 8 RX11 (some .int) layM 15) (hR : gR Γ = rmH 3) (hm : gcells Γ ≤ (gR Γ).cells ∧ gslots Γ ≤ (gR Γ).slots) (F : Nat) (κ : Mem) (v1 : Int32) (v2 : Int32) (y0 : Int32) : JP Γ (qf Γ oE) (pX11_see_41 F κ v1 v2 y0) κ 41 [(0, .ref (gad Γ 0)), (1, .int v1), (2, .int v2)] [.int y0, .ref (gad Γ 0)] := by
  unfold pX11_see_41
  refine j_callV_E hC hR (ctX11_is hC.l hC.cn κ y0) kc_RX11_145 (Nat.le_of_ble_eq_true rfl) (Nat.le_of_ble_eq_true rfl) lM_0 (Nat.le_of_ble_eq_true rfl) rfl (As := [.int y0]) (rest := []) rfl rfl (Nat.le_of_ble_eq_true rfl) hm (pc := 41) dX11_see_41 (fun t2 => ?_)
  refine j_if_ne hC (pc := 44) dX11_see_44 (tgt := 49) rfl ?_ ?_
  · refine j_iconst hC (pc := 47) dX11_see_47 ki_m1 ?_
    exact j_iret hC (pc := 48) dX11_see_48 rfl rfl rfl
  · refine j_aload_n hC (pc := 49) dX11_see_49 0 rfl rfl ?_
    refine j_aload_n hC (pc := 50) dX11_see_50 0 rfl rfl ?_
    refine j_getR hC (pc := 51) dX11_see_51 kf_RX11_7 lM_0 (Nat.le_of_ble_eq_true rfl) rfl ?_
    refine j_aload_n hC (pc := 54) dX11_see_54 0 rfl rfl ?_
    refine j_getR hC (pc := 55) dX11_see_55 kf_RX11_20 lM_0 (Nat.le_of_ble_eq_true rfl) rfl ?_
    refine j_callV_V hC hR (ctX11_copies hC.l hC.cn 1 (lenM_ok lM_1) (Nat.le_of_ble_eq_true rfl) 4 (lenM_ok lM_4) (Nat.le_of_ble_eq_true rfl) F t2.2) kc_RX11_256 (Nat.le_of_ble_eq_true rfl) (Nat.le_of_ble_eq_true rfl) lM_0 (Nat.le_of_ble_eq_true rfl) rfl (As := [.ref (gad Γ 1), .ref (gad Γ 4)]) (rest := []) rfl rfl (Nat.le_of_ble_eq_true rfl) hm (pc := 58) dX11_see_58 (fun t3 => ?_)
    refine j_aload_n hC (pc := 61) dX11_see_61 0 rfl rfl ?_
    refine j_getR hC (pc := 62) dX11_see_62 kf_RX11_7 lM_0 (Nat.le_of_ble_eq_true rfl) rfl ?_
    refine j_bipush hC (pc := 65) dX11_see_65 kb_7 ?_
    refine j_iload_n hC (pc := 67) dX11_see_67 1 rfl rfl ?_
    refine j_iadd hC (pc := 68) dX11_see_68 ?_
    refine j_nmi (fun x4 => ?_)
    refine j_dup2 hC (pc := 69) dX11_see_69 rfl rfl ?_
    refine j_iald hC (pc := 70) dX11_see_70 lM_1 (Nat.le_of_ble_eq_true rfl) ?_
    refine j_iconst hC (pc := 71) dX11_see_71 ki_1 ?_
    refine j_iload_n hC (pc := 72) dX11_see_72 2 rfl rfl ?_
    refine j_ishl hC (pc := 73) dX11_see_73 ?_
    refine j_ixor hC (pc := 74) dX11_see_74 ?_
    refine j_iast hC (pc := 75) dX11_see_75 lM_1 (Nat.le_of_ble_eq_true rfl) (fun κ5 => ?_)
    refine j_aload_n hC (pc := 76) dX11_see_76 0 rfl rfl ?_
    refine j_iload_n hC (pc := 77) dX11_see_77 1 rfl rfl ?_
    refine j_callV_I hC hR (ctX11_situations_ hC.l hC.cn F κ5 v1) kc_RX11_174 (Nat.le_of_ble_eq_true rfl) (Nat.le_of_ble_eq_true rfl) lM_0 (Nat.le_of_ble_eq_true rfl) rfl (As := [.int v1]) (rest := []) rfl rfl (Nat.le_of_ble_eq_true rfl) hm (pc := 78) dX11_see_78 (fun t6 => ?_)
    refine j_istore hC (pc := 81) dX11_see_81 (Nat.le_of_ble_eq_true rfl) (loc' := [(4, .int t6), (0, .ref (gad Γ 0)), (1, .int v1), (2, .int v2)]) rfl ?_
    refine j_iconst hC (pc := 83) dX11_see_83 ki_0 ?_
    refine j_istore hC (pc := 84) dX11_see_84 (Nat.le_of_ble_eq_true rfl) (loc' := [(5, .int 0), (4, .int t6), (0, .ref (gad Γ 0)), (1, .int v1), (2, .int v2)]) rfl ?_
    refine j_sub [2, 3, 4, 1, 0] (loc' := [(0, .ref (gad Γ 0)), (1, .int v1), (2, .int v2), (4, .int t6), (5, .int 0)]) rfl ?_
    exact wX11_see_86 hC hR hm F v1 v2 t6 F κ5 0
set_option maxRecDepth 20000 in
theorem wX11_see_17 {Γ : JCtx} (hC : jC Γ cX11_see 8 RX11 (some .int) layM 15) (hR : gR Γ = rmH 3) (hm : gcells Γ ≤ (gR Γ).cells ∧ gslots Γ ≤ (gR Γ).slots) (F : Nat) (κ : Mem) (v1 : Int32) (v2 : Int32) : JP Γ (qf Γ oE) (pX11_see_17 F κ v1 v2) κ 17 [(0, .ref (gad Γ 0)), (1, .int v1), (2, .int v2)] [.ref (gad Γ 0)] := by
  unfold pX11_see_17
  refine j_iconst hC (pc := 17) dX11_see_17 ki_2 ?_
  refine j_goto hC (pc := 18) dX11_see_18 (tgt := 41) rfl ?_
  exact wX11_see_41 hC hR hm F κ v1 v2 2
set_option maxRecDepth 20000 in
theorem wX11_see_36 {Γ : JCtx} (hC : jC Γ cX11_see 8 RX11 (some .int) layM 15) (hR : gR Γ = rmH 3) (hm : gcells Γ ≤ (gR Γ).cells ∧ gslots Γ ≤ (gR Γ).slots) (F : Nat) (κ : Mem) (v1 : Int32) (v2 : Int32) : JP Γ (qf Γ oE) (pX11_see_36 F κ v1 v2) κ 36 [(0, .ref (gad Γ 0)), (1, .int v1), (2, .int v2)] [.ref (gad Γ 0)] := by
  unfold pX11_see_36
  refine j_iconst hC (pc := 36) dX11_see_36 ki_4 ?_
  refine j_goto hC (pc := 37) dX11_see_37 (tgt := 41) rfl ?_
  exact wX11_see_41 hC hR hm F κ v1 v2 4
set_option maxRecDepth 20000 in
theorem wX11_see {Γ : JCtx} (hC : jC Γ cX11_see 8 RX11 (some .int) layM 15) (hR : gR Γ = rmH 3) (hm : gcells Γ ≤ (gR Γ).cells ∧ gslots Γ ≤ (gR Γ).slots) (F : Nat) (κ : Mem) (v1 : Int32) (v2 : Int32) (v3 : Int32) : JP Γ (qf Γ oE) (pX11_see F κ v1 v2 v3) κ 0 [(0, .ref (gad Γ 0)), (1, .int v1), (2, .int v2), (3, .int v3)] [] := by
  unfold pX11_see
  refine j_aload_n hC (pc := 0) dX11_see_0 0 rfl rfl ?_
  refine j_aload_n hC (pc := 1) dX11_see_1 0 rfl rfl ?_
  refine j_iload_n hC (pc := 2) dX11_see_2 1 rfl rfl ?_
  refine j_callV_I hC hR (ctX11_isPlayer hC.l hC.cn κ v1) kc_RX11_164 (Nat.le_of_ble_eq_true rfl) (Nat.le_of_ble_eq_true rfl) lM_0 (Nat.le_of_ble_eq_true rfl) rfl (As := [.int v1]) (rest := [.ref (gad Γ 0)]) rfl rfl (Nat.le_of_ble_eq_true rfl) hm (pc := 3) dX11_see_3 (fun t1 => ?_)
  refine j_if_eq hC (pc := 6) dX11_see_6 (tgt := 17) rfl ?_ ?_
  · refine j_sub [0, 1, 2] (loc' := [(0, .ref (gad Γ 0)), (1, .int v1), (2, .int v2)]) rfl ?_
    exact wX11_see_17 hC hR hm F κ v1 v2
  · refine j_aload_n hC (pc := 9) dX11_see_9 0 rfl rfl ?_
    refine j_iload_n hC (pc := 10) dX11_see_10 2 rfl rfl ?_
    refine j_callV_I hC hR (ctX11_isPlayer hC.l hC.cn κ v2) kc_RX11_164 (Nat.le_of_ble_eq_true rfl) (Nat.le_of_ble_eq_true rfl) lM_0 (Nat.le_of_ble_eq_true rfl) rfl (As := [.int v2]) (rest := [.ref (gad Γ 0)]) rfl rfl (Nat.le_of_ble_eq_true rfl) hm (pc := 11) dX11_see_11 (fun t15 => ?_)
    refine j_if_ne hC (pc := 14) dX11_see_14 (tgt := 21) rfl ?_ ?_
    · refine j_sub [0, 1, 2] (loc' := [(0, .ref (gad Γ 0)), (1, .int v1), (2, .int v2)]) rfl ?_
      exact wX11_see_17 hC hR hm F κ v1 v2
    · refine j_iload_n hC (pc := 21) dX11_see_21 1 rfl rfl ?_
      refine j_iload_n hC (pc := 22) dX11_see_22 2 rfl rfl ?_
      refine j_icmp_eq hC (pc := 23) dX11_see_23 (tgt := 36) rfl ?_ ?_
      · refine j_sub [0, 1, 2] (loc' := [(0, .ref (gad Γ 0)), (1, .int v1), (2, .int v2)]) rfl ?_
        exact wX11_see_36 hC hR hm F κ v1 v2
      · refine j_aload_n hC (pc := 26) dX11_see_26 0 rfl rfl ?_
        refine j_iload_n hC (pc := 27) dX11_see_27 1 rfl rfl ?_
        refine j_iload_n hC (pc := 28) dX11_see_28 2 rfl rfl ?_
        refine j_callV_I hC hR (ctX11_sees hC.l hC.cn κ v1 v2) kc_RX11_115 (Nat.le_of_ble_eq_true rfl) (Nat.le_of_ble_eq_true rfl) lM_0 (Nat.le_of_ble_eq_true rfl) rfl (As := [.int v1, .int v2]) (rest := [.ref (gad Γ 0)]) rfl rfl (Nat.le_of_ble_eq_true rfl) hm (pc := 29) dX11_see_29 (fun t16 => ?_)
        refine j_iload_n hC (pc := 32) dX11_see_32 3 rfl rfl ?_
        refine j_icmp_ne hC (pc := 33) dX11_see_33 (tgt := 40) rfl ?_ ?_
        · refine j_sub [0, 1, 2] (loc' := [(0, .ref (gad Γ 0)), (1, .int v1), (2, .int v2)]) rfl ?_
          exact wX11_see_36 hC hR hm F κ v1 v2
        · refine j_iconst hC (pc := 40) dX11_see_40 ki_0 ?_
          refine j_sub [0, 1, 2] (loc' := [(0, .ref (gad Γ 0)), (1, .int v1), (2, .int v2)]) rfl ?_
          exact wX11_see_41 hC hR hm F κ v1 v2 0
theorem ctX11_see {Δ : DCtx} {l : Launch} (hl : dlay Δ = layM) (hN : dN Δ = 15) (F : Nat) (κ : Mem) (v1 : Int32) (v2 : Int32) (v3 : Int32) : ∀ r, pX11_see F κ v1 v2 v3 = some r → CT Δ l yX11_see cX11_see 8 (some .int) (rmH 3) [.ref (dad Δ 0), .int v1, .int v2, .int v3] κ (some (.int r.1)) r.2 :=
  ct_of (nL := 8) (ret := (some .int)) (lay := layM) (N := 15) (by decide +kernel) (fun Δ => [.ref (dad Δ 0), .int v1, .int v2, .int v3]) (fun _ => oE) (fun _ => (Nat.le_of_ble_eq_true rfl)) (fun Γ hR hm hC => wX11_see hC hR hm F κ v1 v2 v3) Δ l hl hN
set_option maxRecDepth 20000 in
theorem wX11_shuffle_29 {Γ : JCtx} (hC : jC Γ cX11_shuffle 2 RX11 (some .int) layM 15) (hR : gR Γ = rmH 6) (hm : gcells Γ ≤ (gR Γ).cells ∧ gslots Γ ≤ (gR Γ).slots) (F : Nat) (κ : Mem) (v1 : Int32) (y0 : Int32) : JP Γ (qf Γ oE) (pX11_shuffle_29 F κ v1 y0) κ 29 [(0, .ref (gad Γ 0)), (1, .int v1)] [.int y0, .ref (gad Γ 0)] := by
  unfold pX11_shuffle_29
  refine j_callV_E hC hR (ctX11_is hC.l hC.cn κ y0) kc_RX11_145 (Nat.le_of_ble_eq_true rfl) (Nat.le_of_ble_eq_true rfl) lM_0 (Nat.le_of_ble_eq_true rfl) rfl (As := [.int y0]) (rest := []) rfl rfl (Nat.le_of_ble_eq_true rfl) hm (pc := 29) dX11_shuffle_29 (fun t2 => ?_)
  refine j_if_ne hC (pc := 32) dX11_shuffle_32 (tgt := 37) rfl ?_ ?_
  · refine j_iconst hC (pc := 35) dX11_shuffle_35 ki_m1 ?_
    exact j_iret hC (pc := 36) dX11_shuffle_36 rfl rfl rfl
  · refine j_aload_n hC (pc := 37) dX11_shuffle_37 0 rfl rfl ?_
    refine j_callV_V hC hR (ctX11_remembers hC.l hC.cn F t2.2) kc_RX11_310 (Nat.le_of_ble_eq_true rfl) (Nat.le_of_ble_eq_true rfl) lM_0 (Nat.le_of_ble_eq_true rfl) rfl (As := []) (rest := []) rfl rfl (Nat.le_of_ble_eq_true rfl) hm (pc := 38) dX11_shuffle_38 (fun t3 => ?_)
    refine j_aload_n hC (pc := 41) dX11_shuffle_41 0 rfl rfl ?_
    refine j_iload_n hC (pc := 42) dX11_shuffle_42 1 rfl rfl ?_
    refine j_callV_V hC hR (ctX11_draws hC.l hC.cn F t3 v1) kc_RX11_277 (Nat.le_of_ble_eq_true rfl) (Nat.le_of_ble_eq_true rfl) lM_0 (Nat.le_of_ble_eq_true rfl) rfl (As := [.int v1]) (rest := []) rfl rfl (Nat.le_of_ble_eq_true rfl) hm (pc := 43) dX11_shuffle_43 (fun t4 => ?_)
    refine j_aload_n hC (pc := 46) dX11_shuffle_46 0 rfl rfl ?_
    refine j_callV_E hC hR (ctX11_lostNow hC.l hC.cn F t4) kc_RX11_214 (Nat.le_of_ble_eq_true rfl) (Nat.le_of_ble_eq_true rfl) lM_0 (Nat.le_of_ble_eq_true rfl) rfl (As := []) (rest := []) rfl rfl (Nat.le_of_ble_eq_true rfl) hm (pc := 47) dX11_shuffle_47 (fun t5 => ?_)
    exact j_iret hC (pc := 50) dX11_shuffle_50 rfl rfl rfl
set_option maxRecDepth 20000 in
theorem wX11_shuffle {Γ : JCtx} (hC : jC Γ cX11_shuffle 2 RX11 (some .int) layM 15) (hR : gR Γ = rmH 6) (hm : gcells Γ ≤ (gR Γ).cells ∧ gslots Γ ≤ (gR Γ).slots) (F : Nat) (κ : Mem) (v1 : Int32) : JP Γ (qf Γ oE) (pX11_shuffle F κ v1) κ 0 [(0, .ref (gad Γ 0)), (1, .int v1)] [] := by
  unfold pX11_shuffle
  refine j_aload_n hC (pc := 0) dX11_shuffle_0 0 rfl rfl ?_
  refine j_iload_n hC (pc := 1) dX11_shuffle_1 1 rfl rfl ?_
  refine j_i2l hC (pc := 2) dX11_shuffle_2 ?_
  refine j_lconst hC (pc := 3) dX11_shuffle_3 rfl ?_
  refine j_ldc2 hC (pc := 4) dX11_shuffle_4 w_951 ?_
  refine j_callS_I hC hR (ctX11_isIn hC.l hC.cn κ v1.toInt64 0 999999999) kc_RX11_92 (Nat.le_of_ble_eq_true rfl) (Nat.le_of_ble_eq_true rfl) (As := [.long (v1.toInt64), .long 0, .long 999999999]) (rest := [.ref (gad Γ 0)]) rfl rfl (Nat.le_of_ble_eq_true rfl) hm (pc := 7) dX11_shuffle_7 (fun t1 => ?_)
  refine j_if_ne hC (pc := 10) dX11_shuffle_10 (tgt := 17) rfl ?_ ?_
  · refine j_iconst hC (pc := 13) dX11_shuffle_13 ki_1 ?_
    refine j_goto hC (pc := 14) dX11_shuffle_14 (tgt := 29) rfl ?_
    exact wX11_shuffle_29 hC hR hm F κ v1 1
  · refine j_aload_n hC (pc := 17) dX11_shuffle_17 0 rfl rfl ?_
    refine j_callV_I hC hR (ctX11_players hC.l hC.cn κ) kc_RX11_108 (Nat.le_of_ble_eq_true rfl) (Nat.le_of_ble_eq_true rfl) lM_0 (Nat.le_of_ble_eq_true rfl) rfl (As := []) (rest := [.ref (gad Γ 0)]) rfl rfl (Nat.le_of_ble_eq_true rfl) hm (pc := 18) dX11_shuffle_18 (fun t6 => ?_)
    refine j_if_ne hC (pc := 21) dX11_shuffle_21 (tgt := 28) rfl ?_ ?_
    · refine j_iconst hC (pc := 24) dX11_shuffle_24 ki_5 ?_
      refine j_goto hC (pc := 25) dX11_shuffle_25 (tgt := 29) rfl ?_
      exact wX11_shuffle_29 hC hR hm F κ v1 5
    · refine j_iconst hC (pc := 28) dX11_shuffle_28 ki_0 ?_
      exact wX11_shuffle_29 hC hR hm F κ v1 0
theorem ctX11_shuffle {Δ : DCtx} {l : Launch} (hl : dlay Δ = layM) (hN : dN Δ = 15) (F : Nat) (κ : Mem) (v1 : Int32) : ∀ r, pX11_shuffle F κ v1 = some r → CT Δ l yX11_shuffle cX11_shuffle 2 (some .int) (rmH 6) [.ref (dad Δ 0), .int v1] κ (some (.int r.1)) r.2 :=
  ct_of (nL := 2) (ret := (some .int)) (lay := layM) (N := 15) (by decide +kernel) (fun Δ => [.ref (dad Δ 0), .int v1]) (fun _ => oE) (fun _ => (Nat.le_of_ble_eq_true rfl)) (fun Γ hR hm hC => wX11_shuffle hC hR hm F κ v1) Δ l hl hN
set_option maxRecDepth 20000 in
theorem wX11_undo_33 {Γ : JCtx} (hC : jC Γ cX11_undo 2 RX11 (some .int) layM 15) (hR : gR Γ = rmH 1) (hm : gcells Γ ≤ (gR Γ).cells ∧ gslots Γ ≤ (gR Γ).slots) (F : Nat) : ∀ (n : Nat) (κ : Mem) (v1 : Int32), JP Γ (qf Γ oE) (pX11_undo_33 F n κ v1) κ 33 [(0, .ref (gad Γ 0)), (1, .int v1)] [] := by
  intro n
  induction n with
  | zero =>
    intro κ v1
    rw [pX11_undo_33]
    exact j_none
  | succ fu ih =>
    intro κ v1
    rw [pX11_undo_33]
    refine j_iload_n hC (pc := 33) dX11_undo_33 1 rfl rfl ?_
    refine j_sipush hC (pc := 34) dX11_undo_34 ks_6157 ?_
    refine j_icmp_ge hC (pc := 37) dX11_undo_37 (tgt := 67) rfl ?_ ?_
    · refine j_aload_n hC (pc := 40) dX11_undo_40 0 rfl rfl ?_
      refine j_getR hC (pc := 41) dX11_undo_41 kf_RX11_7 lM_0 (Nat.le_of_ble_eq_true rfl) rfl ?_
      refine j_iload_n hC (pc := 44) dX11_undo_44 1 rfl rfl ?_
      refine j_aload_n hC (pc := 45) dX11_undo_45 0 rfl rfl ?_
      refine j_getR hC (pc := 46) dX11_undo_46 kf_RX11_17 lM_0 (Nat.le_of_ble_eq_true rfl) rfl ?_
      refine j_sipush hC (pc := 49) dX11_undo_49 ks_6157 ?_
      refine j_aload_n hC (pc := 52) dX11_undo_52 0 rfl rfl ?_
      refine j_getI hC (pc := 53) dX11_undo_53 kf_RX11_155 lM_0 (Nat.le_of_ble_eq_true rfl) rfl ?_
      refine j_imul hC (pc := 56) dX11_undo_56 ?_
      refine j_iload_n hC (pc := 57) dX11_undo_57 1 rfl rfl ?_
      refine j_iadd hC (pc := 58) dX11_undo_58 ?_
      refine j_iald hC (pc := 59) dX11_undo_59 lM_3 (Nat.le_of_ble_eq_true rfl) ?_
      refine j_iast hC (pc := 60) dX11_undo_60 lM_1 (Nat.le_of_ble_eq_true rfl) (fun κ3 => ?_)
      refine j_iinc hC (pc := 61) dX11_undo_61 1 rfl ki_1 (Nat.le_of_ble_eq_true rfl) (loc' := [(1, .int (v1 + 1)), (0, .ref (gad Γ 0))]) rfl ?_
      refine j_goto hC (pc := 64) dX11_undo_64 (tgt := 33) rfl ?_
      refine j_sub [1, 0] (loc' := [(0, .ref (gad Γ 0)), (1, .int (v1 + 1))]) rfl ?_
      exact ih κ3 (v1 + 1)
    · refine j_aload_n hC (pc := 67) dX11_undo_67 0 rfl rfl ?_
      refine j_getI hC (pc := 68) dX11_undo_68 kf_RX11_155 lM_0 (Nat.le_of_ble_eq_true rfl) rfl ?_
      exact j_iret hC (pc := 71) dX11_undo_71 rfl rfl rfl
set_option maxRecDepth 20000 in
theorem wX11_undo_13 {Γ : JCtx} (hC : jC Γ cX11_undo 2 RX11 (some .int) layM 15) (hR : gR Γ = rmH 1) (hm : gcells Γ ≤ (gR Γ).cells ∧ gslots Γ ≤ (gR Γ).slots) (F : Nat) (κ : Mem) (y0 : Int32) : JP Γ (qf Γ oE) (pX11_undo_13 F κ y0) κ 13 [(0, .ref (gad Γ 0))] [.int y0, .ref (gad Γ 0)] := by
  unfold pX11_undo_13
  refine j_callV_E hC hR (ctX11_is hC.l hC.cn κ y0) kc_RX11_145 (Nat.le_of_ble_eq_true rfl) (Nat.le_of_ble_eq_true rfl) lM_0 (Nat.le_of_ble_eq_true rfl) rfl (As := [.int y0]) (rest := []) rfl rfl (Nat.le_of_ble_eq_true rfl) hm (pc := 13) dX11_undo_13 (fun t1 => ?_)
  refine j_if_ne hC (pc := 16) dX11_undo_16 (tgt := 21) rfl ?_ ?_
  · refine j_iconst hC (pc := 19) dX11_undo_19 ki_m1 ?_
    exact j_iret hC (pc := 20) dX11_undo_20 rfl rfl rfl
  · refine j_aload_n hC (pc := 21) dX11_undo_21 0 rfl rfl ?_
    refine j_dup hC (pc := 22) dX11_undo_22 rfl ?_
    refine j_getI hC (pc := 23) dX11_undo_23 kf_RX11_155 lM_0 (Nat.le_of_ble_eq_true rfl) rfl ?_
    refine j_iconst hC (pc := 26) dX11_undo_26 ki_1 ?_
    refine j_isub hC (pc := 27) dX11_undo_27 ?_
    refine j_putI hC (pc := 28) dX11_undo_28 kp_RX11_155 lM_0 (Nat.le_of_ble_eq_true rfl) rfl rfl rfl (fun κ2 => ?_)
    refine j_iconst hC (pc := 31) dX11_undo_31 ki_0 ?_
    refine j_istore_n hC (pc := 32) dX11_undo_32 rfl (Nat.le_of_ble_eq_true rfl) (loc' := [(1, .int 0), (0, .ref (gad Γ 0))]) rfl ?_
    refine j_sub [1, 0] (loc' := [(0, .ref (gad Γ 0)), (1, .int 0)]) rfl ?_
    exact wX11_undo_33 hC hR hm F F κ2 0
set_option maxRecDepth 20000 in
theorem wX11_undo {Γ : JCtx} (hC : jC Γ cX11_undo 2 RX11 (some .int) layM 15) (hR : gR Γ = rmH 1) (hm : gcells Γ ≤ (gR Γ).cells ∧ gslots Γ ≤ (gR Γ).slots) (F : Nat) (κ : Mem) : JP Γ (qf Γ oE) (pX11_undo F κ) κ 0 [(0, .ref (gad Γ 0))] [] := by
  unfold pX11_undo
  refine j_aload_n hC (pc := 0) dX11_undo_0 0 rfl rfl ?_
  refine j_aload_n hC (pc := 1) dX11_undo_1 0 rfl rfl ?_
  refine j_getI hC (pc := 2) dX11_undo_2 kf_RX11_155 lM_0 (Nat.le_of_ble_eq_true rfl) rfl ?_
  refine j_if_ne hC (pc := 5) dX11_undo_5 (tgt := 12) rfl ?_ ?_
  · refine j_iconst hC (pc := 8) dX11_undo_8 ki_5 ?_
    refine j_goto hC (pc := 9) dX11_undo_9 (tgt := 13) rfl ?_
    exact wX11_undo_13 hC hR hm F κ 5
  · refine j_iconst hC (pc := 12) dX11_undo_12 ki_0 ?_
    exact wX11_undo_13 hC hR hm F κ 0
theorem ctX11_undo {Δ : DCtx} {l : Launch} (hl : dlay Δ = layM) (hN : dN Δ = 15) (F : Nat) (κ : Mem) : ∀ r, pX11_undo F κ = some r → CT Δ l yX11_undo cX11_undo 2 (some .int) (rmH 1) [.ref (dad Δ 0)] κ (some (.int r.1)) r.2 :=
  ct_of (nL := 2) (ret := (some .int)) (lay := layM) (N := 15) (by decide +kernel) (fun Δ => [.ref (dad Δ 0)]) (fun _ => oE) (fun _ => (Nat.le_of_ble_eq_true rfl)) (fun Γ hR hm hC => wX11_undo hC hR hm F κ) Δ l hl hN
set_option maxRecDepth 20000 in
theorem wX11_says {Γ : JCtx} (hC : jC Γ cX11_says 2 RX11 none layM 15) (hR : gR Γ = rmH 0) (hm : gcells Γ ≤ (gR Γ).cells ∧ gslots Γ ≤ (gR Γ).slots) (κ : Mem) (v1 : Int32) : JP Γ (qf Γ oV) (pX11_says κ v1) κ 0 [(0, .ref (gad Γ 0)), (1, .int v1)] [] := by
  unfold pX11_says
  refine j_aload_n hC (pc := 0) dX11_says_0 0 rfl rfl ?_
  refine j_getR hC (pc := 1) dX11_says_1 kf_RX11_41 lM_0 (Nat.le_of_ble_eq_true rfl) rfl ?_
  refine j_aload_n hC (pc := 4) dX11_says_4 0 rfl rfl ?_
  refine j_getI hC (pc := 5) dX11_says_5 kf_RX11_327 lM_0 (Nat.le_of_ble_eq_true rfl) rfl ?_
  refine j_iload_n hC (pc := 8) dX11_says_8 1 rfl rfl ?_
  refine j_iast hC (pc := 9) dX11_says_9 lM_11 (Nat.le_of_ble_eq_true rfl) (fun κ1 => ?_)
  refine j_aload_n hC (pc := 10) dX11_says_10 0 rfl rfl ?_
  refine j_dup hC (pc := 11) dX11_says_11 rfl ?_
  refine j_getI hC (pc := 12) dX11_says_12 kf_RX11_327 lM_0 (Nat.le_of_ble_eq_true rfl) rfl ?_
  refine j_iconst hC (pc := 15) dX11_says_15 ki_1 ?_
  refine j_iadd hC (pc := 16) dX11_says_16 ?_
  refine j_putI hC (pc := 17) dX11_says_17 kp_RX11_327 lM_0 (Nat.le_of_ble_eq_true rfl) rfl rfl rfl (fun κ2 => ?_)
  exact j_vret hC (pc := 20) dX11_says_20 rfl rfl
theorem ctX11_says {Δ : DCtx} {l : Launch} (hl : dlay Δ = layM) (hN : dN Δ = 15) (κ : Mem) (v1 : Int32) : ∀ r, pX11_says κ v1 = some r → CT Δ l yX11_says cX11_says 2 none (rmH 0) [.ref (dad Δ 0), .int v1] κ none r :=
  ct_of (nL := 2) (ret := none) (lay := layM) (N := 15) (by decide +kernel) (fun Δ => [.ref (dad Δ 0), .int v1]) (fun _ => oV) (fun _ => (Nat.le_of_ble_eq_true rfl)) (fun Γ hR hm hC => wX11_says hC hR hm κ v1) Δ l hl hN
set_option maxRecDepth 20000 in
theorem wX11_saysWord_2 {Γ : JCtx} (hC : jC Γ cX11_saysWord 3 RX11 none layM 15) (hR : gR Γ = rmH 4) (hm : gcells Γ ≤ (gR Γ).cells ∧ gslots Γ ≤ (gR Γ).slots) (z1 : Nat) (hz1 : z1 < nJS) (F : Nat) : ∀ (n : Nat) (κ : Mem) (v2 : Int32), JP Γ (qf Γ oV) (pX11_saysWord_2 F z1 n κ v2) κ 2 [(0, .ref (gad Γ 0)), (1, .ref (dadK (gΔ Γ) z1)), (2, .int v2)] [] := by
  intro n
  induction n with
  | zero =>
    intro κ v2
    rw [pX11_saysWord_2]
    exact j_none
  | succ fu ih =>
    intro κ v2
    rw [pX11_saysWord_2]
    refine j_iload_n hC (pc := 2) dX11_saysWord_2 2 rfl rfl ?_
    refine j_aload_n hC (pc := 3) dX11_saysWord_3 1 rfl rfl ?_
    refine j_callT_I hC hR (ctJ0_length_8abf5 hC.l hC.cn z1 hz1 κ) kc_RX11_330 (Nat.le_of_ble_eq_true rfl) (Nat.le_of_ble_eq_true rfl) (i := z1) hz1 (As := []) (rest := [.int v2]) rfl rfl (Nat.le_of_ble_eq_true rfl) hm (pc := 4) dX11_saysWord_4 (fun t1 => ?_)
    refine j_icmp_ge hC (pc := 7) dX11_saysWord_7 (tgt := 25) rfl ?_ ?_
    · refine j_aload_n hC (pc := 10) dX11_saysWord_10 0 rfl rfl ?_
      refine j_aload_n hC (pc := 11) dX11_saysWord_11 1 rfl rfl ?_
      refine j_iload_n hC (pc := 12) dX11_saysWord_12 2 rfl rfl ?_
      refine j_callT_I hC hR (ctJ0_charAt_5068e hC.l hC.cn z1 hz1 κ v2) kc_RX11_335 (Nat.le_of_ble_eq_true rfl) (Nat.le_of_ble_eq_true rfl) (i := z1) hz1 (As := [.int v2]) (rest := [.ref (gad Γ 0)]) rfl rfl (Nat.le_of_ble_eq_true rfl) hm (pc := 13) dX11_saysWord_13 (fun t2 => ?_)
      refine j_callV_V hC hR (ctX11_says hC.l hC.cn κ t2) kc_RX11_339 (Nat.le_of_ble_eq_true rfl) (Nat.le_of_ble_eq_true rfl) lM_0 (Nat.le_of_ble_eq_true rfl) rfl (As := [.int t2]) (rest := []) rfl rfl (Nat.le_of_ble_eq_true rfl) hm (pc := 16) dX11_saysWord_16 (fun t3 => ?_)
      refine j_iinc hC (pc := 19) dX11_saysWord_19 2 rfl ki_1 (Nat.le_of_ble_eq_true rfl) (loc' := [(2, .int (v2 + 1)), (0, .ref (gad Γ 0)), (1, .ref (dadK (gΔ Γ) z1))]) rfl ?_
      refine j_goto hC (pc := 22) dX11_saysWord_22 (tgt := 2) rfl ?_
      refine j_sub [1, 2, 0] (loc' := [(0, .ref (gad Γ 0)), (1, .ref (dadK (gΔ Γ) z1)), (2, .int (v2 + 1))]) rfl ?_
      exact ih t3 (v2 + 1)
    · exact j_vret hC (pc := 25) dX11_saysWord_25 rfl rfl
set_option maxRecDepth 20000 in
theorem wX11_saysWord {Γ : JCtx} (hC : jC Γ cX11_saysWord 3 RX11 none layM 15) (hR : gR Γ = rmH 4) (hm : gcells Γ ≤ (gR Γ).cells ∧ gslots Γ ≤ (gR Γ).slots) (z1 : Nat) (hz1 : z1 < nJS) (F : Nat) (κ : Mem) : JP Γ (qf Γ oV) (pX11_saysWord F z1 κ) κ 0 [(0, .ref (gad Γ 0)), (1, .ref (dadK (gΔ Γ) z1))] [] := by
  unfold pX11_saysWord
  refine j_iconst hC (pc := 0) dX11_saysWord_0 ki_0 ?_
  refine j_istore_n hC (pc := 1) dX11_saysWord_1 rfl (Nat.le_of_ble_eq_true rfl) (loc' := [(2, .int 0), (0, .ref (gad Γ 0)), (1, .ref (dadK (gΔ Γ) z1))]) rfl ?_
  refine j_sub [1, 2, 0] (loc' := [(0, .ref (gad Γ 0)), (1, .ref (dadK (gΔ Γ) z1)), (2, .int 0)]) rfl ?_
  exact wX11_saysWord_2 hC hR hm z1 hz1 F F κ 0
theorem ctX11_saysWord {Δ : DCtx} {l : Launch} (hl : dlay Δ = layM) (hN : dN Δ = 15) (z1 : Nat) (hz1 : z1 < nJS) (F : Nat) (κ : Mem) : ∀ r, pX11_saysWord F z1 κ = some r → CT Δ l yX11_saysWord cX11_saysWord 3 none (rmH 4) [.ref (dad Δ 0), .ref (dadK (Δ) z1)] κ none r :=
  ct_of (nL := 3) (ret := none) (lay := layM) (N := 15) (by decide +kernel) (fun Δ => [.ref (dad Δ 0), .ref (dadK (Δ) z1)]) (fun _ => oV) (fun _ => (Nat.le_of_ble_eq_true rfl)) (fun Γ hR hm hC => wX11_saysWord hC hR hm z1 hz1 F κ) Δ l hl hN
set_option maxRecDepth 20000 in
theorem wX11_saysNumber {Γ : JCtx} (hC : jC Γ cX11_saysNumber 2 RX11 none layM 15) (hR : gR Γ = rmH 1) (hm : gcells Γ ≤ (gR Γ).cells ∧ gslots Γ ≤ (gR Γ).slots) (κ : Mem) (v1 : Int32) : JP Γ (qf Γ oV) (pX11_saysNumber κ v1) κ 0 [(0, .ref (gad Γ 0)), (1, .int v1)] [] := by
  unfold pX11_saysNumber
  refine j_aload_n hC (pc := 0) dX11_saysNumber_0 0 rfl rfl ?_
  refine j_bipush hC (pc := 1) dX11_saysNumber_1 kb_32 ?_
  refine j_callV_V hC hR (ctX11_says hC.l hC.cn κ 32) kc_RX11_339 (Nat.le_of_ble_eq_true rfl) (Nat.le_of_ble_eq_true rfl) lM_0 (Nat.le_of_ble_eq_true rfl) rfl (As := [.int 32]) (rest := []) rfl rfl (Nat.le_of_ble_eq_true rfl) hm (pc := 3) dX11_saysNumber_3 (fun t1 => ?_)
  refine j_aload_n hC (pc := 6) dX11_saysNumber_6 0 rfl rfl ?_
  refine j_bipush hC (pc := 7) dX11_saysNumber_7 kb_48 ?_
  refine j_iload_n hC (pc := 9) dX11_saysNumber_9 1 rfl rfl ?_
  refine j_iadd hC (pc := 10) dX11_saysNumber_10 ?_
  refine j_callV_V hC hR (ctX11_says hC.l hC.cn t1 (48 + v1)) kc_RX11_339 (Nat.le_of_ble_eq_true rfl) (Nat.le_of_ble_eq_true rfl) lM_0 (Nat.le_of_ble_eq_true rfl) rfl (As := [.int (48 + v1)]) (rest := []) rfl rfl (Nat.le_of_ble_eq_true rfl) hm (pc := 11) dX11_saysNumber_11 (fun t2 => ?_)
  exact j_vret hC (pc := 14) dX11_saysNumber_14 rfl rfl
theorem ctX11_saysNumber {Δ : DCtx} {l : Launch} (hl : dlay Δ = layM) (hN : dN Δ = 15) (κ : Mem) (v1 : Int32) : ∀ r, pX11_saysNumber κ v1 = some r → CT Δ l yX11_saysNumber cX11_saysNumber 2 none (rmH 1) [.ref (dad Δ 0), .int v1] κ none r :=
  ct_of (nL := 2) (ret := none) (lay := layM) (N := 15) (by decide +kernel) (fun Δ => [.ref (dad Δ 0), .int v1]) (fun _ => oV) (fun _ => (Nat.le_of_ble_eq_true rfl)) (fun Γ hR hm hC => wX11_saysNumber hC hR hm κ v1) Δ l hl hN
set_option maxRecDepth 20000 in
theorem wX11_saysTwo {Γ : JCtx} (hC : jC Γ cX11_saysTwo 4 RX11 none layM 15) (hR : gR Γ = rmH 5) (hm : gcells Γ ≤ (gR Γ).cells ∧ gslots Γ ≤ (gR Γ).slots) (z1 : Nat) (hz1 : z1 < nJS) (F : Nat) (κ : Mem) (v2 : Int32) (v3 : Int32) : JP Γ (qf Γ oV) (pX11_saysTwo F z1 κ v2 v3) κ 0 [(0, .ref (gad Γ 0)), (1, .ref (dadK (gΔ Γ) z1)), (2, .int v2), (3, .int v3)] [] := by
  unfold pX11_saysTwo
  refine j_aload_n hC (pc := 0) dX11_saysTwo_0 0 rfl rfl ?_
  refine j_aload_n hC (pc := 1) dX11_saysTwo_1 1 rfl rfl ?_
  refine j_callV_V hC hR (ctX11_saysWord hC.l hC.cn z1 hz1 F κ) kc_RX11_342 (Nat.le_of_ble_eq_true rfl) (Nat.le_of_ble_eq_true rfl) lM_0 (Nat.le_of_ble_eq_true rfl) rfl (As := [.ref (dadK (gΔ Γ) z1)]) (rest := []) rfl rfl (Nat.le_of_ble_eq_true rfl) hm (pc := 2) dX11_saysTwo_2 (fun t1 => ?_)
  refine j_aload_n hC (pc := 5) dX11_saysTwo_5 0 rfl rfl ?_
  refine j_iload_n hC (pc := 6) dX11_saysTwo_6 2 rfl rfl ?_
  refine j_callV_V hC hR (ctX11_saysNumber hC.l hC.cn t1 v2) kc_RX11_346 (Nat.le_of_ble_eq_true rfl) (Nat.le_of_ble_eq_true rfl) lM_0 (Nat.le_of_ble_eq_true rfl) rfl (As := [.int v2]) (rest := []) rfl rfl (Nat.le_of_ble_eq_true rfl) hm (pc := 7) dX11_saysTwo_7 (fun t2 => ?_)
  refine j_aload_n hC (pc := 10) dX11_saysTwo_10 0 rfl rfl ?_
  refine j_iload_n hC (pc := 11) dX11_saysTwo_11 3 rfl rfl ?_
  refine j_callV_V hC hR (ctX11_saysNumber hC.l hC.cn t2 v3) kc_RX11_346 (Nat.le_of_ble_eq_true rfl) (Nat.le_of_ble_eq_true rfl) lM_0 (Nat.le_of_ble_eq_true rfl) rfl (As := [.int v3]) (rest := []) rfl rfl (Nat.le_of_ble_eq_true rfl) hm (pc := 12) dX11_saysTwo_12 (fun t3 => ?_)
  refine j_aload_n hC (pc := 15) dX11_saysTwo_15 0 rfl rfl ?_
  refine j_bipush hC (pc := 16) dX11_saysTwo_16 kb_59 ?_
  refine j_callV_V hC hR (ctX11_says hC.l hC.cn t3 59) kc_RX11_339 (Nat.le_of_ble_eq_true rfl) (Nat.le_of_ble_eq_true rfl) lM_0 (Nat.le_of_ble_eq_true rfl) rfl (As := [.int 59]) (rest := []) rfl rfl (Nat.le_of_ble_eq_true rfl) hm (pc := 18) dX11_saysTwo_18 (fun t4 => ?_)
  exact j_vret hC (pc := 21) dX11_saysTwo_21 rfl rfl
theorem ctX11_saysTwo {Δ : DCtx} {l : Launch} (hl : dlay Δ = layM) (hN : dN Δ = 15) (z1 : Nat) (hz1 : z1 < nJS) (F : Nat) (κ : Mem) (v2 : Int32) (v3 : Int32) : ∀ r, pX11_saysTwo F z1 κ v2 v3 = some r → CT Δ l yX11_saysTwo cX11_saysTwo 4 none (rmH 5) [.ref (dad Δ 0), .ref (dadK (Δ) z1), .int v2, .int v3] κ none r :=
  ct_of (nL := 4) (ret := none) (lay := layM) (N := 15) (by decide +kernel) (fun Δ => [.ref (dad Δ 0), .ref (dadK (Δ) z1), .int v2, .int v3]) (fun _ => oV) (fun _ => (Nat.le_of_ble_eq_true rfl)) (fun Γ hR hm hC => wX11_saysTwo hC hR hm z1 hz1 F κ v2 v3) Δ l hl hN
set_option maxRecDepth 20000 in
theorem wX11_saysGame_88 {Γ : JCtx} (hC : jC Γ cX11_saysGame 3 RX11 none layM 15) (hR : gR Γ = rmH 6) (hm : gcells Γ ≤ (gR Γ).cells ∧ gslots Γ ≤ (gR Γ).slots) (F : Nat) (κ : Mem) (v1 : Int32) (v2 : Int32) (k62 : Mem → Int32 → Option Mem) (hk62 : ∀ (κ : Mem) (v2 : Int32), JP Γ (qf Γ oV) (k62 κ v2) κ 62 [(0, .ref (gad Γ 0)), (1, .int v1), (2, .int v2)] []) : JP Γ (qf Γ oV) (pX11_saysGame_88 F k62 κ v1 v2) κ 88 [(0, .ref (gad Γ 0)), (1, .int v1), (2, .int v2)] [] := by
  unfold pX11_saysGame_88
  refine j_iinc hC (pc := 88) dX11_saysGame_88 2 rfl ki_1 (Nat.le_of_ble_eq_true rfl) (loc' := [(2, .int (v2 + 1)), (0, .ref (gad Γ 0)), (1, .int v1)]) rfl ?_
  refine j_goto hC (pc := 91) dX11_saysGame_91 (tgt := 62) rfl ?_
  refine j_sub [1, 2, 0] (loc' := [(0, .ref (gad Γ 0)), (1, .int v1), (2, .int (v2 + 1))]) rfl ?_
  exact hk62 κ (v2 + 1)
set_option maxRecDepth 20000 in
theorem wX11_saysGame_62 {Γ : JCtx} (hC : jC Γ cX11_saysGame 3 RX11 none layM 15) (hR : gR Γ = rmH 6) (hm : gcells Γ ≤ (gR Γ).cells ∧ gslots Γ ≤ (gR Γ).slots) (F : Nat) (v1 : Int32) (k52 : Mem → Int32 → Option Mem) (hk52 : ∀ (κ : Mem) (v1 : Int32), JP Γ (qf Γ oV) (k52 κ v1) κ 52 [(0, .ref (gad Γ 0)), (1, .int v1)] []) : ∀ (n : Nat) (κ : Mem) (v2 : Int32), JP Γ (qf Γ oV) (pX11_saysGame_62 F k52 v1 n κ v2) κ 62 [(0, .ref (gad Γ 0)), (1, .int v1), (2, .int v2)] [] := by
  intro n
  induction n with
  | zero =>
    intro κ v2
    rw [pX11_saysGame_62]
    exact j_none
  | succ fu ih =>
    intro κ v2
    rw [pX11_saysGame_62]
    refine j_iload_n hC (pc := 62) dX11_saysGame_62 2 rfl rfl ?_
    refine j_aload_n hC (pc := 63) dX11_saysGame_63 0 rfl rfl ?_
    refine j_callV_I hC hR (ctX11_players hC.l hC.cn κ) kc_RX11_108 (Nat.le_of_ble_eq_true rfl) (Nat.le_of_ble_eq_true rfl) lM_0 (Nat.le_of_ble_eq_true rfl) rfl (As := []) (rest := [.int v2]) rfl rfl (Nat.le_of_ble_eq_true rfl) hm (pc := 64) dX11_saysGame_64 (fun t9 => ?_)
    refine j_icmp_ge hC (pc := 67) dX11_saysGame_67 (tgt := 94) rfl ?_ ?_
    · refine j_aload_n hC (pc := 70) dX11_saysGame_70 0 rfl rfl ?_
      refine j_iload_n hC (pc := 71) dX11_saysGame_71 1 rfl rfl ?_
      refine j_iload_n hC (pc := 72) dX11_saysGame_72 2 rfl rfl ?_
      refine j_callV_I hC hR (ctX11_sees hC.l hC.cn κ v1 v2) kc_RX11_115 (Nat.le_of_ble_eq_true rfl) (Nat.le_of_ble_eq_true rfl) lM_0 (Nat.le_of_ble_eq_true rfl) rfl (As := [.int v1, .int v2]) (rest := []) rfl rfl (Nat.le_of_ble_eq_true rfl) hm (pc := 73) dX11_saysGame_73 (fun t10 => ?_)
      refine j_if_eq hC (pc := 76) dX11_saysGame_76 (tgt := 88) rfl ?_ ?_
      · exact wX11_saysGame_88 hC hR hm F κ v1 v2 (pX11_saysGame_62 F k52 v1 fu) ih
      · refine j_aload_n hC (pc := 79) dX11_saysGame_79 0 rfl rfl ?_
        refine j_ldcSW hC (pc := 80) dX11_saysGame_80 (x := 17) (tx := "sees") rfl ?_
        refine j_iload_n hC (pc := 83) dX11_saysGame_83 1 rfl rfl ?_
        refine j_iload_n hC (pc := 84) dX11_saysGame_84 2 rfl rfl ?_
        refine j_callV_V hC hR (ctX11_saysTwo hC.l hC.cn 17 (Nat.le_of_ble_eq_true rfl) F κ v1 v2) kc_RX11_351 (Nat.le_of_ble_eq_true rfl) (Nat.le_of_ble_eq_true rfl) lM_0 (Nat.le_of_ble_eq_true rfl) rfl (As := [.ref (dadK (gΔ Γ) 17), .int v1, .int v2]) (rest := []) rfl rfl (Nat.le_of_ble_eq_true rfl) hm (pc := 85) dX11_saysGame_85 (fun t11 => ?_)
        exact wX11_saysGame_88 hC hR hm F t11 v1 v2 (pX11_saysGame_62 F k52 v1 fu) ih
    · refine j_iinc hC (pc := 94) dX11_saysGame_94 1 rfl ki_1 (Nat.le_of_ble_eq_true rfl) (loc' := [(1, .int (v1 + 1)), (0, .ref (gad Γ 0)), (2, .int v2)]) rfl ?_
      refine j_goto hC (pc := 97) dX11_saysGame_97 (tgt := 52) rfl ?_
      refine j_sub [1, 0] (loc' := [(0, .ref (gad Γ 0)), (1, .int (v1 + 1))]) rfl ?_
      exact hk52 κ (v1 + 1)
set_option maxRecDepth 20000 in
theorem wX11_saysGame_131 {Γ : JCtx} (hC : jC Γ cX11_saysGame 3 RX11 none layM 15) (hR : gR Γ = rmH 6) (hm : gcells Γ ≤ (gR Γ).cells ∧ gslots Γ ≤ (gR Γ).slots) (F : Nat) (v1 : Int32) (k102 : Mem → Int32 → Option Mem) (hk102 : ∀ (κ : Mem) (v1 : Int32), JP Γ (qf Γ oV) (k102 κ v1) κ 102 [(0, .ref (gad Γ 0)), (1, .int v1)] []) : ∀ (n : Nat) (κ : Mem) (v2 : Int32), JP Γ (qf Γ oV) (pX11_saysGame_131 F k102 v1 n κ v2) κ 131 [(0, .ref (gad Γ 0)), (1, .int v1), (2, .int v2)] [] := by
  intro n
  induction n with
  | zero =>
    intro κ v2
    rw [pX11_saysGame_131]
    exact j_none
  | succ fu ih =>
    intro κ v2
    rw [pX11_saysGame_131]
    refine j_iload_n hC (pc := 131) dX11_saysGame_131 2 rfl rfl ?_
    refine j_aload_n hC (pc := 132) dX11_saysGame_132 0 rfl rfl ?_
    refine j_iload_n hC (pc := 133) dX11_saysGame_133 1 rfl rfl ?_
    refine j_callV_I hC hR (ctX11_situations_ hC.l hC.cn F κ v1) kc_RX11_174 (Nat.le_of_ble_eq_true rfl) (Nat.le_of_ble_eq_true rfl) lM_0 (Nat.le_of_ble_eq_true rfl) rfl (As := [.int v1]) (rest := [.int v2]) rfl rfl (Nat.le_of_ble_eq_true rfl) hm (pc := 134) dX11_saysGame_134 (fun t16 => ?_)
    refine j_icmp_ge hC (pc := 137) dX11_saysGame_137 (tgt := 156) rfl ?_ ?_
    · refine j_aload_n hC (pc := 140) dX11_saysGame_140 0 rfl rfl ?_
      refine j_aload_n hC (pc := 141) dX11_saysGame_141 0 rfl rfl ?_
      refine j_iload_n hC (pc := 142) dX11_saysGame_142 1 rfl rfl ?_
      refine j_iload_n hC (pc := 143) dX11_saysGame_143 2 rfl rfl ?_
      refine j_callV_I hC hR (ctX11_entry hC.l hC.cn κ v1 v2) kc_RX11_121 (Nat.le_of_ble_eq_true rfl) (Nat.le_of_ble_eq_true rfl) lM_0 (Nat.le_of_ble_eq_true rfl) rfl (As := [.int v1, .int v2]) (rest := [.ref (gad Γ 0)]) rfl rfl (Nat.le_of_ble_eq_true rfl) hm (pc := 144) dX11_saysGame_144 (fun t17 => ?_)
      refine j_callV_V hC hR (ctX11_saysNumber hC.l hC.cn κ t17) kc_RX11_346 (Nat.le_of_ble_eq_true rfl) (Nat.le_of_ble_eq_true rfl) lM_0 (Nat.le_of_ble_eq_true rfl) rfl (As := [.int t17]) (rest := []) rfl rfl (Nat.le_of_ble_eq_true rfl) hm (pc := 147) dX11_saysGame_147 (fun t18 => ?_)
      refine j_iinc hC (pc := 150) dX11_saysGame_150 2 rfl ki_1 (Nat.le_of_ble_eq_true rfl) (loc' := [(2, .int (v2 + 1)), (0, .ref (gad Γ 0)), (1, .int v1)]) rfl ?_
      refine j_goto hC (pc := 153) dX11_saysGame_153 (tgt := 131) rfl ?_
      refine j_sub [1, 2, 0] (loc' := [(0, .ref (gad Γ 0)), (1, .int v1), (2, .int (v2 + 1))]) rfl ?_
      exact ih t18 (v2 + 1)
    · refine j_aload_n hC (pc := 156) dX11_saysGame_156 0 rfl rfl ?_
      refine j_bipush hC (pc := 157) dX11_saysGame_157 kb_59 ?_
      refine j_callV_V hC hR (ctX11_says hC.l hC.cn κ 59) kc_RX11_339 (Nat.le_of_ble_eq_true rfl) (Nat.le_of_ble_eq_true rfl) lM_0 (Nat.le_of_ble_eq_true rfl) rfl (As := [.int 59]) (rest := []) rfl rfl (Nat.le_of_ble_eq_true rfl) hm (pc := 159) dX11_saysGame_159 (fun t19 => ?_)
      refine j_iinc hC (pc := 162) dX11_saysGame_162 1 rfl ki_1 (Nat.le_of_ble_eq_true rfl) (loc' := [(1, .int (v1 + 1)), (0, .ref (gad Γ 0)), (2, .int v2)]) rfl ?_
      refine j_goto hC (pc := 165) dX11_saysGame_165 (tgt := 102) rfl ?_
      refine j_sub [1, 0] (loc' := [(0, .ref (gad Γ 0)), (1, .int (v1 + 1))]) rfl ?_
      exact hk102 t19 (v1 + 1)
set_option maxRecDepth 20000 in
theorem wX11_saysGame_102 {Γ : JCtx} (hC : jC Γ cX11_saysGame 3 RX11 none layM 15) (hR : gR Γ = rmH 6) (hm : gcells Γ ≤ (gR Γ).cells ∧ gslots Γ ≤ (gR Γ).slots) (F : Nat) : ∀ (n : Nat) (κ : Mem) (v1 : Int32), JP Γ (qf Γ oV) (pX11_saysGame_102 F n κ v1) κ 102 [(0, .ref (gad Γ 0)), (1, .int v1)] [] := by
  intro n
  induction n with
  | zero =>
    intro κ v1
    rw [pX11_saysGame_102]
    exact j_none
  | succ fu ih =>
    intro κ v1
    rw [pX11_saysGame_102]
    refine j_iload_n hC (pc := 102) dX11_saysGame_102 1 rfl rfl ?_
    refine j_aload_n hC (pc := 103) dX11_saysGame_103 0 rfl rfl ?_
    refine j_callV_I hC hR (ctX11_players hC.l hC.cn κ) kc_RX11_108 (Nat.le_of_ble_eq_true rfl) (Nat.le_of_ble_eq_true rfl) lM_0 (Nat.le_of_ble_eq_true rfl) rfl (As := []) (rest := [.int v1]) rfl rfl (Nat.le_of_ble_eq_true rfl) hm (pc := 104) dX11_saysGame_104 (fun t12 => ?_)
    refine j_icmp_ge hC (pc := 107) dX11_saysGame_107 (tgt := 168) rfl ?_ ?_
    · refine j_aload_n hC (pc := 110) dX11_saysGame_110 0 rfl rfl ?_
      refine j_ldcSW hC (pc := 111) dX11_saysGame_111 (x := 18) (tx := "guess") rfl ?_
      refine j_callV_V hC hR (ctX11_saysWord hC.l hC.cn 18 (Nat.le_of_ble_eq_true rfl) F κ) kc_RX11_342 (Nat.le_of_ble_eq_true rfl) (Nat.le_of_ble_eq_true rfl) lM_0 (Nat.le_of_ble_eq_true rfl) rfl (As := [.ref (dadK (gΔ Γ) 18)]) (rest := []) rfl rfl (Nat.le_of_ble_eq_true rfl) hm (pc := 114) dX11_saysGame_114 (fun t13 => ?_)
      refine j_aload_n hC (pc := 117) dX11_saysGame_117 0 rfl rfl ?_
      refine j_iload_n hC (pc := 118) dX11_saysGame_118 1 rfl rfl ?_
      refine j_callV_V hC hR (ctX11_saysNumber hC.l hC.cn t13 v1) kc_RX11_346 (Nat.le_of_ble_eq_true rfl) (Nat.le_of_ble_eq_true rfl) lM_0 (Nat.le_of_ble_eq_true rfl) rfl (As := [.int v1]) (rest := []) rfl rfl (Nat.le_of_ble_eq_true rfl) hm (pc := 119) dX11_saysGame_119 (fun t14 => ?_)
      refine j_aload_n hC (pc := 122) dX11_saysGame_122 0 rfl rfl ?_
      refine j_ldcSW hC (pc := 123) dX11_saysGame_123 (x := 19) (tx := " table") rfl ?_
      refine j_callV_V hC hR (ctX11_saysWord hC.l hC.cn 19 (Nat.le_of_ble_eq_true rfl) F t14) kc_RX11_342 (Nat.le_of_ble_eq_true rfl) (Nat.le_of_ble_eq_true rfl) lM_0 (Nat.le_of_ble_eq_true rfl) rfl (As := [.ref (dadK (gΔ Γ) 19)]) (rest := []) rfl rfl (Nat.le_of_ble_eq_true rfl) hm (pc := 126) dX11_saysGame_126 (fun t15 => ?_)
      refine j_iconst hC (pc := 129) dX11_saysGame_129 ki_0 ?_
      refine j_istore_n hC (pc := 130) dX11_saysGame_130 rfl (Nat.le_of_ble_eq_true rfl) (loc' := [(2, .int 0), (0, .ref (gad Γ 0)), (1, .int v1)]) rfl ?_
      refine j_sub [1, 2, 0] (loc' := [(0, .ref (gad Γ 0)), (1, .int v1), (2, .int 0)]) rfl ?_
      exact wX11_saysGame_131 hC hR hm F v1 (pX11_saysGame_102 F fu) ih F t15 0
    · exact j_vret hC (pc := 168) dX11_saysGame_168 rfl rfl
set_option maxRecDepth 20000 in
theorem wX11_saysGame_52 {Γ : JCtx} (hC : jC Γ cX11_saysGame 3 RX11 none layM 15) (hR : gR Γ = rmH 6) (hm : gcells Γ ≤ (gR Γ).cells ∧ gslots Γ ≤ (gR Γ).slots) (F : Nat) : ∀ (n : Nat) (κ : Mem) (v1 : Int32), JP Γ (qf Γ oV) (pX11_saysGame_52 F n κ v1) κ 52 [(0, .ref (gad Γ 0)), (1, .int v1)] [] := by
  intro n
  induction n with
  | zero =>
    intro κ v1
    rw [pX11_saysGame_52]
    exact j_none
  | succ fu ih =>
    intro κ v1
    rw [pX11_saysGame_52]
    refine j_iload_n hC (pc := 52) dX11_saysGame_52 1 rfl rfl ?_
    refine j_aload_n hC (pc := 53) dX11_saysGame_53 0 rfl rfl ?_
    refine j_callV_I hC hR (ctX11_players hC.l hC.cn κ) kc_RX11_108 (Nat.le_of_ble_eq_true rfl) (Nat.le_of_ble_eq_true rfl) lM_0 (Nat.le_of_ble_eq_true rfl) rfl (As := []) (rest := [.int v1]) rfl rfl (Nat.le_of_ble_eq_true rfl) hm (pc := 54) dX11_saysGame_54 (fun t8 => ?_)
    refine j_icmp_ge hC (pc := 57) dX11_saysGame_57 (tgt := 100) rfl ?_ ?_
    · refine j_iconst hC (pc := 60) dX11_saysGame_60 ki_0 ?_
      refine j_istore_n hC (pc := 61) dX11_saysGame_61 rfl (Nat.le_of_ble_eq_true rfl) (loc' := [(2, .int 0), (0, .ref (gad Γ 0)), (1, .int v1)]) rfl ?_
      refine j_sub [1, 2, 0] (loc' := [(0, .ref (gad Γ 0)), (1, .int v1), (2, .int 0)]) rfl ?_
      exact wX11_saysGame_62 hC hR hm F v1 (pX11_saysGame_52 F fu) ih F κ 0
    · refine j_iconst hC (pc := 100) dX11_saysGame_100 ki_0 ?_
      refine j_istore_n hC (pc := 101) dX11_saysGame_101 rfl (Nat.le_of_ble_eq_true rfl) (loc' := [(1, .int 0), (0, .ref (gad Γ 0))]) rfl ?_
      refine j_sub [1, 0] (loc' := [(0, .ref (gad Γ 0)), (1, .int 0)]) rfl ?_
      exact wX11_saysGame_102 hC hR hm F F κ 0
set_option maxRecDepth 20000 in
theorem wX11_saysGame_23 {Γ : JCtx} (hC : jC Γ cX11_saysGame 3 RX11 none layM 15) (hR : gR Γ = rmH 6) (hm : gcells Γ ≤ (gR Γ).cells ∧ gslots Γ ≤ (gR Γ).slots) (F : Nat) : ∀ (n : Nat) (κ : Mem) (v1 : Int32), JP Γ (qf Γ oV) (pX11_saysGame_23 F n κ v1) κ 23 [(0, .ref (gad Γ 0)), (1, .int v1)] [] := by
  intro n
  induction n with
  | zero =>
    intro κ v1
    rw [pX11_saysGame_23]
    exact j_none
  | succ fu ih =>
    intro κ v1
    rw [pX11_saysGame_23]
    refine j_iload_n hC (pc := 23) dX11_saysGame_23 1 rfl rfl ?_
    refine j_aload_n hC (pc := 24) dX11_saysGame_24 0 rfl rfl ?_
    refine j_callV_I hC hR (ctX11_players hC.l hC.cn κ) kc_RX11_108 (Nat.le_of_ble_eq_true rfl) (Nat.le_of_ble_eq_true rfl) lM_0 (Nat.le_of_ble_eq_true rfl) rfl (As := []) (rest := [.int v1]) rfl rfl (Nat.le_of_ble_eq_true rfl) hm (pc := 25) dX11_saysGame_25 (fun t5 => ?_)
    refine j_icmp_ge hC (pc := 28) dX11_saysGame_28 (tgt := 50) rfl ?_ ?_
    · refine j_aload_n hC (pc := 31) dX11_saysGame_31 0 rfl rfl ?_
      refine j_ldcSW hC (pc := 32) dX11_saysGame_32 (x := 16) (tx := "hats") rfl ?_
      refine j_iload_n hC (pc := 35) dX11_saysGame_35 1 rfl rfl ?_
      refine j_aload_n hC (pc := 36) dX11_saysGame_36 0 rfl rfl ?_
      refine j_iload_n hC (pc := 37) dX11_saysGame_37 1 rfl rfl ?_
      refine j_callV_I hC hR (ctX11_hats hC.l hC.cn κ v1) kc_RX11_111 (Nat.le_of_ble_eq_true rfl) (Nat.le_of_ble_eq_true rfl) lM_0 (Nat.le_of_ble_eq_true rfl) rfl (As := [.int v1]) (rest := [.int v1, .ref (dadK (gΔ Γ) 16), .ref (gad Γ 0)]) rfl rfl (Nat.le_of_ble_eq_true rfl) hm (pc := 38) dX11_saysGame_38 (fun t6 => ?_)
      refine j_callV_V hC hR (ctX11_saysTwo hC.l hC.cn 16 (Nat.le_of_ble_eq_true rfl) F κ v1 t6) kc_RX11_351 (Nat.le_of_ble_eq_true rfl) (Nat.le_of_ble_eq_true rfl) lM_0 (Nat.le_of_ble_eq_true rfl) rfl (As := [.ref (dadK (gΔ Γ) 16), .int v1, .int t6]) (rest := []) rfl rfl (Nat.le_of_ble_eq_true rfl) hm (pc := 41) dX11_saysGame_41 (fun t7 => ?_)
      refine j_iinc hC (pc := 44) dX11_saysGame_44 1 rfl ki_1 (Nat.le_of_ble_eq_true rfl) (loc' := [(1, .int (v1 + 1)), (0, .ref (gad Γ 0))]) rfl ?_
      refine j_goto hC (pc := 47) dX11_saysGame_47 (tgt := 23) rfl ?_
      refine j_sub [1, 0] (loc' := [(0, .ref (gad Γ 0)), (1, .int (v1 + 1))]) rfl ?_
      exact ih t7 (v1 + 1)
    · refine j_iconst hC (pc := 50) dX11_saysGame_50 ki_0 ?_
      refine j_istore_n hC (pc := 51) dX11_saysGame_51 rfl (Nat.le_of_ble_eq_true rfl) (loc' := [(1, .int 0), (0, .ref (gad Γ 0))]) rfl ?_
      refine j_sub [1, 0] (loc' := [(0, .ref (gad Γ 0)), (1, .int 0)]) rfl ?_
      exact wX11_saysGame_52 hC hR hm F F κ 0
set_option maxRecDepth 20000 in
theorem wX11_saysGame {Γ : JCtx} (hC : jC Γ cX11_saysGame 3 RX11 none layM 15) (hR : gR Γ = rmH 6) (hm : gcells Γ ≤ (gR Γ).cells ∧ gslots Γ ≤ (gR Γ).slots) (F : Nat) (κ : Mem) : JP Γ (qf Γ oV) (pX11_saysGame F κ) κ 0 [(0, .ref (gad Γ 0))] [] := by
  unfold pX11_saysGame
  refine j_aload_n hC (pc := 0) dX11_saysGame_0 0 rfl rfl ?_
  refine j_ldcSW hC (pc := 1) dX11_saysGame_1 (x := 15) (tx := "players") rfl ?_
  refine j_callV_V hC hR (ctX11_saysWord hC.l hC.cn 15 (Nat.le_of_ble_eq_true rfl) F κ) kc_RX11_342 (Nat.le_of_ble_eq_true rfl) (Nat.le_of_ble_eq_true rfl) lM_0 (Nat.le_of_ble_eq_true rfl) rfl (As := [.ref (dadK (gΔ Γ) 15)]) (rest := []) rfl rfl (Nat.le_of_ble_eq_true rfl) hm (pc := 4) dX11_saysGame_4 (fun t1 => ?_)
  refine j_aload_n hC (pc := 7) dX11_saysGame_7 0 rfl rfl ?_
  refine j_aload_n hC (pc := 8) dX11_saysGame_8 0 rfl rfl ?_
  refine j_callV_I hC hR (ctX11_players hC.l hC.cn t1) kc_RX11_108 (Nat.le_of_ble_eq_true rfl) (Nat.le_of_ble_eq_true rfl) lM_0 (Nat.le_of_ble_eq_true rfl) rfl (As := []) (rest := [.ref (gad Γ 0)]) rfl rfl (Nat.le_of_ble_eq_true rfl) hm (pc := 9) dX11_saysGame_9 (fun t2 => ?_)
  refine j_callV_V hC hR (ctX11_saysNumber hC.l hC.cn t1 t2) kc_RX11_346 (Nat.le_of_ble_eq_true rfl) (Nat.le_of_ble_eq_true rfl) lM_0 (Nat.le_of_ble_eq_true rfl) rfl (As := [.int t2]) (rest := []) rfl rfl (Nat.le_of_ble_eq_true rfl) hm (pc := 12) dX11_saysGame_12 (fun t3 => ?_)
  refine j_aload_n hC (pc := 15) dX11_saysGame_15 0 rfl rfl ?_
  refine j_bipush hC (pc := 16) dX11_saysGame_16 kb_59 ?_
  refine j_callV_V hC hR (ctX11_says hC.l hC.cn t3 59) kc_RX11_339 (Nat.le_of_ble_eq_true rfl) (Nat.le_of_ble_eq_true rfl) lM_0 (Nat.le_of_ble_eq_true rfl) rfl (As := [.int 59]) (rest := []) rfl rfl (Nat.le_of_ble_eq_true rfl) hm (pc := 18) dX11_saysGame_18 (fun t4 => ?_)
  refine j_iconst hC (pc := 21) dX11_saysGame_21 ki_0 ?_
  refine j_istore_n hC (pc := 22) dX11_saysGame_22 rfl (Nat.le_of_ble_eq_true rfl) (loc' := [(1, .int 0), (0, .ref (gad Γ 0))]) rfl ?_
  refine j_sub [1, 0] (loc' := [(0, .ref (gad Γ 0)), (1, .int 0)]) rfl ?_
  exact wX11_saysGame_23 hC hR hm F F t4 0
theorem ctX11_saysGame {Δ : DCtx} {l : Launch} (hl : dlay Δ = layM) (hN : dN Δ = 15) (F : Nat) (κ : Mem) : ∀ r, pX11_saysGame F κ = some r → CT Δ l yX11_saysGame cX11_saysGame 3 none (rmH 6) [.ref (dad Δ 0)] κ none r :=
  ct_of (nL := 3) (ret := none) (lay := layM) (N := 15) (by decide +kernel) (fun Δ => [.ref (dad Δ 0)]) (fun _ => oV) (fun _ => (Nat.le_of_ble_eq_true rfl)) (fun Γ hR hm hC => wX11_saysGame hC hR hm F κ) Δ l hl hN
set_option maxRecDepth 20000 in
theorem wX11_print_40 {Γ : JCtx} (hC : jC Γ cX11_print 2 RX11 (some .int) layM 15) (hR : gR Γ = rmH 7) (hm : gcells Γ ≤ (gR Γ).cells ∧ gslots Γ ≤ (gR Γ).slots) (F : Nat) : ∀ (n : Nat) (κ : Mem) (v1 : Int32), JP Γ (qf Γ oE) (pX11_print_40 F n κ v1) κ 40 [(0, .ref (gad Γ 0)), (1, .int v1)] [] := by
  intro n
  induction n with
  | zero =>
    intro κ v1
    rw [pX11_print_40]
    exact j_none
  | succ fu ih =>
    intro κ v1
    rw [pX11_print_40]
    refine j_iload_n hC (pc := 40) dX11_print_40 1 rfl rfl ?_
    refine j_aload_n hC (pc := 41) dX11_print_41 0 rfl rfl ?_
    refine j_getI hC (pc := 42) dX11_print_42 kf_RX11_327 lM_0 (Nat.le_of_ble_eq_true rfl) rfl ?_
    refine j_icmp_ge hC (pc := 45) dX11_print_45 (tgt := 66) rfl ?_ ?_
    · refine j_aload_n hC (pc := 48) dX11_print_48 0 rfl rfl ?_
      refine j_getR hC (pc := 49) dX11_print_49 kf_RX11_44 lM_0 (Nat.le_of_ble_eq_true rfl) rfl ?_
      refine j_iload_n hC (pc := 52) dX11_print_52 1 rfl rfl ?_
      refine j_aload_n hC (pc := 53) dX11_print_53 0 rfl rfl ?_
      refine j_getR hC (pc := 54) dX11_print_54 kf_RX11_41 lM_0 (Nat.le_of_ble_eq_true rfl) rfl ?_
      refine j_iload_n hC (pc := 57) dX11_print_57 1 rfl rfl ?_
      refine j_iald hC (pc := 58) dX11_print_58 lM_11 (Nat.le_of_ble_eq_true rfl) ?_
      refine j_iast hC (pc := 59) dX11_print_59 lM_12 (Nat.le_of_ble_eq_true rfl) (fun κ4 => ?_)
      refine j_iinc hC (pc := 60) dX11_print_60 1 rfl ki_1 (Nat.le_of_ble_eq_true rfl) (loc' := [(1, .int (v1 + 1)), (0, .ref (gad Γ 0))]) rfl ?_
      refine j_goto hC (pc := 63) dX11_print_63 (tgt := 40) rfl ?_
      refine j_sub [1, 0] (loc' := [(0, .ref (gad Γ 0)), (1, .int (v1 + 1))]) rfl ?_
      exact ih κ4 (v1 + 1)
    · refine j_aload_n hC (pc := 66) dX11_print_66 0 rfl rfl ?_
      refine j_aload_n hC (pc := 67) dX11_print_67 0 rfl rfl ?_
      refine j_getI hC (pc := 68) dX11_print_68 kf_RX11_327 lM_0 (Nat.le_of_ble_eq_true rfl) rfl ?_
      refine j_putI hC (pc := 71) dX11_print_71 kp_RX11_363 lM_0 (Nat.le_of_ble_eq_true rfl) rfl rfl rfl (fun κ5 => ?_)
      refine j_aload_n hC (pc := 74) dX11_print_74 0 rfl rfl ?_
      refine j_getI hC (pc := 75) dX11_print_75 kf_RX11_363 lM_0 (Nat.le_of_ble_eq_true rfl) rfl ?_
      exact j_iret hC (pc := 78) dX11_print_78 rfl rfl rfl
set_option maxRecDepth 20000 in
theorem wX11_print_22 {Γ : JCtx} (hC : jC Γ cX11_print 2 RX11 (some .int) layM 15) (hR : gR Γ = rmH 7) (hm : gcells Γ ≤ (gR Γ).cells ∧ gslots Γ ≤ (gR Γ).slots) (F : Nat) (κ : Mem) : JP Γ (qf Γ oE) (pX11_print_22 F κ) κ 22 [(0, .ref (gad Γ 0))] [] := by
  unfold pX11_print_22
  refine j_aload_n hC (pc := 22) dX11_print_22 0 rfl rfl ?_
  refine j_getI hC (pc := 23) dX11_print_23 kf_RX11_327 lM_0 (Nat.le_of_ble_eq_true rfl) rfl ?_
  refine j_sipush hC (pc := 26) dX11_print_26 ks_600 ?_
  refine j_icmp_le hC (pc := 29) dX11_print_29 (tgt := 38) rfl ?_ ?_
  · refine j_iconst hC (pc := 38) dX11_print_38 ki_0 ?_
    refine j_istore_n hC (pc := 39) dX11_print_39 rfl (Nat.le_of_ble_eq_true rfl) (loc' := [(1, .int 0), (0, .ref (gad Γ 0))]) rfl ?_
    refine j_sub [1, 0] (loc' := [(0, .ref (gad Γ 0)), (1, .int 0)]) rfl ?_
    exact wX11_print_40 hC hR hm F F κ 0
  · refine j_aload_n hC (pc := 32) dX11_print_32 0 rfl rfl ?_
    refine j_iconst hC (pc := 33) dX11_print_33 ki_3 ?_
    refine j_callV_E hC hR (ctX11_refuse hC.l hC.cn κ 3) kc_RX11_195 (Nat.le_of_ble_eq_true rfl) (Nat.le_of_ble_eq_true rfl) lM_0 (Nat.le_of_ble_eq_true rfl) rfl (As := [.int 3]) (rest := []) rfl rfl (Nat.le_of_ble_eq_true rfl) hm (pc := 34) dX11_print_34 (fun t6 => ?_)
    exact j_iret hC (pc := 37) dX11_print_37 rfl rfl rfl
set_option maxRecDepth 20000 in
theorem wX11_print {Γ : JCtx} (hC : jC Γ cX11_print 2 RX11 (some .int) layM 15) (hR : gR Γ = rmH 7) (hm : gcells Γ ≤ (gR Γ).cells ∧ gslots Γ ≤ (gR Γ).slots) (F : Nat) (κ : Mem) : JP Γ (qf Γ oE) (pX11_print F κ) κ 0 [(0, .ref (gad Γ 0))] [] := by
  unfold pX11_print
  refine j_aload_n hC (pc := 0) dX11_print_0 0 rfl rfl ?_
  refine j_iconst hC (pc := 1) dX11_print_1 ki_0 ?_
  refine j_callV_E hC hR (ctX11_is hC.l hC.cn κ 0) kc_RX11_145 (Nat.le_of_ble_eq_true rfl) (Nat.le_of_ble_eq_true rfl) lM_0 (Nat.le_of_ble_eq_true rfl) rfl (As := [.int 0]) (rest := []) rfl rfl (Nat.le_of_ble_eq_true rfl) hm (pc := 2) dX11_print_2 (fun t1 => ?_)
  refine j_pop hC (pc := 5) dX11_print_5 rfl ?_
  refine j_aload_n hC (pc := 6) dX11_print_6 0 rfl rfl ?_
  refine j_iconst hC (pc := 7) dX11_print_7 ki_0 ?_
  refine j_putI hC (pc := 8) dX11_print_8 kp_RX11_327 lM_0 (Nat.le_of_ble_eq_true rfl) rfl rfl rfl (fun κ2 => ?_)
  refine j_aload_n hC (pc := 11) dX11_print_11 0 rfl rfl ?_
  refine j_callV_I hC hR (ctX11_players hC.l hC.cn κ2) kc_RX11_108 (Nat.le_of_ble_eq_true rfl) (Nat.le_of_ble_eq_true rfl) lM_0 (Nat.le_of_ble_eq_true rfl) rfl (As := []) (rest := []) rfl rfl (Nat.le_of_ble_eq_true rfl) hm (pc := 12) dX11_print_12 (fun t3 => ?_)
  refine j_if_le hC (pc := 15) dX11_print_15 (tgt := 22) rfl ?_ ?_
  · exact wX11_print_22 hC hR hm F κ2
  · refine j_aload_n hC (pc := 18) dX11_print_18 0 rfl rfl ?_
    refine j_callV_V hC hR (ctX11_saysGame hC.l hC.cn F κ2) kc_RX11_360 (Nat.le_of_ble_eq_true rfl) (Nat.le_of_ble_eq_true rfl) lM_0 (Nat.le_of_ble_eq_true rfl) rfl (As := []) (rest := []) rfl rfl (Nat.le_of_ble_eq_true rfl) hm (pc := 19) dX11_print_19 (fun t7 => ?_)
    exact wX11_print_22 hC hR hm F t7
theorem ctX11_print {Δ : DCtx} {l : Launch} (hl : dlay Δ = layM) (hN : dN Δ = 15) (F : Nat) (κ : Mem) : ∀ r, pX11_print F κ = some r → CT Δ l yX11_print cX11_print 2 (some .int) (rmH 7) [.ref (dad Δ 0)] κ (some (.int r.1)) r.2 :=
  ct_of (nL := 2) (ret := (some .int)) (lay := layM) (N := 15) (by decide +kernel) (fun Δ => [.ref (dad Δ 0)]) (fun _ => oE) (fun _ => (Nat.le_of_ble_eq_true rfl)) (fun Γ hR hm hC => wX11_print hC hR hm F κ) Δ l hl hN
set_option maxRecDepth 20000 in
theorem wX11_out_38 {Γ : JCtx} (hC : jC Γ cX11_out 2 RX11 (some .int) layM 15) (hR : gR Γ = rmH 1) (hm : gcells Γ ≤ (gR Γ).cells ∧ gslots Γ ≤ (gR Γ).slots) (κ : Mem) (y0 : Int32) : JP Γ (qf Γ oE) (pX11_out_38 κ y0) κ 38 [] [.int y0] := by
  unfold pX11_out_38
  exact j_iret hC (pc := 38) dX11_out_38 rfl rfl rfl
set_option maxRecDepth 20000 in
theorem wX11_out_22 {Γ : JCtx} (hC : jC Γ cX11_out 2 RX11 (some .int) layM 15) (hR : gR Γ = rmH 1) (hm : gcells Γ ≤ (gR Γ).cells ∧ gslots Γ ≤ (gR Γ).slots) (κ : Mem) (v1 : Int32) (y0 : Int32) : JP Γ (qf Γ oE) (pX11_out_22 κ v1 y0) κ 22 [(0, .ref (gad Γ 0)), (1, .int v1)] [.int y0, .ref (gad Γ 0)] := by
  unfold pX11_out_22
  refine j_callV_E hC hR (ctX11_is hC.l hC.cn κ y0) kc_RX11_145 (Nat.le_of_ble_eq_true rfl) (Nat.le_of_ble_eq_true rfl) lM_0 (Nat.le_of_ble_eq_true rfl) rfl (As := [.int y0]) (rest := []) rfl rfl (Nat.le_of_ble_eq_true rfl) hm (pc := 22) dX11_out_22 (fun t1 => ?_)
  refine j_if_eq hC (pc := 25) dX11_out_25 (tgt := 37) rfl ?_ ?_
  · refine j_iconst hC (pc := 37) dX11_out_37 ki_m1 ?_
    refine j_sub [] (loc' := []) rfl ?_
    exact wX11_out_38 hC hR hm t1.2 (-1)
  · refine j_aload_n hC (pc := 28) dX11_out_28 0 rfl rfl ?_
    refine j_getR hC (pc := 29) dX11_out_29 kf_RX11_44 lM_0 (Nat.le_of_ble_eq_true rfl) rfl ?_
    refine j_iload_n hC (pc := 32) dX11_out_32 1 rfl rfl ?_
    refine j_iald hC (pc := 33) dX11_out_33 lM_12 (Nat.le_of_ble_eq_true rfl) ?_
    refine j_goto hC (pc := 34) dX11_out_34 (tgt := 38) rfl ?_
    refine j_sub [] (loc' := []) rfl ?_
    exact wX11_out_38 hC hR hm t1.2 (mi t1.2 12 v1.toNatClampNeg)
set_option maxRecDepth 20000 in
theorem wX11_out {Γ : JCtx} (hC : jC Γ cX11_out 2 RX11 (some .int) layM 15) (hR : gR Γ = rmH 1) (hm : gcells Γ ≤ (gR Γ).cells ∧ gslots Γ ≤ (gR Γ).slots) (κ : Mem) (v1 : Int32) : JP Γ (qf Γ oE) (pX11_out κ v1) κ 0 [(0, .ref (gad Γ 0)), (1, .int v1)] [] := by
  unfold pX11_out
  refine j_aload_n hC (pc := 0) dX11_out_0 0 rfl rfl ?_
  refine j_iload_n hC (pc := 1) dX11_out_1 1 rfl rfl ?_
  refine j_if_ge hC (pc := 2) dX11_out_2 (tgt := 9) rfl ?_ ?_
  · refine j_iconst hC (pc := 5) dX11_out_5 ki_1 ?_
    refine j_goto hC (pc := 6) dX11_out_6 (tgt := 22) rfl ?_
    exact wX11_out_22 hC hR hm κ v1 1
  · refine j_iload_n hC (pc := 9) dX11_out_9 1 rfl rfl ?_
    refine j_aload_n hC (pc := 10) dX11_out_10 0 rfl rfl ?_
    refine j_getI hC (pc := 11) dX11_out_11 kf_RX11_363 lM_0 (Nat.le_of_ble_eq_true rfl) rfl ?_
    refine j_icmp_lt hC (pc := 14) dX11_out_14 (tgt := 21) rfl ?_ ?_
    · refine j_iconst hC (pc := 21) dX11_out_21 ki_0 ?_
      exact wX11_out_22 hC hR hm κ v1 0
    · refine j_iconst hC (pc := 17) dX11_out_17 ki_5 ?_
      refine j_goto hC (pc := 18) dX11_out_18 (tgt := 22) rfl ?_
      exact wX11_out_22 hC hR hm κ v1 5
theorem ctX11_out {Δ : DCtx} {l : Launch} (hl : dlay Δ = layM) (hN : dN Δ = 15) (κ : Mem) (v1 : Int32) : ∀ r, pX11_out κ v1 = some r → CT Δ l yX11_out cX11_out 2 (some .int) (rmH 1) [.ref (dad Δ 0), .int v1] κ (some (.int r.1)) r.2 :=
  ct_of (nL := 2) (ret := (some .int)) (lay := layM) (N := 15) (by decide +kernel) (fun Δ => [.ref (dad Δ 0), .int v1]) (fun _ => oE) (fun _ => (Nat.le_of_ble_eq_true rfl)) (fun Γ hR hm hC => wX11_out hC hR hm κ v1) Δ l hl hN
set_option maxRecDepth 20000 in
theorem wX11_feeds_3 {Γ : JCtx} (hC : jC Γ cX11_feeds 3 RX11 none layM 15) (hR : gR Γ = rmH 0) (hm : gcells Γ ≤ (gR Γ).cells ∧ gslots Γ ≤ (gR Γ).slots) (F : Nat) (v1 : Int32) : ∀ (n : Nat) (κ : Mem) (v2 : Int32), JP Γ (qf Γ oV) (pX11_feeds_3 F v1 n κ v2) κ 3 [(0, .ref (gad Γ 0)), (1, .int v1), (2, .int v2)] [] := by
  intro n
  induction n with
  | zero =>
    intro κ v2
    rw [pX11_feeds_3]
    exact j_none
  | succ fu ih =>
    intro κ v2
    rw [pX11_feeds_3]
    refine j_iload_n hC (pc := 3) dX11_feeds_3 2 rfl rfl ?_
    refine j_if_lt hC (pc := 4) dX11_feeds_4 (tgt := 36) rfl ?_ ?_
    · exact j_vret hC (pc := 36) dX11_feeds_36 rfl rfl
    · refine j_aload_n hC (pc := 7) dX11_feeds_7 0 rfl rfl ?_
      refine j_getR hC (pc := 8) dX11_feeds_8 kf_RX11_47 lM_0 (Nat.le_of_ble_eq_true rfl) rfl ?_
      refine j_aload_n hC (pc := 11) dX11_feeds_11 0 rfl rfl ?_
      refine j_getI hC (pc := 12) dX11_feeds_12 kf_RX11_366 lM_0 (Nat.le_of_ble_eq_true rfl) rfl ?_
      refine j_iload_n hC (pc := 15) dX11_feeds_15 1 rfl rfl ?_
      refine j_iload_n hC (pc := 16) dX11_feeds_16 2 rfl rfl ?_
      refine j_ishr hC (pc := 17) dX11_feeds_17 ?_
      refine j_i2b hC (pc := 18) dX11_feeds_18 ?_
      refine j_bast hC (pc := 19) dX11_feeds_19 lM_13 (Nat.le_of_ble_eq_true rfl) (fun κ1 => ?_)
      refine j_aload_n hC (pc := 20) dX11_feeds_20 0 rfl rfl ?_
      refine j_dup hC (pc := 21) dX11_feeds_21 rfl ?_
      refine j_getI hC (pc := 22) dX11_feeds_22 kf_RX11_366 lM_0 (Nat.le_of_ble_eq_true rfl) rfl ?_
      refine j_iconst hC (pc := 25) dX11_feeds_25 ki_1 ?_
      refine j_iadd hC (pc := 26) dX11_feeds_26 ?_
      refine j_putI hC (pc := 27) dX11_feeds_27 kp_RX11_366 lM_0 (Nat.le_of_ble_eq_true rfl) rfl rfl rfl (fun κ2 => ?_)
      refine j_iinc hC (pc := 30) dX11_feeds_30 2 rfl ki_m8 (Nat.le_of_ble_eq_true rfl) (loc' := [(2, .int (v2 + (-8))), (0, .ref (gad Γ 0)), (1, .int v1)]) rfl ?_
      refine j_goto hC (pc := 33) dX11_feeds_33 (tgt := 3) rfl ?_
      refine j_sub [1, 2, 0] (loc' := [(0, .ref (gad Γ 0)), (1, .int v1), (2, .int (v2 + (-8)))]) rfl ?_
      exact ih κ2 (v2 + (-8))
set_option maxRecDepth 20000 in
theorem wX11_feeds {Γ : JCtx} (hC : jC Γ cX11_feeds 3 RX11 none layM 15) (hR : gR Γ = rmH 0) (hm : gcells Γ ≤ (gR Γ).cells ∧ gslots Γ ≤ (gR Γ).slots) (F : Nat) (κ : Mem) (v1 : Int32) : JP Γ (qf Γ oV) (pX11_feeds F κ v1) κ 0 [(0, .ref (gad Γ 0)), (1, .int v1)] [] := by
  unfold pX11_feeds
  refine j_bipush hC (pc := 0) dX11_feeds_0 kb_24 ?_
  refine j_istore_n hC (pc := 2) dX11_feeds_2 rfl (Nat.le_of_ble_eq_true rfl) (loc' := [(2, .int 24), (0, .ref (gad Γ 0)), (1, .int v1)]) rfl ?_
  refine j_sub [1, 2, 0] (loc' := [(0, .ref (gad Γ 0)), (1, .int v1), (2, .int 24)]) rfl ?_
  exact wX11_feeds_3 hC hR hm F v1 F κ 24
theorem ctX11_feeds {Δ : DCtx} {l : Launch} (hl : dlay Δ = layM) (hN : dN Δ = 15) (F : Nat) (κ : Mem) (v1 : Int32) : ∀ r, pX11_feeds F κ v1 = some r → CT Δ l yX11_feeds cX11_feeds 3 none (rmH 0) [.ref (dad Δ 0), .int v1] κ none r :=
  ct_of (nL := 3) (ret := none) (lay := layM) (N := 15) (by decide +kernel) (fun Δ => [.ref (dad Δ 0), .int v1]) (fun _ => oV) (fun _ => (Nat.le_of_ble_eq_true rfl)) (fun Γ hR hm hC => wX11_feeds hC hR hm F κ v1) Δ l hl hN
set_option maxRecDepth 20000 in
theorem wX11_feed {Γ : JCtx} (hC : jC Γ cX11_feed 6 RX11 (some .int) layM 15) (hR : gR Γ = rmH 1) (hm : gcells Γ ≤ (gR Γ).cells ∧ gslots Γ ≤ (gR Γ).slots) (F : Nat) (κ : Mem) (v1 : Int32) (v2 : Int32) (v3 : Int32) (v4 : Int32) (v5 : Int32) : JP Γ (qf Γ oE) (pX11_feed F κ v1 v2 v3 v4 v5) κ 0 [(0, .ref (gad Γ 0)), (1, .int v1), (2, .int v2), (3, .int v3), (4, .int v4), (5, .int v5)] [] := by
  unfold pX11_feed
  refine j_aload_n hC (pc := 0) dX11_feed_0 0 rfl rfl ?_
  refine j_iconst hC (pc := 1) dX11_feed_1 ki_0 ?_
  refine j_putI hC (pc := 2) dX11_feed_2 kp_RX11_82 lM_0 (Nat.le_of_ble_eq_true rfl) rfl rfl rfl (fun κ1 => ?_)
  refine j_aload_n hC (pc := 5) dX11_feed_5 0 rfl rfl ?_
  refine j_getI hC (pc := 6) dX11_feed_6 kf_RX11_366 lM_0 (Nat.le_of_ble_eq_true rfl) rfl ?_
  refine j_bipush hC (pc := 9) dX11_feed_9 kb_20 ?_
  refine j_iadd hC (pc := 11) dX11_feed_11 ?_
  refine j_sipush hC (pc := 12) dX11_feed_12 ks_600 ?_
  refine j_icmp_le hC (pc := 15) dX11_feed_15 (tgt := 20) rfl ?_ ?_
  · refine j_aload_n hC (pc := 20) dX11_feed_20 0 rfl rfl ?_
    refine j_iload_n hC (pc := 21) dX11_feed_21 1 rfl rfl ?_
    refine j_callV_V hC hR (ctX11_feeds hC.l hC.cn F κ1 v1) kc_RX11_369 (Nat.le_of_ble_eq_true rfl) (Nat.le_of_ble_eq_true rfl) lM_0 (Nat.le_of_ble_eq_true rfl) rfl (As := [.int v1]) (rest := []) rfl rfl (Nat.le_of_ble_eq_true rfl) hm (pc := 22) dX11_feed_22 (fun t2 => ?_)
    refine j_aload_n hC (pc := 25) dX11_feed_25 0 rfl rfl ?_
    refine j_iload_n hC (pc := 26) dX11_feed_26 2 rfl rfl ?_
    refine j_callV_V hC hR (ctX11_feeds hC.l hC.cn F t2 v2) kc_RX11_369 (Nat.le_of_ble_eq_true rfl) (Nat.le_of_ble_eq_true rfl) lM_0 (Nat.le_of_ble_eq_true rfl) rfl (As := [.int v2]) (rest := []) rfl rfl (Nat.le_of_ble_eq_true rfl) hm (pc := 27) dX11_feed_27 (fun t3 => ?_)
    refine j_aload_n hC (pc := 30) dX11_feed_30 0 rfl rfl ?_
    refine j_iload_n hC (pc := 31) dX11_feed_31 3 rfl rfl ?_
    refine j_callV_V hC hR (ctX11_feeds hC.l hC.cn F t3 v3) kc_RX11_369 (Nat.le_of_ble_eq_true rfl) (Nat.le_of_ble_eq_true rfl) lM_0 (Nat.le_of_ble_eq_true rfl) rfl (As := [.int v3]) (rest := []) rfl rfl (Nat.le_of_ble_eq_true rfl) hm (pc := 32) dX11_feed_32 (fun t4 => ?_)
    refine j_aload_n hC (pc := 35) dX11_feed_35 0 rfl rfl ?_
    refine j_iload hC (pc := 36) dX11_feed_36 4 rfl ?_
    refine j_callV_V hC hR (ctX11_feeds hC.l hC.cn F t4 v4) kc_RX11_369 (Nat.le_of_ble_eq_true rfl) (Nat.le_of_ble_eq_true rfl) lM_0 (Nat.le_of_ble_eq_true rfl) rfl (As := [.int v4]) (rest := []) rfl rfl (Nat.le_of_ble_eq_true rfl) hm (pc := 38) dX11_feed_38 (fun t5 => ?_)
    refine j_aload_n hC (pc := 41) dX11_feed_41 0 rfl rfl ?_
    refine j_iload hC (pc := 42) dX11_feed_42 5 rfl ?_
    refine j_callV_V hC hR (ctX11_feeds hC.l hC.cn F t5 v5) kc_RX11_369 (Nat.le_of_ble_eq_true rfl) (Nat.le_of_ble_eq_true rfl) lM_0 (Nat.le_of_ble_eq_true rfl) rfl (As := [.int v5]) (rest := []) rfl rfl (Nat.le_of_ble_eq_true rfl) hm (pc := 44) dX11_feed_44 (fun t6 => ?_)
    refine j_aload_n hC (pc := 47) dX11_feed_47 0 rfl rfl ?_
    refine j_getI hC (pc := 48) dX11_feed_48 kf_RX11_366 lM_0 (Nat.le_of_ble_eq_true rfl) rfl ?_
    exact j_iret hC (pc := 51) dX11_feed_51 rfl rfl rfl
  · refine j_iconst hC (pc := 18) dX11_feed_18 ki_m1 ?_
    exact j_iret hC (pc := 19) dX11_feed_19 rfl rfl rfl
theorem ctX11_feed {Δ : DCtx} {l : Launch} (hl : dlay Δ = layM) (hN : dN Δ = 15) (F : Nat) (κ : Mem) (v1 : Int32) (v2 : Int32) (v3 : Int32) (v4 : Int32) (v5 : Int32) : ∀ r, pX11_feed F κ v1 v2 v3 v4 v5 = some r → CT Δ l yX11_feed cX11_feed 6 (some .int) (rmH 1) [.ref (dad Δ 0), .int v1, .int v2, .int v3, .int v4, .int v5] κ (some (.int r.1)) r.2 :=
  ct_of (nL := 6) (ret := (some .int)) (lay := layM) (N := 15) (by decide +kernel) (fun Δ => [.ref (dad Δ 0), .int v1, .int v2, .int v3, .int v4, .int v5]) (fun _ => oE) (fun _ => (Nat.le_of_ble_eq_true rfl)) (fun Γ hR hm hC => wX11_feed hC hR hm F κ v1 v2 v3 v4 v5) Δ l hl hN
set_option maxRecDepth 20000 in
theorem wX11_isOf_30 {Γ : JCtx} (hC : jC Γ cX11_isOf 4 RX11 (some .boolean) layM 15) (hR : gR Γ = rmH 1) (hm : gcells Γ ≤ (gR Γ).cells ∧ gslots Γ ≤ (gR Γ).slots) (κ : Mem) (y0 : Int32) : JP Γ (qf Γ (oI κ)) (pX11_isOf_30 κ y0) κ 30 [] [.int y0] := by
  unfold pX11_isOf_30
  refine j_ckP (fun hq2 => ?_)
  exact j_iret hC (pc := 30) dX11_isOf_30 rfl (isB_n hq2) rfl
set_option maxRecDepth 20000 in
theorem wX11_isOf_29 {Γ : JCtx} (hC : jC Γ cX11_isOf 4 RX11 (some .boolean) layM 15) (hR : gR Γ = rmH 1) (hm : gcells Γ ≤ (gR Γ).cells ∧ gslots Γ ≤ (gR Γ).slots) (κ : Mem) : JP Γ (qf Γ (oI κ)) (pX11_isOf_29 κ) κ 29 [] [] := by
  unfold pX11_isOf_29
  refine j_iconst hC (pc := 29) dX11_isOf_29 ki_0 ?_
  exact wX11_isOf_30 hC hR hm κ 0
set_option maxRecDepth 20000 in
theorem wX11_isOf {Γ : JCtx} (hC : jC Γ cX11_isOf 4 RX11 (some .boolean) layM 15) (hR : gR Γ = rmH 1) (hm : gcells Γ ≤ (gR Γ).cells ∧ gslots Γ ≤ (gR Γ).slots) (κ : Mem) (v1 : Int32) (v2 : Int32) (v3 : Int32) : JP Γ (qf Γ (oI κ)) (pX11_isOf κ v1 v2 v3) κ 0 [(0, .ref (gad Γ 0)), (1, .int v1), (2, .int v2), (3, .int v3)] [] := by
  unfold pX11_isOf
  refine j_iload_n hC (pc := 0) dX11_isOf_0 1 rfl rfl ?_
  refine j_aload_n hC (pc := 1) dX11_isOf_1 0 rfl rfl ?_
  refine j_getI hC (pc := 2) dX11_isOf_2 kf_RX11_372 lM_0 (Nat.le_of_ble_eq_true rfl) rfl ?_
  refine j_icmp_ge hC (pc := 5) dX11_isOf_5 (tgt := 29) rfl ?_ ?_
  · refine j_aload_n hC (pc := 8) dX11_isOf_8 0 rfl rfl ?_
    refine j_getR hC (pc := 9) dX11_isOf_9 kf_RX11_47 lM_0 (Nat.le_of_ble_eq_true rfl) rfl ?_
    refine j_iload_n hC (pc := 12) dX11_isOf_12 1 rfl rfl ?_
    refine j_bald hC (pc := 13) dX11_isOf_13 lM_13 (Nat.le_of_ble_eq_true rfl) ?_
    refine j_i2l hC (pc := 14) dX11_isOf_14 ?_
    refine j_iload_n hC (pc := 15) dX11_isOf_15 2 rfl rfl ?_
    refine j_i2l hC (pc := 16) dX11_isOf_16 ?_
    refine j_iload_n hC (pc := 17) dX11_isOf_17 3 rfl rfl ?_
    refine j_i2l hC (pc := 18) dX11_isOf_18 ?_
    refine j_callS_I hC hR (ctX11_isIn hC.l hC.cn κ ((mi κ 13 v1.toNatClampNeg).toInt64) v2.toInt64 v3.toInt64) kc_RX11_92 (Nat.le_of_ble_eq_true rfl) (Nat.le_of_ble_eq_true rfl) (As := [.long ((mi κ 13 v1.toNatClampNeg).toInt64), .long (v2.toInt64), .long (v3.toInt64)]) (rest := []) rfl rfl (Nat.le_of_ble_eq_true rfl) hm (pc := 19) dX11_isOf_19 (fun t1 => ?_)
    refine j_if_eq hC (pc := 22) dX11_isOf_22 (tgt := 29) rfl ?_ ?_
    · refine j_sub [] (loc' := []) rfl ?_
      exact wX11_isOf_29 hC hR hm κ
    · refine j_iconst hC (pc := 25) dX11_isOf_25 ki_1 ?_
      refine j_goto hC (pc := 26) dX11_isOf_26 (tgt := 30) rfl ?_
      refine j_sub [] (loc' := []) rfl ?_
      exact wX11_isOf_30 hC hR hm κ 1
  · refine j_sub [] (loc' := []) rfl ?_
    exact wX11_isOf_29 hC hR hm κ
theorem ctX11_isOf {Δ : DCtx} {l : Launch} (hl : dlay Δ = layM) (hN : dN Δ = 15) (κ : Mem) (v1 : Int32) (v2 : Int32) (v3 : Int32) : ∀ r, pX11_isOf κ v1 v2 v3 = some r → CT Δ l yX11_isOf cX11_isOf 4 (some .boolean) (rmH 1) [.ref (dad Δ 0), .int v1, .int v2, .int v3] κ (some (.int r)) κ :=
  ct_of (nL := 4) (ret := (some .boolean)) (lay := layM) (N := 15) (by decide +kernel) (fun Δ => [.ref (dad Δ 0), .int v1, .int v2, .int v3]) (fun _ => oI κ) (fun _ => (Nat.le_of_ble_eq_true rfl)) (fun Γ hR hm hC => wX11_isOf hC hR hm κ v1 v2 v3) Δ l hl hN
set_option maxRecDepth 20000 in
theorem wX11_reads_348 {Γ : JCtx} (hC : jC Γ cX11_reads 1 RX11 none layM 15) (hR : gR Γ = rmH 2) (hm : gcells Γ ≤ (gR Γ).cells ∧ gslots Γ ≤ (gR Γ).slots) (F : Nat) (κ : Mem) : JP Γ (qf Γ oV) (pX11_reads_348 F κ) κ 348 [] [] := by
  unfold pX11_reads_348
  exact j_vret hC (pc := 348) dX11_reads_348 rfl rfl
set_option maxRecDepth 20000 in
theorem wX11_reads_345 {Γ : JCtx} (hC : jC Γ cX11_reads 1 RX11 none layM 15) (hR : gR Γ = rmH 2) (hm : gcells Γ ≤ (gR Γ).cells ∧ gslots Γ ≤ (gR Γ).slots) (F : Nat) (κ : Mem) (y0 : Int32) : JP Γ (qf Γ oV) (pX11_reads_345 F κ y0) κ 345 [] [.int y0, .ref (gad Γ 0)] := by
  unfold pX11_reads_345
  refine j_putI hC (pc := 345) dX11_reads_345 kp_RX11_385 lM_0 (Nat.le_of_ble_eq_true rfl) rfl rfl rfl (fun κ11 => ?_)
  exact wX11_reads_348 hC hR hm F κ11
set_option maxRecDepth 20000 in
theorem wX11_reads_310 {Γ : JCtx} (hC : jC Γ cX11_reads 1 RX11 none layM 15) (hR : gR Γ = rmH 2) (hm : gcells Γ ≤ (gR Γ).cells ∧ gslots Γ ≤ (gR Γ).slots) (F : Nat) (κ : Mem) (y0 : Int32) (k254 : Mem → Option Mem) (hk254 : ∀ (κ : Mem), JP Γ (qf Γ oV) (k254 κ) κ 254 [(0, .ref (gad Γ 0))] []) : JP Γ (qf Γ oV) (pX11_reads_310 F k254 κ y0) κ 310 [(0, .ref (gad Γ 0))] [.int y0, .ref (gad Γ 0)] := by
  unfold pX11_reads_310
  refine j_putI hC (pc := 310) dX11_reads_310 kp_RX11_396 lM_0 (Nat.le_of_ble_eq_true rfl) rfl rfl rfl (fun κ12 => ?_)
  refine j_aload_n hC (pc := 313) dX11_reads_313 0 rfl rfl ?_
  refine j_dup hC (pc := 314) dX11_reads_314 rfl ?_
  refine j_getI hC (pc := 315) dX11_reads_315 kf_RX11_375 lM_0 (Nat.le_of_ble_eq_true rfl) rfl ?_
  refine j_iconst hC (pc := 318) dX11_reads_318 ki_1 ?_
  refine j_iadd hC (pc := 319) dX11_reads_319 ?_
  refine j_putI hC (pc := 320) dX11_reads_320 kp_RX11_375 lM_0 (Nat.le_of_ble_eq_true rfl) rfl rfl rfl (fun κ13 => ?_)
  refine j_goto hC (pc := 323) dX11_reads_323 (tgt := 254) rfl ?_
  exact hk254 κ13
set_option maxRecDepth 20000 in
theorem wX11_reads_254 {Γ : JCtx} (hC : jC Γ cX11_reads 1 RX11 none layM 15) (hR : gR Γ = rmH 2) (hm : gcells Γ ≤ (gR Γ).cells ∧ gslots Γ ≤ (gR Γ).slots) (F : Nat) : ∀ (n : Nat) (κ : Mem), JP Γ (qf Γ oV) (pX11_reads_254 F n κ) κ 254 [(0, .ref (gad Γ 0))] [] := by
  intro n
  induction n with
  | zero =>
    intro κ
    rw [pX11_reads_254]
    exact j_none
  | succ fu ih =>
    intro κ
    rw [pX11_reads_254]
    refine j_aload_n hC (pc := 254) dX11_reads_254 0 rfl rfl ?_
    refine j_aload_n hC (pc := 255) dX11_reads_255 0 rfl rfl ?_
    refine j_getI hC (pc := 256) dX11_reads_256 kf_RX11_375 lM_0 (Nat.le_of_ble_eq_true rfl) rfl ?_
    refine j_bipush hC (pc := 259) dX11_reads_259 kb_48 ?_
    refine j_bipush hC (pc := 261) dX11_reads_261 kb_57 ?_
    refine j_callV_I hC hR (ctX11_isOf hC.l hC.cn κ (mi κ 0 28) 48 57) kc_RX11_381 (Nat.le_of_ble_eq_true rfl) (Nat.le_of_ble_eq_true rfl) lM_0 (Nat.le_of_ble_eq_true rfl) rfl (As := [.int (mi κ 0 28), .int 48, .int 57]) (rest := []) rfl rfl (Nat.le_of_ble_eq_true rfl) hm (pc := 263) dX11_reads_263 (fun t10 => ?_)
    refine j_if_eq hC (pc := 266) dX11_reads_266 (tgt := 326) rfl ?_ ?_
    · refine j_aload_n hC (pc := 326) dX11_reads_326 0 rfl rfl ?_
      refine j_aload_n hC (pc := 327) dX11_reads_327 0 rfl rfl ?_
      refine j_getI hC (pc := 328) dX11_reads_328 kf_RX11_375 lM_0 (Nat.le_of_ble_eq_true rfl) rfl ?_
      refine j_aload_n hC (pc := 331) dX11_reads_331 0 rfl rfl ?_
      refine j_getI hC (pc := 332) dX11_reads_332 kf_RX11_378 lM_0 (Nat.le_of_ble_eq_true rfl) rfl ?_
      refine j_isub hC (pc := 335) dX11_reads_335 ?_
      refine j_iconst hC (pc := 336) dX11_reads_336 ki_2 ?_
      refine j_icmp_le hC (pc := 337) dX11_reads_337 (tgt := 344) rfl ?_ ?_
      · refine j_iconst hC (pc := 344) dX11_reads_344 ki_2 ?_
        refine j_sub [] (loc' := []) rfl ?_
        exact wX11_reads_345 hC hR hm F κ 2
      · refine j_iconst hC (pc := 340) dX11_reads_340 ki_4 ?_
        refine j_goto hC (pc := 341) dX11_reads_341 (tgt := 345) rfl ?_
        refine j_sub [] (loc' := []) rfl ?_
        exact wX11_reads_345 hC hR hm F κ 4
    · refine j_aload_n hC (pc := 269) dX11_reads_269 0 rfl rfl ?_
      refine j_aload_n hC (pc := 270) dX11_reads_270 0 rfl rfl ?_
      refine j_getI hC (pc := 271) dX11_reads_271 kf_RX11_375 lM_0 (Nat.le_of_ble_eq_true rfl) rfl ?_
      refine j_aload_n hC (pc := 274) dX11_reads_274 0 rfl rfl ?_
      refine j_getI hC (pc := 275) dX11_reads_275 kf_RX11_378 lM_0 (Nat.le_of_ble_eq_true rfl) rfl ?_
      refine j_isub hC (pc := 278) dX11_reads_278 ?_
      refine j_iconst hC (pc := 279) dX11_reads_279 ki_2 ?_
      refine j_icmp_ge hC (pc := 280) dX11_reads_280 (tgt := 306) rfl ?_ ?_
      · refine j_bipush hC (pc := 283) dX11_reads_283 kb_10 ?_
        refine j_aload_n hC (pc := 285) dX11_reads_285 0 rfl rfl ?_
        refine j_getI hC (pc := 286) dX11_reads_286 kf_RX11_396 lM_0 (Nat.le_of_ble_eq_true rfl) rfl ?_
        refine j_imul hC (pc := 289) dX11_reads_289 ?_
        refine j_aload_n hC (pc := 290) dX11_reads_290 0 rfl rfl ?_
        refine j_getR hC (pc := 291) dX11_reads_291 kf_RX11_47 lM_0 (Nat.le_of_ble_eq_true rfl) rfl ?_
        refine j_aload_n hC (pc := 294) dX11_reads_294 0 rfl rfl ?_
        refine j_getI hC (pc := 295) dX11_reads_295 kf_RX11_375 lM_0 (Nat.le_of_ble_eq_true rfl) rfl ?_
        refine j_bald hC (pc := 298) dX11_reads_298 lM_13 (Nat.le_of_ble_eq_true rfl) ?_
        refine j_iadd hC (pc := 299) dX11_reads_299 ?_
        refine j_bipush hC (pc := 300) dX11_reads_300 kb_48 ?_
        refine j_isub hC (pc := 302) dX11_reads_302 ?_
        refine j_goto hC (pc := 303) dX11_reads_303 (tgt := 310) rfl ?_
        exact wX11_reads_310 hC hR hm F κ (((10 * (mi κ 0 30)) + (mi κ 13 (mi κ 0 28).toNatClampNeg)) - 48) (pX11_reads_254 F fu) ih
      · refine j_aload_n hC (pc := 306) dX11_reads_306 0 rfl rfl ?_
        refine j_getI hC (pc := 307) dX11_reads_307 kf_RX11_396 lM_0 (Nat.le_of_ble_eq_true rfl) rfl ?_
        exact wX11_reads_310 hC hR hm F κ (mi κ 0 30) (pX11_reads_254 F fu) ih
set_option maxRecDepth 20000 in
theorem wX11_reads_220 {Γ : JCtx} (hC : jC Γ cX11_reads 1 RX11 none layM 15) (hR : gR Γ = rmH 2) (hm : gcells Γ ≤ (gR Γ).cells ∧ gslots Γ ≤ (gR Γ).slots) (F : Nat) (κ : Mem) (y0 : Int32) : JP Γ (qf Γ oV) (pX11_reads_220 F κ y0) κ 220 [] [.int y0, .ref (gad Γ 0)] := by
  unfold pX11_reads_220
  refine j_putI hC (pc := 220) dX11_reads_220 kp_RX11_385 lM_0 (Nat.le_of_ble_eq_true rfl) rfl rfl rfl (fun κ17 => ?_)
  refine j_goto hC (pc := 223) dX11_reads_223 (tgt := 348) rfl ?_
  exact wX11_reads_348 hC hR hm F κ17
set_option maxRecDepth 20000 in
theorem wX11_reads_184 {Γ : JCtx} (hC : jC Γ cX11_reads 1 RX11 none layM 15) (hR : gR Γ = rmH 2) (hm : gcells Γ ≤ (gR Γ).cells ∧ gslots Γ ≤ (gR Γ).slots) (F : Nat) (κ : Mem) (y0 : Int64) (k127 : Mem → Option Mem) (hk127 : ∀ (κ : Mem), JP Γ (qf Γ oV) (k127 κ) κ 127 [(0, .ref (gad Γ 0))] []) : JP Γ (qf Γ oV) (pX11_reads_184 F k127 κ y0) κ 184 [(0, .ref (gad Γ 0))] [.long y0, .ref (gad Γ 0)] := by
  unfold pX11_reads_184
  refine j_putL hC (pc := 184) dX11_reads_184 kp_RX11_388 lM_0 (Nat.le_of_ble_eq_true rfl) rfl (fun κ18 => ?_)
  refine j_aload_n hC (pc := 187) dX11_reads_187 0 rfl rfl ?_
  refine j_dup hC (pc := 188) dX11_reads_188 rfl ?_
  refine j_getI hC (pc := 189) dX11_reads_189 kf_RX11_375 lM_0 (Nat.le_of_ble_eq_true rfl) rfl ?_
  refine j_iconst hC (pc := 192) dX11_reads_192 ki_1 ?_
  refine j_iadd hC (pc := 193) dX11_reads_193 ?_
  refine j_putI hC (pc := 194) dX11_reads_194 kp_RX11_375 lM_0 (Nat.le_of_ble_eq_true rfl) rfl rfl rfl (fun κ19 => ?_)
  refine j_goto hC (pc := 197) dX11_reads_197 (tgt := 127) rfl ?_
  exact hk127 κ19
set_option maxRecDepth 20000 in
theorem wX11_reads_127 {Γ : JCtx} (hC : jC Γ cX11_reads 1 RX11 none layM 15) (hR : gR Γ = rmH 2) (hm : gcells Γ ≤ (gR Γ).cells ∧ gslots Γ ≤ (gR Γ).slots) (F : Nat) : ∀ (n : Nat) (κ : Mem), JP Γ (qf Γ oV) (pX11_reads_127 F n κ) κ 127 [(0, .ref (gad Γ 0))] [] := by
  intro n
  induction n with
  | zero =>
    intro κ
    rw [pX11_reads_127]
    exact j_none
  | succ fu ih =>
    intro κ
    rw [pX11_reads_127]
    refine j_aload_n hC (pc := 127) dX11_reads_127 0 rfl rfl ?_
    refine j_aload_n hC (pc := 128) dX11_reads_128 0 rfl rfl ?_
    refine j_getI hC (pc := 129) dX11_reads_129 kf_RX11_375 lM_0 (Nat.le_of_ble_eq_true rfl) rfl ?_
    refine j_bipush hC (pc := 132) dX11_reads_132 kb_97 ?_
    refine j_bipush hC (pc := 134) dX11_reads_134 kb_122 ?_
    refine j_callV_I hC hR (ctX11_isOf hC.l hC.cn κ (mi κ 0 28) 97 122) kc_RX11_381 (Nat.le_of_ble_eq_true rfl) (Nat.le_of_ble_eq_true rfl) lM_0 (Nat.le_of_ble_eq_true rfl) rfl (As := [.int (mi κ 0 28), .int 97, .int 122]) (rest := []) rfl rfl (Nat.le_of_ble_eq_true rfl) hm (pc := 136) dX11_reads_136 (fun t16 => ?_)
    refine j_if_eq hC (pc := 139) dX11_reads_139 (tgt := 200) rfl ?_ ?_
    · refine j_aload_n hC (pc := 200) dX11_reads_200 0 rfl rfl ?_
      refine j_aload_n hC (pc := 201) dX11_reads_201 0 rfl rfl ?_
      refine j_getI hC (pc := 202) dX11_reads_202 kf_RX11_375 lM_0 (Nat.le_of_ble_eq_true rfl) rfl ?_
      refine j_aload_n hC (pc := 205) dX11_reads_205 0 rfl rfl ?_
      refine j_getI hC (pc := 206) dX11_reads_206 kf_RX11_378 lM_0 (Nat.le_of_ble_eq_true rfl) rfl ?_
      refine j_isub hC (pc := 209) dX11_reads_209 ?_
      refine j_bipush hC (pc := 210) dX11_reads_210 kb_8 ?_
      refine j_icmp_le hC (pc := 212) dX11_reads_212 (tgt := 219) rfl ?_ ?_
      · refine j_iconst hC (pc := 219) dX11_reads_219 ki_1 ?_
        refine j_sub [] (loc' := []) rfl ?_
        exact wX11_reads_220 hC hR hm F κ 1
      · refine j_iconst hC (pc := 215) dX11_reads_215 ki_4 ?_
        refine j_goto hC (pc := 216) dX11_reads_216 (tgt := 220) rfl ?_
        refine j_sub [] (loc' := []) rfl ?_
        exact wX11_reads_220 hC hR hm F κ 4
    · refine j_aload_n hC (pc := 142) dX11_reads_142 0 rfl rfl ?_
      refine j_aload_n hC (pc := 143) dX11_reads_143 0 rfl rfl ?_
      refine j_getI hC (pc := 144) dX11_reads_144 kf_RX11_375 lM_0 (Nat.le_of_ble_eq_true rfl) rfl ?_
      refine j_aload_n hC (pc := 147) dX11_reads_147 0 rfl rfl ?_
      refine j_getI hC (pc := 148) dX11_reads_148 kf_RX11_378 lM_0 (Nat.le_of_ble_eq_true rfl) rfl ?_
      refine j_isub hC (pc := 151) dX11_reads_151 ?_
      refine j_bipush hC (pc := 152) dX11_reads_152 kb_8 ?_
      refine j_icmp_ge hC (pc := 154) dX11_reads_154 (tgt := 183) rfl ?_ ?_
      · refine j_ldc2 hC (pc := 157) dX11_reads_157 w_1056 ?_
        refine j_aload_n hC (pc := 160) dX11_reads_160 0 rfl rfl ?_
        refine j_getL hC (pc := 161) dX11_reads_161 kf_RX11_388 lM_0 (Nat.le_of_ble_eq_true rfl) rfl ?_
        refine j_lmul hC (pc := 164) dX11_reads_164 ?_
        refine j_aload_n hC (pc := 165) dX11_reads_165 0 rfl rfl ?_
        refine j_getR hC (pc := 166) dX11_reads_166 kf_RX11_47 lM_0 (Nat.le_of_ble_eq_true rfl) rfl ?_
        refine j_aload_n hC (pc := 169) dX11_reads_169 0 rfl rfl ?_
        refine j_getI hC (pc := 170) dX11_reads_170 kf_RX11_375 lM_0 (Nat.le_of_ble_eq_true rfl) rfl ?_
        refine j_bald hC (pc := 173) dX11_reads_173 lM_13 (Nat.le_of_ble_eq_true rfl) ?_
        refine j_i2l hC (pc := 174) dX11_reads_174 ?_
        refine j_ladd hC (pc := 175) dX11_reads_175 ?_
        refine j_ldc2 hC (pc := 176) dX11_reads_176 w_1057 ?_
        refine j_lsub hC (pc := 179) dX11_reads_179 ?_
        refine j_goto hC (pc := 180) dX11_reads_180 (tgt := 184) rfl ?_
        exact wX11_reads_184 hC hR hm F κ (((27 * (ml κ 0 34)) + (mi κ 13 (mi κ 0 28).toNatClampNeg).toInt64) - 96) (pX11_reads_127 F fu) ih
      · refine j_lconst hC (pc := 183) dX11_reads_183 rfl ?_
        exact wX11_reads_184 hC hR hm F κ 0 (pX11_reads_127 F fu) ih
set_option maxRecDepth 20000 in
theorem wX11_reads_96 {Γ : JCtx} (hC : jC Γ cX11_reads 1 RX11 none layM 15) (hR : gR Γ = rmH 2) (hm : gcells Γ ≤ (gR Γ).cells ∧ gslots Γ ≤ (gR Γ).slots) (F : Nat) (κ : Mem) (y0 : Int32) : JP Γ (qf Γ oV) (pX11_reads_96 F κ y0) κ 96 [(0, .ref (gad Γ 0))] [.int y0, .ref (gad Γ 0)] := by
  unfold pX11_reads_96
  refine j_putI hC (pc := 96) dX11_reads_96 kp_RX11_385 lM_0 (Nat.le_of_ble_eq_true rfl) rfl rfl rfl (fun κ5 => ?_)
  refine j_aload_n hC (pc := 99) dX11_reads_99 0 rfl rfl ?_
  refine j_aload_n hC (pc := 100) dX11_reads_100 0 rfl rfl ?_
  refine j_getI hC (pc := 101) dX11_reads_101 kf_RX11_378 lM_0 (Nat.le_of_ble_eq_true rfl) rfl ?_
  refine j_bipush hC (pc := 104) dX11_reads_104 kb_97 ?_
  refine j_bipush hC (pc := 106) dX11_reads_106 kb_122 ?_
  refine j_callV_I hC hR (ctX11_isOf hC.l hC.cn κ5 (mi κ5 0 27) 97 122) kc_RX11_381 (Nat.le_of_ble_eq_true rfl) (Nat.le_of_ble_eq_true rfl) lM_0 (Nat.le_of_ble_eq_true rfl) rfl (As := [.int (mi κ5 0 27), .int 97, .int 122]) (rest := []) rfl rfl (Nat.le_of_ble_eq_true rfl) hm (pc := 108) dX11_reads_108 (fun t6 => ?_)
  refine j_if_eq hC (pc := 111) dX11_reads_111 (tgt := 226) rfl ?_ ?_
  · refine j_aload_n hC (pc := 226) dX11_reads_226 0 rfl rfl ?_
    refine j_aload_n hC (pc := 227) dX11_reads_227 0 rfl rfl ?_
    refine j_getI hC (pc := 228) dX11_reads_228 kf_RX11_378 lM_0 (Nat.le_of_ble_eq_true rfl) rfl ?_
    refine j_bipush hC (pc := 231) dX11_reads_231 kb_48 ?_
    refine j_bipush hC (pc := 233) dX11_reads_233 kb_57 ?_
    refine j_callV_I hC hR (ctX11_isOf hC.l hC.cn κ5 (mi κ5 0 27) 48 57) kc_RX11_381 (Nat.le_of_ble_eq_true rfl) (Nat.le_of_ble_eq_true rfl) lM_0 (Nat.le_of_ble_eq_true rfl) rfl (As := [.int (mi κ5 0 27), .int 48, .int 57]) (rest := []) rfl rfl (Nat.le_of_ble_eq_true rfl) hm (pc := 235) dX11_reads_235 (fun t7 => ?_)
    refine j_if_eq hC (pc := 238) dX11_reads_238 (tgt := 348) rfl ?_ ?_
    · refine j_sub [] (loc' := []) rfl ?_
      exact wX11_reads_348 hC hR hm F κ5
    · refine j_aload_n hC (pc := 241) dX11_reads_241 0 rfl rfl ?_
      refine j_iconst hC (pc := 242) dX11_reads_242 ki_0 ?_
      refine j_putI hC (pc := 243) dX11_reads_243 kp_RX11_396 lM_0 (Nat.le_of_ble_eq_true rfl) rfl rfl rfl (fun κ8 => ?_)
      refine j_aload_n hC (pc := 246) dX11_reads_246 0 rfl rfl ?_
      refine j_aload_n hC (pc := 247) dX11_reads_247 0 rfl rfl ?_
      refine j_getI hC (pc := 248) dX11_reads_248 kf_RX11_378 lM_0 (Nat.le_of_ble_eq_true rfl) rfl ?_
      refine j_putI hC (pc := 251) dX11_reads_251 kp_RX11_375 lM_0 (Nat.le_of_ble_eq_true rfl) rfl rfl rfl (fun κ9 => ?_)
      exact wX11_reads_254 hC hR hm F F κ9
  · refine j_aload_n hC (pc := 114) dX11_reads_114 0 rfl rfl ?_
    refine j_lconst hC (pc := 115) dX11_reads_115 rfl ?_
    refine j_putL hC (pc := 116) dX11_reads_116 kp_RX11_388 lM_0 (Nat.le_of_ble_eq_true rfl) rfl (fun κ14 => ?_)
    refine j_aload_n hC (pc := 119) dX11_reads_119 0 rfl rfl ?_
    refine j_aload_n hC (pc := 120) dX11_reads_120 0 rfl rfl ?_
    refine j_getI hC (pc := 121) dX11_reads_121 kf_RX11_378 lM_0 (Nat.le_of_ble_eq_true rfl) rfl ?_
    refine j_putI hC (pc := 124) dX11_reads_124 kp_RX11_375 lM_0 (Nat.le_of_ble_eq_true rfl) rfl rfl rfl (fun κ15 => ?_)
    exact wX11_reads_127 hC hR hm F F κ15
set_option maxRecDepth 20000 in
theorem wX11_reads_38 {Γ : JCtx} (hC : jC Γ cX11_reads 1 RX11 none layM 15) (hR : gR Γ = rmH 2) (hm : gcells Γ ≤ (gR Γ).cells ∧ gslots Γ ≤ (gR Γ).slots) (F : Nat) (κ : Mem) (k8 : Mem → Option Mem) (hk8 : ∀ (κ : Mem), JP Γ (qf Γ oV) (k8 κ) κ 8 [(0, .ref (gad Γ 0))] []) : JP Γ (qf Γ oV) (pX11_reads_38 F k8 κ) κ 38 [(0, .ref (gad Γ 0))] [] := by
  unfold pX11_reads_38
  refine j_aload_n hC (pc := 38) dX11_reads_38 0 rfl rfl ?_
  refine j_dup hC (pc := 39) dX11_reads_39 rfl ?_
  refine j_getI hC (pc := 40) dX11_reads_40 kf_RX11_378 lM_0 (Nat.le_of_ble_eq_true rfl) rfl ?_
  refine j_iconst hC (pc := 43) dX11_reads_43 ki_1 ?_
  refine j_iadd hC (pc := 44) dX11_reads_44 ?_
  refine j_putI hC (pc := 45) dX11_reads_45 kp_RX11_378 lM_0 (Nat.le_of_ble_eq_true rfl) rfl rfl rfl (fun κ20 => ?_)
  refine j_goto hC (pc := 48) dX11_reads_48 (tgt := 8) rfl ?_
  exact hk8 κ20
set_option maxRecDepth 20000 in
theorem wX11_reads_8 {Γ : JCtx} (hC : jC Γ cX11_reads 1 RX11 none layM 15) (hR : gR Γ = rmH 2) (hm : gcells Γ ≤ (gR Γ).cells ∧ gslots Γ ≤ (gR Γ).slots) (F : Nat) : ∀ (n : Nat) (κ : Mem), JP Γ (qf Γ oV) (pX11_reads_8 F n κ) κ 8 [(0, .ref (gad Γ 0))] [] := by
  intro n
  induction n with
  | zero =>
    intro κ
    rw [pX11_reads_8]
    exact j_none
  | succ fu ih =>
    intro κ
    rw [pX11_reads_8]
    refine j_aload_n hC (pc := 8) dX11_reads_8 0 rfl rfl ?_
    refine j_aload_n hC (pc := 9) dX11_reads_9 0 rfl rfl ?_
    refine j_getI hC (pc := 10) dX11_reads_10 kf_RX11_378 lM_0 (Nat.le_of_ble_eq_true rfl) rfl ?_
    refine j_bipush hC (pc := 13) dX11_reads_13 kb_32 ?_
    refine j_bipush hC (pc := 15) dX11_reads_15 kb_32 ?_
    refine j_callV_I hC hR (ctX11_isOf hC.l hC.cn κ (mi κ 0 27) 32 32) kc_RX11_381 (Nat.le_of_ble_eq_true rfl) (Nat.le_of_ble_eq_true rfl) lM_0 (Nat.le_of_ble_eq_true rfl) rfl (As := [.int (mi κ 0 27), .int 32, .int 32]) (rest := []) rfl rfl (Nat.le_of_ble_eq_true rfl) hm (pc := 17) dX11_reads_17 (fun t2 => ?_)
    refine j_if_ne hC (pc := 20) dX11_reads_20 (tgt := 38) rfl ?_ ?_
    · refine j_aload_n hC (pc := 23) dX11_reads_23 0 rfl rfl ?_
      refine j_aload_n hC (pc := 24) dX11_reads_24 0 rfl rfl ?_
      refine j_getI hC (pc := 25) dX11_reads_25 kf_RX11_378 lM_0 (Nat.le_of_ble_eq_true rfl) rfl ?_
      refine j_bipush hC (pc := 28) dX11_reads_28 kb_10 ?_
      refine j_bipush hC (pc := 30) dX11_reads_30 kb_10 ?_
      refine j_callV_I hC hR (ctX11_isOf hC.l hC.cn κ (mi κ 0 27) 10 10) kc_RX11_381 (Nat.le_of_ble_eq_true rfl) (Nat.le_of_ble_eq_true rfl) lM_0 (Nat.le_of_ble_eq_true rfl) rfl (As := [.int (mi κ 0 27), .int 10, .int 10]) (rest := []) rfl rfl (Nat.le_of_ble_eq_true rfl) hm (pc := 32) dX11_reads_32 (fun t3 => ?_)
      refine j_if_eq hC (pc := 35) dX11_reads_35 (tgt := 51) rfl ?_ ?_
      · refine j_aload_n hC (pc := 51) dX11_reads_51 0 rfl rfl ?_
        refine j_aload_n hC (pc := 52) dX11_reads_52 0 rfl rfl ?_
        refine j_getI hC (pc := 53) dX11_reads_53 kf_RX11_378 lM_0 (Nat.le_of_ble_eq_true rfl) rfl ?_
        refine j_iconst hC (pc := 56) dX11_reads_56 ki_1 ?_
        refine j_iadd hC (pc := 57) dX11_reads_57 ?_
        refine j_putI hC (pc := 58) dX11_reads_58 kp_RX11_375 lM_0 (Nat.le_of_ble_eq_true rfl) rfl rfl rfl (fun κ4 => ?_)
        refine j_aload_n hC (pc := 61) dX11_reads_61 0 rfl rfl ?_
        refine j_aload_n hC (pc := 62) dX11_reads_62 0 rfl rfl ?_
        refine j_getI hC (pc := 63) dX11_reads_63 kf_RX11_378 lM_0 (Nat.le_of_ble_eq_true rfl) rfl ?_
        refine j_aload_n hC (pc := 66) dX11_reads_66 0 rfl rfl ?_
        refine j_getI hC (pc := 67) dX11_reads_67 kf_RX11_372 lM_0 (Nat.le_of_ble_eq_true rfl) rfl ?_
        refine j_icmp_lt hC (pc := 70) dX11_reads_70 (tgt := 77) rfl ?_ ?_
        · refine j_aload_n hC (pc := 77) dX11_reads_77 0 rfl rfl ?_
          refine j_getR hC (pc := 78) dX11_reads_78 kf_RX11_47 lM_0 (Nat.le_of_ble_eq_true rfl) rfl ?_
          refine j_aload_n hC (pc := 81) dX11_reads_81 0 rfl rfl ?_
          refine j_getI hC (pc := 82) dX11_reads_82 kf_RX11_378 lM_0 (Nat.le_of_ble_eq_true rfl) rfl ?_
          refine j_bald hC (pc := 85) dX11_reads_85 lM_13 (Nat.le_of_ble_eq_true rfl) ?_
          refine j_bipush hC (pc := 86) dX11_reads_86 kb_59 ?_
          refine j_icmp_ne hC (pc := 88) dX11_reads_88 (tgt := 95) rfl ?_ ?_
          · refine j_iconst hC (pc := 91) dX11_reads_91 ki_3 ?_
            refine j_goto hC (pc := 92) dX11_reads_92 (tgt := 96) rfl ?_
            exact wX11_reads_96 hC hR hm F κ4 3
          · refine j_iconst hC (pc := 95) dX11_reads_95 ki_4 ?_
            exact wX11_reads_96 hC hR hm F κ4 4
        · refine j_iconst hC (pc := 73) dX11_reads_73 ki_0 ?_
          refine j_goto hC (pc := 74) dX11_reads_74 (tgt := 96) rfl ?_
          exact wX11_reads_96 hC hR hm F κ4 0
      · exact wX11_reads_38 hC hR hm F κ (pX11_reads_8 F fu) ih
    · exact wX11_reads_38 hC hR hm F κ (pX11_reads_8 F fu) ih
set_option maxRecDepth 20000 in
theorem wX11_reads {Γ : JCtx} (hC : jC Γ cX11_reads 1 RX11 none layM 15) (hR : gR Γ = rmH 2) (hm : gcells Γ ≤ (gR Γ).cells ∧ gslots Γ ≤ (gR Γ).slots) (F : Nat) (κ : Mem) : JP Γ (qf Γ oV) (pX11_reads F κ) κ 0 [(0, .ref (gad Γ 0))] [] := by
  unfold pX11_reads
  refine j_aload_n hC (pc := 0) dX11_reads_0 0 rfl rfl ?_
  refine j_aload_n hC (pc := 1) dX11_reads_1 0 rfl rfl ?_
  refine j_getI hC (pc := 2) dX11_reads_2 kf_RX11_375 lM_0 (Nat.le_of_ble_eq_true rfl) rfl ?_
  refine j_putI hC (pc := 5) dX11_reads_5 kp_RX11_378 lM_0 (Nat.le_of_ble_eq_true rfl) rfl rfl rfl (fun κ1 => ?_)
  exact wX11_reads_8 hC hR hm F F κ1
theorem ctX11_reads {Δ : DCtx} {l : Launch} (hl : dlay Δ = layM) (hN : dN Δ = 15) (F : Nat) (κ : Mem) : ∀ r, pX11_reads F κ = some r → CT Δ l yX11_reads cX11_reads 1 none (rmH 2) [.ref (dad Δ 0)] κ none r :=
  ct_of (nL := 1) (ret := none) (lay := layM) (N := 15) (by decide +kernel) (fun Δ => [.ref (dad Δ 0)]) (fun _ => oV) (fun _ => (Nat.le_of_ble_eq_true rfl)) (fun Γ hR hm hC => wX11_reads hC hR hm F κ) Δ l hl hN
set_option maxRecDepth 20000 in
theorem wX11_good_12 {Γ : JCtx} (hC : jC Γ cX11_good 1 RX11 (some .boolean) layM 15) (hR : gR Γ = rmH 0) (hm : gcells Γ ≤ (gR Γ).cells ∧ gslots Γ ≤ (gR Γ).slots) (κ : Mem) (y0 : Int32) : JP Γ (qf Γ (oI κ)) (pX11_good_12 κ y0) κ 12 [] [.int y0] := by
  unfold pX11_good_12
  refine j_ckP (fun hq1 => ?_)
  exact j_iret hC (pc := 12) dX11_good_12 rfl (isB_n hq1) rfl
set_option maxRecDepth 20000 in
theorem wX11_good {Γ : JCtx} (hC : jC Γ cX11_good 1 RX11 (some .boolean) layM 15) (hR : gR Γ = rmH 0) (hm : gcells Γ ≤ (gR Γ).cells ∧ gslots Γ ≤ (gR Γ).slots) (κ : Mem) : JP Γ (qf Γ (oI κ)) (pX11_good κ) κ 0 [(0, .ref (gad Γ 0))] [] := by
  unfold pX11_good
  refine j_aload_n hC (pc := 0) dX11_good_0 0 rfl rfl ?_
  refine j_getI hC (pc := 1) dX11_good_1 kf_RX11_399 lM_0 (Nat.le_of_ble_eq_true rfl) rfl ?_
  refine j_if_ne hC (pc := 4) dX11_good_4 (tgt := 11) rfl ?_ ?_
  · refine j_iconst hC (pc := 7) dX11_good_7 ki_1 ?_
    refine j_goto hC (pc := 8) dX11_good_8 (tgt := 12) rfl ?_
    refine j_sub [] (loc' := []) rfl ?_
    exact wX11_good_12 hC hR hm κ 1
  · refine j_iconst hC (pc := 11) dX11_good_11 ki_0 ?_
    refine j_sub [] (loc' := []) rfl ?_
    exact wX11_good_12 hC hR hm κ 0
theorem ctX11_good {Δ : DCtx} {l : Launch} (hl : dlay Δ = layM) (hN : dN Δ = 15) (κ : Mem) : ∀ r, pX11_good κ = some r → CT Δ l yX11_good cX11_good 1 (some .boolean) (rmH 0) [.ref (dad Δ 0)] κ (some (.int r)) κ :=
  ct_of (nL := 1) (ret := (some .boolean)) (lay := layM) (N := 15) (by decide +kernel) (fun Δ => [.ref (dad Δ 0)]) (fun _ => oI κ) (fun _ => (Nat.le_of_ble_eq_true rfl)) (fun Γ hR hm hC => wX11_good hC hR hm κ) Δ l hl hN
set_option maxRecDepth 20000 in
theorem wX11_must_31 {Γ : JCtx} (hC : jC Γ cX11_must 3 RX11 none layM 15) (hR : gR Γ = rmH 0) (hm : gcells Γ ≤ (gR Γ).cells ∧ gslots Γ ≤ (gR Γ).slots) (κ : Mem) (y0 : Int32) : JP Γ (qf Γ oV) (pX11_must_31 κ y0) κ 31 [(0, .ref (gad Γ 0))] [.int y0, .ref (gad Γ 0)] := by
  unfold pX11_must_31
  refine j_putI hC (pc := 31) dX11_must_31 kp_RX11_399 lM_0 (Nat.le_of_ble_eq_true rfl) rfl rfl rfl (fun κ1 => ?_)
  refine j_aload_n hC (pc := 34) dX11_must_34 0 rfl rfl ?_
  refine j_aload_n hC (pc := 35) dX11_must_35 0 rfl rfl ?_
  refine j_getI hC (pc := 36) dX11_must_36 kf_RX11_378 lM_0 (Nat.le_of_ble_eq_true rfl) rfl ?_
  refine j_putI hC (pc := 39) dX11_must_39 kp_RX11_402 lM_0 (Nat.le_of_ble_eq_true rfl) rfl rfl rfl (fun κ2 => ?_)
  exact j_vret hC (pc := 42) dX11_must_42 rfl rfl
set_option maxRecDepth 20000 in
theorem wX11_must_30 {Γ : JCtx} (hC : jC Γ cX11_must 3 RX11 none layM 15) (hR : gR Γ = rmH 0) (hm : gcells Γ ≤ (gR Γ).cells ∧ gslots Γ ≤ (gR Γ).slots) (κ : Mem) (v2 : Int32) : JP Γ (qf Γ oV) (pX11_must_30 κ v2) κ 30 [(0, .ref (gad Γ 0)), (2, .int v2)] [.ref (gad Γ 0)] := by
  unfold pX11_must_30
  refine j_iload_n hC (pc := 30) dX11_must_30 1 rfl rfl ?_
  refine j_sub [0] (loc' := [(0, .ref (gad Γ 0))]) rfl ?_
  exact wX11_must_31 hC hR hm κ v2
set_option maxRecDepth 20000 in
theorem wX11_must_11 {Γ : JCtx} (hC : jC Γ cX11_must 3 RX11 none layM 15) (hR : gR Γ = rmH 0) (hm : gcells Γ ≤ (gR Γ).cells ∧ gslots Γ ≤ (gR Γ).slots) (κ : Mem) : JP Γ (qf Γ oV) (pX11_must_11 κ) κ 11 [] [] := by
  unfold pX11_must_11
  exact j_vret hC (pc := 11) dX11_must_11 rfl rfl
set_option maxRecDepth 20000 in
theorem wX11_must {Γ : JCtx} (hC : jC Γ cX11_must 3 RX11 none layM 15) (hR : gR Γ = rmH 0) (hm : gcells Γ ≤ (gR Γ).cells ∧ gslots Γ ≤ (gR Γ).slots) (κ : Mem) (v1 : Int32) (v2 : Int32) : JP Γ (qf Γ oV) (pX11_must κ v1 v2) κ 0 [(0, .ref (gad Γ 0)), (1, .int v1), (2, .int v2)] [] := by
  unfold pX11_must
  refine j_iload_n hC (pc := 0) dX11_must_0 1 rfl rfl ?_
  refine j_if_ne hC (pc := 1) dX11_must_1 (tgt := 11) rfl ?_ ?_
  · refine j_aload_n hC (pc := 4) dX11_must_4 0 rfl rfl ?_
    refine j_getI hC (pc := 5) dX11_must_5 kf_RX11_399 lM_0 (Nat.le_of_ble_eq_true rfl) rfl ?_
    refine j_if_le hC (pc := 8) dX11_must_8 (tgt := 12) rfl ?_ ?_
    · refine j_aload_n hC (pc := 12) dX11_must_12 0 rfl rfl ?_
      refine j_iload_n hC (pc := 13) dX11_must_13 2 rfl rfl ?_
      refine j_iconst hC (pc := 14) dX11_must_14 ki_2 ?_
      refine j_icmp_ne hC (pc := 15) dX11_must_15 (tgt := 30) rfl ?_ ?_
      · refine j_aload_n hC (pc := 18) dX11_must_18 0 rfl rfl ?_
        refine j_getI hC (pc := 19) dX11_must_19 kf_RX11_385 lM_0 (Nat.le_of_ble_eq_true rfl) rfl ?_
        refine j_iconst hC (pc := 22) dX11_must_22 ki_4 ?_
        refine j_icmp_ne hC (pc := 23) dX11_must_23 (tgt := 30) rfl ?_ ?_
        · refine j_iconst hC (pc := 26) dX11_must_26 ki_1 ?_
          refine j_goto hC (pc := 27) dX11_must_27 (tgt := 31) rfl ?_
          refine j_sub [0] (loc' := [(0, .ref (gad Γ 0))]) rfl ?_
          exact wX11_must_31 hC hR hm κ 1
        · refine j_sub [0, 2] (loc' := [(0, .ref (gad Γ 0)), (2, .int v2)]) rfl ?_
          exact wX11_must_30 hC hR hm κ v2
      · refine j_sub [0, 2] (loc' := [(0, .ref (gad Γ 0)), (2, .int v2)]) rfl ?_
        exact wX11_must_30 hC hR hm κ v2
    · refine j_sub [] (loc' := []) rfl ?_
      exact wX11_must_11 hC hR hm κ
  · refine j_sub [] (loc' := []) rfl ?_
    exact wX11_must_11 hC hR hm κ
theorem ctX11_must {Δ : DCtx} {l : Launch} (hl : dlay Δ = layM) (hN : dN Δ = 15) (κ : Mem) (v1 : Int32) (v2 : Int32) : ∀ r, pX11_must κ v1 v2 = some r → CT Δ l yX11_must cX11_must 3 none (rmH 0) [.ref (dad Δ 0), .int v1, .int v2] κ none r :=
  ct_of (nL := 3) (ret := none) (lay := layM) (N := 15) (by decide +kernel) (fun Δ => [.ref (dad Δ 0), .int v1, .int v2]) (fun _ => oV) (fun _ => (Nat.le_of_ble_eq_true rfl)) (fun Γ hR hm hC => wX11_must hC hR hm κ v1 v2) Δ l hl hN
set_option maxRecDepth 20000 in
theorem wX11_goesOn_11 {Γ : JCtx} (hC : jC Γ cX11_goesOn 1 RX11 none layM 15) (hR : gR Γ = rmH 3) (hm : gcells Γ ≤ (gR Γ).cells ∧ gslots Γ ≤ (gR Γ).slots) (F : Nat) (κ : Mem) : JP Γ (qf Γ oV) (pX11_goesOn_11 F κ) κ 11 [] [] := by
  unfold pX11_goesOn_11
  exact j_vret hC (pc := 11) dX11_goesOn_11 rfl rfl
set_option maxRecDepth 20000 in
theorem wX11_goesOn {Γ : JCtx} (hC : jC Γ cX11_goesOn 1 RX11 none layM 15) (hR : gR Γ = rmH 3) (hm : gcells Γ ≤ (gR Γ).cells ∧ gslots Γ ≤ (gR Γ).slots) (F : Nat) (κ : Mem) : JP Γ (qf Γ oV) (pX11_goesOn F κ) κ 0 [(0, .ref (gad Γ 0))] [] := by
  unfold pX11_goesOn
  refine j_aload_n hC (pc := 0) dX11_goesOn_0 0 rfl rfl ?_
  refine j_callV_I hC hR (ctX11_good hC.l hC.cn κ) kc_RX11_405 (Nat.le_of_ble_eq_true rfl) (Nat.le_of_ble_eq_true rfl) lM_0 (Nat.le_of_ble_eq_true rfl) rfl (As := []) (rest := []) rfl rfl (Nat.le_of_ble_eq_true rfl) hm (pc := 1) dX11_goesOn_1 (fun t1 => ?_)
  refine j_if_eq hC (pc := 4) dX11_goesOn_4 (tgt := 11) rfl ?_ ?_
  · refine j_sub [] (loc' := []) rfl ?_
    exact wX11_goesOn_11 hC hR hm F κ
  · refine j_aload_n hC (pc := 7) dX11_goesOn_7 0 rfl rfl ?_
    refine j_callV_V hC hR (ctX11_reads hC.l hC.cn F κ) kc_RX11_408 (Nat.le_of_ble_eq_true rfl) (Nat.le_of_ble_eq_true rfl) lM_0 (Nat.le_of_ble_eq_true rfl) rfl (As := []) (rest := []) rfl rfl (Nat.le_of_ble_eq_true rfl) hm (pc := 8) dX11_goesOn_8 (fun t2 => ?_)
    refine j_sub [] (loc' := []) rfl ?_
    exact wX11_goesOn_11 hC hR hm F t2
theorem ctX11_goesOn {Δ : DCtx} {l : Launch} (hl : dlay Δ = layM) (hN : dN Δ = 15) (F : Nat) (κ : Mem) : ∀ r, pX11_goesOn F κ = some r → CT Δ l yX11_goesOn cX11_goesOn 1 none (rmH 3) [.ref (dad Δ 0)] κ none r :=
  ct_of (nL := 1) (ret := none) (lay := layM) (N := 15) (by decide +kernel) (fun Δ => [.ref (dad Δ 0)]) (fun _ => oV) (fun _ => (Nat.le_of_ble_eq_true rfl)) (fun Γ hR hm hC => wX11_goesOn hC hR hm F κ) Δ l hl hN
set_option maxRecDepth 20000 in
theorem wX11_isWord_34 {Γ : JCtx} (hC : jC Γ cX11_isWord 2 RX11 (some .boolean) layM 15) (hR : gR Γ = rmH 1) (hm : gcells Γ ≤ (gR Γ).cells ∧ gslots Γ ≤ (gR Γ).slots) (κ : Mem) (y0 : Int32) : JP Γ (qf Γ (oI κ)) (pX11_isWord_34 κ y0) κ 34 [] [.int y0] := by
  unfold pX11_isWord_34
  refine j_ckP (fun hq2 => ?_)
  exact j_iret hC (pc := 34) dX11_isWord_34 rfl (isB_n hq2) rfl
set_option maxRecDepth 20000 in
theorem wX11_isWord_33 {Γ : JCtx} (hC : jC Γ cX11_isWord 2 RX11 (some .boolean) layM 15) (hR : gR Γ = rmH 1) (hm : gcells Γ ≤ (gR Γ).cells ∧ gslots Γ ≤ (gR Γ).slots) (κ : Mem) : JP Γ (qf Γ (oI κ)) (pX11_isWord_33 κ) κ 33 [] [] := by
  unfold pX11_isWord_33
  refine j_iconst hC (pc := 33) dX11_isWord_33 ki_0 ?_
  exact wX11_isWord_34 hC hR hm κ 0
set_option maxRecDepth 20000 in
theorem wX11_isWord {Γ : JCtx} (hC : jC Γ cX11_isWord 2 RX11 (some .boolean) layM 15) (hR : gR Γ = rmH 1) (hm : gcells Γ ≤ (gR Γ).cells ∧ gslots Γ ≤ (gR Γ).slots) (κ : Mem) (v1 : Int32) : JP Γ (qf Γ (oI κ)) (pX11_isWord κ v1) κ 0 [(0, .ref (gad Γ 0)), (1, .int v1)] [] := by
  unfold pX11_isWord
  refine j_aload_n hC (pc := 0) dX11_isWord_0 0 rfl rfl ?_
  refine j_callV_I hC hR (ctX11_good hC.l hC.cn κ) kc_RX11_405 (Nat.le_of_ble_eq_true rfl) (Nat.le_of_ble_eq_true rfl) lM_0 (Nat.le_of_ble_eq_true rfl) rfl (As := []) (rest := []) rfl rfl (Nat.le_of_ble_eq_true rfl) hm (pc := 1) dX11_isWord_1 (fun t1 => ?_)
  refine j_if_eq hC (pc := 4) dX11_isWord_4 (tgt := 33) rfl ?_ ?_
  · refine j_sub [] (loc' := []) rfl ?_
    exact wX11_isWord_33 hC hR hm κ
  · refine j_aload_n hC (pc := 7) dX11_isWord_7 0 rfl rfl ?_
    refine j_getI hC (pc := 8) dX11_isWord_8 kf_RX11_385 lM_0 (Nat.le_of_ble_eq_true rfl) rfl ?_
    refine j_iconst hC (pc := 11) dX11_isWord_11 ki_1 ?_
    refine j_icmp_ne hC (pc := 12) dX11_isWord_12 (tgt := 33) rfl ?_ ?_
    · refine j_aload_n hC (pc := 15) dX11_isWord_15 0 rfl rfl ?_
      refine j_getL hC (pc := 16) dX11_isWord_16 kf_RX11_388 lM_0 (Nat.le_of_ble_eq_true rfl) rfl ?_
      refine j_aload_n hC (pc := 19) dX11_isWord_19 0 rfl rfl ?_
      refine j_getR hC (pc := 20) dX11_isWord_20 kf_RX11_78 lM_0 (Nat.le_of_ble_eq_true rfl) rfl ?_
      refine j_iload_n hC (pc := 23) dX11_isWord_23 1 rfl rfl ?_
      refine j_lald hC (pc := 24) dX11_isWord_24 lM_14 (Nat.le_of_ble_eq_true rfl) ?_
      refine j_lcmp hC (pc := 25) dX11_isWord_25 ?_
      refine j_if_ne hC (pc := 26) dX11_isWord_26 (tgt := 33) rfl ?_ ?_
      · refine j_iconst hC (pc := 29) dX11_isWord_29 ki_1 ?_
        refine j_goto hC (pc := 30) dX11_isWord_30 (tgt := 34) rfl ?_
        refine j_sub [] (loc' := []) rfl ?_
        exact wX11_isWord_34 hC hR hm κ 1
      · refine j_sub [] (loc' := []) rfl ?_
        exact wX11_isWord_33 hC hR hm κ
    · refine j_sub [] (loc' := []) rfl ?_
      exact wX11_isWord_33 hC hR hm κ
theorem ctX11_isWord {Δ : DCtx} {l : Launch} (hl : dlay Δ = layM) (hN : dN Δ = 15) (κ : Mem) (v1 : Int32) : ∀ r, pX11_isWord κ v1 = some r → CT Δ l yX11_isWord cX11_isWord 2 (some .boolean) (rmH 1) [.ref (dad Δ 0), .int v1] κ (some (.int r)) κ :=
  ct_of (nL := 2) (ret := (some .boolean)) (lay := layM) (N := 15) (by decide +kernel) (fun Δ => [.ref (dad Δ 0), .int v1]) (fun _ => oI κ) (fun _ => (Nat.le_of_ble_eq_true rfl)) (fun Γ hR hm hC => wX11_isWord hC hR hm κ v1) Δ l hl hN
set_option maxRecDepth 20000 in
theorem wX11_takesNumber_56 {Γ : JCtx} (hC : jC Γ cX11_takesNumber 4 RX11 (some .int) layM 15) (hR : gR Γ = rmH 4) (hm : gcells Γ ≤ (gR Γ).cells ∧ gslots Γ ≤ (gR Γ).slots) (F : Nat) (κ : Mem) (y0 : Int32) : JP Γ (qf Γ oE) (pX11_takesNumber_56 F κ y0) κ 56 [] [.int y0] := by
  unfold pX11_takesNumber_56
  exact j_iret hC (pc := 56) dX11_takesNumber_56 rfl rfl rfl
set_option maxRecDepth 20000 in
theorem wX11_takesNumber_14 {Γ : JCtx} (hC : jC Γ cX11_takesNumber 4 RX11 (some .int) layM 15) (hR : gR Γ = rmH 4) (hm : gcells Γ ≤ (gR Γ).cells ∧ gslots Γ ≤ (gR Γ).slots) (F : Nat) (κ : Mem) (v1 : Int32) (v2 : Int32) (y0 : Int32) : JP Γ (qf Γ oE) (pX11_takesNumber_14 F κ v1 v2 y0) κ 14 [(0, .ref (gad Γ 0)), (1, .int v1), (2, .int v2)] [.int y0, .ref (gad Γ 0)] := by
  unfold pX11_takesNumber_14
  refine j_iconst hC (pc := 14) dX11_takesNumber_14 ki_2 ?_
  refine j_callV_V hC hR (ctX11_must hC.l hC.cn κ y0 2) kc_RX11_411 (Nat.le_of_ble_eq_true rfl) (Nat.le_of_ble_eq_true rfl) lM_0 (Nat.le_of_ble_eq_true rfl) rfl (As := [.int y0, .int 2]) (rest := []) rfl rfl (Nat.le_of_ble_eq_true rfl) hm (pc := 15) dX11_takesNumber_15 (fun t1 => ?_)
  refine j_aload_n hC (pc := 18) dX11_takesNumber_18 0 rfl rfl ?_
  refine j_aload_n hC (pc := 19) dX11_takesNumber_19 0 rfl rfl ?_
  refine j_getI hC (pc := 20) dX11_takesNumber_20 kf_RX11_396 lM_0 (Nat.le_of_ble_eq_true rfl) rfl ?_
  refine j_i2l hC (pc := 23) dX11_takesNumber_23 ?_
  refine j_iload_n hC (pc := 24) dX11_takesNumber_24 1 rfl rfl ?_
  refine j_i2l hC (pc := 25) dX11_takesNumber_25 ?_
  refine j_iload_n hC (pc := 26) dX11_takesNumber_26 2 rfl rfl ?_
  refine j_i2l hC (pc := 27) dX11_takesNumber_27 ?_
  refine j_callS_I hC hR (ctX11_isIn hC.l hC.cn t1 ((mi t1 0 30).toInt64) v1.toInt64 v2.toInt64) kc_RX11_92 (Nat.le_of_ble_eq_true rfl) (Nat.le_of_ble_eq_true rfl) (As := [.long ((mi t1 0 30).toInt64), .long (v1.toInt64), .long (v2.toInt64)]) (rest := [.ref (gad Γ 0)]) rfl rfl (Nat.le_of_ble_eq_true rfl) hm (pc := 28) dX11_takesNumber_28 (fun t2 => ?_)
  refine j_iconst hC (pc := 31) dX11_takesNumber_31 ki_3 ?_
  refine j_callV_V hC hR (ctX11_must hC.l hC.cn t1 t2 3) kc_RX11_411 (Nat.le_of_ble_eq_true rfl) (Nat.le_of_ble_eq_true rfl) lM_0 (Nat.le_of_ble_eq_true rfl) rfl (As := [.int t2, .int 3]) (rest := []) rfl rfl (Nat.le_of_ble_eq_true rfl) hm (pc := 32) dX11_takesNumber_32 (fun t3 => ?_)
  refine j_aload_n hC (pc := 35) dX11_takesNumber_35 0 rfl rfl ?_
  refine j_getI hC (pc := 36) dX11_takesNumber_36 kf_RX11_396 lM_0 (Nat.le_of_ble_eq_true rfl) rfl ?_
  refine j_nmi (fun x4 => ?_)
  refine j_istore_n hC (pc := 39) dX11_takesNumber_39 rfl (Nat.le_of_ble_eq_true rfl) (loc' := [(3, .int x4), (0, .ref (gad Γ 0)), (1, .int v1), (2, .int v2)]) rfl ?_
  refine j_aload_n hC (pc := 40) dX11_takesNumber_40 1 rfl rfl ?_
  refine j_callV_V hC hR (ctX11_goesOn hC.l hC.cn F t3) kc_RX11_415 (Nat.le_of_ble_eq_true rfl) (Nat.le_of_ble_eq_true rfl) lM_0 (Nat.le_of_ble_eq_true rfl) rfl (As := []) (rest := []) rfl rfl (Nat.le_of_ble_eq_true rfl) hm (pc := 41) dX11_takesNumber_41 (fun t5 => ?_)
  refine j_aload_n hC (pc := 44) dX11_takesNumber_44 1 rfl rfl ?_
  refine j_callV_I hC hR (ctX11_good hC.l hC.cn t5) kc_RX11_405 (Nat.le_of_ble_eq_true rfl) (Nat.le_of_ble_eq_true rfl) lM_0 (Nat.le_of_ble_eq_true rfl) rfl (As := []) (rest := []) rfl rfl (Nat.le_of_ble_eq_true rfl) hm (pc := 45) dX11_takesNumber_45 (fun t6 => ?_)
  refine j_if_eq hC (pc := 48) dX11_takesNumber_48 (tgt := 55) rfl ?_ ?_
  · refine j_iconst hC (pc := 55) dX11_takesNumber_55 ki_0 ?_
    refine j_sub [] (loc' := []) rfl ?_
    exact wX11_takesNumber_56 hC hR hm F t5 0
  · refine j_iload_n hC (pc := 51) dX11_takesNumber_51 0 rfl rfl ?_
    refine j_goto hC (pc := 52) dX11_takesNumber_52 (tgt := 56) rfl ?_
    refine j_sub [] (loc' := []) rfl ?_
    exact wX11_takesNumber_56 hC hR hm F t5 x4
set_option maxRecDepth 20000 in
theorem wX11_takesNumber {Γ : JCtx} (hC : jC Γ cX11_takesNumber 4 RX11 (some .int) layM 15) (hR : gR Γ = rmH 4) (hm : gcells Γ ≤ (gR Γ).cells ∧ gslots Γ ≤ (gR Γ).slots) (F : Nat) (κ : Mem) (v1 : Int32) (v2 : Int32) : JP Γ (qf Γ oE) (pX11_takesNumber F κ v1 v2) κ 0 [(0, .ref (gad Γ 0)), (1, .int v1), (2, .int v2)] [] := by
  unfold pX11_takesNumber
  refine j_aload_n hC (pc := 0) dX11_takesNumber_0 0 rfl rfl ?_
  refine j_aload_n hC (pc := 1) dX11_takesNumber_1 0 rfl rfl ?_
  refine j_getI hC (pc := 2) dX11_takesNumber_2 kf_RX11_385 lM_0 (Nat.le_of_ble_eq_true rfl) rfl ?_
  refine j_iconst hC (pc := 5) dX11_takesNumber_5 ki_2 ?_
  refine j_icmp_ne hC (pc := 6) dX11_takesNumber_6 (tgt := 13) rfl ?_ ?_
  · refine j_iconst hC (pc := 9) dX11_takesNumber_9 ki_1 ?_
    refine j_goto hC (pc := 10) dX11_takesNumber_10 (tgt := 14) rfl ?_
    exact wX11_takesNumber_14 hC hR hm F κ v1 v2 1
  · refine j_iconst hC (pc := 13) dX11_takesNumber_13 ki_0 ?_
    exact wX11_takesNumber_14 hC hR hm F κ v1 v2 0
theorem ctX11_takesNumber {Δ : DCtx} {l : Launch} (hl : dlay Δ = layM) (hN : dN Δ = 15) (F : Nat) (κ : Mem) (v1 : Int32) (v2 : Int32) : ∀ r, pX11_takesNumber F κ v1 v2 = some r → CT Δ l yX11_takesNumber cX11_takesNumber 4 (some .int) (rmH 4) [.ref (dad Δ 0), .int v1, .int v2] κ (some (.int r.1)) r.2 :=
  ct_of (nL := 4) (ret := (some .int)) (lay := layM) (N := 15) (by decide +kernel) (fun Δ => [.ref (dad Δ 0), .int v1, .int v2]) (fun _ => oE) (fun _ => (Nat.le_of_ble_eq_true rfl)) (fun Γ hR hm hC => wX11_takesNumber hC hR hm F κ v1 v2) Δ l hl hN
set_option maxRecDepth 20000 in
theorem wX11_takesPlayer_90 {Γ : JCtx} (hC : jC Γ cX11_takesPlayer 3 RX11 (some .int) layM 15) (hR : gR Γ = rmH 4) (hm : gcells Γ ≤ (gR Γ).cells ∧ gslots Γ ≤ (gR Γ).slots) (F : Nat) (κ : Mem) (y0 : Int32) : JP Γ (qf Γ oE) (pX11_takesPlayer_90 F κ y0) κ 90 [] [.int y0] := by
  unfold pX11_takesPlayer_90
  exact j_iret hC (pc := 90) dX11_takesPlayer_90 rfl rfl rfl
set_option maxRecDepth 20000 in
theorem wX11_takesPlayer_65 {Γ : JCtx} (hC : jC Γ cX11_takesPlayer 3 RX11 (some .int) layM 15) (hR : gR Γ = rmH 4) (hm : gcells Γ ≤ (gR Γ).cells ∧ gslots Γ ≤ (gR Γ).slots) (F : Nat) (κ : Mem) (y0 : Int32) : JP Γ (qf Γ oE) (pX11_takesPlayer_65 F κ y0) κ 65 [(0, .ref (gad Γ 0))] [.int y0, .ref (gad Γ 0)] := by
  unfold pX11_takesPlayer_65
  refine j_iconst hC (pc := 65) dX11_takesPlayer_65 ki_4 ?_
  refine j_callV_V hC hR (ctX11_must hC.l hC.cn κ y0 4) kc_RX11_411 (Nat.le_of_ble_eq_true rfl) (Nat.le_of_ble_eq_true rfl) lM_0 (Nat.le_of_ble_eq_true rfl) rfl (As := [.int y0, .int 4]) (rest := []) rfl rfl (Nat.le_of_ble_eq_true rfl) hm (pc := 66) dX11_takesPlayer_66 (fun t5 => ?_)
  refine j_aload_n hC (pc := 69) dX11_takesPlayer_69 0 rfl rfl ?_
  refine j_getI hC (pc := 70) dX11_takesPlayer_70 kf_RX11_396 lM_0 (Nat.le_of_ble_eq_true rfl) rfl ?_
  refine j_nmi (fun x6 => ?_)
  refine j_istore_n hC (pc := 73) dX11_takesPlayer_73 rfl (Nat.le_of_ble_eq_true rfl) (loc' := [(2, .int x6), (0, .ref (gad Γ 0))]) rfl ?_
  refine j_aload_n hC (pc := 74) dX11_takesPlayer_74 1 rfl rfl ?_
  refine j_callV_V hC hR (ctX11_goesOn hC.l hC.cn F t5) kc_RX11_415 (Nat.le_of_ble_eq_true rfl) (Nat.le_of_ble_eq_true rfl) lM_0 (Nat.le_of_ble_eq_true rfl) rfl (As := []) (rest := []) rfl rfl (Nat.le_of_ble_eq_true rfl) hm (pc := 75) dX11_takesPlayer_75 (fun t7 => ?_)
  refine j_aload_n hC (pc := 78) dX11_takesPlayer_78 1 rfl rfl ?_
  refine j_callV_I hC hR (ctX11_good hC.l hC.cn t7) kc_RX11_405 (Nat.le_of_ble_eq_true rfl) (Nat.le_of_ble_eq_true rfl) lM_0 (Nat.le_of_ble_eq_true rfl) rfl (As := []) (rest := []) rfl rfl (Nat.le_of_ble_eq_true rfl) hm (pc := 79) dX11_takesPlayer_79 (fun t8 => ?_)
  refine j_if_eq hC (pc := 82) dX11_takesPlayer_82 (tgt := 89) rfl ?_ ?_
  · refine j_iconst hC (pc := 89) dX11_takesPlayer_89 ki_0 ?_
    refine j_sub [] (loc' := []) rfl ?_
    exact wX11_takesPlayer_90 hC hR hm F t7 0
  · refine j_iload_n hC (pc := 85) dX11_takesPlayer_85 0 rfl rfl ?_
    refine j_goto hC (pc := 86) dX11_takesPlayer_86 (tgt := 90) rfl ?_
    refine j_sub [] (loc' := []) rfl ?_
    exact wX11_takesPlayer_90 hC hR hm F t7 x6
set_option maxRecDepth 20000 in
theorem wX11_takesPlayer_64 {Γ : JCtx} (hC : jC Γ cX11_takesPlayer 3 RX11 (some .int) layM 15) (hR : gR Γ = rmH 4) (hm : gcells Γ ≤ (gR Γ).cells ∧ gslots Γ ≤ (gR Γ).slots) (F : Nat) (κ : Mem) : JP Γ (qf Γ oE) (pX11_takesPlayer_64 F κ) κ 64 [(0, .ref (gad Γ 0))] [.ref (gad Γ 0)] := by
  unfold pX11_takesPlayer_64
  refine j_iconst hC (pc := 64) dX11_takesPlayer_64 ki_0 ?_
  exact wX11_takesPlayer_65 hC hR hm F κ 0
set_option maxRecDepth 20000 in
theorem wX11_takesPlayer_14 {Γ : JCtx} (hC : jC Γ cX11_takesPlayer 3 RX11 (some .int) layM 15) (hR : gR Γ = rmH 4) (hm : gcells Γ ≤ (gR Γ).cells ∧ gslots Γ ≤ (gR Γ).slots) (F : Nat) (κ : Mem) (v1 : Int32) (y0 : Int32) : JP Γ (qf Γ oE) (pX11_takesPlayer_14 F κ v1 y0) κ 14 [(0, .ref (gad Γ 0)), (1, .int v1)] [.int y0, .ref (gad Γ 0)] := by
  unfold pX11_takesPlayer_14
  refine j_iconst hC (pc := 14) dX11_takesPlayer_14 ki_2 ?_
  refine j_callV_V hC hR (ctX11_must hC.l hC.cn κ y0 2) kc_RX11_411 (Nat.le_of_ble_eq_true rfl) (Nat.le_of_ble_eq_true rfl) lM_0 (Nat.le_of_ble_eq_true rfl) rfl (As := [.int y0, .int 2]) (rest := []) rfl rfl (Nat.le_of_ble_eq_true rfl) hm (pc := 15) dX11_takesPlayer_15 (fun t1 => ?_)
  refine j_aload_n hC (pc := 18) dX11_takesPlayer_18 0 rfl rfl ?_
  refine j_aload_n hC (pc := 19) dX11_takesPlayer_19 0 rfl rfl ?_
  refine j_getI hC (pc := 20) dX11_takesPlayer_20 kf_RX11_396 lM_0 (Nat.le_of_ble_eq_true rfl) rfl ?_
  refine j_i2l hC (pc := 23) dX11_takesPlayer_23 ?_
  refine j_lconst hC (pc := 24) dX11_takesPlayer_24 rfl ?_
  refine j_aload_n hC (pc := 25) dX11_takesPlayer_25 0 rfl rfl ?_
  refine j_getR hC (pc := 26) dX11_takesPlayer_26 kf_RX11_13 lM_0 (Nat.le_of_ble_eq_true rfl) rfl ?_
  refine j_iconst hC (pc := 29) dX11_takesPlayer_29 ki_0 ?_
  refine j_iald hC (pc := 30) dX11_takesPlayer_30 lM_2 (Nat.le_of_ble_eq_true rfl) ?_
  refine j_iconst hC (pc := 31) dX11_takesPlayer_31 ki_1 ?_
  refine j_isub hC (pc := 32) dX11_takesPlayer_32 ?_
  refine j_i2l hC (pc := 33) dX11_takesPlayer_33 ?_
  refine j_callS_I hC hR (ctX11_isIn hC.l hC.cn t1 ((mi t1 0 30).toInt64) 0 (((mi t1 2 (0 : Int32).toNatClampNeg) - 1).toInt64)) kc_RX11_92 (Nat.le_of_ble_eq_true rfl) (Nat.le_of_ble_eq_true rfl) (As := [.long ((mi t1 0 30).toInt64), .long 0, .long (((mi t1 2 (0 : Int32).toNatClampNeg) - 1).toInt64)]) (rest := [.ref (gad Γ 0)]) rfl rfl (Nat.le_of_ble_eq_true rfl) hm (pc := 34) dX11_takesPlayer_34 (fun t2 => ?_)
  refine j_iconst hC (pc := 37) dX11_takesPlayer_37 ki_3 ?_
  refine j_callV_V hC hR (ctX11_must hC.l hC.cn t1 t2 3) kc_RX11_411 (Nat.le_of_ble_eq_true rfl) (Nat.le_of_ble_eq_true rfl) lM_0 (Nat.le_of_ble_eq_true rfl) rfl (As := [.int t2, .int 3]) (rest := []) rfl rfl (Nat.le_of_ble_eq_true rfl) hm (pc := 38) dX11_takesPlayer_38 (fun t3 => ?_)
  refine j_aload_n hC (pc := 41) dX11_takesPlayer_41 0 rfl rfl ?_
  refine j_aload_n hC (pc := 42) dX11_takesPlayer_42 0 rfl rfl ?_
  refine j_callV_I hC hR (ctX11_good hC.l hC.cn t3) kc_RX11_405 (Nat.le_of_ble_eq_true rfl) (Nat.le_of_ble_eq_true rfl) lM_0 (Nat.le_of_ble_eq_true rfl) rfl (As := []) (rest := [.ref (gad Γ 0)]) rfl rfl (Nat.le_of_ble_eq_true rfl) hm (pc := 43) dX11_takesPlayer_43 (fun t4 => ?_)
  refine j_if_eq hC (pc := 46) dX11_takesPlayer_46 (tgt := 64) rfl ?_ ?_
  · refine j_sub [0] (loc' := [(0, .ref (gad Γ 0))]) rfl ?_
    exact wX11_takesPlayer_64 hC hR hm F t3
  · refine j_iload_n hC (pc := 49) dX11_takesPlayer_49 1 rfl rfl ?_
    refine j_aload_n hC (pc := 50) dX11_takesPlayer_50 0 rfl rfl ?_
    refine j_getI hC (pc := 51) dX11_takesPlayer_51 kf_RX11_396 lM_0 (Nat.le_of_ble_eq_true rfl) rfl ?_
    refine j_callS_I hC hR (ctX11_has hC.l hC.cn t3 v1 (mi t3 0 30)) kc_RX11_88 (Nat.le_of_ble_eq_true rfl) (Nat.le_of_ble_eq_true rfl) (As := [.int v1, .int (mi t3 0 30)]) (rest := [.ref (gad Γ 0)]) rfl rfl (Nat.le_of_ble_eq_true rfl) hm (pc := 54) dX11_takesPlayer_54 (fun t9 => ?_)
    refine j_if_ne hC (pc := 57) dX11_takesPlayer_57 (tgt := 64) rfl ?_ ?_
    · refine j_iconst hC (pc := 60) dX11_takesPlayer_60 ki_1 ?_
      refine j_goto hC (pc := 61) dX11_takesPlayer_61 (tgt := 65) rfl ?_
      refine j_sub [0] (loc' := [(0, .ref (gad Γ 0))]) rfl ?_
      exact wX11_takesPlayer_65 hC hR hm F t3 1
    · refine j_sub [0] (loc' := [(0, .ref (gad Γ 0))]) rfl ?_
      exact wX11_takesPlayer_64 hC hR hm F t3
set_option maxRecDepth 20000 in
theorem wX11_takesPlayer {Γ : JCtx} (hC : jC Γ cX11_takesPlayer 3 RX11 (some .int) layM 15) (hR : gR Γ = rmH 4) (hm : gcells Γ ≤ (gR Γ).cells ∧ gslots Γ ≤ (gR Γ).slots) (F : Nat) (κ : Mem) (v1 : Int32) : JP Γ (qf Γ oE) (pX11_takesPlayer F κ v1) κ 0 [(0, .ref (gad Γ 0)), (1, .int v1)] [] := by
  unfold pX11_takesPlayer
  refine j_aload_n hC (pc := 0) dX11_takesPlayer_0 0 rfl rfl ?_
  refine j_aload_n hC (pc := 1) dX11_takesPlayer_1 0 rfl rfl ?_
  refine j_getI hC (pc := 2) dX11_takesPlayer_2 kf_RX11_385 lM_0 (Nat.le_of_ble_eq_true rfl) rfl ?_
  refine j_iconst hC (pc := 5) dX11_takesPlayer_5 ki_2 ?_
  refine j_icmp_ne hC (pc := 6) dX11_takesPlayer_6 (tgt := 13) rfl ?_ ?_
  · refine j_iconst hC (pc := 9) dX11_takesPlayer_9 ki_1 ?_
    refine j_goto hC (pc := 10) dX11_takesPlayer_10 (tgt := 14) rfl ?_
    exact wX11_takesPlayer_14 hC hR hm F κ v1 1
  · refine j_iconst hC (pc := 13) dX11_takesPlayer_13 ki_0 ?_
    exact wX11_takesPlayer_14 hC hR hm F κ v1 0
theorem ctX11_takesPlayer {Δ : DCtx} {l : Launch} (hl : dlay Δ = layM) (hN : dN Δ = 15) (F : Nat) (κ : Mem) (v1 : Int32) : ∀ r, pX11_takesPlayer F κ v1 = some r → CT Δ l yX11_takesPlayer cX11_takesPlayer 3 (some .int) (rmH 4) [.ref (dad Δ 0), .int v1] κ (some (.int r.1)) r.2 :=
  ct_of (nL := 3) (ret := (some .int)) (lay := layM) (N := 15) (by decide +kernel) (fun Δ => [.ref (dad Δ 0), .int v1]) (fun _ => oE) (fun _ => (Nat.le_of_ble_eq_true rfl)) (fun Γ hR hm hC => wX11_takesPlayer hC hR hm F κ v1) Δ l hl hN
set_option maxRecDepth 20000 in
theorem wX11_readsHats {Γ : JCtx} (hC : jC Γ cX11_readsHats 3 RX11 none layM 15) (hR : gR Γ = rmH 5) (hm : gcells Γ ≤ (gR Γ).cells ∧ gslots Γ ≤ (gR Γ).slots) (F : Nat) (κ : Mem) : JP Γ (qf Γ oV) (pX11_readsHats F κ) κ 0 [(0, .ref (gad Γ 0))] [] := by
  unfold pX11_readsHats
  refine j_aload_n hC (pc := 0) dX11_readsHats_0 0 rfl rfl ?_
  refine j_callV_V hC hR (ctX11_goesOn hC.l hC.cn F κ) kc_RX11_415 (Nat.le_of_ble_eq_true rfl) (Nat.le_of_ble_eq_true rfl) lM_0 (Nat.le_of_ble_eq_true rfl) rfl (As := []) (rest := []) rfl rfl (Nat.le_of_ble_eq_true rfl) hm (pc := 1) dX11_readsHats_1 (fun t1 => ?_)
  refine j_aload_n hC (pc := 4) dX11_readsHats_4 0 rfl rfl ?_
  refine j_aload_n hC (pc := 5) dX11_readsHats_5 0 rfl rfl ?_
  refine j_getI hC (pc := 6) dX11_readsHats_6 kf_RX11_418 lM_0 (Nat.le_of_ble_eq_true rfl) rfl ?_
  refine j_callV_E hC hR (ctX11_takesPlayer hC.l hC.cn F t1 (mi t1 0 32)) kc_RX11_421 (Nat.le_of_ble_eq_true rfl) (Nat.le_of_ble_eq_true rfl) lM_0 (Nat.le_of_ble_eq_true rfl) rfl (As := [.int (mi t1 0 32)]) (rest := []) rfl rfl (Nat.le_of_ble_eq_true rfl) hm (pc := 9) dX11_readsHats_9 (fun t2 => ?_)
  refine j_istore_n hC (pc := 12) dX11_readsHats_12 rfl (Nat.le_of_ble_eq_true rfl) (loc' := [(1, .int (t2.1)), (0, .ref (gad Γ 0))]) rfl ?_
  refine j_aload_n hC (pc := 13) dX11_readsHats_13 1 rfl rfl ?_
  refine j_iconst hC (pc := 14) dX11_readsHats_14 ki_1 ?_
  refine j_iconst hC (pc := 15) dX11_readsHats_15 ki_4 ?_
  refine j_callV_E hC hR (ctX11_takesNumber hC.l hC.cn F t2.2 1 4) kc_RX11_424 (Nat.le_of_ble_eq_true rfl) (Nat.le_of_ble_eq_true rfl) lM_0 (Nat.le_of_ble_eq_true rfl) rfl (As := [.int 1, .int 4]) (rest := []) rfl rfl (Nat.le_of_ble_eq_true rfl) hm (pc := 16) dX11_readsHats_16 (fun t3 => ?_)
  refine j_istore_n hC (pc := 19) dX11_readsHats_19 rfl (Nat.le_of_ble_eq_true rfl) (loc' := [(2, .int (t3.1)), (1, .int (t2.1)), (0, .ref (gad Γ 0))]) rfl ?_
  refine j_aload_n hC (pc := 20) dX11_readsHats_20 2 rfl rfl ?_
  refine j_callV_I hC hR (ctX11_good hC.l hC.cn t3.2) kc_RX11_405 (Nat.le_of_ble_eq_true rfl) (Nat.le_of_ble_eq_true rfl) lM_0 (Nat.le_of_ble_eq_true rfl) rfl (As := []) (rest := []) rfl rfl (Nat.le_of_ble_eq_true rfl) hm (pc := 21) dX11_readsHats_21 (fun t4 => ?_)
  refine j_if_ne hC (pc := 24) dX11_readsHats_24 (tgt := 28) rfl ?_ ?_
  · exact j_vret hC (pc := 27) dX11_readsHats_27 rfl rfl
  · refine j_aload_n hC (pc := 28) dX11_readsHats_28 2 rfl rfl ?_
    refine j_dup hC (pc := 29) dX11_readsHats_29 rfl ?_
    refine j_getI hC (pc := 30) dX11_readsHats_30 kf_RX11_418 lM_0 (Nat.le_of_ble_eq_true rfl) rfl ?_
    refine j_iconst hC (pc := 33) dX11_readsHats_33 ki_1 ?_
    refine j_iload_n hC (pc := 34) dX11_readsHats_34 1 rfl rfl ?_
    refine j_ishl hC (pc := 35) dX11_readsHats_35 ?_
    refine j_ior hC (pc := 36) dX11_readsHats_36 ?_
    refine j_putI hC (pc := 37) dX11_readsHats_37 kp_RX11_418 lM_0 (Nat.le_of_ble_eq_true rfl) rfl rfl rfl (fun κ5 => ?_)
    refine j_aload_n hC (pc := 40) dX11_readsHats_40 2 rfl rfl ?_
    refine j_getR hC (pc := 41) dX11_readsHats_41 kf_RX11_13 lM_0 (Nat.le_of_ble_eq_true rfl) rfl ?_
    refine j_iconst hC (pc := 44) dX11_readsHats_44 ki_1 ?_
    refine j_iload_n hC (pc := 45) dX11_readsHats_45 1 rfl rfl ?_
    refine j_iadd hC (pc := 46) dX11_readsHats_46 ?_
    refine j_iload_n hC (pc := 47) dX11_readsHats_47 0 rfl rfl ?_
    refine j_iast hC (pc := 48) dX11_readsHats_48 lM_2 (Nat.le_of_ble_eq_true rfl) (fun κ6 => ?_)
    exact j_vret hC (pc := 49) dX11_readsHats_49 rfl rfl
theorem ctX11_readsHats {Δ : DCtx} {l : Launch} (hl : dlay Δ = layM) (hN : dN Δ = 15) (F : Nat) (κ : Mem) : ∀ r, pX11_readsHats F κ = some r → CT Δ l yX11_readsHats cX11_readsHats 3 none (rmH 5) [.ref (dad Δ 0)] κ none r :=
  ct_of (nL := 3) (ret := none) (lay := layM) (N := 15) (by decide +kernel) (fun Δ => [.ref (dad Δ 0)]) (fun _ => oV) (fun _ => (Nat.le_of_ble_eq_true rfl)) (fun Γ hR hm hC => wX11_readsHats hC hR hm F κ) Δ l hl hN
set_option maxRecDepth 20000 in
theorem wX11_readsSight_172 {Γ : JCtx} (hC : jC Γ cX11_readsSight 4 RX11 none layM 15) (hR : gR Γ = rmH 5) (hm : gcells Γ ≤ (gR Γ).cells ∧ gslots Γ ≤ (gR Γ).slots) (F : Nat) (κ : Mem) : JP Γ (qf Γ oV) (pX11_readsSight_172 F κ) κ 172 [] [] := by
  unfold pX11_readsSight_172
  exact j_vret hC (pc := 172) dX11_readsSight_172 rfl rfl
set_option maxRecDepth 20000 in
theorem wX11_readsSight_122 {Γ : JCtx} (hC : jC Γ cX11_readsSight 4 RX11 none layM 15) (hR : gR Γ = rmH 5) (hm : gcells Γ ≤ (gR Γ).cells ∧ gslots Γ ≤ (gR Γ).slots) (F : Nat) (κ : Mem) (v1 : Int32) (v2 : Int32) (v3 : Int32) (y0 : Int32) : JP Γ (qf Γ oV) (pX11_readsSight_122 F κ v1 v2 v3 y0) κ 122 [(0, .ref (gad Γ 0)), (1, .int v1), (2, .int v2), (3, .int v3)] [.int y0, .ref (gad Γ 0)] := by
  unfold pX11_readsSight_122
  refine j_iconst hC (pc := 122) dX11_readsSight_122 ki_4 ?_
  refine j_callV_V hC hR (ctX11_must hC.l hC.cn κ y0 4) kc_RX11_411 (Nat.le_of_ble_eq_true rfl) (Nat.le_of_ble_eq_true rfl) lM_0 (Nat.le_of_ble_eq_true rfl) rfl (As := [.int y0, .int 4]) (rest := []) rfl rfl (Nat.le_of_ble_eq_true rfl) hm (pc := 123) dX11_readsSight_123 (fun t9 => ?_)
  refine j_aload_n hC (pc := 126) dX11_readsSight_126 0 rfl rfl ?_
  refine j_callV_V hC hR (ctX11_goesOn hC.l hC.cn F t9) kc_RX11_415 (Nat.le_of_ble_eq_true rfl) (Nat.le_of_ble_eq_true rfl) lM_0 (Nat.le_of_ble_eq_true rfl) rfl (As := []) (rest := []) rfl rfl (Nat.le_of_ble_eq_true rfl) hm (pc := 127) dX11_readsSight_127 (fun t10 => ?_)
  refine j_aload_n hC (pc := 130) dX11_readsSight_130 0 rfl rfl ?_
  refine j_callV_I hC hR (ctX11_good hC.l hC.cn t10) kc_RX11_405 (Nat.le_of_ble_eq_true rfl) (Nat.le_of_ble_eq_true rfl) lM_0 (Nat.le_of_ble_eq_true rfl) rfl (As := []) (rest := []) rfl rfl (Nat.le_of_ble_eq_true rfl) hm (pc := 131) dX11_readsSight_131 (fun t11 => ?_)
  refine j_if_ne hC (pc := 134) dX11_readsSight_134 (tgt := 138) rfl ?_ ?_
  · exact j_vret hC (pc := 137) dX11_readsSight_137 rfl rfl
  · refine j_aload_n hC (pc := 138) dX11_readsSight_138 0 rfl rfl ?_
    refine j_getR hC (pc := 139) dX11_readsSight_139 kf_RX11_13 lM_0 (Nat.le_of_ble_eq_true rfl) rfl ?_
    refine j_bipush hC (pc := 142) dX11_readsSight_142 kb_7 ?_
    refine j_iload_n hC (pc := 144) dX11_readsSight_144 2 rfl rfl ?_
    refine j_iadd hC (pc := 145) dX11_readsSight_145 ?_
    refine j_nmi (fun x12 => ?_)
    refine j_dup2 hC (pc := 146) dX11_readsSight_146 rfl rfl ?_
    refine j_iald hC (pc := 147) dX11_readsSight_147 lM_2 (Nat.le_of_ble_eq_true rfl) ?_
    refine j_iconst hC (pc := 148) dX11_readsSight_148 ki_1 ?_
    refine j_iload_n hC (pc := 149) dX11_readsSight_149 3 rfl rfl ?_
    refine j_ishl hC (pc := 150) dX11_readsSight_150 ?_
    refine j_ior hC (pc := 151) dX11_readsSight_151 ?_
    refine j_iast hC (pc := 152) dX11_readsSight_152 lM_2 (Nat.le_of_ble_eq_true rfl) (fun κ13 => ?_)
    refine j_iload_n hC (pc := 153) dX11_readsSight_153 1 rfl rfl ?_
    refine j_if_eq hC (pc := 154) dX11_readsSight_154 (tgt := 172) rfl ?_ ?_
    · refine j_sub [] (loc' := []) rfl ?_
      exact wX11_readsSight_172 hC hR hm F κ13
    · refine j_aload_n hC (pc := 157) dX11_readsSight_157 0 rfl rfl ?_
      refine j_getR hC (pc := 158) dX11_readsSight_158 kf_RX11_13 lM_0 (Nat.le_of_ble_eq_true rfl) rfl ?_
      refine j_bipush hC (pc := 161) dX11_readsSight_161 kb_7 ?_
      refine j_iload_n hC (pc := 163) dX11_readsSight_163 3 rfl rfl ?_
      refine j_iadd hC (pc := 164) dX11_readsSight_164 ?_
      refine j_nmi (fun x14 => ?_)
      refine j_dup2 hC (pc := 165) dX11_readsSight_165 rfl rfl ?_
      refine j_iald hC (pc := 166) dX11_readsSight_166 lM_2 (Nat.le_of_ble_eq_true rfl) ?_
      refine j_iconst hC (pc := 167) dX11_readsSight_167 ki_1 ?_
      refine j_iload_n hC (pc := 168) dX11_readsSight_168 2 rfl rfl ?_
      refine j_ishl hC (pc := 169) dX11_readsSight_169 ?_
      refine j_ior hC (pc := 170) dX11_readsSight_170 ?_
      refine j_iast hC (pc := 171) dX11_readsSight_171 lM_2 (Nat.le_of_ble_eq_true rfl) (fun κ15 => ?_)
      refine j_sub [] (loc' := []) rfl ?_
      exact wX11_readsSight_172 hC hR hm F κ15
set_option maxRecDepth 20000 in
theorem wX11_readsSight_117 {Γ : JCtx} (hC : jC Γ cX11_readsSight 4 RX11 none layM 15) (hR : gR Γ = rmH 5) (hm : gcells Γ ≤ (gR Γ).cells ∧ gslots Γ ≤ (gR Γ).slots) (F : Nat) (κ : Mem) (v1 : Int32) (v2 : Int32) (v3 : Int32) : JP Γ (qf Γ oV) (pX11_readsSight_117 F κ v1 v2 v3) κ 117 [(0, .ref (gad Γ 0)), (1, .int v1), (2, .int v2), (3, .int v3)] [.ref (gad Γ 0)] := by
  unfold pX11_readsSight_117
  refine j_iconst hC (pc := 117) dX11_readsSight_117 ki_1 ?_
  refine j_goto hC (pc := 118) dX11_readsSight_118 (tgt := 122) rfl ?_
  exact wX11_readsSight_122 hC hR hm F κ v1 v2 v3 1
set_option maxRecDepth 20000 in
theorem wX11_readsSight_121 {Γ : JCtx} (hC : jC Γ cX11_readsSight 4 RX11 none layM 15) (hR : gR Γ = rmH 5) (hm : gcells Γ ≤ (gR Γ).cells ∧ gslots Γ ≤ (gR Γ).slots) (F : Nat) (κ : Mem) (v1 : Int32) (v2 : Int32) (v3 : Int32) : JP Γ (qf Γ oV) (pX11_readsSight_121 F κ v1 v2 v3) κ 121 [(0, .ref (gad Γ 0)), (1, .int v1), (2, .int v2), (3, .int v3)] [.ref (gad Γ 0)] := by
  unfold pX11_readsSight_121
  refine j_iconst hC (pc := 121) dX11_readsSight_121 ki_0 ?_
  exact wX11_readsSight_122 hC hR hm F κ v1 v2 v3 0
set_option maxRecDepth 20000 in
theorem wX11_readsSight_63 {Γ : JCtx} (hC : jC Γ cX11_readsSight 4 RX11 none layM 15) (hR : gR Γ = rmH 5) (hm : gcells Γ ≤ (gR Γ).cells ∧ gslots Γ ≤ (gR Γ).slots) (F : Nat) (κ : Mem) (v1 : Int32) (v2 : Int32) (y0 : Int32) : JP Γ (qf Γ oV) (pX11_readsSight_63 F κ v1 v2 y0) κ 63 [(0, .ref (gad Γ 0)), (1, .int v1), (2, .int v2)] [.int y0, .ref (gad Γ 0)] := by
  unfold pX11_readsSight_63
  refine j_iconst hC (pc := 63) dX11_readsSight_63 ki_3 ?_
  refine j_callV_V hC hR (ctX11_must hC.l hC.cn κ y0 3) kc_RX11_411 (Nat.le_of_ble_eq_true rfl) (Nat.le_of_ble_eq_true rfl) lM_0 (Nat.le_of_ble_eq_true rfl) rfl (As := [.int y0, .int 3]) (rest := []) rfl rfl (Nat.le_of_ble_eq_true rfl) hm (pc := 64) dX11_readsSight_64 (fun t5 => ?_)
  refine j_aload_n hC (pc := 67) dX11_readsSight_67 0 rfl rfl ?_
  refine j_callV_I hC hR (ctX11_good hC.l hC.cn t5) kc_RX11_405 (Nat.le_of_ble_eq_true rfl) (Nat.le_of_ble_eq_true rfl) lM_0 (Nat.le_of_ble_eq_true rfl) rfl (As := []) (rest := []) rfl rfl (Nat.le_of_ble_eq_true rfl) hm (pc := 68) dX11_readsSight_68 (fun t6 => ?_)
  refine j_if_ne hC (pc := 71) dX11_readsSight_71 (tgt := 75) rfl ?_ ?_
  · exact j_vret hC (pc := 74) dX11_readsSight_74 rfl rfl
  · refine j_aload_n hC (pc := 75) dX11_readsSight_75 0 rfl rfl ?_
    refine j_getI hC (pc := 76) dX11_readsSight_76 kf_RX11_396 lM_0 (Nat.le_of_ble_eq_true rfl) rfl ?_
    refine j_nmi (fun x7 => ?_)
    refine j_istore_n hC (pc := 79) dX11_readsSight_79 rfl (Nat.le_of_ble_eq_true rfl) (loc' := [(3, .int x7), (0, .ref (gad Γ 0)), (1, .int v1), (2, .int v2)]) rfl ?_
    refine j_aload_n hC (pc := 80) dX11_readsSight_80 1 rfl rfl ?_
    refine j_aload_n hC (pc := 81) dX11_readsSight_81 1 rfl rfl ?_
    refine j_getR hC (pc := 82) dX11_readsSight_82 kf_RX11_13 lM_0 (Nat.le_of_ble_eq_true rfl) rfl ?_
    refine j_bipush hC (pc := 85) dX11_readsSight_85 kb_7 ?_
    refine j_iload_n hC (pc := 87) dX11_readsSight_87 3 rfl rfl ?_
    refine j_iadd hC (pc := 88) dX11_readsSight_88 ?_
    refine j_iald hC (pc := 89) dX11_readsSight_89 lM_2 (Nat.le_of_ble_eq_true rfl) ?_
    refine j_iload_n hC (pc := 90) dX11_readsSight_90 0 rfl rfl ?_
    refine j_callS_I hC hR (ctX11_has hC.l hC.cn t5 (mi t5 2 (7 + v2).toNatClampNeg) x7) kc_RX11_88 (Nat.le_of_ble_eq_true rfl) (Nat.le_of_ble_eq_true rfl) (As := [.int (mi t5 2 (7 + v2).toNatClampNeg), .int x7]) (rest := [.ref (gad Γ 0)]) rfl rfl (Nat.le_of_ble_eq_true rfl) hm (pc := 91) dX11_readsSight_91 (fun t8 => ?_)
    refine j_if_ne hC (pc := 94) dX11_readsSight_94 (tgt := 121) rfl ?_ ?_
    · refine j_iload_n hC (pc := 97) dX11_readsSight_97 2 rfl rfl ?_
      refine j_if_eq hC (pc := 98) dX11_readsSight_98 (tgt := 117) rfl ?_ ?_
      · refine j_sub [1, 2, 3, 0] (loc' := [(0, .ref (gad Γ 0)), (1, .int v1), (2, .int v2), (3, .int x7)]) rfl ?_
        exact wX11_readsSight_117 hC hR hm F t5 v1 v2 x7
      · refine j_aload_n hC (pc := 101) dX11_readsSight_101 1 rfl rfl ?_
        refine j_getR hC (pc := 102) dX11_readsSight_102 kf_RX11_13 lM_0 (Nat.le_of_ble_eq_true rfl) rfl ?_
        refine j_bipush hC (pc := 105) dX11_readsSight_105 kb_7 ?_
        refine j_iload_n hC (pc := 107) dX11_readsSight_107 0 rfl rfl ?_
        refine j_iadd hC (pc := 108) dX11_readsSight_108 ?_
        refine j_iald hC (pc := 109) dX11_readsSight_109 lM_2 (Nat.le_of_ble_eq_true rfl) ?_
        refine j_iload_n hC (pc := 110) dX11_readsSight_110 3 rfl rfl ?_
        refine j_callS_I hC hR (ctX11_has hC.l hC.cn t5 (mi t5 2 (7 + x7).toNatClampNeg) v2) kc_RX11_88 (Nat.le_of_ble_eq_true rfl) (Nat.le_of_ble_eq_true rfl) (As := [.int (mi t5 2 (7 + x7).toNatClampNeg), .int v2]) (rest := [.ref (gad Γ 0)]) rfl rfl (Nat.le_of_ble_eq_true rfl) hm (pc := 111) dX11_readsSight_111 (fun t16 => ?_)
        refine j_if_ne hC (pc := 114) dX11_readsSight_114 (tgt := 121) rfl ?_ ?_
        · refine j_sub [1, 2, 3, 0] (loc' := [(0, .ref (gad Γ 0)), (1, .int v1), (2, .int v2), (3, .int x7)]) rfl ?_
          exact wX11_readsSight_117 hC hR hm F t5 v1 v2 x7
        · refine j_sub [1, 2, 3, 0] (loc' := [(0, .ref (gad Γ 0)), (1, .int v1), (2, .int v2), (3, .int x7)]) rfl ?_
          exact wX11_readsSight_121 hC hR hm F t5 v1 v2 x7
    · refine j_sub [1, 2, 3, 0] (loc' := [(0, .ref (gad Γ 0)), (1, .int v1), (2, .int v2), (3, .int x7)]) rfl ?_
      exact wX11_readsSight_121 hC hR hm F t5 v1 v2 x7
set_option maxRecDepth 20000 in
theorem wX11_readsSight_62 {Γ : JCtx} (hC : jC Γ cX11_readsSight 4 RX11 none layM 15) (hR : gR Γ = rmH 5) (hm : gcells Γ ≤ (gR Γ).cells ∧ gslots Γ ≤ (gR Γ).slots) (F : Nat) (κ : Mem) (v1 : Int32) (v2 : Int32) : JP Γ (qf Γ oV) (pX11_readsSight_62 F κ v1 v2) κ 62 [(0, .ref (gad Γ 0)), (1, .int v1), (2, .int v2)] [.ref (gad Γ 0)] := by
  unfold pX11_readsSight_62
  refine j_iconst hC (pc := 62) dX11_readsSight_62 ki_0 ?_
  exact wX11_readsSight_63 hC hR hm F κ v1 v2 0
set_option maxRecDepth 20000 in
theorem wX11_readsSight_24 {Γ : JCtx} (hC : jC Γ cX11_readsSight 4 RX11 none layM 15) (hR : gR Γ = rmH 5) (hm : gcells Γ ≤ (gR Γ).cells ∧ gslots Γ ≤ (gR Γ).slots) (F : Nat) (κ : Mem) (v1 : Int32) (v2 : Int32) (y0 : Int32) : JP Γ (qf Γ oV) (pX11_readsSight_24 F κ v1 v2 y0) κ 24 [(0, .ref (gad Γ 0)), (1, .int v1), (2, .int v2)] [.int y0, .ref (gad Γ 0)] := by
  unfold pX11_readsSight_24
  refine j_iconst hC (pc := 24) dX11_readsSight_24 ki_2 ?_
  refine j_callV_V hC hR (ctX11_must hC.l hC.cn κ y0 2) kc_RX11_411 (Nat.le_of_ble_eq_true rfl) (Nat.le_of_ble_eq_true rfl) lM_0 (Nat.le_of_ble_eq_true rfl) rfl (As := [.int y0, .int 2]) (rest := []) rfl rfl (Nat.le_of_ble_eq_true rfl) hm (pc := 25) dX11_readsSight_25 (fun t3 => ?_)
  refine j_aload_n hC (pc := 28) dX11_readsSight_28 0 rfl rfl ?_
  refine j_aload_n hC (pc := 29) dX11_readsSight_29 0 rfl rfl ?_
  refine j_getI hC (pc := 30) dX11_readsSight_30 kf_RX11_396 lM_0 (Nat.le_of_ble_eq_true rfl) rfl ?_
  refine j_i2l hC (pc := 33) dX11_readsSight_33 ?_
  refine j_lconst hC (pc := 34) dX11_readsSight_34 rfl ?_
  refine j_aload_n hC (pc := 35) dX11_readsSight_35 0 rfl rfl ?_
  refine j_getR hC (pc := 36) dX11_readsSight_36 kf_RX11_13 lM_0 (Nat.le_of_ble_eq_true rfl) rfl ?_
  refine j_iconst hC (pc := 39) dX11_readsSight_39 ki_0 ?_
  refine j_iald hC (pc := 40) dX11_readsSight_40 lM_2 (Nat.le_of_ble_eq_true rfl) ?_
  refine j_iconst hC (pc := 41) dX11_readsSight_41 ki_1 ?_
  refine j_isub hC (pc := 42) dX11_readsSight_42 ?_
  refine j_i2l hC (pc := 43) dX11_readsSight_43 ?_
  refine j_callS_I hC hR (ctX11_isIn hC.l hC.cn t3 ((mi t3 0 30).toInt64) 0 (((mi t3 2 (0 : Int32).toNatClampNeg) - 1).toInt64)) kc_RX11_92 (Nat.le_of_ble_eq_true rfl) (Nat.le_of_ble_eq_true rfl) (As := [.long ((mi t3 0 30).toInt64), .long 0, .long (((mi t3 2 (0 : Int32).toNatClampNeg) - 1).toInt64)]) (rest := [.ref (gad Γ 0)]) rfl rfl (Nat.le_of_ble_eq_true rfl) hm (pc := 44) dX11_readsSight_44 (fun t4 => ?_)
  refine j_if_eq hC (pc := 47) dX11_readsSight_47 (tgt := 62) rfl ?_ ?_
  · exact wX11_readsSight_62 hC hR hm F t3 v1 v2
  · refine j_aload_n hC (pc := 50) dX11_readsSight_50 0 rfl rfl ?_
    refine j_getI hC (pc := 51) dX11_readsSight_51 kf_RX11_396 lM_0 (Nat.le_of_ble_eq_true rfl) rfl ?_
    refine j_iload_n hC (pc := 54) dX11_readsSight_54 2 rfl rfl ?_
    refine j_icmp_eq hC (pc := 55) dX11_readsSight_55 (tgt := 62) rfl ?_ ?_
    · exact wX11_readsSight_62 hC hR hm F t3 v1 v2
    · refine j_iconst hC (pc := 58) dX11_readsSight_58 ki_1 ?_
      refine j_goto hC (pc := 59) dX11_readsSight_59 (tgt := 63) rfl ?_
      exact wX11_readsSight_63 hC hR hm F t3 v1 v2 1
set_option maxRecDepth 20000 in
theorem wX11_readsSight {Γ : JCtx} (hC : jC Γ cX11_readsSight 4 RX11 none layM 15) (hR : gR Γ = rmH 5) (hm : gcells Γ ≤ (gR Γ).cells ∧ gslots Γ ≤ (gR Γ).slots) (F : Nat) (κ : Mem) (v1 : Int32) : JP Γ (qf Γ oV) (pX11_readsSight F κ v1) κ 0 [(0, .ref (gad Γ 0)), (1, .int v1)] [] := by
  unfold pX11_readsSight
  refine j_aload_n hC (pc := 0) dX11_readsSight_0 0 rfl rfl ?_
  refine j_callV_V hC hR (ctX11_goesOn hC.l hC.cn F κ) kc_RX11_415 (Nat.le_of_ble_eq_true rfl) (Nat.le_of_ble_eq_true rfl) lM_0 (Nat.le_of_ble_eq_true rfl) rfl (As := []) (rest := []) rfl rfl (Nat.le_of_ble_eq_true rfl) hm (pc := 1) dX11_readsSight_1 (fun t1 => ?_)
  refine j_aload_n hC (pc := 4) dX11_readsSight_4 0 rfl rfl ?_
  refine j_iconst hC (pc := 5) dX11_readsSight_5 ki_0 ?_
  refine j_callV_E hC hR (ctX11_takesPlayer hC.l hC.cn F t1 0) kc_RX11_421 (Nat.le_of_ble_eq_true rfl) (Nat.le_of_ble_eq_true rfl) lM_0 (Nat.le_of_ble_eq_true rfl) rfl (As := [.int 0]) (rest := []) rfl rfl (Nat.le_of_ble_eq_true rfl) hm (pc := 6) dX11_readsSight_6 (fun t2 => ?_)
  refine j_istore_n hC (pc := 9) dX11_readsSight_9 rfl (Nat.le_of_ble_eq_true rfl) (loc' := [(2, .int (t2.1)), (0, .ref (gad Γ 0)), (1, .int v1)]) rfl ?_
  refine j_aload_n hC (pc := 10) dX11_readsSight_10 1 rfl rfl ?_
  refine j_aload_n hC (pc := 11) dX11_readsSight_11 1 rfl rfl ?_
  refine j_getI hC (pc := 12) dX11_readsSight_12 kf_RX11_385 lM_0 (Nat.le_of_ble_eq_true rfl) rfl ?_
  refine j_iconst hC (pc := 15) dX11_readsSight_15 ki_2 ?_
  refine j_icmp_ne hC (pc := 16) dX11_readsSight_16 (tgt := 23) rfl ?_ ?_
  · refine j_iconst hC (pc := 19) dX11_readsSight_19 ki_1 ?_
    refine j_goto hC (pc := 20) dX11_readsSight_20 (tgt := 24) rfl ?_
    refine j_sub [1, 2, 0] (loc' := [(0, .ref (gad Γ 0)), (1, .int v1), (2, .int (t2.1))]) rfl ?_
    exact wX11_readsSight_24 hC hR hm F t2.2 v1 t2.1 1
  · refine j_iconst hC (pc := 23) dX11_readsSight_23 ki_0 ?_
    refine j_sub [1, 2, 0] (loc' := [(0, .ref (gad Γ 0)), (1, .int v1), (2, .int (t2.1))]) rfl ?_
    exact wX11_readsSight_24 hC hR hm F t2.2 v1 t2.1 0
theorem ctX11_readsSight {Δ : DCtx} {l : Launch} (hl : dlay Δ = layM) (hN : dN Δ = 15) (F : Nat) (κ : Mem) (v1 : Int32) : ∀ r, pX11_readsSight F κ v1 = some r → CT Δ l yX11_readsSight cX11_readsSight 4 none (rmH 5) [.ref (dad Δ 0), .int v1] κ none r :=
  ct_of (nL := 4) (ret := none) (lay := layM) (N := 15) (by decide +kernel) (fun Δ => [.ref (dad Δ 0), .int v1]) (fun _ => oV) (fun _ => (Nat.le_of_ble_eq_true rfl)) (fun Γ hR hm hC => wX11_readsSight hC hR hm F κ v1) Δ l hl hN
set_option maxRecDepth 20000 in
theorem wX11_fills_169 {Γ : JCtx} (hC : jC Γ cX11_fills 10 RX11 none layM 15) (hR : gR Γ = rmH 2) (hm : gcells Γ ≤ (gR Γ).cells ∧ gslots Γ ≤ (gR Γ).slots) (F : Nat) (κ : Mem) (v1 : Int32) (v2 : Int32) (v3 : Int32) (v4 : Int32) (v8 : Int32) (y0 : Int32) (k3 : Mem → Int32 → Option Mem) (hk3 : ∀ (κ : Mem) (v4 : Int32), JP Γ (qf Γ oV) (k3 κ v4) κ 3 [(0, .ref (gad Γ 0)), (1, .int v1), (2, .int v2), (3, .int v3), (4, .int v4)] []) : JP Γ (qf Γ oV) (pX11_fills_169 F k3 κ v1 v2 v3 v4 v8 y0) κ 169 [(0, .ref (gad Γ 0)), (1, .int v1), (2, .int v2), (3, .int v3), (4, .int v4), (8, .int v8)] [.int y0] := by
  unfold pX11_fills_169
  refine j_istore hC (pc := 169) dX11_fills_169 (Nat.le_of_ble_eq_true rfl) (loc' := [(9, .int y0), (0, .ref (gad Γ 0)), (1, .int v1), (2, .int v2), (3, .int v3), (4, .int v4), (8, .int v8)]) rfl ?_
  refine j_aload_n hC (pc := 171) dX11_fills_171 1 rfl rfl ?_
  refine j_getR hC (pc := 172) dX11_fills_172 kf_RX11_13 lM_0 (Nat.le_of_ble_eq_true rfl) rfl ?_
  refine j_bipush hC (pc := 175) dX11_fills_175 kb_13 ?_
  refine j_sipush hC (pc := 177) dX11_fills_177 ks_1024 ?_
  refine j_iload_n hC (pc := 180) dX11_fills_180 2 rfl rfl ?_
  refine j_imul hC (pc := 181) dX11_fills_181 ?_
  refine j_iadd hC (pc := 182) dX11_fills_182 ?_
  refine j_iload hC (pc := 183) dX11_fills_183 5 rfl ?_
  refine j_iadd hC (pc := 185) dX11_fills_185 ?_
  refine j_iload hC (pc := 186) dX11_fills_186 0 rfl ?_
  refine j_iload hC (pc := 188) dX11_fills_188 6 rfl ?_
  refine j_irem hC (pc := 190) dX11_fills_190 ?_
  refine j_iast hC (pc := 191) dX11_fills_191 lM_2 (Nat.le_of_ble_eq_true rfl) (fun κ4 => ?_)
  refine j_iinc hC (pc := 192) dX11_fills_192 5 rfl ki_1 (Nat.le_of_ble_eq_true rfl) (loc' := [(4, .int (v4 + 1)), (9, .int y0), (0, .ref (gad Γ 0)), (1, .int v1), (2, .int v2), (3, .int v3), (8, .int v8)]) rfl ?_
  refine j_goto hC (pc := 195) dX11_fills_195 (tgt := 3) rfl ?_
  refine j_sub [2, 3, 4, 5, 0] (loc' := [(0, .ref (gad Γ 0)), (1, .int v1), (2, .int v2), (3, .int v3), (4, .int (v4 + 1))]) rfl ?_
  exact hk3 κ4 (v4 + 1)
set_option maxRecDepth 20000 in
theorem wX11_fills_168 {Γ : JCtx} (hC : jC Γ cX11_fills 10 RX11 none layM 15) (hR : gR Γ = rmH 2) (hm : gcells Γ ≤ (gR Γ).cells ∧ gslots Γ ≤ (gR Γ).slots) (F : Nat) (κ : Mem) (v1 : Int32) (v2 : Int32) (v3 : Int32) (v4 : Int32) (v8 : Int32) (y0 : Int32) (y1 : Int32) (k3 : Mem → Int32 → Option Mem) (hk3 : ∀ (κ : Mem) (v4 : Int32), JP Γ (qf Γ oV) (k3 κ v4) κ 3 [(0, .ref (gad Γ 0)), (1, .int v1), (2, .int v2), (3, .int v3), (4, .int v4)] []) : JP Γ (qf Γ oV) (pX11_fills_168 F k3 κ v1 v2 v3 v4 v8 y0 y1) κ 168 [(0, .ref (gad Γ 0)), (1, .int v1), (2, .int v2), (3, .int v3), (4, .int v4), (8, .int v8)] [.int y0, .int y1] := by
  unfold pX11_fills_168
  refine j_iadd hC (pc := 168) dX11_fills_168 ?_
  exact wX11_fills_169 hC hR hm F κ v1 v2 v3 v4 v8 (y1 + y0) k3 hk3
set_option maxRecDepth 20000 in
theorem wX11_fills_111 {Γ : JCtx} (hC : jC Γ cX11_fills 10 RX11 none layM 15) (hR : gR Γ = rmH 2) (hm : gcells Γ ≤ (gR Γ).cells ∧ gslots Γ ≤ (gR Γ).slots) (F : Nat) (κ : Mem) (v1 : Int32) (v2 : Int32) (v3 : Int32) (v4 : Int32) (v5 : Int32) (v6 : Int32) (v7 : Int32) (v8 : Int32) (k36 : Int32 → Int32 → Int32 → Int32 → Option Mem) (hk36 : ∀ (v5 : Int32) (v6 : Int32) (v7 : Int32) (v8 : Int32), JP Γ (qf Γ oV) (k36 v5 v6 v7 v8) κ 36 [(0, .ref (gad Γ 0)), (1, .int v1), (2, .int v2), (3, .int v3), (4, .int v4), (5, .int v5), (6, .int v6), (7, .int v7), (8, .int v8)] []) : JP Γ (qf Γ oV) (pX11_fills_111 F k36 κ v1 v2 v3 v4 v5 v6 v7 v8) κ 111 [(0, .ref (gad Γ 0)), (1, .int v1), (2, .int v2), (3, .int v3), (4, .int v4), (5, .int v5), (6, .int v6), (7, .int v7), (8, .int v8)] [] := by
  unfold pX11_fills_111
  refine j_iinc hC (pc := 111) dX11_fills_111 8 rfl ki_m1 (Nat.le_of_ble_eq_true rfl) (loc' := [(8, .int (v8 + (-1))), (0, .ref (gad Γ 0)), (1, .int v1), (2, .int v2), (3, .int v3), (4, .int v4), (5, .int v5), (6, .int v6), (7, .int v7)]) rfl ?_
  refine j_goto hC (pc := 114) dX11_fills_114 (tgt := 36) rfl ?_
  refine j_sub [1, 2, 3, 4, 5, 6, 7, 8, 0] (loc' := [(0, .ref (gad Γ 0)), (1, .int v1), (2, .int v2), (3, .int v3), (4, .int v4), (5, .int v5), (6, .int v6), (7, .int v7), (8, .int (v8 + (-1)))]) rfl ?_
  exact hk36 v5 v6 v7 (v8 + (-1))
set_option maxRecDepth 20000 in
theorem wX11_fills_109 {Γ : JCtx} (hC : jC Γ cX11_fills 10 RX11 none layM 15) (hR : gR Γ = rmH 2) (hm : gcells Γ ≤ (gR Γ).cells ∧ gslots Γ ≤ (gR Γ).slots) (F : Nat) (κ : Mem) (v1 : Int32) (v2 : Int32) (v3 : Int32) (v4 : Int32) (v5 : Int32) (v6 : Int32) (v8 : Int32) (y0 : Int32) (k36 : Int32 → Int32 → Int32 → Int32 → Option Mem) (hk36 : ∀ (v5 : Int32) (v6 : Int32) (v7 : Int32) (v8 : Int32), JP Γ (qf Γ oV) (k36 v5 v6 v7 v8) κ 36 [(0, .ref (gad Γ 0)), (1, .int v1), (2, .int v2), (3, .int v3), (4, .int v4), (5, .int v5), (6, .int v6), (7, .int v7), (8, .int v8)] []) : JP Γ (qf Γ oV) (pX11_fills_109 F k36 κ v1 v2 v3 v4 v5 v6 v8 y0) κ 109 [(0, .ref (gad Γ 0)), (1, .int v1), (2, .int v2), (3, .int v3), (4, .int v4), (5, .int v5), (6, .int v6), (8, .int v8)] [.int y0] := by
  unfold pX11_fills_109
  refine j_istore hC (pc := 109) dX11_fills_109 (Nat.le_of_ble_eq_true rfl) (loc' := [(7, .int y0), (0, .ref (gad Γ 0)), (1, .int v1), (2, .int v2), (3, .int v3), (4, .int v4), (5, .int v5), (6, .int v6), (8, .int v8)]) rfl ?_
  refine j_sub [1, 2, 3, 4, 5, 6, 7, 0, 8] (loc' := [(0, .ref (gad Γ 0)), (1, .int v1), (2, .int v2), (3, .int v3), (4, .int v4), (5, .int v5), (6, .int v6), (7, .int y0), (8, .int v8)]) rfl ?_
  exact wX11_fills_111 hC hR hm F κ v1 v2 v3 v4 v5 v6 y0 v8 k36 hk36
set_option maxRecDepth 20000 in
theorem wX11_fills_36 {Γ : JCtx} (hC : jC Γ cX11_fills 10 RX11 none layM 15) (hR : gR Γ = rmH 2) (hm : gcells Γ ≤ (gR Γ).cells ∧ gslots Γ ≤ (gR Γ).slots) (F : Nat) (κ : Mem) (v1 : Int32) (v2 : Int32) (v3 : Int32) (v4 : Int32) (k3 : Mem → Int32 → Option Mem) (hk3 : ∀ (κ : Mem) (v4 : Int32), JP Γ (qf Γ oV) (k3 κ v4) κ 3 [(0, .ref (gad Γ 0)), (1, .int v1), (2, .int v2), (3, .int v3), (4, .int v4)] []) : ∀ (n : Nat) (v5 : Int32) (v6 : Int32) (v7 : Int32) (v8 : Int32), JP Γ (qf Γ oV) (pX11_fills_36 F k3 κ v1 v2 v3 v4 n v5 v6 v7 v8) κ 36 [(0, .ref (gad Γ 0)), (1, .int v1), (2, .int v2), (3, .int v3), (4, .int v4), (5, .int v5), (6, .int v6), (7, .int v7), (8, .int v8)] [] := by
  intro n
  induction n with
  | zero =>
    intro v5 v6 v7 v8
    rw [pX11_fills_36]
    exact j_none
  | succ fu ih =>
    intro v5 v6 v7 v8
    rw [pX11_fills_36]
    refine j_iload hC (pc := 36) dX11_fills_36 8 rfl ?_
    refine j_if_lt hC (pc := 38) dX11_fills_38 (tgt := 117) rfl ?_ ?_
    · refine j_aload_n hC (pc := 117) dX11_fills_117 0 rfl rfl ?_
      refine j_getR hC (pc := 118) dX11_fills_118 kf_RX11_13 lM_0 (Nat.le_of_ble_eq_true rfl) rfl ?_
      refine j_iconst hC (pc := 121) dX11_fills_121 ki_1 ?_
      refine j_iload_n hC (pc := 122) dX11_fills_122 1 rfl rfl ?_
      refine j_iadd hC (pc := 123) dX11_fills_123 ?_
      refine j_iald hC (pc := 124) dX11_fills_124 lM_2 (Nat.le_of_ble_eq_true rfl) ?_
      refine j_nmi (fun x3 => ?_)
      refine j_istore hC (pc := 125) dX11_fills_125 (Nat.le_of_ble_eq_true rfl) (loc' := [(8, .int x3), (0, .ref (gad Γ 0)), (1, .int v1), (2, .int v2), (3, .int v3), (4, .int v4), (5, .int v5), (6, .int v6), (7, .int v7)]) rfl ?_
      refine j_iload_n hC (pc := 127) dX11_fills_127 3 rfl rfl ?_
      refine j_iconst hC (pc := 128) dX11_fills_128 ki_5 ?_
      refine j_icmp_ne hC (pc := 129) dX11_fills_129 (tgt := 145) rfl ?_ ?_
      · refine j_iload_n hC (pc := 132) dX11_fills_132 4 rfl rfl ?_
        refine j_iload hC (pc := 133) dX11_fills_133 7 rfl ?_
        refine j_isub hC (pc := 135) dX11_fills_135 ?_
        refine j_bipush hC (pc := 136) dX11_fills_136 kb_20 ?_
        refine j_iload hC (pc := 138) dX11_fills_138 0 rfl ?_
        refine j_imul hC (pc := 140) dX11_fills_140 ?_
        refine j_iadd hC (pc := 141) dX11_fills_141 ?_
        refine j_goto hC (pc := 142) dX11_fills_142 (tgt := 169) rfl ?_
        refine j_sub [1, 2, 3, 4, 5, 0] (loc' := [(0, .ref (gad Γ 0)), (1, .int v1), (2, .int v2), (3, .int v3), (4, .int v4), (8, .int x3)]) rfl ?_
        exact wX11_fills_169 hC hR hm F κ v1 v2 v3 v4 x3 ((v3 - v6) + (20 * x3)) k3 hk3
      · refine j_iload_n hC (pc := 145) dX11_fills_145 3 rfl rfl ?_
        refine j_bipush hC (pc := 146) dX11_fills_146 kb_8 ?_
        refine j_icmp_ne hC (pc := 148) dX11_fills_148 (tgt := 155) rfl ?_ ?_
        · refine j_iload_n hC (pc := 151) dX11_fills_151 4 rfl rfl ?_
          refine j_goto hC (pc := 152) dX11_fills_152 (tgt := 169) rfl ?_
          refine j_sub [1, 2, 3, 4, 5, 0] (loc' := [(0, .ref (gad Γ 0)), (1, .int v1), (2, .int v2), (3, .int v3), (4, .int v4), (8, .int x3)]) rfl ?_
          exact wX11_fills_169 hC hR hm F κ v1 v2 v3 v4 x3 v3 k3 hk3
        · refine j_iload hC (pc := 155) dX11_fills_155 8 rfl ?_
          refine j_iload_n hC (pc := 157) dX11_fills_157 3 rfl rfl ?_
          refine j_bipush hC (pc := 158) dX11_fills_158 kb_7 ?_
          refine j_icmp_ne hC (pc := 160) dX11_fills_160 (tgt := 167) rfl ?_ ?_
          · refine j_iconst hC (pc := 163) dX11_fills_163 ki_1 ?_
            refine j_goto hC (pc := 164) dX11_fills_164 (tgt := 168) rfl ?_
            refine j_sub [1, 2, 3, 4, 5, 0] (loc' := [(0, .ref (gad Γ 0)), (1, .int v1), (2, .int v2), (3, .int v3), (4, .int v4), (8, .int x3)]) rfl ?_
            exact wX11_fills_168 hC hR hm F κ v1 v2 v3 v4 x3 1 v7 k3 hk3
          · refine j_iconst hC (pc := 167) dX11_fills_167 ki_0 ?_
            refine j_sub [1, 2, 3, 4, 5, 0] (loc' := [(0, .ref (gad Γ 0)), (1, .int v1), (2, .int v2), (3, .int v3), (4, .int v4), (8, .int x3)]) rfl ?_
            exact wX11_fills_168 hC hR hm F κ v1 v2 v3 v4 x3 0 v7 k3 hk3
    · refine j_aload_n hC (pc := 41) dX11_fills_41 0 rfl rfl ?_
      refine j_getR hC (pc := 42) dX11_fills_42 kf_RX11_13 lM_0 (Nat.le_of_ble_eq_true rfl) rfl ?_
      refine j_bipush hC (pc := 45) dX11_fills_45 kb_7 ?_
      refine j_iload_n hC (pc := 47) dX11_fills_47 1 rfl rfl ?_
      refine j_iadd hC (pc := 48) dX11_fills_48 ?_
      refine j_iald hC (pc := 49) dX11_fills_49 lM_2 (Nat.le_of_ble_eq_true rfl) ?_
      refine j_iload hC (pc := 50) dX11_fills_50 8 rfl ?_
      refine j_callS_I hC hR (ctX11_has hC.l hC.cn κ (mi κ 2 (7 + v1).toNatClampNeg) v8) kc_RX11_88 (Nat.le_of_ble_eq_true rfl) (Nat.le_of_ble_eq_true rfl) (As := [.int (mi κ 2 (7 + v1).toNatClampNeg), .int v8]) (rest := []) rfl rfl (Nat.le_of_ble_eq_true rfl) hm (pc := 52) dX11_fills_52 (fun t5 => ?_)
      refine j_if_ne hC (pc := 55) dX11_fills_55 (tgt := 61) rfl ?_ ?_
      · refine j_goto hC (pc := 58) dX11_fills_58 (tgt := 111) rfl ?_
        exact wX11_fills_111 hC hR hm F κ v1 v2 v3 v4 v5 v6 v7 v8 (pX11_fills_36 F k3 κ v1 v2 v3 v4 fu) ih
      · refine j_iload hC (pc := 61) dX11_fills_61 5 rfl ?_
        refine j_aload_n hC (pc := 63) dX11_fills_63 0 rfl rfl ?_
        refine j_getR hC (pc := 64) dX11_fills_64 kf_RX11_13 lM_0 (Nat.le_of_ble_eq_true rfl) rfl ?_
        refine j_iconst hC (pc := 67) dX11_fills_67 ki_1 ?_
        refine j_iload hC (pc := 68) dX11_fills_68 8 rfl ?_
        refine j_iadd hC (pc := 70) dX11_fills_70 ?_
        refine j_iald hC (pc := 71) dX11_fills_71 lM_2 (Nat.le_of_ble_eq_true rfl) ?_
        refine j_irem hC (pc := 72) dX11_fills_72 ?_
        refine j_nmi (fun x6 => ?_)
        refine j_istore hC (pc := 73) dX11_fills_73 (Nat.le_of_ble_eq_true rfl) (loc' := [(9, .int x6), (0, .ref (gad Γ 0)), (1, .int v1), (2, .int v2), (3, .int v3), (4, .int v4), (5, .int v5), (6, .int v6), (7, .int v7), (8, .int v8)]) rfl ?_
        refine j_iload hC (pc := 75) dX11_fills_75 6 rfl ?_
        refine j_aload_n hC (pc := 77) dX11_fills_77 1 rfl rfl ?_
        refine j_getR hC (pc := 78) dX11_fills_78 kf_RX11_13 lM_0 (Nat.le_of_ble_eq_true rfl) rfl ?_
        refine j_iconst hC (pc := 81) dX11_fills_81 ki_1 ?_
        refine j_iload hC (pc := 82) dX11_fills_82 9 rfl ?_
        refine j_iadd hC (pc := 84) dX11_fills_84 ?_
        refine j_iald hC (pc := 85) dX11_fills_85 lM_2 (Nat.le_of_ble_eq_true rfl) ?_
        refine j_idiv hC (pc := 86) dX11_fills_86 ?_
        refine j_nmi (fun x7 => ?_)
        refine j_istore hC (pc := 87) dX11_fills_87 (Nat.le_of_ble_eq_true rfl) (loc' := [(5, .int x7), (9, .int x6), (0, .ref (gad Γ 0)), (1, .int v1), (2, .int v2), (3, .int v3), (4, .int v4), (6, .int v6), (7, .int v7), (8, .int v8)]) rfl ?_
        refine j_iload hC (pc := 89) dX11_fills_89 7 rfl ?_
        refine j_iload hC (pc := 91) dX11_fills_91 1 rfl ?_
        refine j_iadd hC (pc := 93) dX11_fills_93 ?_
        refine j_nmi (fun x8 => ?_)
        refine j_istore hC (pc := 94) dX11_fills_94 (Nat.le_of_ble_eq_true rfl) (loc' := [(6, .int x8), (5, .int x7), (9, .int x6), (0, .ref (gad Γ 0)), (1, .int v1), (2, .int v2), (3, .int v3), (4, .int v4), (7, .int v7), (8, .int v8)]) rfl ?_
        refine j_iload hC (pc := 96) dX11_fills_96 9 rfl ?_
        refine j_iload_n hC (pc := 98) dX11_fills_98 6 rfl rfl ?_
        refine j_icmp_ne hC (pc := 99) dX11_fills_99 (tgt := 107) rfl ?_ ?_
        · refine j_iload hC (pc := 102) dX11_fills_102 2 rfl ?_
          refine j_goto hC (pc := 104) dX11_fills_104 (tgt := 109) rfl ?_
          refine j_sub [3, 4, 5, 6, 7, 1, 0, 9] (loc' := [(0, .ref (gad Γ 0)), (1, .int v1), (2, .int v2), (3, .int v3), (4, .int v4), (5, .int x7), (6, .int x8), (8, .int v8)]) rfl ?_
          exact wX11_fills_109 hC hR hm F κ v1 v2 v3 v4 x7 x8 v8 x6 (pX11_fills_36 F k3 κ v1 v2 v3 v4 fu) ih
        · refine j_iload hC (pc := 107) dX11_fills_107 8 rfl ?_
          refine j_sub [3, 4, 5, 6, 7, 1, 0, 9] (loc' := [(0, .ref (gad Γ 0)), (1, .int v1), (2, .int v2), (3, .int v3), (4, .int v4), (5, .int x7), (6, .int x8), (8, .int v8)]) rfl ?_
          exact wX11_fills_109 hC hR hm F κ v1 v2 v3 v4 x7 x8 v8 v7 (pX11_fills_36 F k3 κ v1 v2 v3 v4 fu) ih
set_option maxRecDepth 20000 in
theorem wX11_fills_3 {Γ : JCtx} (hC : jC Γ cX11_fills 10 RX11 none layM 15) (hR : gR Γ = rmH 2) (hm : gcells Γ ≤ (gR Γ).cells ∧ gslots Γ ≤ (gR Γ).slots) (F : Nat) (v1 : Int32) (v2 : Int32) (v3 : Int32) : ∀ (n : Nat) (κ : Mem) (v4 : Int32), JP Γ (qf Γ oV) (pX11_fills_3 F v1 v2 v3 n κ v4) κ 3 [(0, .ref (gad Γ 0)), (1, .int v1), (2, .int v2), (3, .int v3), (4, .int v4)] [] := by
  intro n
  induction n with
  | zero =>
    intro κ v4
    rw [pX11_fills_3]
    exact j_none
  | succ fu ih =>
    intro κ v4
    rw [pX11_fills_3]
    refine j_iload hC (pc := 3) dX11_fills_3 4 rfl ?_
    refine j_aload_n hC (pc := 5) dX11_fills_5 0 rfl rfl ?_
    refine j_getR hC (pc := 6) dX11_fills_6 kf_RX11_13 lM_0 (Nat.le_of_ble_eq_true rfl) rfl ?_
    refine j_iload_n hC (pc := 9) dX11_fills_9 1 rfl rfl ?_
    refine j_callS_I hC hR (ctX11_situations hC.l hC.cn 2 (lenM_ok lM_2) (Nat.le_of_ble_eq_true rfl) F κ v1) kc_RX11_104 (Nat.le_of_ble_eq_true rfl) (Nat.le_of_ble_eq_true rfl) (As := [.ref (gad Γ 2), .int v1]) (rest := [.int v4]) rfl rfl (Nat.le_of_ble_eq_true rfl) hm (pc := 10) dX11_fills_10 (fun t1 => ?_)
    refine j_icmp_ge hC (pc := 13) dX11_fills_13 (tgt := 198) rfl ?_ ?_
    · refine j_iload hC (pc := 16) dX11_fills_16 4 rfl ?_
      refine j_istore hC (pc := 18) dX11_fills_18 (Nat.le_of_ble_eq_true rfl) (loc' := [(5, .int v4), (0, .ref (gad Γ 0)), (1, .int v1), (2, .int v2), (3, .int v3), (4, .int v4)]) rfl ?_
      refine j_iconst hC (pc := 20) dX11_fills_20 ki_0 ?_
      refine j_istore hC (pc := 21) dX11_fills_21 (Nat.le_of_ble_eq_true rfl) (loc' := [(6, .int 0), (5, .int v4), (0, .ref (gad Γ 0)), (1, .int v1), (2, .int v2), (3, .int v3), (4, .int v4)]) rfl ?_
      refine j_iconst hC (pc := 23) dX11_fills_23 ki_0 ?_
      refine j_istore hC (pc := 24) dX11_fills_24 (Nat.le_of_ble_eq_true rfl) (loc' := [(7, .int 0), (6, .int 0), (5, .int v4), (0, .ref (gad Γ 0)), (1, .int v1), (2, .int v2), (3, .int v3), (4, .int v4)]) rfl ?_
      refine j_aload_n hC (pc := 26) dX11_fills_26 3 rfl rfl ?_
      refine j_getR hC (pc := 27) dX11_fills_27 kf_RX11_13 lM_0 (Nat.le_of_ble_eq_true rfl) rfl ?_
      refine j_iconst hC (pc := 30) dX11_fills_30 ki_0 ?_
      refine j_iald hC (pc := 31) dX11_fills_31 lM_2 (Nat.le_of_ble_eq_true rfl) ?_
      refine j_iconst hC (pc := 32) dX11_fills_32 ki_1 ?_
      refine j_isub hC (pc := 33) dX11_fills_33 ?_
      refine j_nmi (fun x2 => ?_)
      refine j_istore hC (pc := 34) dX11_fills_34 (Nat.le_of_ble_eq_true rfl) (loc' := [(8, .int x2), (7, .int 0), (6, .int 0), (5, .int v4), (0, .ref (gad Γ 0)), (1, .int v1), (2, .int v2), (3, .int v3), (4, .int v4)]) rfl ?_
      refine j_sub [4, 5, 6, 7, 8, 3, 2, 1, 0] (loc' := [(0, .ref (gad Γ 0)), (1, .int v1), (2, .int v2), (3, .int v3), (4, .int v4), (5, .int v4), (6, .int 0), (7, .int 0), (8, .int x2)]) rfl ?_
      exact wX11_fills_36 hC hR hm F κ v1 v2 v3 v4 (pX11_fills_3 F v1 v2 v3 fu) ih F v4 0 0 x2
    · exact j_vret hC (pc := 198) dX11_fills_198 rfl rfl
set_option maxRecDepth 20000 in
theorem wX11_fills {Γ : JCtx} (hC : jC Γ cX11_fills 10 RX11 none layM 15) (hR : gR Γ = rmH 2) (hm : gcells Γ ≤ (gR Γ).cells ∧ gslots Γ ≤ (gR Γ).slots) (F : Nat) (κ : Mem) (v1 : Int32) (v2 : Int32) (v3 : Int32) : JP Γ (qf Γ oV) (pX11_fills F κ v1 v2 v3) κ 0 [(0, .ref (gad Γ 0)), (1, .int v1), (2, .int v2), (3, .int v3)] [] := by
  unfold pX11_fills
  refine j_iconst hC (pc := 0) dX11_fills_0 ki_0 ?_
  refine j_istore hC (pc := 1) dX11_fills_1 (Nat.le_of_ble_eq_true rfl) (loc' := [(4, .int 0), (0, .ref (gad Γ 0)), (1, .int v1), (2, .int v2), (3, .int v3)]) rfl ?_
  refine j_sub [1, 2, 3, 4, 0] (loc' := [(0, .ref (gad Γ 0)), (1, .int v1), (2, .int v2), (3, .int v3), (4, .int 0)]) rfl ?_
  exact wX11_fills_3 hC hR hm F v1 v2 v3 F κ 0
theorem ctX11_fills {Δ : DCtx} {l : Launch} (hl : dlay Δ = layM) (hN : dN Δ = 15) (F : Nat) (κ : Mem) (v1 : Int32) (v2 : Int32) (v3 : Int32) : ∀ r, pX11_fills F κ v1 v2 v3 = some r → CT Δ l yX11_fills cX11_fills 10 none (rmH 2) [.ref (dad Δ 0), .int v1, .int v2, .int v3] κ none r :=
  ct_of (nL := 10) (ret := none) (lay := layM) (N := 15) (by decide +kernel) (fun Δ => [.ref (dad Δ 0), .int v1, .int v2, .int v3]) (fun _ => oV) (fun _ => (Nat.le_of_ble_eq_true rfl)) (fun Γ hR hm hC => wX11_fills hC hR hm F κ v1 v2 v3) Δ l hl hN
set_option maxRecDepth 20000 in
theorem wX11_readsTable_61 {Γ : JCtx} (hC : jC Γ cX11_readsTable 3 RX11 none layM 15) (hR : gR Γ = rmH 5) (hm : gcells Γ ≤ (gR Γ).cells ∧ gslots Γ ≤ (gR Γ).slots) (F : Nat) (κ : Mem) : JP Γ (qf Γ oV) (pX11_readsTable_61 F κ) κ 61 [] [] := by
  unfold pX11_readsTable_61
  exact j_vret hC (pc := 61) dX11_readsTable_61 rfl rfl
set_option maxRecDepth 20000 in
theorem wX11_readsTable_6 {Γ : JCtx} (hC : jC Γ cX11_readsTable 3 RX11 none layM 15) (hR : gR Γ = rmH 5) (hm : gcells Γ ≤ (gR Γ).cells ∧ gslots Γ ≤ (gR Γ).slots) (F : Nat) (v1 : Int32) : ∀ (n : Nat) (κ : Mem) (v2 : Int32), JP Γ (qf Γ oV) (pX11_readsTable_6 F v1 n κ v2) κ 6 [(0, .ref (gad Γ 0)), (1, .int v1), (2, .int v2)] [] := by
  intro n
  induction n with
  | zero =>
    intro κ v2
    rw [pX11_readsTable_6]
    exact j_none
  | succ fu ih =>
    intro κ v2
    rw [pX11_readsTable_6]
    refine j_iload_n hC (pc := 6) dX11_readsTable_6 2 rfl rfl ?_
    refine j_aload_n hC (pc := 7) dX11_readsTable_7 0 rfl rfl ?_
    refine j_getR hC (pc := 8) dX11_readsTable_8 kf_RX11_13 lM_0 (Nat.le_of_ble_eq_true rfl) rfl ?_
    refine j_iload_n hC (pc := 11) dX11_readsTable_11 1 rfl rfl ?_
    refine j_callS_I hC hR (ctX11_situations hC.l hC.cn 2 (lenM_ok lM_2) (Nat.le_of_ble_eq_true rfl) F κ v1) kc_RX11_104 (Nat.le_of_ble_eq_true rfl) (Nat.le_of_ble_eq_true rfl) (As := [.ref (gad Γ 2), .int v1]) (rest := [.int v2]) rfl rfl (Nat.le_of_ble_eq_true rfl) hm (pc := 12) dX11_readsTable_12 (fun t2 => ?_)
    refine j_icmp_ge hC (pc := 15) dX11_readsTable_15 (tgt := 61) rfl ?_ ?_
    · refine j_aload_n hC (pc := 18) dX11_readsTable_18 0 rfl rfl ?_
      refine j_callV_I hC hR (ctX11_good hC.l hC.cn κ) kc_RX11_405 (Nat.le_of_ble_eq_true rfl) (Nat.le_of_ble_eq_true rfl) lM_0 (Nat.le_of_ble_eq_true rfl) rfl (As := []) (rest := []) rfl rfl (Nat.le_of_ble_eq_true rfl) hm (pc := 19) dX11_readsTable_19 (fun t3 => ?_)
      refine j_if_eq hC (pc := 22) dX11_readsTable_22 (tgt := 61) rfl ?_ ?_
      · refine j_sub [] (loc' := []) rfl ?_
        exact wX11_readsTable_61 hC hR hm F κ
      · refine j_aload_n hC (pc := 25) dX11_readsTable_25 0 rfl rfl ?_
        refine j_getR hC (pc := 26) dX11_readsTable_26 kf_RX11_13 lM_0 (Nat.le_of_ble_eq_true rfl) rfl ?_
        refine j_bipush hC (pc := 29) dX11_readsTable_29 kb_13 ?_
        refine j_sipush hC (pc := 31) dX11_readsTable_31 ks_1024 ?_
        refine j_iload_n hC (pc := 34) dX11_readsTable_34 1 rfl rfl ?_
        refine j_imul hC (pc := 35) dX11_readsTable_35 ?_
        refine j_iadd hC (pc := 36) dX11_readsTable_36 ?_
        refine j_iload_n hC (pc := 37) dX11_readsTable_37 2 rfl rfl ?_
        refine j_iadd hC (pc := 38) dX11_readsTable_38 ?_
        refine j_aload_n hC (pc := 39) dX11_readsTable_39 0 rfl rfl ?_
        refine j_iconst hC (pc := 40) dX11_readsTable_40 ki_0 ?_
        refine j_aload_n hC (pc := 41) dX11_readsTable_41 0 rfl rfl ?_
        refine j_getR hC (pc := 42) dX11_readsTable_42 kf_RX11_13 lM_0 (Nat.le_of_ble_eq_true rfl) rfl ?_
        refine j_iconst hC (pc := 45) dX11_readsTable_45 ki_1 ?_
        refine j_iload_n hC (pc := 46) dX11_readsTable_46 1 rfl rfl ?_
        refine j_iadd hC (pc := 47) dX11_readsTable_47 ?_
        refine j_iald hC (pc := 48) dX11_readsTable_48 lM_2 (Nat.le_of_ble_eq_true rfl) ?_
        refine j_iconst hC (pc := 49) dX11_readsTable_49 ki_1 ?_
        refine j_isub hC (pc := 50) dX11_readsTable_50 ?_
        refine j_callV_E hC hR (ctX11_takesNumber hC.l hC.cn F κ 0 ((mi κ 2 (1 + v1).toNatClampNeg) - 1)) kc_RX11_424 (Nat.le_of_ble_eq_true rfl) (Nat.le_of_ble_eq_true rfl) lM_0 (Nat.le_of_ble_eq_true rfl) rfl (As := [.int 0, .int ((mi κ 2 (1 + v1).toNatClampNeg) - 1)]) (rest := [.int ((13 + (1024 * v1)) + v2), .ref (gad Γ 2)]) rfl rfl (Nat.le_of_ble_eq_true rfl) hm (pc := 51) dX11_readsTable_51 (fun t4 => ?_)
        refine j_iast hC (pc := 54) dX11_readsTable_54 lM_2 (Nat.le_of_ble_eq_true rfl) (fun κ5 => ?_)
        refine j_iinc hC (pc := 55) dX11_readsTable_55 2 rfl ki_1 (Nat.le_of_ble_eq_true rfl) (loc' := [(2, .int (v2 + 1)), (0, .ref (gad Γ 0)), (1, .int v1)]) rfl ?_
        refine j_goto hC (pc := 58) dX11_readsTable_58 (tgt := 6) rfl ?_
        refine j_sub [1, 2, 0] (loc' := [(0, .ref (gad Γ 0)), (1, .int v1), (2, .int (v2 + 1))]) rfl ?_
        exact ih κ5 (v2 + 1)
    · refine j_sub [] (loc' := []) rfl ?_
      exact wX11_readsTable_61 hC hR hm F κ
set_option maxRecDepth 20000 in
theorem wX11_readsTable {Γ : JCtx} (hC : jC Γ cX11_readsTable 3 RX11 none layM 15) (hR : gR Γ = rmH 5) (hm : gcells Γ ≤ (gR Γ).cells ∧ gslots Γ ≤ (gR Γ).slots) (F : Nat) (κ : Mem) (v1 : Int32) : JP Γ (qf Γ oV) (pX11_readsTable F κ v1) κ 0 [(0, .ref (gad Γ 0)), (1, .int v1)] [] := by
  unfold pX11_readsTable
  refine j_aload_n hC (pc := 0) dX11_readsTable_0 0 rfl rfl ?_
  refine j_callV_V hC hR (ctX11_goesOn hC.l hC.cn F κ) kc_RX11_415 (Nat.le_of_ble_eq_true rfl) (Nat.le_of_ble_eq_true rfl) lM_0 (Nat.le_of_ble_eq_true rfl) rfl (As := []) (rest := []) rfl rfl (Nat.le_of_ble_eq_true rfl) hm (pc := 1) dX11_readsTable_1 (fun t1 => ?_)
  refine j_iconst hC (pc := 4) dX11_readsTable_4 ki_0 ?_
  refine j_istore_n hC (pc := 5) dX11_readsTable_5 rfl (Nat.le_of_ble_eq_true rfl) (loc' := [(2, .int 0), (0, .ref (gad Γ 0)), (1, .int v1)]) rfl ?_
  refine j_sub [1, 2, 0] (loc' := [(0, .ref (gad Γ 0)), (1, .int v1), (2, .int 0)]) rfl ?_
  exact wX11_readsTable_6 hC hR hm F v1 F t1 0
theorem ctX11_readsTable {Δ : DCtx} {l : Launch} (hl : dlay Δ = layM) (hN : dN Δ = 15) (F : Nat) (κ : Mem) (v1 : Int32) : ∀ r, pX11_readsTable F κ v1 = some r → CT Δ l yX11_readsTable cX11_readsTable 3 none (rmH 5) [.ref (dad Δ 0), .int v1] κ none r :=
  ct_of (nL := 3) (ret := none) (lay := layM) (N := 15) (by decide +kernel) (fun Δ => [.ref (dad Δ 0), .int v1]) (fun _ => oV) (fun _ => (Nat.le_of_ble_eq_true rfl)) (fun Γ hR hm hC => wX11_readsTable hC hR hm F κ v1) Δ l hl hN
set_option maxRecDepth 20000 in
theorem wX11_readsGuess_44 {Γ : JCtx} (hC : jC Γ cX11_readsGuess 4 RX11 none layM 15) (hR : gR Γ = rmH 6) (hm : gcells Γ ≤ (gR Γ).cells ∧ gslots Γ ≤ (gR Γ).slots) (F : Nat) (κ : Mem) (v1 : Int32) (v3 : Int32) (y0 : Int32) (k25 : Int32 → Int32 → Option Mem) (hk25 : ∀ (v2 : Int32) (v3 : Int32), JP Γ (qf Γ oV) (k25 v2 v3) κ 25 [(0, .ref (gad Γ 0)), (1, .int v1), (2, .int v2), (3, .int v3)] []) : JP Γ (qf Γ oV) (pX11_readsGuess_44 F k25 κ v1 v3 y0) κ 44 [(0, .ref (gad Γ 0)), (1, .int v1), (3, .int v3)] [.int y0] := by
  unfold pX11_readsGuess_44
  refine j_istore_n hC (pc := 44) dX11_readsGuess_44 rfl (Nat.le_of_ble_eq_true rfl) (loc' := [(2, .int y0), (0, .ref (gad Γ 0)), (1, .int v1), (3, .int v3)]) rfl ?_
  refine j_iinc hC (pc := 45) dX11_readsGuess_45 3 rfl ki_1 (Nat.le_of_ble_eq_true rfl) (loc' := [(3, .int (v3 + 1)), (2, .int y0), (0, .ref (gad Γ 0)), (1, .int v1)]) rfl ?_
  refine j_goto hC (pc := 48) dX11_readsGuess_48 (tgt := 25) rfl ?_
  refine j_sub [2, 3, 1, 0] (loc' := [(0, .ref (gad Γ 0)), (1, .int v1), (2, .int y0), (3, .int (v3 + 1))]) rfl ?_
  exact hk25 y0 (v3 + 1)
set_option maxRecDepth 20000 in
theorem wX11_readsGuess_204 {Γ : JCtx} (hC : jC Γ cX11_readsGuess 4 RX11 none layM 15) (hR : gR Γ = rmH 6) (hm : gcells Γ ≤ (gR Γ).cells ∧ gslots Γ ≤ (gR Γ).slots) (F : Nat) (κ : Mem) (v1 : Int32) : JP Γ (qf Γ oV) (pX11_readsGuess_204 F κ v1) κ 204 [(0, .ref (gad Γ 0)), (1, .int v1)] [] := by
  unfold pX11_readsGuess_204
  refine j_aload_n hC (pc := 204) dX11_readsGuess_204 0 rfl rfl ?_
  refine j_dup hC (pc := 205) dX11_readsGuess_205 rfl ?_
  refine j_getI hC (pc := 206) dX11_readsGuess_206 kf_RX11_427 lM_0 (Nat.le_of_ble_eq_true rfl) rfl ?_
  refine j_iconst hC (pc := 209) dX11_readsGuess_209 ki_1 ?_
  refine j_iload_n hC (pc := 210) dX11_readsGuess_210 1 rfl rfl ?_
  refine j_ishl hC (pc := 211) dX11_readsGuess_211 ?_
  refine j_ior hC (pc := 212) dX11_readsGuess_212 ?_
  refine j_putI hC (pc := 213) dX11_readsGuess_213 kp_RX11_427 lM_0 (Nat.le_of_ble_eq_true rfl) rfl rfl rfl (fun κ7 => ?_)
  exact j_vret hC (pc := 216) dX11_readsGuess_216 rfl rfl
set_option maxRecDepth 20000 in
theorem wX11_readsGuess_200 {Γ : JCtx} (hC : jC Γ cX11_readsGuess 4 RX11 none layM 15) (hR : gR Γ = rmH 6) (hm : gcells Γ ≤ (gR Γ).cells ∧ gslots Γ ≤ (gR Γ).slots) (F : Nat) (κ : Mem) (v1 : Int32) : JP Γ (qf Γ oV) (pX11_readsGuess_200 F κ v1) κ 200 [(0, .ref (gad Γ 0)), (1, .int v1)] [] := by
  unfold pX11_readsGuess_200
  refine j_aload_n hC (pc := 200) dX11_readsGuess_200 0 rfl rfl ?_
  refine j_callV_V hC hR (ctX11_goesOn hC.l hC.cn F κ) kc_RX11_415 (Nat.le_of_ble_eq_true rfl) (Nat.le_of_ble_eq_true rfl) lM_0 (Nat.le_of_ble_eq_true rfl) rfl (As := []) (rest := []) rfl rfl (Nat.le_of_ble_eq_true rfl) hm (pc := 201) dX11_readsGuess_201 (fun t12 => ?_)
  exact wX11_readsGuess_204 hC hR hm F t12 v1
set_option maxRecDepth 20000 in
theorem wX11_readsGuess_179 {Γ : JCtx} (hC : jC Γ cX11_readsGuess 4 RX11 none layM 15) (hR : gR Γ = rmH 6) (hm : gcells Γ ≤ (gR Γ).cells ∧ gslots Γ ≤ (gR Γ).slots) (F : Nat) (κ : Mem) (v1 : Int32) (v2 : Int32) (y0 : Int32) : JP Γ (qf Γ oV) (pX11_readsGuess_179 F κ v1 v2 y0) κ 179 [(0, .ref (gad Γ 0)), (1, .int v1), (2, .int v2)] [.int y0, .ref (gad Γ 0)] := by
  unfold pX11_readsGuess_179
  refine j_iconst hC (pc := 179) dX11_readsGuess_179 ki_3 ?_
  refine j_callV_V hC hR (ctX11_must hC.l hC.cn κ y0 3) kc_RX11_411 (Nat.le_of_ble_eq_true rfl) (Nat.le_of_ble_eq_true rfl) lM_0 (Nat.le_of_ble_eq_true rfl) rfl (As := [.int y0, .int 3]) (rest := []) rfl rfl (Nat.le_of_ble_eq_true rfl) hm (pc := 180) dX11_readsGuess_180 (fun t10 => ?_)
  refine j_aload_n hC (pc := 183) dX11_readsGuess_183 0 rfl rfl ?_
  refine j_callV_I hC hR (ctX11_good hC.l hC.cn t10) kc_RX11_405 (Nat.le_of_ble_eq_true rfl) (Nat.le_of_ble_eq_true rfl) lM_0 (Nat.le_of_ble_eq_true rfl) rfl (As := []) (rest := []) rfl rfl (Nat.le_of_ble_eq_true rfl) hm (pc := 184) dX11_readsGuess_184 (fun t11 => ?_)
  refine j_if_eq hC (pc := 187) dX11_readsGuess_187 (tgt := 200) rfl ?_ ?_
  · refine j_sub [0, 1] (loc' := [(0, .ref (gad Γ 0)), (1, .int v1)]) rfl ?_
    exact wX11_readsGuess_200 hC hR hm F t10 v1
  · refine j_aload_n hC (pc := 190) dX11_readsGuess_190 0 rfl rfl ?_
    refine j_iload_n hC (pc := 191) dX11_readsGuess_191 1 rfl rfl ?_
    refine j_iload_n hC (pc := 192) dX11_readsGuess_192 2 rfl rfl ?_
    refine j_aload_n hC (pc := 193) dX11_readsGuess_193 0 rfl rfl ?_
    refine j_getI hC (pc := 194) dX11_readsGuess_194 kf_RX11_396 lM_0 (Nat.le_of_ble_eq_true rfl) rfl ?_
    refine j_callV_V hC hR (ctX11_fills hC.l hC.cn F t10 v1 v2 (mi t10 0 30)) kc_RX11_436 (Nat.le_of_ble_eq_true rfl) (Nat.le_of_ble_eq_true rfl) lM_0 (Nat.le_of_ble_eq_true rfl) rfl (As := [.int v1, .int v2, .int (mi t10 0 30)]) (rest := []) rfl rfl (Nat.le_of_ble_eq_true rfl) hm (pc := 197) dX11_readsGuess_197 (fun t13 => ?_)
    refine j_sub [0, 1] (loc' := [(0, .ref (gad Γ 0)), (1, .int v1)]) rfl ?_
    exact wX11_readsGuess_200 hC hR hm F t13 v1
set_option maxRecDepth 20000 in
theorem wX11_readsGuess_174 {Γ : JCtx} (hC : jC Γ cX11_readsGuess 4 RX11 none layM 15) (hR : gR Γ = rmH 6) (hm : gcells Γ ≤ (gR Γ).cells ∧ gslots Γ ≤ (gR Γ).slots) (F : Nat) (κ : Mem) (v1 : Int32) (v2 : Int32) : JP Γ (qf Γ oV) (pX11_readsGuess_174 F κ v1 v2) κ 174 [(0, .ref (gad Γ 0)), (1, .int v1), (2, .int v2)] [.ref (gad Γ 0)] := by
  unfold pX11_readsGuess_174
  refine j_iconst hC (pc := 174) dX11_readsGuess_174 ki_1 ?_
  refine j_goto hC (pc := 175) dX11_readsGuess_175 (tgt := 179) rfl ?_
  exact wX11_readsGuess_179 hC hR hm F κ v1 v2 1
set_option maxRecDepth 20000 in
theorem wX11_readsGuess_178 {Γ : JCtx} (hC : jC Γ cX11_readsGuess 4 RX11 none layM 15) (hR : gR Γ = rmH 6) (hm : gcells Γ ≤ (gR Γ).cells ∧ gslots Γ ≤ (gR Γ).slots) (F : Nat) (κ : Mem) (v1 : Int32) (v2 : Int32) : JP Γ (qf Γ oV) (pX11_readsGuess_178 F κ v1 v2) κ 178 [(0, .ref (gad Γ 0)), (1, .int v1), (2, .int v2)] [.ref (gad Γ 0)] := by
  unfold pX11_readsGuess_178
  refine j_iconst hC (pc := 178) dX11_readsGuess_178 ki_0 ?_
  exact wX11_readsGuess_179 hC hR hm F κ v1 v2 0
set_option maxRecDepth 20000 in
theorem wX11_readsGuess_128 {Γ : JCtx} (hC : jC Γ cX11_readsGuess 4 RX11 none layM 15) (hR : gR Γ = rmH 6) (hm : gcells Γ ≤ (gR Γ).cells ∧ gslots Γ ≤ (gR Γ).slots) (F : Nat) (κ : Mem) (v1 : Int32) (v2 : Int32) : JP Γ (qf Γ oV) (pX11_readsGuess_128 F κ v1 v2) κ 128 [(0, .ref (gad Γ 0)), (1, .int v1), (2, .int v2)] [.ref (gad Γ 0)] := by
  unfold pX11_readsGuess_128
  refine j_iload_n hC (pc := 128) dX11_readsGuess_128 2 rfl rfl ?_
  refine j_bipush hC (pc := 129) dX11_readsGuess_129 kb_8 ?_
  refine j_icmp_ge hC (pc := 131) dX11_readsGuess_131 (tgt := 178) rfl ?_ ?_
  · refine j_aload_n hC (pc := 134) dX11_readsGuess_134 0 rfl rfl ?_
    refine j_getI hC (pc := 135) dX11_readsGuess_135 kf_RX11_396 lM_0 (Nat.le_of_ble_eq_true rfl) rfl ?_
    refine j_i2l hC (pc := 138) dX11_readsGuess_138 ?_
    refine j_lconst hC (pc := 139) dX11_readsGuess_139 rfl ?_
    refine j_aload_n hC (pc := 140) dX11_readsGuess_140 0 rfl rfl ?_
    refine j_getR hC (pc := 141) dX11_readsGuess_141 kf_RX11_13 lM_0 (Nat.le_of_ble_eq_true rfl) rfl ?_
    refine j_iconst hC (pc := 144) dX11_readsGuess_144 ki_0 ?_
    refine j_iald hC (pc := 145) dX11_readsGuess_145 lM_2 (Nat.le_of_ble_eq_true rfl) ?_
    refine j_iconst hC (pc := 146) dX11_readsGuess_146 ki_1 ?_
    refine j_isub hC (pc := 147) dX11_readsGuess_147 ?_
    refine j_i2l hC (pc := 148) dX11_readsGuess_148 ?_
    refine j_callS_I hC hR (ctX11_isIn hC.l hC.cn κ ((mi κ 0 30).toInt64) 0 (((mi κ 2 (0 : Int32).toNatClampNeg) - 1).toInt64)) kc_RX11_92 (Nat.le_of_ble_eq_true rfl) (Nat.le_of_ble_eq_true rfl) (As := [.long ((mi κ 0 30).toInt64), .long 0, .long (((mi κ 2 (0 : Int32).toNatClampNeg) - 1).toInt64)]) (rest := [.ref (gad Γ 0)]) rfl rfl (Nat.le_of_ble_eq_true rfl) hm (pc := 149) dX11_readsGuess_149 (fun t14 => ?_)
    refine j_if_eq hC (pc := 152) dX11_readsGuess_152 (tgt := 178) rfl ?_ ?_
    · exact wX11_readsGuess_178 hC hR hm F κ v1 v2
    · refine j_aload_n hC (pc := 155) dX11_readsGuess_155 0 rfl rfl ?_
      refine j_getR hC (pc := 156) dX11_readsGuess_156 kf_RX11_13 lM_0 (Nat.le_of_ble_eq_true rfl) rfl ?_
      refine j_bipush hC (pc := 159) dX11_readsGuess_159 kb_7 ?_
      refine j_iload_n hC (pc := 161) dX11_readsGuess_161 1 rfl rfl ?_
      refine j_iadd hC (pc := 162) dX11_readsGuess_162 ?_
      refine j_iald hC (pc := 163) dX11_readsGuess_163 lM_2 (Nat.le_of_ble_eq_true rfl) ?_
      refine j_aload_n hC (pc := 164) dX11_readsGuess_164 0 rfl rfl ?_
      refine j_getI hC (pc := 165) dX11_readsGuess_165 kf_RX11_396 lM_0 (Nat.le_of_ble_eq_true rfl) rfl ?_
      refine j_callS_I hC hR (ctX11_has hC.l hC.cn κ (mi κ 2 (7 + v1).toNatClampNeg) (mi κ 0 30)) kc_RX11_88 (Nat.le_of_ble_eq_true rfl) (Nat.le_of_ble_eq_true rfl) (As := [.int (mi κ 2 (7 + v1).toNatClampNeg), .int (mi κ 0 30)]) (rest := [.ref (gad Γ 0)]) rfl rfl (Nat.le_of_ble_eq_true rfl) hm (pc := 168) dX11_readsGuess_168 (fun t15 => ?_)
      refine j_if_eq hC (pc := 171) dX11_readsGuess_171 (tgt := 178) rfl ?_ ?_
      · exact wX11_readsGuess_178 hC hR hm F κ v1 v2
      · exact wX11_readsGuess_174 hC hR hm F κ v1 v2
  · exact wX11_readsGuess_178 hC hR hm F κ v1 v2
set_option maxRecDepth 20000 in
theorem wX11_readsGuess_97 {Γ : JCtx} (hC : jC Γ cX11_readsGuess 4 RX11 none layM 15) (hR : gR Γ = rmH 6) (hm : gcells Γ ≤ (gR Γ).cells ∧ gslots Γ ≤ (gR Γ).slots) (F : Nat) (κ : Mem) (v1 : Int32) (v2 : Int32) (y0 : Int32) : JP Γ (qf Γ oV) (pX11_readsGuess_97 F κ v1 v2 y0) κ 97 [(0, .ref (gad Γ 0)), (1, .int v1), (2, .int v2)] [.int y0, .ref (gad Γ 0)] := by
  unfold pX11_readsGuess_97
  refine j_iconst hC (pc := 97) dX11_readsGuess_97 ki_2 ?_
  refine j_callV_V hC hR (ctX11_must hC.l hC.cn κ y0 2) kc_RX11_411 (Nat.le_of_ble_eq_true rfl) (Nat.le_of_ble_eq_true rfl) lM_0 (Nat.le_of_ble_eq_true rfl) rfl (As := [.int y0, .int 2]) (rest := []) rfl rfl (Nat.le_of_ble_eq_true rfl) hm (pc := 98) dX11_readsGuess_98 (fun t9 => ?_)
  refine j_aload_n hC (pc := 101) dX11_readsGuess_101 0 rfl rfl ?_
  refine j_iload_n hC (pc := 102) dX11_readsGuess_102 2 rfl rfl ?_
  refine j_iconst hC (pc := 103) dX11_readsGuess_103 ki_5 ?_
  refine j_icmp_eq hC (pc := 104) dX11_readsGuess_104 (tgt := 174) rfl ?_ ?_
  · exact wX11_readsGuess_174 hC hR hm F t9 v1 v2
  · refine j_iload_n hC (pc := 107) dX11_readsGuess_107 2 rfl rfl ?_
    refine j_bipush hC (pc := 108) dX11_readsGuess_108 kb_8 ?_
    refine j_icmp_ne hC (pc := 110) dX11_readsGuess_110 (tgt := 128) rfl ?_ ?_
    · refine j_aload_n hC (pc := 113) dX11_readsGuess_113 0 rfl rfl ?_
      refine j_getI hC (pc := 114) dX11_readsGuess_114 kf_RX11_396 lM_0 (Nat.le_of_ble_eq_true rfl) rfl ?_
      refine j_aload_n hC (pc := 117) dX11_readsGuess_117 0 rfl rfl ?_
      refine j_getR hC (pc := 118) dX11_readsGuess_118 kf_RX11_13 lM_0 (Nat.le_of_ble_eq_true rfl) rfl ?_
      refine j_iconst hC (pc := 121) dX11_readsGuess_121 ki_1 ?_
      refine j_iload_n hC (pc := 122) dX11_readsGuess_122 1 rfl rfl ?_
      refine j_iadd hC (pc := 123) dX11_readsGuess_123 ?_
      refine j_iald hC (pc := 124) dX11_readsGuess_124 lM_2 (Nat.le_of_ble_eq_true rfl) ?_
      refine j_icmp_lt hC (pc := 125) dX11_readsGuess_125 (tgt := 174) rfl ?_ ?_
      · exact wX11_readsGuess_174 hC hR hm F t9 v1 v2
      · exact wX11_readsGuess_128 hC hR hm F t9 v1 v2
    · exact wX11_readsGuess_128 hC hR hm F t9 v1 v2
set_option maxRecDepth 20000 in
theorem wX11_readsGuess_61 {Γ : JCtx} (hC : jC Γ cX11_readsGuess 4 RX11 none layM 15) (hR : gR Γ = rmH 6) (hm : gcells Γ ≤ (gR Γ).cells ∧ gslots Γ ≤ (gR Γ).slots) (F : Nat) (κ : Mem) (v1 : Int32) (v2 : Int32) (y0 : Int32) : JP Γ (qf Γ oV) (pX11_readsGuess_61 F κ v1 v2 y0) κ 61 [(0, .ref (gad Γ 0)), (1, .int v1), (2, .int v2)] [.int y0, .ref (gad Γ 0)] := by
  unfold pX11_readsGuess_61
  refine j_iconst hC (pc := 61) dX11_readsGuess_61 ki_2 ?_
  refine j_callV_V hC hR (ctX11_must hC.l hC.cn κ y0 2) kc_RX11_411 (Nat.le_of_ble_eq_true rfl) (Nat.le_of_ble_eq_true rfl) lM_0 (Nat.le_of_ble_eq_true rfl) rfl (As := [.int y0, .int 2]) (rest := []) rfl rfl (Nat.le_of_ble_eq_true rfl) hm (pc := 62) dX11_readsGuess_62 (fun t5 => ?_)
  refine j_iload_n hC (pc := 65) dX11_readsGuess_65 2 rfl rfl ?_
  refine j_bipush hC (pc := 66) dX11_readsGuess_66 kb_9 ?_
  refine j_icmp_ne hC (pc := 68) dX11_readsGuess_68 (tgt := 79) rfl ?_ ?_
  · refine j_aload_n hC (pc := 71) dX11_readsGuess_71 0 rfl rfl ?_
    refine j_iload_n hC (pc := 72) dX11_readsGuess_72 1 rfl rfl ?_
    refine j_callV_V hC hR (ctX11_readsTable hC.l hC.cn F t5 v1) kc_RX11_433 (Nat.le_of_ble_eq_true rfl) (Nat.le_of_ble_eq_true rfl) lM_0 (Nat.le_of_ble_eq_true rfl) rfl (As := [.int v1]) (rest := []) rfl rfl (Nat.le_of_ble_eq_true rfl) hm (pc := 73) dX11_readsGuess_73 (fun t6 => ?_)
    refine j_goto hC (pc := 76) dX11_readsGuess_76 (tgt := 204) rfl ?_
    refine j_sub [0, 1] (loc' := [(0, .ref (gad Γ 0)), (1, .int v1)]) rfl ?_
    exact wX11_readsGuess_204 hC hR hm F t6 v1
  · refine j_aload_n hC (pc := 79) dX11_readsGuess_79 0 rfl rfl ?_
    refine j_callV_V hC hR (ctX11_goesOn hC.l hC.cn F t5) kc_RX11_415 (Nat.le_of_ble_eq_true rfl) (Nat.le_of_ble_eq_true rfl) lM_0 (Nat.le_of_ble_eq_true rfl) rfl (As := []) (rest := []) rfl rfl (Nat.le_of_ble_eq_true rfl) hm (pc := 80) dX11_readsGuess_80 (fun t8 => ?_)
    refine j_aload_n hC (pc := 83) dX11_readsGuess_83 0 rfl rfl ?_
    refine j_aload_n hC (pc := 84) dX11_readsGuess_84 0 rfl rfl ?_
    refine j_getI hC (pc := 85) dX11_readsGuess_85 kf_RX11_385 lM_0 (Nat.le_of_ble_eq_true rfl) rfl ?_
    refine j_iconst hC (pc := 88) dX11_readsGuess_88 ki_2 ?_
    refine j_icmp_ne hC (pc := 89) dX11_readsGuess_89 (tgt := 96) rfl ?_ ?_
    · refine j_iconst hC (pc := 92) dX11_readsGuess_92 ki_1 ?_
      refine j_goto hC (pc := 93) dX11_readsGuess_93 (tgt := 97) rfl ?_
      exact wX11_readsGuess_97 hC hR hm F t8 v1 v2 1
    · refine j_iconst hC (pc := 96) dX11_readsGuess_96 ki_0 ?_
      exact wX11_readsGuess_97 hC hR hm F t8 v1 v2 0
set_option maxRecDepth 20000 in
theorem wX11_readsGuess_25 {Γ : JCtx} (hC : jC Γ cX11_readsGuess 4 RX11 none layM 15) (hR : gR Γ = rmH 6) (hm : gcells Γ ≤ (gR Γ).cells ∧ gslots Γ ≤ (gR Γ).slots) (F : Nat) (κ : Mem) (v1 : Int32) : ∀ (n : Nat) (v2 : Int32) (v3 : Int32), JP Γ (qf Γ oV) (pX11_readsGuess_25 F κ v1 n v2 v3) κ 25 [(0, .ref (gad Γ 0)), (1, .int v1), (2, .int v2), (3, .int v3)] [] := by
  intro n
  induction n with
  | zero =>
    intro v2 v3
    rw [pX11_readsGuess_25]
    exact j_none
  | succ fu ih =>
    intro v2 v3
    rw [pX11_readsGuess_25]
    refine j_iload_n hC (pc := 25) dX11_readsGuess_25 3 rfl rfl ?_
    refine j_bipush hC (pc := 26) dX11_readsGuess_26 kb_9 ?_
    refine j_icmp_gt hC (pc := 28) dX11_readsGuess_28 (tgt := 51) rfl ?_ ?_
    · refine j_aload_n hC (pc := 31) dX11_readsGuess_31 0 rfl rfl ?_
      refine j_iload_n hC (pc := 32) dX11_readsGuess_32 3 rfl rfl ?_
      refine j_callV_I hC hR (ctX11_isWord hC.l hC.cn κ v3) kc_RX11_430 (Nat.le_of_ble_eq_true rfl) (Nat.le_of_ble_eq_true rfl) lM_0 (Nat.le_of_ble_eq_true rfl) rfl (As := [.int v3]) (rest := []) rfl rfl (Nat.le_of_ble_eq_true rfl) hm (pc := 33) dX11_readsGuess_33 (fun t4 => ?_)
      refine j_if_eq hC (pc := 36) dX11_readsGuess_36 (tgt := 43) rfl ?_ ?_
      · refine j_iload_n hC (pc := 43) dX11_readsGuess_43 2 rfl rfl ?_
        refine j_sub [0, 1, 3] (loc' := [(0, .ref (gad Γ 0)), (1, .int v1), (3, .int v3)]) rfl ?_
        exact wX11_readsGuess_44 hC hR hm F κ v1 v3 v2 (pX11_readsGuess_25 F κ v1 fu) ih
      · refine j_iload_n hC (pc := 39) dX11_readsGuess_39 3 rfl rfl ?_
        refine j_goto hC (pc := 40) dX11_readsGuess_40 (tgt := 44) rfl ?_
        refine j_sub [0, 1, 3] (loc' := [(0, .ref (gad Γ 0)), (1, .int v1), (3, .int v3)]) rfl ?_
        exact wX11_readsGuess_44 hC hR hm F κ v1 v3 v3 (pX11_readsGuess_25 F κ v1 fu) ih
    · refine j_aload_n hC (pc := 51) dX11_readsGuess_51 0 rfl rfl ?_
      refine j_iload_n hC (pc := 52) dX11_readsGuess_52 2 rfl rfl ?_
      refine j_if_lt hC (pc := 53) dX11_readsGuess_53 (tgt := 60) rfl ?_ ?_
      · refine j_iconst hC (pc := 60) dX11_readsGuess_60 ki_0 ?_
        refine j_sub [0, 1, 2] (loc' := [(0, .ref (gad Γ 0)), (1, .int v1), (2, .int v2)]) rfl ?_
        exact wX11_readsGuess_61 hC hR hm F κ v1 v2 0
      · refine j_iconst hC (pc := 56) dX11_readsGuess_56 ki_1 ?_
        refine j_goto hC (pc := 57) dX11_readsGuess_57 (tgt := 61) rfl ?_
        refine j_sub [0, 1, 2] (loc' := [(0, .ref (gad Γ 0)), (1, .int v1), (2, .int v2)]) rfl ?_
        exact wX11_readsGuess_61 hC hR hm F κ v1 v2 1
set_option maxRecDepth 20000 in
theorem wX11_readsGuess {Γ : JCtx} (hC : jC Γ cX11_readsGuess 4 RX11 none layM 15) (hR : gR Γ = rmH 6) (hm : gcells Γ ≤ (gR Γ).cells ∧ gslots Γ ≤ (gR Γ).slots) (F : Nat) (κ : Mem) : JP Γ (qf Γ oV) (pX11_readsGuess F κ) κ 0 [(0, .ref (gad Γ 0))] [] := by
  unfold pX11_readsGuess
  refine j_aload_n hC (pc := 0) dX11_readsGuess_0 0 rfl rfl ?_
  refine j_callV_V hC hR (ctX11_goesOn hC.l hC.cn F κ) kc_RX11_415 (Nat.le_of_ble_eq_true rfl) (Nat.le_of_ble_eq_true rfl) lM_0 (Nat.le_of_ble_eq_true rfl) rfl (As := []) (rest := []) rfl rfl (Nat.le_of_ble_eq_true rfl) hm (pc := 1) dX11_readsGuess_1 (fun t1 => ?_)
  refine j_aload_n hC (pc := 4) dX11_readsGuess_4 0 rfl rfl ?_
  refine j_aload_n hC (pc := 5) dX11_readsGuess_5 0 rfl rfl ?_
  refine j_getI hC (pc := 6) dX11_readsGuess_6 kf_RX11_427 lM_0 (Nat.le_of_ble_eq_true rfl) rfl ?_
  refine j_callV_E hC hR (ctX11_takesPlayer hC.l hC.cn F t1 (mi t1 0 33)) kc_RX11_421 (Nat.le_of_ble_eq_true rfl) (Nat.le_of_ble_eq_true rfl) lM_0 (Nat.le_of_ble_eq_true rfl) rfl (As := [.int (mi t1 0 33)]) (rest := []) rfl rfl (Nat.le_of_ble_eq_true rfl) hm (pc := 9) dX11_readsGuess_9 (fun t2 => ?_)
  refine j_istore_n hC (pc := 12) dX11_readsGuess_12 rfl (Nat.le_of_ble_eq_true rfl) (loc' := [(1, .int (t2.1)), (0, .ref (gad Γ 0))]) rfl ?_
  refine j_aload_n hC (pc := 13) dX11_readsGuess_13 1 rfl rfl ?_
  refine j_callV_I hC hR (ctX11_good hC.l hC.cn t2.2) kc_RX11_405 (Nat.le_of_ble_eq_true rfl) (Nat.le_of_ble_eq_true rfl) lM_0 (Nat.le_of_ble_eq_true rfl) rfl (As := []) (rest := []) rfl rfl (Nat.le_of_ble_eq_true rfl) hm (pc := 14) dX11_readsGuess_14 (fun t3 => ?_)
  refine j_if_ne hC (pc := 17) dX11_readsGuess_17 (tgt := 21) rfl ?_ ?_
  · exact j_vret hC (pc := 20) dX11_readsGuess_20 rfl rfl
  · refine j_iconst hC (pc := 21) dX11_readsGuess_21 ki_m1 ?_
    refine j_istore_n hC (pc := 22) dX11_readsGuess_22 rfl (Nat.le_of_ble_eq_true rfl) (loc' := [(2, .int (-1)), (1, .int (t2.1)), (0, .ref (gad Γ 0))]) rfl ?_
    refine j_iconst hC (pc := 23) dX11_readsGuess_23 ki_5 ?_
    refine j_istore_n hC (pc := 24) dX11_readsGuess_24 rfl (Nat.le_of_ble_eq_true rfl) (loc' := [(3, .int 5), (2, .int (-1)), (1, .int (t2.1)), (0, .ref (gad Γ 0))]) rfl ?_
    refine j_sub [3, 2, 1, 0] (loc' := [(0, .ref (gad Γ 0)), (1, .int (t2.1)), (2, .int (-1)), (3, .int 5)]) rfl ?_
    exact wX11_readsGuess_25 hC hR hm F t2.2 t2.1 F (-1) 5
theorem ctX11_readsGuess {Δ : DCtx} {l : Launch} (hl : dlay Δ = layM) (hN : dN Δ = 15) (F : Nat) (κ : Mem) : ∀ r, pX11_readsGuess F κ = some r → CT Δ l yX11_readsGuess cX11_readsGuess 4 none (rmH 6) [.ref (dad Δ 0)] κ none r :=
  ct_of (nL := 4) (ret := none) (lay := layM) (N := 15) (by decide +kernel) (fun Δ => [.ref (dad Δ 0)]) (fun _ => oV) (fun _ => (Nat.le_of_ble_eq_true rfl)) (fun Γ hR hm hC => wX11_readsGuess hC hR hm F κ) Δ l hl hN
set_option maxRecDepth 20000 in
theorem wX11_line_169 {Γ : JCtx} (hC : jC Γ cX11_line 3 RX11 none layM 15) (hR : gR Γ = rmH 7) (hm : gcells Γ ≤ (gR Γ).cells ∧ gslots Γ ≤ (gR Γ).slots) (F : Nat) (κ : Mem) (y0 : Int32) : JP Γ (qf Γ oV) (pX11_line_169 F κ y0) κ 169 [(0, .ref (gad Γ 0))] [.int y0, .ref (gad Γ 0)] := by
  unfold pX11_line_169
  refine j_iconst hC (pc := 169) dX11_line_169 ki_2 ?_
  refine j_callV_V hC hR (ctX11_must hC.l hC.cn κ y0 2) kc_RX11_411 (Nat.le_of_ble_eq_true rfl) (Nat.le_of_ble_eq_true rfl) lM_0 (Nat.le_of_ble_eq_true rfl) rfl (As := [.int y0, .int 2]) (rest := []) rfl rfl (Nat.le_of_ble_eq_true rfl) hm (pc := 170) dX11_line_170 (fun t8 => ?_)
  refine j_aload_n hC (pc := 173) dX11_line_173 0 rfl rfl ?_
  refine j_callV_V hC hR (ctX11_goesOn hC.l hC.cn F t8) kc_RX11_415 (Nat.le_of_ble_eq_true rfl) (Nat.le_of_ble_eq_true rfl) lM_0 (Nat.le_of_ble_eq_true rfl) rfl (As := []) (rest := []) rfl rfl (Nat.le_of_ble_eq_true rfl) hm (pc := 174) dX11_line_174 (fun t9 => ?_)
  exact j_vret hC (pc := 177) dX11_line_177 rfl rfl
set_option maxRecDepth 20000 in
theorem wX11_line_155 {Γ : JCtx} (hC : jC Γ cX11_line 3 RX11 none layM 15) (hR : gR Γ = rmH 7) (hm : gcells Γ ≤ (gR Γ).cells ∧ gslots Γ ≤ (gR Γ).slots) (F : Nat) (κ : Mem) : JP Γ (qf Γ oV) (pX11_line_155 F κ) κ 155 [(0, .ref (gad Γ 0))] [] := by
  unfold pX11_line_155
  refine j_aload_n hC (pc := 155) dX11_line_155 0 rfl rfl ?_
  refine j_aload_n hC (pc := 156) dX11_line_156 0 rfl rfl ?_
  refine j_getI hC (pc := 157) dX11_line_157 kf_RX11_385 lM_0 (Nat.le_of_ble_eq_true rfl) rfl ?_
  refine j_iconst hC (pc := 160) dX11_line_160 ki_3 ?_
  refine j_icmp_ne hC (pc := 161) dX11_line_161 (tgt := 168) rfl ?_ ?_
  · refine j_iconst hC (pc := 164) dX11_line_164 ki_1 ?_
    refine j_goto hC (pc := 165) dX11_line_165 (tgt := 169) rfl ?_
    exact wX11_line_169 hC hR hm F κ 1
  · refine j_iconst hC (pc := 168) dX11_line_168 ki_0 ?_
    exact wX11_line_169 hC hR hm F κ 0
set_option maxRecDepth 20000 in
theorem wX11_line_51 {Γ : JCtx} (hC : jC Γ cX11_line 3 RX11 none layM 15) (hR : gR Γ = rmH 7) (hm : gcells Γ ≤ (gR Γ).cells ∧ gslots Γ ≤ (gR Γ).slots) (F : Nat) : ∀ (n : Nat) (κ : Mem) (v2 : Int32), JP Γ (qf Γ oV) (pX11_line_51 F n κ v2) κ 51 [(0, .ref (gad Γ 0)), (2, .int v2)] [] := by
  intro n
  induction n with
  | zero =>
    intro κ v2
    rw [pX11_line_51]
    exact j_none
  | succ fu ih =>
    intro κ v2
    rw [pX11_line_51]
    refine j_iload_n hC (pc := 51) dX11_line_51 1 rfl rfl ?_
    refine j_bipush hC (pc := 52) dX11_line_52 kb_6 ?_
    refine j_icmp_ge hC (pc := 54) dX11_line_54 (tgt := 72) rfl ?_ ?_
    · refine j_aload_n hC (pc := 57) dX11_line_57 0 rfl rfl ?_
      refine j_getR hC (pc := 58) dX11_line_58 kf_RX11_13 lM_0 (Nat.le_of_ble_eq_true rfl) rfl ?_
      refine j_iconst hC (pc := 61) dX11_line_61 ki_1 ?_
      refine j_iload_n hC (pc := 62) dX11_line_62 1 rfl rfl ?_
      refine j_iadd hC (pc := 63) dX11_line_63 ?_
      refine j_iconst hC (pc := 64) dX11_line_64 ki_2 ?_
      refine j_iast hC (pc := 65) dX11_line_65 lM_2 (Nat.le_of_ble_eq_true rfl) (fun κ7 => ?_)
      refine j_iinc hC (pc := 66) dX11_line_66 1 rfl ki_1 (Nat.le_of_ble_eq_true rfl) (loc' := [(2, .int (v2 + 1)), (0, .ref (gad Γ 0))]) rfl ?_
      refine j_goto hC (pc := 69) dX11_line_69 (tgt := 51) rfl ?_
      refine j_sub [1, 0] (loc' := [(0, .ref (gad Γ 0)), (2, .int (v2 + 1))]) rfl ?_
      exact ih κ7 (v2 + 1)
    · refine j_goto hC (pc := 72) dX11_line_72 (tgt := 155) rfl ?_
      refine j_sub [0] (loc' := [(0, .ref (gad Γ 0))]) rfl ?_
      exact wX11_line_155 hC hR hm F κ
set_option maxRecDepth 20000 in
theorem wX11_line_48 {Γ : JCtx} (hC : jC Γ cX11_line 3 RX11 none layM 15) (hR : gR Γ = rmH 7) (hm : gcells Γ ≤ (gR Γ).cells ∧ gslots Γ ≤ (gR Γ).slots) (F : Nat) (κ : Mem) (y0 : Int32) (y1 : Int32) : JP Γ (qf Γ oV) (pX11_line_48 F κ y0 y1) κ 48 [(0, .ref (gad Γ 0))] [.int y0, .int y1, .ref (gad Γ 2)] := by
  unfold pX11_line_48
  refine j_iast hC (pc := 48) dX11_line_48 lM_2 (Nat.le_of_ble_eq_true rfl) (fun κ6 => ?_)
  refine j_iconst hC (pc := 49) dX11_line_49 ki_0 ?_
  refine j_istore_n hC (pc := 50) dX11_line_50 rfl (Nat.le_of_ble_eq_true rfl) (loc' := [(2, .int 0), (0, .ref (gad Γ 0))]) rfl ?_
  refine j_sub [1, 0] (loc' := [(0, .ref (gad Γ 0)), (2, .int 0)]) rfl ?_
  exact wX11_line_51 hC hR hm F F κ6 0
set_option maxRecDepth 20000 in
theorem wX11_line_127 {Γ : JCtx} (hC : jC Γ cX11_line 3 RX11 none layM 15) (hR : gR Γ = rmH 7) (hm : gcells Γ ≤ (gR Γ).cells ∧ gslots Γ ≤ (gR Γ).slots) (F : Nat) (κ : Mem) (y0 : Int32) : JP Γ (qf Γ oV) (pX11_line_127 F κ y0) κ 127 [(0, .ref (gad Γ 0))] [.int y0, .ref (gad Γ 0)] := by
  unfold pX11_line_127
  refine j_iconst hC (pc := 127) dX11_line_127 ki_2 ?_
  refine j_callV_V hC hR (ctX11_must hC.l hC.cn κ y0 2) kc_RX11_411 (Nat.le_of_ble_eq_true rfl) (Nat.le_of_ble_eq_true rfl) lM_0 (Nat.le_of_ble_eq_true rfl) rfl (As := [.int y0, .int 2]) (rest := []) rfl rfl (Nat.le_of_ble_eq_true rfl) hm (pc := 128) dX11_line_128 (fun t14 => ?_)
  refine j_aload_n hC (pc := 131) dX11_line_131 0 rfl rfl ?_
  refine j_iconst hC (pc := 132) dX11_line_132 ki_1 ?_
  refine j_callV_I hC hR (ctX11_isWord hC.l hC.cn t14 1) kc_RX11_430 (Nat.le_of_ble_eq_true rfl) (Nat.le_of_ble_eq_true rfl) lM_0 (Nat.le_of_ble_eq_true rfl) rfl (As := [.int 1]) (rest := []) rfl rfl (Nat.le_of_ble_eq_true rfl) hm (pc := 133) dX11_line_133 (fun t15 => ?_)
  refine j_if_eq hC (pc := 136) dX11_line_136 (tgt := 146) rfl ?_ ?_
  · refine j_aload_n hC (pc := 146) dX11_line_146 0 rfl rfl ?_
    refine j_aload_n hC (pc := 147) dX11_line_147 0 rfl rfl ?_
    refine j_iconst hC (pc := 148) dX11_line_148 ki_2 ?_
    refine j_callV_I hC hR (ctX11_isWord hC.l hC.cn t14 2) kc_RX11_430 (Nat.le_of_ble_eq_true rfl) (Nat.le_of_ble_eq_true rfl) lM_0 (Nat.le_of_ble_eq_true rfl) rfl (As := [.int 2]) (rest := [.ref (gad Γ 0)]) rfl rfl (Nat.le_of_ble_eq_true rfl) hm (pc := 149) dX11_line_149 (fun t16 => ?_)
    refine j_callV_V hC hR (ctX11_readsSight hC.l hC.cn F t14 t16) kc_RX11_445 (Nat.le_of_ble_eq_true rfl) (Nat.le_of_ble_eq_true rfl) lM_0 (Nat.le_of_ble_eq_true rfl) rfl (As := [.int t16]) (rest := []) rfl rfl (Nat.le_of_ble_eq_true rfl) hm (pc := 152) dX11_line_152 (fun t17 => ?_)
    exact wX11_line_155 hC hR hm F t17
  · refine j_aload_n hC (pc := 139) dX11_line_139 0 rfl rfl ?_
    refine j_callV_V hC hR (ctX11_readsHats hC.l hC.cn F t14) kc_RX11_442 (Nat.le_of_ble_eq_true rfl) (Nat.le_of_ble_eq_true rfl) lM_0 (Nat.le_of_ble_eq_true rfl) rfl (As := []) (rest := []) rfl rfl (Nat.le_of_ble_eq_true rfl) hm (pc := 140) dX11_line_140 (fun t18 => ?_)
    refine j_goto hC (pc := 143) dX11_line_143 (tgt := 155) rfl ?_
    exact wX11_line_155 hC hR hm F t18
set_option maxRecDepth 20000 in
theorem wX11_line_126 {Γ : JCtx} (hC : jC Γ cX11_line 3 RX11 none layM 15) (hR : gR Γ = rmH 7) (hm : gcells Γ ≤ (gR Γ).cells ∧ gslots Γ ≤ (gR Γ).slots) (F : Nat) (κ : Mem) : JP Γ (qf Γ oV) (pX11_line_126 F κ) κ 126 [(0, .ref (gad Γ 0))] [.ref (gad Γ 0)] := by
  unfold pX11_line_126
  refine j_iconst hC (pc := 126) dX11_line_126 ki_0 ?_
  exact wX11_line_127 hC hR hm F κ 0
set_option maxRecDepth 20000 in
theorem wX11_line_122 {Γ : JCtx} (hC : jC Γ cX11_line 3 RX11 none layM 15) (hR : gR Γ = rmH 7) (hm : gcells Γ ≤ (gR Γ).cells ∧ gslots Γ ≤ (gR Γ).slots) (F : Nat) (κ : Mem) : JP Γ (qf Γ oV) (pX11_line_122 F κ) κ 122 [(0, .ref (gad Γ 0))] [.ref (gad Γ 0)] := by
  unfold pX11_line_122
  refine j_iconst hC (pc := 122) dX11_line_122 ki_1 ?_
  refine j_goto hC (pc := 123) dX11_line_123 (tgt := 127) rfl ?_
  exact wX11_line_127 hC hR hm F κ 1
set_option maxRecDepth 20000 in
theorem wX11_line {Γ : JCtx} (hC : jC Γ cX11_line 3 RX11 none layM 15) (hR : gR Γ = rmH 7) (hm : gcells Γ ≤ (gR Γ).cells ∧ gslots Γ ≤ (gR Γ).slots) (F : Nat) (κ : Mem) : JP Γ (qf Γ oV) (pX11_line F κ) κ 0 [(0, .ref (gad Γ 0))] [] := by
  unfold pX11_line
  refine j_aload_n hC (pc := 0) dX11_line_0 0 rfl rfl ?_
  refine j_getR hC (pc := 1) dX11_line_1 kf_RX11_13 lM_0 (Nat.le_of_ble_eq_true rfl) rfl ?_
  refine j_iconst hC (pc := 4) dX11_line_4 ki_0 ?_
  refine j_iald hC (pc := 5) dX11_line_5 lM_2 (Nat.le_of_ble_eq_true rfl) ?_
  refine j_if_ne hC (pc := 6) dX11_line_6 (tgt := 75) rfl ?_ ?_
  · refine j_aload_n hC (pc := 9) dX11_line_9 0 rfl rfl ?_
    refine j_aload_n hC (pc := 10) dX11_line_10 0 rfl rfl ?_
    refine j_iconst hC (pc := 11) dX11_line_11 ki_0 ?_
    refine j_callV_I hC hR (ctX11_isWord hC.l hC.cn κ 0) kc_RX11_430 (Nat.le_of_ble_eq_true rfl) (Nat.le_of_ble_eq_true rfl) lM_0 (Nat.le_of_ble_eq_true rfl) rfl (As := [.int 0]) (rest := [.ref (gad Γ 0)]) rfl rfl (Nat.le_of_ble_eq_true rfl) hm (pc := 12) dX11_line_12 (fun t1 => ?_)
    refine j_iconst hC (pc := 15) dX11_line_15 ki_2 ?_
    refine j_callV_V hC hR (ctX11_must hC.l hC.cn κ t1 2) kc_RX11_411 (Nat.le_of_ble_eq_true rfl) (Nat.le_of_ble_eq_true rfl) lM_0 (Nat.le_of_ble_eq_true rfl) rfl (As := [.int t1, .int 2]) (rest := []) rfl rfl (Nat.le_of_ble_eq_true rfl) hm (pc := 16) dX11_line_16 (fun t2 => ?_)
    refine j_aload_n hC (pc := 19) dX11_line_19 0 rfl rfl ?_
    refine j_callV_V hC hR (ctX11_goesOn hC.l hC.cn F t2) kc_RX11_415 (Nat.le_of_ble_eq_true rfl) (Nat.le_of_ble_eq_true rfl) lM_0 (Nat.le_of_ble_eq_true rfl) rfl (As := []) (rest := []) rfl rfl (Nat.le_of_ble_eq_true rfl) hm (pc := 20) dX11_line_20 (fun t3 => ?_)
    refine j_aload_n hC (pc := 23) dX11_line_23 0 rfl rfl ?_
    refine j_iconst hC (pc := 24) dX11_line_24 ki_1 ?_
    refine j_bipush hC (pc := 25) dX11_line_25 kb_6 ?_
    refine j_callV_E hC hR (ctX11_takesNumber hC.l hC.cn F t3 1 6) kc_RX11_424 (Nat.le_of_ble_eq_true rfl) (Nat.le_of_ble_eq_true rfl) lM_0 (Nat.le_of_ble_eq_true rfl) rfl (As := [.int 1, .int 6]) (rest := []) rfl rfl (Nat.le_of_ble_eq_true rfl) hm (pc := 27) dX11_line_27 (fun t4 => ?_)
    refine j_istore_n hC (pc := 30) dX11_line_30 rfl (Nat.le_of_ble_eq_true rfl) (loc' := [(1, .int (t4.1)), (0, .ref (gad Γ 0))]) rfl ?_
    refine j_aload_n hC (pc := 31) dX11_line_31 1 rfl rfl ?_
    refine j_getR hC (pc := 32) dX11_line_32 kf_RX11_13 lM_0 (Nat.le_of_ble_eq_true rfl) rfl ?_
    refine j_iconst hC (pc := 35) dX11_line_35 ki_0 ?_
    refine j_aload_n hC (pc := 36) dX11_line_36 1 rfl rfl ?_
    refine j_callV_I hC hR (ctX11_good hC.l hC.cn t4.2) kc_RX11_405 (Nat.le_of_ble_eq_true rfl) (Nat.le_of_ble_eq_true rfl) lM_0 (Nat.le_of_ble_eq_true rfl) rfl (As := []) (rest := [.int 0, .ref (gad Γ 2)]) rfl rfl (Nat.le_of_ble_eq_true rfl) hm (pc := 37) dX11_line_37 (fun t5 => ?_)
    refine j_if_eq hC (pc := 40) dX11_line_40 (tgt := 47) rfl ?_ ?_
    · refine j_iconst hC (pc := 47) dX11_line_47 ki_0 ?_
      refine j_sub [1] (loc' := [(0, .ref (gad Γ 0))]) rfl ?_
      exact wX11_line_48 hC hR hm F t4.2 0 0
    · refine j_iload_n hC (pc := 43) dX11_line_43 0 rfl rfl ?_
      refine j_goto hC (pc := 44) dX11_line_44 (tgt := 48) rfl ?_
      refine j_sub [1] (loc' := [(0, .ref (gad Γ 0))]) rfl ?_
      exact wX11_line_48 hC hR hm F t4.2 t4.1 0
  · refine j_aload_n hC (pc := 75) dX11_line_75 0 rfl rfl ?_
    refine j_iconst hC (pc := 76) dX11_line_76 ki_4 ?_
    refine j_callV_I hC hR (ctX11_isWord hC.l hC.cn κ 4) kc_RX11_430 (Nat.le_of_ble_eq_true rfl) (Nat.le_of_ble_eq_true rfl) lM_0 (Nat.le_of_ble_eq_true rfl) rfl (As := [.int 4]) (rest := []) rfl rfl (Nat.le_of_ble_eq_true rfl) hm (pc := 77) dX11_line_77 (fun t10 => ?_)
    refine j_if_eq hC (pc := 80) dX11_line_80 (tgt := 90) rfl ?_ ?_
    · refine j_aload_n hC (pc := 90) dX11_line_90 0 rfl rfl ?_
      refine j_aload_n hC (pc := 91) dX11_line_91 0 rfl rfl ?_
      refine j_getI hC (pc := 92) dX11_line_92 kf_RX11_427 lM_0 (Nat.le_of_ble_eq_true rfl) rfl ?_
      refine j_if_ne hC (pc := 95) dX11_line_95 (tgt := 126) rfl ?_ ?_
      · refine j_aload_n hC (pc := 98) dX11_line_98 0 rfl rfl ?_
        refine j_iconst hC (pc := 99) dX11_line_99 ki_1 ?_
        refine j_callV_I hC hR (ctX11_isWord hC.l hC.cn κ 1) kc_RX11_430 (Nat.le_of_ble_eq_true rfl) (Nat.le_of_ble_eq_true rfl) lM_0 (Nat.le_of_ble_eq_true rfl) rfl (As := [.int 1]) (rest := [.ref (gad Γ 0)]) rfl rfl (Nat.le_of_ble_eq_true rfl) hm (pc := 100) dX11_line_100 (fun t11 => ?_)
        refine j_if_ne hC (pc := 103) dX11_line_103 (tgt := 122) rfl ?_ ?_
        · refine j_aload_n hC (pc := 106) dX11_line_106 0 rfl rfl ?_
          refine j_iconst hC (pc := 107) dX11_line_107 ki_2 ?_
          refine j_callV_I hC hR (ctX11_isWord hC.l hC.cn κ 2) kc_RX11_430 (Nat.le_of_ble_eq_true rfl) (Nat.le_of_ble_eq_true rfl) lM_0 (Nat.le_of_ble_eq_true rfl) rfl (As := [.int 2]) (rest := [.ref (gad Γ 0)]) rfl rfl (Nat.le_of_ble_eq_true rfl) hm (pc := 108) dX11_line_108 (fun t12 => ?_)
          refine j_if_ne hC (pc := 111) dX11_line_111 (tgt := 122) rfl ?_ ?_
          · refine j_aload_n hC (pc := 114) dX11_line_114 0 rfl rfl ?_
            refine j_iconst hC (pc := 115) dX11_line_115 ki_3 ?_
            refine j_callV_I hC hR (ctX11_isWord hC.l hC.cn κ 3) kc_RX11_430 (Nat.le_of_ble_eq_true rfl) (Nat.le_of_ble_eq_true rfl) lM_0 (Nat.le_of_ble_eq_true rfl) rfl (As := [.int 3]) (rest := [.ref (gad Γ 0)]) rfl rfl (Nat.le_of_ble_eq_true rfl) hm (pc := 116) dX11_line_116 (fun t13 => ?_)
            refine j_if_eq hC (pc := 119) dX11_line_119 (tgt := 126) rfl ?_ ?_
            · exact wX11_line_126 hC hR hm F κ
            · exact wX11_line_122 hC hR hm F κ
          · exact wX11_line_122 hC hR hm F κ
        · exact wX11_line_122 hC hR hm F κ
      · exact wX11_line_126 hC hR hm F κ
    · refine j_aload_n hC (pc := 83) dX11_line_83 0 rfl rfl ?_
      refine j_callV_V hC hR (ctX11_readsGuess hC.l hC.cn F κ) kc_RX11_439 (Nat.le_of_ble_eq_true rfl) (Nat.le_of_ble_eq_true rfl) lM_0 (Nat.le_of_ble_eq_true rfl) rfl (As := []) (rest := []) rfl rfl (Nat.le_of_ble_eq_true rfl) hm (pc := 84) dX11_line_84 (fun t19 => ?_)
      refine j_goto hC (pc := 87) dX11_line_87 (tgt := 155) rfl ?_
      exact wX11_line_155 hC hR hm F t19
theorem ctX11_line {Δ : DCtx} {l : Launch} (hl : dlay Δ = layM) (hN : dN Δ = 15) (F : Nat) (κ : Mem) : ∀ r, pX11_line F κ = some r → CT Δ l yX11_line cX11_line 3 none (rmH 7) [.ref (dad Δ 0)] κ none r :=
  ct_of (nL := 3) (ret := none) (lay := layM) (N := 15) (by decide +kernel) (fun Δ => [.ref (dad Δ 0)]) (fun _ => oV) (fun _ => (Nat.le_of_ble_eq_true rfl)) (fun Γ hR hm hC => wX11_line hC hR hm F κ) Δ l hl hN
set_option maxRecDepth 20000 in
theorem wX11_load_129 {Γ : JCtx} (hC : jC Γ cX11_load 3 RX11 (some .int) layM 15) (hR : gR Γ = rmH 8) (hm : gcells Γ ≤ (gR Γ).cells ∧ gslots Γ ≤ (gR Γ).slots) (F : Nat) (κ : Mem) (y0 : Int32) : JP Γ (qf Γ oE) (pX11_load_129 F κ y0) κ 129 [(0, .ref (gad Γ 0))] [.int y0, .ref (gad Γ 0)] := by
  unfold pX11_load_129
  refine j_putI hC (pc := 129) dX11_load_129 kp_RX11_55 lM_0 (Nat.le_of_ble_eq_true rfl) rfl rfl rfl (fun κ13 => ?_)
  refine j_aload_n hC (pc := 132) dX11_load_132 0 rfl rfl ?_
  refine j_getI hC (pc := 133) dX11_load_133 kf_RX11_399 lM_0 (Nat.le_of_ble_eq_true rfl) rfl ?_
  refine j_if_le hC (pc := 136) dX11_load_136 (tgt := 146) rfl ?_ ?_
  · refine j_aload_n hC (pc := 146) dX11_load_146 0 rfl rfl ?_
    refine j_aload_n hC (pc := 147) dX11_load_147 0 rfl rfl ?_
    refine j_getR hC (pc := 148) dX11_load_148 kf_RX11_13 lM_0 (Nat.le_of_ble_eq_true rfl) rfl ?_
    refine j_aload_n hC (pc := 151) dX11_load_151 0 rfl rfl ?_
    refine j_getR hC (pc := 152) dX11_load_152 kf_RX11_7 lM_0 (Nat.le_of_ble_eq_true rfl) rfl ?_
    refine j_callV_V hC hR (ctX11_copies hC.l hC.cn 2 (lenM_ok lM_2) (Nat.le_of_ble_eq_true rfl) 1 (lenM_ok lM_1) (Nat.le_of_ble_eq_true rfl) F κ13) kc_RX11_256 (Nat.le_of_ble_eq_true rfl) (Nat.le_of_ble_eq_true rfl) lM_0 (Nat.le_of_ble_eq_true rfl) rfl (As := [.ref (gad Γ 2), .ref (gad Γ 1)]) (rest := []) rfl rfl (Nat.le_of_ble_eq_true rfl) hm (pc := 155) dX11_load_155 (fun t14 => ?_)
    refine j_aload_n hC (pc := 158) dX11_load_158 0 rfl rfl ?_
    refine j_iconst hC (pc := 159) dX11_load_159 ki_0 ?_
    refine j_putI hC (pc := 160) dX11_load_160 kp_RX11_155 lM_0 (Nat.le_of_ble_eq_true rfl) rfl rfl rfl (fun κ15 => ?_)
    refine j_aload_n hC (pc := 163) dX11_load_163 0 rfl rfl ?_
    refine j_callV_I hC hR (ctX11_players hC.l hC.cn κ15) kc_RX11_108 (Nat.le_of_ble_eq_true rfl) (Nat.le_of_ble_eq_true rfl) lM_0 (Nat.le_of_ble_eq_true rfl) rfl (As := []) (rest := []) rfl rfl (Nat.le_of_ble_eq_true rfl) hm (pc := 164) dX11_load_164 (fun t16 => ?_)
    exact j_iret hC (pc := 167) dX11_load_167 rfl rfl rfl
  · refine j_aload_n hC (pc := 139) dX11_load_139 0 rfl rfl ?_
    refine j_bipush hC (pc := 140) dX11_load_140 kb_9 ?_
    refine j_callV_E hC hR (ctX11_refuse hC.l hC.cn κ13 9) kc_RX11_195 (Nat.le_of_ble_eq_true rfl) (Nat.le_of_ble_eq_true rfl) lM_0 (Nat.le_of_ble_eq_true rfl) rfl (As := [.int 9]) (rest := []) rfl rfl (Nat.le_of_ble_eq_true rfl) hm (pc := 142) dX11_load_142 (fun t17 => ?_)
    exact j_iret hC (pc := 145) dX11_load_145 rfl rfl rfl
set_option maxRecDepth 20000 in
theorem wX11_load_100 {Γ : JCtx} (hC : jC Γ cX11_load 3 RX11 (some .int) layM 15) (hR : gR Γ = rmH 8) (hm : gcells Γ ≤ (gR Γ).cells ∧ gslots Γ ≤ (gR Γ).slots) (F : Nat) (κ : Mem) : JP Γ (qf Γ oE) (pX11_load_100 F κ) κ 100 [(0, .ref (gad Γ 0))] [] := by
  unfold pX11_load_100
  refine j_aload_n hC (pc := 100) dX11_load_100 0 rfl rfl ?_
  refine j_iconst hC (pc := 101) dX11_load_101 ki_0 ?_
  refine j_putI hC (pc := 102) dX11_load_102 kp_RX11_366 lM_0 (Nat.le_of_ble_eq_true rfl) rfl rfl rfl (fun κ11 => ?_)
  refine j_aload_n hC (pc := 105) dX11_load_105 0 rfl rfl ?_
  refine j_aload_n hC (pc := 106) dX11_load_106 0 rfl rfl ?_
  refine j_getI hC (pc := 107) dX11_load_107 kf_RX11_399 lM_0 (Nat.le_of_ble_eq_true rfl) rfl ?_
  refine j_putI hC (pc := 110) dX11_load_110 kp_RX11_51 lM_0 (Nat.le_of_ble_eq_true rfl) rfl rfl rfl (fun κ12 => ?_)
  refine j_aload_n hC (pc := 113) dX11_load_113 0 rfl rfl ?_
  refine j_aload_n hC (pc := 114) dX11_load_114 0 rfl rfl ?_
  refine j_getI hC (pc := 115) dX11_load_115 kf_RX11_399 lM_0 (Nat.le_of_ble_eq_true rfl) rfl ?_
  refine j_if_le hC (pc := 118) dX11_load_118 (tgt := 128) rfl ?_ ?_
  · refine j_iconst hC (pc := 128) dX11_load_128 ki_m1 ?_
    exact wX11_load_129 hC hR hm F κ12 (-1)
  · refine j_aload_n hC (pc := 121) dX11_load_121 0 rfl rfl ?_
    refine j_getI hC (pc := 122) dX11_load_122 kf_RX11_402 lM_0 (Nat.le_of_ble_eq_true rfl) rfl ?_
    refine j_goto hC (pc := 125) dX11_load_125 (tgt := 129) rfl ?_
    exact wX11_load_129 hC hR hm F κ12 (mi κ12 0 26)
set_option maxRecDepth 20000 in
theorem wX11_load_79 {Γ : JCtx} (hC : jC Γ cX11_load 3 RX11 (some .int) layM 15) (hR : gR Γ = rmH 8) (hm : gcells Γ ≤ (gR Γ).cells ∧ gslots Γ ≤ (gR Γ).slots) (F : Nat) : ∀ (n : Nat) (κ : Mem), JP Γ (qf Γ oE) (pX11_load_79 F n κ) κ 79 [(0, .ref (gad Γ 0))] [] := by
  intro n
  induction n with
  | zero =>
    intro κ
    rw [pX11_load_79]
    exact j_none
  | succ fu ih =>
    intro κ
    rw [pX11_load_79]
    refine j_aload_n hC (pc := 79) dX11_load_79 0 rfl rfl ?_
    refine j_callV_I hC hR (ctX11_good hC.l hC.cn κ) kc_RX11_405 (Nat.le_of_ble_eq_true rfl) (Nat.le_of_ble_eq_true rfl) lM_0 (Nat.le_of_ble_eq_true rfl) rfl (As := []) (rest := []) rfl rfl (Nat.le_of_ble_eq_true rfl) hm (pc := 80) dX11_load_80 (fun t10 => ?_)
    refine j_if_eq hC (pc := 83) dX11_load_83 (tgt := 100) rfl ?_ ?_
    · exact wX11_load_100 hC hR hm F κ
    · refine j_aload_n hC (pc := 86) dX11_load_86 0 rfl rfl ?_
      refine j_getI hC (pc := 87) dX11_load_87 kf_RX11_385 lM_0 (Nat.le_of_ble_eq_true rfl) rfl ?_
      refine j_if_eq hC (pc := 90) dX11_load_90 (tgt := 100) rfl ?_ ?_
      · exact wX11_load_100 hC hR hm F κ
      · refine j_aload_n hC (pc := 93) dX11_load_93 0 rfl rfl ?_
        refine j_callV_V hC hR (ctX11_line hC.l hC.cn F κ) kc_RX11_449 (Nat.le_of_ble_eq_true rfl) (Nat.le_of_ble_eq_true rfl) lM_0 (Nat.le_of_ble_eq_true rfl) rfl (As := []) (rest := []) rfl rfl (Nat.le_of_ble_eq_true rfl) hm (pc := 94) dX11_load_94 (fun t18 => ?_)
        refine j_goto hC (pc := 97) dX11_load_97 (tgt := 79) rfl ?_
        exact ih t18
set_option maxRecDepth 20000 in
theorem wX11_load_55 {Γ : JCtx} (hC : jC Γ cX11_load 3 RX11 (some .int) layM 15) (hR : gR Γ = rmH 8) (hm : gcells Γ ≤ (gR Γ).cells ∧ gslots Γ ≤ (gR Γ).slots) (F : Nat) : ∀ (n : Nat) (κ : Mem) (v2 : Int32), JP Γ (qf Γ oE) (pX11_load_55 F n κ v2) κ 55 [(0, .ref (gad Γ 0)), (2, .int v2)] [] := by
  intro n
  induction n with
  | zero =>
    intro κ v2
    rw [pX11_load_55]
    exact j_none
  | succ fu ih =>
    intro κ v2
    rw [pX11_load_55]
    refine j_iload_n hC (pc := 55) dX11_load_55 1 rfl rfl ?_
    refine j_sipush hC (pc := 56) dX11_load_56 ks_6157 ?_
    refine j_icmp_ge hC (pc := 59) dX11_load_59 (tgt := 75) rfl ?_ ?_
    · refine j_aload_n hC (pc := 62) dX11_load_62 0 rfl rfl ?_
      refine j_getR hC (pc := 63) dX11_load_63 kf_RX11_13 lM_0 (Nat.le_of_ble_eq_true rfl) rfl ?_
      refine j_iload_n hC (pc := 66) dX11_load_66 1 rfl rfl ?_
      refine j_iconst hC (pc := 67) dX11_load_67 ki_0 ?_
      refine j_iast hC (pc := 68) dX11_load_68 lM_2 (Nat.le_of_ble_eq_true rfl) (fun κ8 => ?_)
      refine j_iinc hC (pc := 69) dX11_load_69 1 rfl ki_1 (Nat.le_of_ble_eq_true rfl) (loc' := [(2, .int (v2 + 1)), (0, .ref (gad Γ 0))]) rfl ?_
      refine j_goto hC (pc := 72) dX11_load_72 (tgt := 55) rfl ?_
      refine j_sub [1, 0] (loc' := [(0, .ref (gad Γ 0)), (2, .int (v2 + 1))]) rfl ?_
      exact ih κ8 (v2 + 1)
    · refine j_aload_n hC (pc := 75) dX11_load_75 0 rfl rfl ?_
      refine j_callV_V hC hR (ctX11_reads hC.l hC.cn F κ) kc_RX11_408 (Nat.le_of_ble_eq_true rfl) (Nat.le_of_ble_eq_true rfl) lM_0 (Nat.le_of_ble_eq_true rfl) rfl (As := []) (rest := []) rfl rfl (Nat.le_of_ble_eq_true rfl) hm (pc := 76) dX11_load_76 (fun t9 => ?_)
      refine j_sub [0] (loc' := [(0, .ref (gad Γ 0))]) rfl ?_
      exact wX11_load_79 hC hR hm F F t9
set_option maxRecDepth 20000 in
theorem wX11_load_20 {Γ : JCtx} (hC : jC Γ cX11_load 3 RX11 (some .int) layM 15) (hR : gR Γ = rmH 8) (hm : gcells Γ ≤ (gR Γ).cells ∧ gslots Γ ≤ (gR Γ).slots) (F : Nat) (κ : Mem) (v1 : Int32) (y0 : Int32) : JP Γ (qf Γ oE) (pX11_load_20 F κ v1 y0) κ 20 [(0, .ref (gad Γ 0)), (1, .int v1)] [.int y0, .ref (gad Γ 0)] := by
  unfold pX11_load_20
  refine j_callV_E hC hR (ctX11_is hC.l hC.cn κ y0) kc_RX11_145 (Nat.le_of_ble_eq_true rfl) (Nat.le_of_ble_eq_true rfl) lM_0 (Nat.le_of_ble_eq_true rfl) rfl (As := [.int y0]) (rest := []) rfl rfl (Nat.le_of_ble_eq_true rfl) hm (pc := 20) dX11_load_20 (fun t2 => ?_)
  refine j_if_ne hC (pc := 23) dX11_load_23 (tgt := 28) rfl ?_ ?_
  · refine j_iconst hC (pc := 26) dX11_load_26 ki_m1 ?_
    exact j_iret hC (pc := 27) dX11_load_27 rfl rfl rfl
  · refine j_aload_n hC (pc := 28) dX11_load_28 0 rfl rfl ?_
    refine j_iload_n hC (pc := 29) dX11_load_29 1 rfl rfl ?_
    refine j_putI hC (pc := 30) dX11_load_30 kp_RX11_372 lM_0 (Nat.le_of_ble_eq_true rfl) rfl rfl rfl (fun κ3 => ?_)
    refine j_aload_n hC (pc := 33) dX11_load_33 0 rfl rfl ?_
    refine j_iconst hC (pc := 34) dX11_load_34 ki_0 ?_
    refine j_putI hC (pc := 35) dX11_load_35 kp_RX11_375 lM_0 (Nat.le_of_ble_eq_true rfl) rfl rfl rfl (fun κ4 => ?_)
    refine j_aload_n hC (pc := 38) dX11_load_38 0 rfl rfl ?_
    refine j_iconst hC (pc := 39) dX11_load_39 ki_0 ?_
    refine j_putI hC (pc := 40) dX11_load_40 kp_RX11_399 lM_0 (Nat.le_of_ble_eq_true rfl) rfl rfl rfl (fun κ5 => ?_)
    refine j_aload_n hC (pc := 43) dX11_load_43 0 rfl rfl ?_
    refine j_iconst hC (pc := 44) dX11_load_44 ki_0 ?_
    refine j_putI hC (pc := 45) dX11_load_45 kp_RX11_418 lM_0 (Nat.le_of_ble_eq_true rfl) rfl rfl rfl (fun κ6 => ?_)
    refine j_aload_n hC (pc := 48) dX11_load_48 0 rfl rfl ?_
    refine j_iconst hC (pc := 49) dX11_load_49 ki_0 ?_
    refine j_putI hC (pc := 50) dX11_load_50 kp_RX11_427 lM_0 (Nat.le_of_ble_eq_true rfl) rfl rfl rfl (fun κ7 => ?_)
    refine j_iconst hC (pc := 53) dX11_load_53 ki_0 ?_
    refine j_istore_n hC (pc := 54) dX11_load_54 rfl (Nat.le_of_ble_eq_true rfl) (loc' := [(2, .int 0), (0, .ref (gad Γ 0)), (1, .int v1)]) rfl ?_
    refine j_sub [1, 0] (loc' := [(0, .ref (gad Γ 0)), (2, .int 0)]) rfl ?_
    exact wX11_load_55 hC hR hm F F κ7 0
set_option maxRecDepth 20000 in
theorem wX11_load {Γ : JCtx} (hC : jC Γ cX11_load 3 RX11 (some .int) layM 15) (hR : gR Γ = rmH 8) (hm : gcells Γ ≤ (gR Γ).cells ∧ gslots Γ ≤ (gR Γ).slots) (F : Nat) (κ : Mem) (v1 : Int32) : JP Γ (qf Γ oE) (pX11_load F κ v1) κ 0 [(0, .ref (gad Γ 0)), (1, .int v1)] [] := by
  unfold pX11_load
  refine j_aload_n hC (pc := 0) dX11_load_0 0 rfl rfl ?_
  refine j_iload_n hC (pc := 1) dX11_load_1 1 rfl rfl ?_
  refine j_i2l hC (pc := 2) dX11_load_2 ?_
  refine j_lconst hC (pc := 3) dX11_load_3 rfl ?_
  refine j_aload_n hC (pc := 4) dX11_load_4 0 rfl rfl ?_
  refine j_getI hC (pc := 5) dX11_load_5 kf_RX11_366 lM_0 (Nat.le_of_ble_eq_true rfl) rfl ?_
  refine j_i2l hC (pc := 8) dX11_load_8 ?_
  refine j_callS_I hC hR (ctX11_isIn hC.l hC.cn κ v1.toInt64 0 ((mi κ 0 22).toInt64)) kc_RX11_92 (Nat.le_of_ble_eq_true rfl) (Nat.le_of_ble_eq_true rfl) (As := [.long (v1.toInt64), .long 0, .long ((mi κ 0 22).toInt64)]) (rest := [.ref (gad Γ 0)]) rfl rfl (Nat.le_of_ble_eq_true rfl) hm (pc := 9) dX11_load_9 (fun t1 => ?_)
  refine j_if_eq hC (pc := 12) dX11_load_12 (tgt := 19) rfl ?_ ?_
  · refine j_iconst hC (pc := 19) dX11_load_19 ki_1 ?_
    exact wX11_load_20 hC hR hm F κ v1 1
  · refine j_iconst hC (pc := 15) dX11_load_15 ki_0 ?_
    refine j_goto hC (pc := 16) dX11_load_16 (tgt := 20) rfl ?_
    exact wX11_load_20 hC hR hm F κ v1 0
theorem ctX11_load {Δ : DCtx} {l : Launch} (hl : dlay Δ = layM) (hN : dN Δ = 15) (F : Nat) (κ : Mem) (v1 : Int32) : ∀ r, pX11_load F κ v1 = some r → CT Δ l yX11_load cX11_load 3 (some .int) (rmH 8) [.ref (dad Δ 0), .int v1] κ (some (.int r.1)) r.2 :=
  ct_of (nL := 3) (ret := (some .int)) (lay := layM) (N := 15) (by decide +kernel) (fun Δ => [.ref (dad Δ 0), .int v1]) (fun _ => oE) (fun _ => (Nat.le_of_ble_eq_true rfl)) (fun Γ hR hm hC => wX11_load hC hR hm F κ v1) Δ l hl hN
set_option maxRecDepth 20000 in
theorem wX11_fault_29 {Γ : JCtx} (hC : jC Γ cX11_fault 2 RX11 (some .int) layM 15) (hR : gR Γ = rmH 0) (hm : gcells Γ ≤ (gR Γ).cells ∧ gslots Γ ≤ (gR Γ).slots) (κ : Mem) (y0 : Int32) : JP Γ (qf Γ oE) (pX11_fault_29 κ y0) κ 29 [] [.int y0] := by
  unfold pX11_fault_29
  exact j_iret hC (pc := 29) dX11_fault_29 rfl rfl rfl
set_option maxRecDepth 20000 in
theorem wX11_fault {Γ : JCtx} (hC : jC Γ cX11_fault 2 RX11 (some .int) layM 15) (hR : gR Γ = rmH 0) (hm : gcells Γ ≤ (gR Γ).cells ∧ gslots Γ ≤ (gR Γ).slots) (κ : Mem) (v1 : Int32) : JP Γ (qf Γ oE) (pX11_fault κ v1) κ 0 [(0, .ref (gad Γ 0)), (1, .int v1)] [] := by
  unfold pX11_fault
  refine j_aload_n hC (pc := 0) dX11_fault_0 0 rfl rfl ?_
  refine j_iconst hC (pc := 1) dX11_fault_1 ki_0 ?_
  refine j_putI hC (pc := 2) dX11_fault_2 kp_RX11_82 lM_0 (Nat.le_of_ble_eq_true rfl) rfl rfl rfl (fun κ1 => ?_)
  refine j_iload_n hC (pc := 5) dX11_fault_5 1 rfl rfl ?_
  refine j_if_ne hC (pc := 6) dX11_fault_6 (tgt := 16) rfl ?_ ?_
  · refine j_aload_n hC (pc := 9) dX11_fault_9 0 rfl rfl ?_
    refine j_getI hC (pc := 10) dX11_fault_10 kf_RX11_51 lM_0 (Nat.le_of_ble_eq_true rfl) rfl ?_
    refine j_goto hC (pc := 13) dX11_fault_13 (tgt := 29) rfl ?_
    refine j_sub [] (loc' := []) rfl ?_
    exact wX11_fault_29 hC hR hm κ1 (mi κ1 0 23)
  · refine j_iload_n hC (pc := 16) dX11_fault_16 1 rfl rfl ?_
    refine j_iconst hC (pc := 17) dX11_fault_17 ki_1 ?_
    refine j_icmp_ne hC (pc := 18) dX11_fault_18 (tgt := 28) rfl ?_ ?_
    · refine j_aload_n hC (pc := 21) dX11_fault_21 0 rfl rfl ?_
      refine j_getI hC (pc := 22) dX11_fault_22 kf_RX11_55 lM_0 (Nat.le_of_ble_eq_true rfl) rfl ?_
      refine j_goto hC (pc := 25) dX11_fault_25 (tgt := 29) rfl ?_
      refine j_sub [] (loc' := []) rfl ?_
      exact wX11_fault_29 hC hR hm κ1 (mi κ1 0 24)
    · refine j_iconst hC (pc := 28) dX11_fault_28 ki_m1 ?_
      refine j_sub [] (loc' := []) rfl ?_
      exact wX11_fault_29 hC hR hm κ1 (-1)
theorem ctX11_fault {Δ : DCtx} {l : Launch} (hl : dlay Δ = layM) (hN : dN Δ = 15) (κ : Mem) (v1 : Int32) : ∀ r, pX11_fault κ v1 = some r → CT Δ l yX11_fault cX11_fault 2 (some .int) (rmH 0) [.ref (dad Δ 0), .int v1] κ (some (.int r.1)) r.2 :=
  ct_of (nL := 2) (ret := (some .int)) (lay := layM) (N := 15) (by decide +kernel) (fun Δ => [.ref (dad Δ 0), .int v1]) (fun _ => oE) (fun _ => (Nat.le_of_ble_eq_true rfl)) (fun Γ hR hm hC => wX11_fault hC hR hm κ v1) Δ l hl hN
