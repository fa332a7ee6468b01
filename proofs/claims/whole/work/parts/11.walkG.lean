set_option maxRecDepth 20000 in
theorem wJ6_bitCount_0f7a4 {Γ : JCtx} (hC : jC Γ cJ6_bitCount_0f7a4 1 RJ6 (some .int) layX 147) (hR : gR Γ = rmH 0) (hm : gcells Γ ≤ (gR Γ).cells ∧ gslots Γ ≤ (gR Γ).slots) (κ : Mem) (v0 : Int32) : JP Γ (qf Γ (oI κ)) (pJ6_bitCount_0f7a4 κ v0) κ 0 [(0, .int v0)] [] := by
  unfold pJ6_bitCount_0f7a4
  refine j_iload_n hC (pc := 0) dJ6_bitCount_0f7a4_0 0 rfl rfl ?_
  refine j_iload_n hC (pc := 1) dJ6_bitCount_0f7a4_1 0 rfl rfl ?_
  refine j_iconst hC (pc := 2) dJ6_bitCount_0f7a4_2 ki_1 ?_
  refine j_iushr hC (pc := 3) dJ6_bitCount_0f7a4_3 ?_
  refine j_ldcw hC (pc := 4) dJ6_bitCount_0f7a4_4 w_0 ?_
  refine j_iand hC (pc := 7) dJ6_bitCount_0f7a4_7 ?_
  refine j_isub hC (pc := 8) dJ6_bitCount_0f7a4_8 ?_
  refine j_nmi (fun x1 => ?_)
  refine j_istore_n hC (pc := 9) dJ6_bitCount_0f7a4_9 rfl (Nat.le_of_ble_eq_true rfl) (loc' := [(0, .int x1)]) rfl ?_
  refine j_iload_n hC (pc := 10) dJ6_bitCount_0f7a4_10 0 rfl rfl ?_
  refine j_ldcw hC (pc := 11) dJ6_bitCount_0f7a4_11 w_1 ?_
  refine j_iand hC (pc := 14) dJ6_bitCount_0f7a4_14 ?_
  refine j_iload_n hC (pc := 15) dJ6_bitCount_0f7a4_15 0 rfl rfl ?_
  refine j_iconst hC (pc := 16) dJ6_bitCount_0f7a4_16 ki_2 ?_
  refine j_iushr hC (pc := 17) dJ6_bitCount_0f7a4_17 ?_
  refine j_ldcw hC (pc := 18) dJ6_bitCount_0f7a4_18 w_1 ?_
  refine j_iand hC (pc := 21) dJ6_bitCount_0f7a4_21 ?_
  refine j_iadd hC (pc := 22) dJ6_bitCount_0f7a4_22 ?_
  refine j_nmi (fun x2 => ?_)
  refine j_istore_n hC (pc := 23) dJ6_bitCount_0f7a4_23 rfl (Nat.le_of_ble_eq_true rfl) (loc' := [(0, .int x2)]) rfl ?_
  refine j_iload_n hC (pc := 24) dJ6_bitCount_0f7a4_24 0 rfl rfl ?_
  refine j_iload_n hC (pc := 25) dJ6_bitCount_0f7a4_25 0 rfl rfl ?_
  refine j_iconst hC (pc := 26) dJ6_bitCount_0f7a4_26 ki_4 ?_
  refine j_iushr hC (pc := 27) dJ6_bitCount_0f7a4_27 ?_
  refine j_iadd hC (pc := 28) dJ6_bitCount_0f7a4_28 ?_
  refine j_ldcw hC (pc := 29) dJ6_bitCount_0f7a4_29 w_2 ?_
  refine j_iand hC (pc := 32) dJ6_bitCount_0f7a4_32 ?_
  refine j_nmi (fun x3 => ?_)
  refine j_istore_n hC (pc := 33) dJ6_bitCount_0f7a4_33 rfl (Nat.le_of_ble_eq_true rfl) (loc' := [(0, .int x3)]) rfl ?_
  refine j_iload_n hC (pc := 34) dJ6_bitCount_0f7a4_34 0 rfl rfl ?_
  refine j_iload_n hC (pc := 35) dJ6_bitCount_0f7a4_35 0 rfl rfl ?_
  refine j_bipush hC (pc := 36) dJ6_bitCount_0f7a4_36 kb_8 ?_
  refine j_iushr hC (pc := 38) dJ6_bitCount_0f7a4_38 ?_
  refine j_iadd hC (pc := 39) dJ6_bitCount_0f7a4_39 ?_
  refine j_nmi (fun x4 => ?_)
  refine j_istore_n hC (pc := 40) dJ6_bitCount_0f7a4_40 rfl (Nat.le_of_ble_eq_true rfl) (loc' := [(0, .int x4)]) rfl ?_
  refine j_iload_n hC (pc := 41) dJ6_bitCount_0f7a4_41 0 rfl rfl ?_
  refine j_iload_n hC (pc := 42) dJ6_bitCount_0f7a4_42 0 rfl rfl ?_
  refine j_bipush hC (pc := 43) dJ6_bitCount_0f7a4_43 kb_16 ?_
  refine j_iushr hC (pc := 45) dJ6_bitCount_0f7a4_45 ?_
  refine j_iadd hC (pc := 46) dJ6_bitCount_0f7a4_46 ?_
  refine j_nmi (fun x5 => ?_)
  refine j_istore_n hC (pc := 47) dJ6_bitCount_0f7a4_47 rfl (Nat.le_of_ble_eq_true rfl) (loc' := [(0, .int x5)]) rfl ?_
  refine j_iload_n hC (pc := 48) dJ6_bitCount_0f7a4_48 0 rfl rfl ?_
  refine j_bipush hC (pc := 49) dJ6_bitCount_0f7a4_49 kb_63 ?_
  refine j_iand hC (pc := 51) dJ6_bitCount_0f7a4_51 ?_
  exact j_iret hC (pc := 52) dJ6_bitCount_0f7a4_52 rfl rfl rfl
theorem ctJ6_bitCount_0f7a4 {Δ : DCtx} {l : Launch} (hl : dlay Δ = layX) (hN : dN Δ = 147) (κ : Mem) (v0 : Int32) : ∀ r, pJ6_bitCount_0f7a4 κ v0 = some r → CT Δ l yJ6_bitCount_0f7a4 cJ6_bitCount_0f7a4 1 (some .int) (rmH 0) [.int v0] κ (some (.int r)) κ :=
  ct_of (nL := 1) (ret := (some .int)) (lay := layX) (N := 147) (by decide +kernel) (fun Δ => [.int v0]) (fun _ => oI κ) (fun _ => (Nat.le_of_ble_eq_true rfl)) (fun Γ hR hm hC => wJ6_bitCount_0f7a4 hC hR hm κ v0) Δ l hl hN
set_option maxRecDepth 20000 in
theorem wJ6_numberOfTrailingZeros_0f7a4_74 {Γ : JCtx} (hC : jC Γ cJ6_numberOfTrailingZeros_0f7a4 2 RJ6 (some .int) layX 147) (hR : gR Γ = rmH 0) (hm : gcells Γ ≤ (gR Γ).cells ∧ gslots Γ ≤ (gR Γ).slots) (κ : Mem) (v0 : Int32) (v1 : Int32) : JP Γ (qf Γ (oI κ)) (pJ6_numberOfTrailingZeros_0f7a4_74 κ v0 v1) κ 74 [(0, .int v0), (1, .int v1)] [] := by
  unfold pJ6_numberOfTrailingZeros_0f7a4_74
  refine j_iload_n hC (pc := 74) dJ6_numberOfTrailingZeros_0f7a4_74 1 rfl rfl ?_
  refine j_iload_n hC (pc := 75) dJ6_numberOfTrailingZeros_0f7a4_75 0 rfl rfl ?_
  refine j_iconst hC (pc := 76) dJ6_numberOfTrailingZeros_0f7a4_76 ki_1 ?_
  refine j_iushr hC (pc := 77) dJ6_numberOfTrailingZeros_0f7a4_77 ?_
  refine j_iadd hC (pc := 78) dJ6_numberOfTrailingZeros_0f7a4_78 ?_
  exact j_iret hC (pc := 79) dJ6_numberOfTrailingZeros_0f7a4_79 rfl rfl rfl
set_option maxRecDepth 20000 in
theorem wJ6_numberOfTrailingZeros_0f7a4_62 {Γ : JCtx} (hC : jC Γ cJ6_numberOfTrailingZeros_0f7a4 2 RJ6 (some .int) layX 147) (hR : gR Γ = rmH 0) (hm : gcells Γ ≤ (gR Γ).cells ∧ gslots Γ ≤ (gR Γ).slots) (κ : Mem) (v0 : Int32) (v1 : Int32) : JP Γ (qf Γ (oI κ)) (pJ6_numberOfTrailingZeros_0f7a4_62 κ v0 v1) κ 62 [(0, .int v0), (1, .int v1)] [] := by
  unfold pJ6_numberOfTrailingZeros_0f7a4_62
  refine j_iload_n hC (pc := 62) dJ6_numberOfTrailingZeros_0f7a4_62 0 rfl rfl ?_
  refine j_iconst hC (pc := 63) dJ6_numberOfTrailingZeros_0f7a4_63 ki_4 ?_
  refine j_icmp_le hC (pc := 64) dJ6_numberOfTrailingZeros_0f7a4_64 (tgt := 74) rfl ?_ ?_
  · exact wJ6_numberOfTrailingZeros_0f7a4_74 hC hR hm κ v0 v1
  · refine j_iinc hC (pc := 67) dJ6_numberOfTrailingZeros_0f7a4_67 1 rfl ki_2 (Nat.le_of_ble_eq_true rfl) (loc' := [(1, .int (v1 + 2)), (0, .int v0)]) rfl ?_
    refine j_iload_n hC (pc := 70) dJ6_numberOfTrailingZeros_0f7a4_70 1 rfl rfl ?_
    refine j_iconst hC (pc := 71) dJ6_numberOfTrailingZeros_0f7a4_71 ki_2 ?_
    refine j_iushr hC (pc := 72) dJ6_numberOfTrailingZeros_0f7a4_72 ?_
    refine j_nmi (fun x2 => ?_)
    refine j_istore_n hC (pc := 73) dJ6_numberOfTrailingZeros_0f7a4_73 rfl (Nat.le_of_ble_eq_true rfl) (loc' := [(0, .int x2), (1, .int (v1 + 2))]) rfl ?_
    exact wJ6_numberOfTrailingZeros_0f7a4_74 hC hR hm κ x2 (v1 + 2)
set_option maxRecDepth 20000 in
theorem wJ6_numberOfTrailingZeros_0f7a4_49 {Γ : JCtx} (hC : jC Γ cJ6_numberOfTrailingZeros_0f7a4 2 RJ6 (some .int) layX 147) (hR : gR Γ = rmH 0) (hm : gcells Γ ≤ (gR Γ).cells ∧ gslots Γ ≤ (gR Γ).slots) (κ : Mem) (v0 : Int32) (v1 : Int32) : JP Γ (qf Γ (oI κ)) (pJ6_numberOfTrailingZeros_0f7a4_49 κ v0 v1) κ 49 [(0, .int v0), (1, .int v1)] [] := by
  unfold pJ6_numberOfTrailingZeros_0f7a4_49
  refine j_iload_n hC (pc := 49) dJ6_numberOfTrailingZeros_0f7a4_49 0 rfl rfl ?_
  refine j_bipush hC (pc := 50) dJ6_numberOfTrailingZeros_0f7a4_50 kb_16 ?_
  refine j_icmp_le hC (pc := 52) dJ6_numberOfTrailingZeros_0f7a4_52 (tgt := 62) rfl ?_ ?_
  · exact wJ6_numberOfTrailingZeros_0f7a4_62 hC hR hm κ v0 v1
  · refine j_iinc hC (pc := 55) dJ6_numberOfTrailingZeros_0f7a4_55 1 rfl ki_4 (Nat.le_of_ble_eq_true rfl) (loc' := [(1, .int (v1 + 4)), (0, .int v0)]) rfl ?_
    refine j_iload_n hC (pc := 58) dJ6_numberOfTrailingZeros_0f7a4_58 1 rfl rfl ?_
    refine j_iconst hC (pc := 59) dJ6_numberOfTrailingZeros_0f7a4_59 ki_4 ?_
    refine j_iushr hC (pc := 60) dJ6_numberOfTrailingZeros_0f7a4_60 ?_
    refine j_nmi (fun x3 => ?_)
    refine j_istore_n hC (pc := 61) dJ6_numberOfTrailingZeros_0f7a4_61 rfl (Nat.le_of_ble_eq_true rfl) (loc' := [(0, .int x3), (1, .int (v1 + 4))]) rfl ?_
    exact wJ6_numberOfTrailingZeros_0f7a4_62 hC hR hm κ x3 (v1 + 4)
set_option maxRecDepth 20000 in
theorem wJ6_numberOfTrailingZeros_0f7a4_34 {Γ : JCtx} (hC : jC Γ cJ6_numberOfTrailingZeros_0f7a4 2 RJ6 (some .int) layX 147) (hR : gR Γ = rmH 0) (hm : gcells Γ ≤ (gR Γ).cells ∧ gslots Γ ≤ (gR Γ).slots) (κ : Mem) (v0 : Int32) (v1 : Int32) : JP Γ (qf Γ (oI κ)) (pJ6_numberOfTrailingZeros_0f7a4_34 κ v0 v1) κ 34 [(0, .int v0), (1, .int v1)] [] := by
  unfold pJ6_numberOfTrailingZeros_0f7a4_34
  refine j_iload_n hC (pc := 34) dJ6_numberOfTrailingZeros_0f7a4_34 0 rfl rfl ?_
  refine j_sipush hC (pc := 35) dJ6_numberOfTrailingZeros_0f7a4_35 ks_256 ?_
  refine j_icmp_le hC (pc := 38) dJ6_numberOfTrailingZeros_0f7a4_38 (tgt := 49) rfl ?_ ?_
  · exact wJ6_numberOfTrailingZeros_0f7a4_49 hC hR hm κ v0 v1
  · refine j_iinc hC (pc := 41) dJ6_numberOfTrailingZeros_0f7a4_41 1 rfl ki_8 (Nat.le_of_ble_eq_true rfl) (loc' := [(1, .int (v1 + 8)), (0, .int v0)]) rfl ?_
    refine j_iload_n hC (pc := 44) dJ6_numberOfTrailingZeros_0f7a4_44 1 rfl rfl ?_
    refine j_bipush hC (pc := 45) dJ6_numberOfTrailingZeros_0f7a4_45 kb_8 ?_
    refine j_iushr hC (pc := 47) dJ6_numberOfTrailingZeros_0f7a4_47 ?_
    refine j_nmi (fun x4 => ?_)
    refine j_istore_n hC (pc := 48) dJ6_numberOfTrailingZeros_0f7a4_48 rfl (Nat.le_of_ble_eq_true rfl) (loc' := [(0, .int x4), (1, .int (v1 + 8))]) rfl ?_
    exact wJ6_numberOfTrailingZeros_0f7a4_49 hC hR hm κ x4 (v1 + 8)
set_option maxRecDepth 20000 in
theorem wJ6_numberOfTrailingZeros_0f7a4 {Γ : JCtx} (hC : jC Γ cJ6_numberOfTrailingZeros_0f7a4 2 RJ6 (some .int) layX 147) (hR : gR Γ = rmH 0) (hm : gcells Γ ≤ (gR Γ).cells ∧ gslots Γ ≤ (gR Γ).slots) (κ : Mem) (v0 : Int32) : JP Γ (qf Γ (oI κ)) (pJ6_numberOfTrailingZeros_0f7a4 κ v0) κ 0 [(0, .int v0)] [] := by
  unfold pJ6_numberOfTrailingZeros_0f7a4
  refine j_iload_n hC (pc := 0) dJ6_numberOfTrailingZeros_0f7a4_0 0 rfl rfl ?_
  refine j_iconst hC (pc := 1) dJ6_numberOfTrailingZeros_0f7a4_1 ki_m1 ?_
  refine j_ixor hC (pc := 2) dJ6_numberOfTrailingZeros_0f7a4_2 ?_
  refine j_iload_n hC (pc := 3) dJ6_numberOfTrailingZeros_0f7a4_3 0 rfl rfl ?_
  refine j_iconst hC (pc := 4) dJ6_numberOfTrailingZeros_0f7a4_4 ki_1 ?_
  refine j_isub hC (pc := 5) dJ6_numberOfTrailingZeros_0f7a4_5 ?_
  refine j_iand hC (pc := 6) dJ6_numberOfTrailingZeros_0f7a4_6 ?_
  refine j_nmi (fun x1 => ?_)
  refine j_istore_n hC (pc := 7) dJ6_numberOfTrailingZeros_0f7a4_7 rfl (Nat.le_of_ble_eq_true rfl) (loc' := [(0, .int x1)]) rfl ?_
  refine j_iload_n hC (pc := 8) dJ6_numberOfTrailingZeros_0f7a4_8 0 rfl rfl ?_
  refine j_if_gt hC (pc := 9) dJ6_numberOfTrailingZeros_0f7a4_9 (tgt := 17) rfl ?_ ?_
  · refine j_iload_n hC (pc := 12) dJ6_numberOfTrailingZeros_0f7a4_12 0 rfl rfl ?_
    refine j_bipush hC (pc := 13) dJ6_numberOfTrailingZeros_0f7a4_13 kb_32 ?_
    refine j_iand hC (pc := 15) dJ6_numberOfTrailingZeros_0f7a4_15 ?_
    exact j_iret hC (pc := 16) dJ6_numberOfTrailingZeros_0f7a4_16 rfl rfl rfl
  · refine j_iconst hC (pc := 17) dJ6_numberOfTrailingZeros_0f7a4_17 ki_1 ?_
    refine j_istore_n hC (pc := 18) dJ6_numberOfTrailingZeros_0f7a4_18 rfl (Nat.le_of_ble_eq_true rfl) (loc' := [(1, .int 1), (0, .int x1)]) rfl ?_
    refine j_iload_n hC (pc := 19) dJ6_numberOfTrailingZeros_0f7a4_19 1 rfl rfl ?_
    refine j_ldcw hC (pc := 20) dJ6_numberOfTrailingZeros_0f7a4_20 w_3 ?_
    refine j_icmp_le hC (pc := 23) dJ6_numberOfTrailingZeros_0f7a4_23 (tgt := 34) rfl ?_ ?_
    · refine j_sub [1, 0] (loc' := [(0, .int x1), (1, .int 1)]) rfl ?_
      exact wJ6_numberOfTrailingZeros_0f7a4_34 hC hR hm κ x1 1
    · refine j_iinc hC (pc := 26) dJ6_numberOfTrailingZeros_0f7a4_26 0 rfl ki_16 (Nat.le_of_ble_eq_true rfl) (loc' := [(1, .int (1 + 16)), (0, .int x1)]) rfl ?_
      refine j_iload_n hC (pc := 29) dJ6_numberOfTrailingZeros_0f7a4_29 1 rfl rfl ?_
      refine j_bipush hC (pc := 30) dJ6_numberOfTrailingZeros_0f7a4_30 kb_16 ?_
      refine j_iushr hC (pc := 32) dJ6_numberOfTrailingZeros_0f7a4_32 ?_
      refine j_nmi (fun x5 => ?_)
      refine j_istore_n hC (pc := 33) dJ6_numberOfTrailingZeros_0f7a4_33 rfl (Nat.le_of_ble_eq_true rfl) (loc' := [(0, .int x5), (1, .int (1 + 16))]) rfl ?_
      exact wJ6_numberOfTrailingZeros_0f7a4_34 hC hR hm κ x5 (1 + 16)
theorem ctJ6_numberOfTrailingZeros_0f7a4 {Δ : DCtx} {l : Launch} (hl : dlay Δ = layX) (hN : dN Δ = 147) (κ : Mem) (v0 : Int32) : ∀ r, pJ6_numberOfTrailingZeros_0f7a4 κ v0 = some r → CT Δ l yJ6_numberOfTrailingZeros_0f7a4 cJ6_numberOfTrailingZeros_0f7a4 2 (some .int) (rmH 0) [.int v0] κ (some (.int r)) κ :=
  ct_of (nL := 2) (ret := (some .int)) (lay := layX) (N := 147) (by decide +kernel) (fun Δ => [.int v0]) (fun _ => oI κ) (fun _ => (Nat.le_of_ble_eq_true rfl)) (fun Γ hR hm hC => wJ6_numberOfTrailingZeros_0f7a4 hC hR hm κ v0) Δ l hl hN
set_option maxRecDepth 20000 in
theorem wJ13_bitCount_95d88 {Γ : JCtx} (hC : jC Γ cJ13_bitCount_95d88 2 RJ13 (some .int) layX 147) (hR : gR Γ = rmH 0) (hm : gcells Γ ≤ (gR Γ).cells ∧ gslots Γ ≤ (gR Γ).slots) (κ : Mem) (v0 : Int64) : JP Γ (qf Γ (oI κ)) (pJ13_bitCount_95d88 κ v0) κ 0 [(0, .long v0)] [] := by
  unfold pJ13_bitCount_95d88
  refine j_lload_n hC (pc := 0) dJ13_bitCount_95d88_0 0 rfl rfl ?_
  refine j_lload_n hC (pc := 1) dJ13_bitCount_95d88_1 0 rfl rfl ?_
  refine j_iconst hC (pc := 2) dJ13_bitCount_95d88_2 ki_1 ?_
  refine j_lushr hC (pc := 3) dJ13_bitCount_95d88_3 ?_
  refine j_ldc2 hC (pc := 4) dJ13_bitCount_95d88_4 w_4 ?_
  refine j_land hC (pc := 7) dJ13_bitCount_95d88_7 ?_
  refine j_lsub hC (pc := 8) dJ13_bitCount_95d88_8 ?_
  refine j_nml (fun x1 => ?_)
  refine j_lstore_n hC (pc := 9) dJ13_bitCount_95d88_9 rfl (Nat.le_of_ble_eq_true rfl) (loc' := [(0, .long x1)]) rfl ?_
  refine j_lload_n hC (pc := 10) dJ13_bitCount_95d88_10 0 rfl rfl ?_
  refine j_ldc2 hC (pc := 11) dJ13_bitCount_95d88_11 w_5 ?_
  refine j_land hC (pc := 14) dJ13_bitCount_95d88_14 ?_
  refine j_lload_n hC (pc := 15) dJ13_bitCount_95d88_15 0 rfl rfl ?_
  refine j_iconst hC (pc := 16) dJ13_bitCount_95d88_16 ki_2 ?_
  refine j_lushr hC (pc := 17) dJ13_bitCount_95d88_17 ?_
  refine j_ldc2 hC (pc := 18) dJ13_bitCount_95d88_18 w_5 ?_
  refine j_land hC (pc := 21) dJ13_bitCount_95d88_21 ?_
  refine j_ladd hC (pc := 22) dJ13_bitCount_95d88_22 ?_
  refine j_nml (fun x2 => ?_)
  refine j_lstore_n hC (pc := 23) dJ13_bitCount_95d88_23 rfl (Nat.le_of_ble_eq_true rfl) (loc' := [(0, .long x2)]) rfl ?_
  refine j_lload_n hC (pc := 24) dJ13_bitCount_95d88_24 0 rfl rfl ?_
  refine j_lload_n hC (pc := 25) dJ13_bitCount_95d88_25 0 rfl rfl ?_
  refine j_iconst hC (pc := 26) dJ13_bitCount_95d88_26 ki_4 ?_
  refine j_lushr hC (pc := 27) dJ13_bitCount_95d88_27 ?_
  refine j_ladd hC (pc := 28) dJ13_bitCount_95d88_28 ?_
  refine j_ldc2 hC (pc := 29) dJ13_bitCount_95d88_29 w_6 ?_
  refine j_land hC (pc := 32) dJ13_bitCount_95d88_32 ?_
  refine j_nml (fun x3 => ?_)
  refine j_lstore_n hC (pc := 33) dJ13_bitCount_95d88_33 rfl (Nat.le_of_ble_eq_true rfl) (loc' := [(0, .long x3)]) rfl ?_
  refine j_lload_n hC (pc := 34) dJ13_bitCount_95d88_34 0 rfl rfl ?_
  refine j_lload_n hC (pc := 35) dJ13_bitCount_95d88_35 0 rfl rfl ?_
  refine j_bipush hC (pc := 36) dJ13_bitCount_95d88_36 kb_8 ?_
  refine j_lushr hC (pc := 38) dJ13_bitCount_95d88_38 ?_
  refine j_ladd hC (pc := 39) dJ13_bitCount_95d88_39 ?_
  refine j_nml (fun x4 => ?_)
  refine j_lstore_n hC (pc := 40) dJ13_bitCount_95d88_40 rfl (Nat.le_of_ble_eq_true rfl) (loc' := [(0, .long x4)]) rfl ?_
  refine j_lload_n hC (pc := 41) dJ13_bitCount_95d88_41 0 rfl rfl ?_
  refine j_lload_n hC (pc := 42) dJ13_bitCount_95d88_42 0 rfl rfl ?_
  refine j_bipush hC (pc := 43) dJ13_bitCount_95d88_43 kb_16 ?_
  refine j_lushr hC (pc := 45) dJ13_bitCount_95d88_45 ?_
  refine j_ladd hC (pc := 46) dJ13_bitCount_95d88_46 ?_
  refine j_nml (fun x5 => ?_)
  refine j_lstore_n hC (pc := 47) dJ13_bitCount_95d88_47 rfl (Nat.le_of_ble_eq_true rfl) (loc' := [(0, .long x5)]) rfl ?_
  refine j_lload_n hC (pc := 48) dJ13_bitCount_95d88_48 0 rfl rfl ?_
  refine j_lload_n hC (pc := 49) dJ13_bitCount_95d88_49 0 rfl rfl ?_
  refine j_bipush hC (pc := 50) dJ13_bitCount_95d88_50 kb_32 ?_
  refine j_lushr hC (pc := 52) dJ13_bitCount_95d88_52 ?_
  refine j_ladd hC (pc := 53) dJ13_bitCount_95d88_53 ?_
  refine j_nml (fun x6 => ?_)
  refine j_lstore_n hC (pc := 54) dJ13_bitCount_95d88_54 rfl (Nat.le_of_ble_eq_true rfl) (loc' := [(0, .long x6)]) rfl ?_
  refine j_lload_n hC (pc := 55) dJ13_bitCount_95d88_55 0 rfl rfl ?_
  refine j_l2i hC (pc := 56) dJ13_bitCount_95d88_56 ?_
  refine j_bipush hC (pc := 57) dJ13_bitCount_95d88_57 kb_127 ?_
  refine j_iand hC (pc := 59) dJ13_bitCount_95d88_59 ?_
  exact j_iret hC (pc := 60) dJ13_bitCount_95d88_60 rfl rfl rfl
theorem ctJ13_bitCount_95d88 {Δ : DCtx} {l : Launch} (hl : dlay Δ = layX) (hN : dN Δ = 147) (κ : Mem) (v0 : Int64) : ∀ r, pJ13_bitCount_95d88 κ v0 = some r → CT Δ l yJ13_bitCount_95d88 cJ13_bitCount_95d88 2 (some .int) (rmH 0) [.long v0] κ (some (.int r)) κ :=
  ct_of (nL := 2) (ret := (some .int)) (lay := layX) (N := 147) (by decide +kernel) (fun Δ => [.long v0]) (fun _ => oI κ) (fun _ => (Nat.le_of_ble_eq_true rfl)) (fun Γ hR hm hC => wJ13_bitCount_95d88 hC hR hm κ v0) Δ l hl hN
set_option maxRecDepth 20000 in
theorem wJ9_floorMod_7cf53_18 {Γ : JCtx} (hC : jC Γ cJ9_floorMod_7cf53 3 RJ9 (some .int) layX 147) (hR : gR Γ = rmH 0) (hm : gcells Γ ≤ (gR Γ).cells ∧ gslots Γ ≤ (gR Γ).slots) (κ : Mem) (v2 : Int32) : JP Γ (qf Γ (oI κ)) (pJ9_floorMod_7cf53_18 κ v2) κ 18 [(2, .int v2)] [] := by
  unfold pJ9_floorMod_7cf53_18
  refine j_iload_n hC (pc := 18) dJ9_floorMod_7cf53_18 0 rfl rfl ?_
  exact j_iret hC (pc := 19) dJ9_floorMod_7cf53_19 rfl rfl rfl
set_option maxRecDepth 20000 in
theorem wJ9_floorMod_7cf53 {Γ : JCtx} (hC : jC Γ cJ9_floorMod_7cf53 3 RJ9 (some .int) layX 147) (hR : gR Γ = rmH 0) (hm : gcells Γ ≤ (gR Γ).cells ∧ gslots Γ ≤ (gR Γ).slots) (κ : Mem) (v0 : Int32) (v1 : Int32) : JP Γ (qf Γ (oI κ)) (pJ9_floorMod_7cf53 κ v0 v1) κ 0 [(0, .int v0), (1, .int v1)] [] := by
  unfold pJ9_floorMod_7cf53
  refine j_iload_n hC (pc := 0) dJ9_floorMod_7cf53_0 0 rfl rfl ?_
  refine j_iload_n hC (pc := 1) dJ9_floorMod_7cf53_1 1 rfl rfl ?_
  refine j_irem hC (pc := 2) dJ9_floorMod_7cf53_2 ?_
  refine j_nmi (fun x1 => ?_)
  refine j_istore_n hC (pc := 3) dJ9_floorMod_7cf53_3 rfl (Nat.le_of_ble_eq_true rfl) (loc' := [(2, .int x1), (0, .int v0), (1, .int v1)]) rfl ?_
  refine j_iload_n hC (pc := 4) dJ9_floorMod_7cf53_4 1 rfl rfl ?_
  refine j_iload_n hC (pc := 5) dJ9_floorMod_7cf53_5 2 rfl rfl ?_
  refine j_ixor hC (pc := 6) dJ9_floorMod_7cf53_6 ?_
  refine j_if_ge hC (pc := 7) dJ9_floorMod_7cf53_7 (tgt := 18) rfl ?_ ?_
  · refine j_iload_n hC (pc := 10) dJ9_floorMod_7cf53_10 0 rfl rfl ?_
    refine j_if_eq hC (pc := 11) dJ9_floorMod_7cf53_11 (tgt := 18) rfl ?_ ?_
    · refine j_sub [0] (loc' := [(2, .int x1)]) rfl ?_
      exact wJ9_floorMod_7cf53_18 hC hR hm κ x1
    · refine j_iload_n hC (pc := 14) dJ9_floorMod_7cf53_14 0 rfl rfl ?_
      refine j_iload_n hC (pc := 15) dJ9_floorMod_7cf53_15 2 rfl rfl ?_
      refine j_iadd hC (pc := 16) dJ9_floorMod_7cf53_16 ?_
      exact j_iret hC (pc := 17) dJ9_floorMod_7cf53_17 rfl rfl rfl
  · refine j_sub [0] (loc' := [(2, .int x1)]) rfl ?_
    exact wJ9_floorMod_7cf53_18 hC hR hm κ x1
theorem ctJ9_floorMod_7cf53 {Δ : DCtx} {l : Launch} (hl : dlay Δ = layX) (hN : dN Δ = 147) (κ : Mem) (v0 : Int32) (v1 : Int32) : ∀ r, pJ9_floorMod_7cf53 κ v0 v1 = some r → CT Δ l yJ9_floorMod_7cf53 cJ9_floorMod_7cf53 3 (some .int) (rmH 0) [.int v0, .int v1] κ (some (.int r)) κ :=
  ct_of (nL := 3) (ret := (some .int)) (lay := layX) (N := 147) (by decide +kernel) (fun Δ => [.int v0, .int v1]) (fun _ => oI κ) (fun _ => (Nat.le_of_ble_eq_true rfl)) (fun Γ hR hm hC => wJ9_floorMod_7cf53 hC hR hm κ v0 v1) Δ l hl hN
set_option maxRecDepth 20000 in
theorem wX2_clear_35 {Γ : JCtx} (hC : jC Γ cX2_clear 3 RX2 none layX 147) (hR : gR Γ = rmH 0) (hm : gcells Γ ≤ (gR Γ).cells ∧ gslots Γ ≤ (gR Γ).slots) (g : Nat) (hg : isG g) (F : Nat) : ∀ (n : Nat) (κ : Mem) (v2 : Int32), JP Γ (qf Γ oV) (pX2_clear_35 F g n κ v2) κ 35 [(0, .ref (gad Γ g)), (2, .int v2)] [] := by
  intro n
  induction n with
  | zero =>
    intro κ v2
    rw [pX2_clear_35]
    exact j_none
  | succ fu ih =>
    intro κ v2
    rw [pX2_clear_35]
    refine j_iload_n hC (pc := 35) dX2_clear_35 1 rfl rfl ?_
    refine j_aload_n hC (pc := 36) dX2_clear_36 0 rfl rfl ?_
    refine j_getR hC (pc := 37) dX2_clear_37 kf_RX2_18 (isG_o hg) (isG_N hg) rfl ?_
    refine j_alenL hC (pc := 40) dX2_clear_40 (isG_3' hg) (isG_N3 hg) rfl ?_
    refine j_icmp_ge hC (pc := 41) dX2_clear_41 (tgt := 57) rfl ?_ ?_
    · refine j_aload_n hC (pc := 44) dX2_clear_44 0 rfl rfl ?_
      refine j_getR hC (pc := 45) dX2_clear_45 kf_RX2_18 (isG_o hg) (isG_N hg) rfl ?_
      refine j_iload_n hC (pc := 48) dX2_clear_48 1 rfl rfl ?_
      refine j_lconst hC (pc := 49) dX2_clear_49 rfl ?_
      refine j_last hC (pc := 50) dX2_clear_50 (isG_3' hg) (isG_N3 hg) (fun κ4 => ?_)
      refine j_iinc hC (pc := 51) dX2_clear_51 1 rfl ki_1 (Nat.le_of_ble_eq_true rfl) (loc' := [(2, .int (v2 + 1)), (0, .ref (gad Γ g))]) rfl ?_
      refine j_goto hC (pc := 54) dX2_clear_54 (tgt := 35) rfl ?_
      refine j_sub [1, 0] (loc' := [(0, .ref (gad Γ g)), (2, .int (v2 + 1))]) rfl ?_
      exact ih κ4 (v2 + 1)
    · exact j_vret hC (pc := 57) dX2_clear_57 rfl rfl
set_option maxRecDepth 20000 in
theorem wX2_clear_7 {Γ : JCtx} (hC : jC Γ cX2_clear 3 RX2 none layX 147) (hR : gR Γ = rmH 0) (hm : gcells Γ ≤ (gR Γ).cells ∧ gslots Γ ≤ (gR Γ).slots) (g : Nat) (hg : isG g) (F : Nat) : ∀ (n : Nat) (κ : Mem) (v2 : Int32), JP Γ (qf Γ oV) (pX2_clear_7 F g n κ v2) κ 7 [(0, .ref (gad Γ g)), (2, .int v2)] [] := by
  intro n
  induction n with
  | zero =>
    intro κ v2
    rw [pX2_clear_7]
    exact j_none
  | succ fu ih =>
    intro κ v2
    rw [pX2_clear_7]
    refine j_iload_n hC (pc := 7) dX2_clear_7 1 rfl rfl ?_
    refine j_bipush hC (pc := 8) dX2_clear_8 kb_6 ?_
    refine j_icmp_ge hC (pc := 10) dX2_clear_10 (tgt := 33) rfl ?_ ?_
    · refine j_aload_n hC (pc := 13) dX2_clear_13 0 rfl rfl ?_
      refine j_getR hC (pc := 14) dX2_clear_14 kf_RX2_11 (isG_o hg) (isG_N hg) rfl ?_
      refine j_iload_n hC (pc := 17) dX2_clear_17 1 rfl rfl ?_
      refine j_iconst hC (pc := 18) dX2_clear_18 ki_2 ?_
      refine j_iast hC (pc := 19) dX2_clear_19 (isG_1' hg) (isG_N1 hg) (fun κ2 => ?_)
      refine j_aload_n hC (pc := 20) dX2_clear_20 0 rfl rfl ?_
      refine j_getR hC (pc := 21) dX2_clear_21 kf_RX2_15 (isG_o hg) (isG_N hg) rfl ?_
      refine j_iload_n hC (pc := 24) dX2_clear_24 1 rfl rfl ?_
      refine j_iconst hC (pc := 25) dX2_clear_25 ki_0 ?_
      refine j_iast hC (pc := 26) dX2_clear_26 (isG_2' hg) (isG_N2 hg) (fun κ3 => ?_)
      refine j_iinc hC (pc := 27) dX2_clear_27 1 rfl ki_1 (Nat.le_of_ble_eq_true rfl) (loc' := [(2, .int (v2 + 1)), (0, .ref (gad Γ g))]) rfl ?_
      refine j_goto hC (pc := 30) dX2_clear_30 (tgt := 7) rfl ?_
      refine j_sub [1, 0] (loc' := [(0, .ref (gad Γ g)), (2, .int (v2 + 1))]) rfl ?_
      exact ih κ3 (v2 + 1)
    · refine j_iconst hC (pc := 33) dX2_clear_33 ki_0 ?_
      refine j_istore_n hC (pc := 34) dX2_clear_34 rfl (Nat.le_of_ble_eq_true rfl) (loc' := [(2, .int 0), (0, .ref (gad Γ g))]) rfl ?_
      refine j_sub [1, 0] (loc' := [(0, .ref (gad Γ g)), (2, .int 0)]) rfl ?_
      exact wX2_clear_35 hC hR hm g hg F F κ 0
set_option maxRecDepth 20000 in
theorem wX2_clear {Γ : JCtx} (hC : jC Γ cX2_clear 3 RX2 none layX 147) (hR : gR Γ = rmH 0) (hm : gcells Γ ≤ (gR Γ).cells ∧ gslots Γ ≤ (gR Γ).slots) (g : Nat) (hg : isG g) (F : Nat) (κ : Mem) (v1 : Int32) : JP Γ (qf Γ oV) (pX2_clear F g κ v1) κ 0 [(0, .ref (gad Γ g)), (1, .int v1)] [] := by
  unfold pX2_clear
  refine j_aload_n hC (pc := 0) dX2_clear_0 0 rfl rfl ?_
  refine j_iload_n hC (pc := 1) dX2_clear_1 1 rfl rfl ?_
  refine j_putI hC (pc := 2) dX2_clear_2 kp_RX2_22 (isG_o hg) (isG_N hg) rfl rfl rfl (fun κ1 => ?_)
  refine j_iconst hC (pc := 5) dX2_clear_5 ki_0 ?_
  refine j_istore_n hC (pc := 6) dX2_clear_6 rfl (Nat.le_of_ble_eq_true rfl) (loc' := [(2, .int 0), (0, .ref (gad Γ g)), (1, .int v1)]) rfl ?_
  refine j_sub [1, 0] (loc' := [(0, .ref (gad Γ g)), (2, .int 0)]) rfl ?_
  exact wX2_clear_7 hC hR hm g hg F F κ1 0
theorem ctX2_clear {Δ : DCtx} {l : Launch} (hl : dlay Δ = layX) (hN : dN Δ = 147) (g : Nat) (hg : isG g) (F : Nat) (κ : Mem) (v1 : Int32) : ∀ r, pX2_clear F g κ v1 = some r → CT Δ l yX2_clear cX2_clear 3 none (rmH 0) [.ref (dad Δ g), .int v1] κ none r :=
  ct_of (nL := 3) (ret := none) (lay := layX) (N := 147) (by decide +kernel) (fun Δ => [.ref (dad Δ g), .int v1]) (fun _ => oV) (fun _ => (Nat.le_of_ble_eq_true rfl)) (fun Γ hR hm hC => wX2_clear hC hR hm g hg F κ v1) Δ l hl hN
set_option maxRecDepth 20000 in
theorem wX2_watches_19 {Γ : JCtx} (hC : jC Γ cX2_watches 3 RX2 (some .boolean) layX 147) (hR : gR Γ = rmH 0) (hm : gcells Γ ≤ (gR Γ).cells ∧ gslots Γ ≤ (gR Γ).slots) (g : Nat) (hg : isG g) (κ : Mem) (y0 : Int32) : JP Γ (qf Γ (oI κ)) (pX2_watches_19 g κ y0) κ 19 [] [.int y0] := by
  unfold pX2_watches_19
  refine j_ckP (fun hq1 => ?_)
  exact j_iret hC (pc := 19) dX2_watches_19 rfl (isB_n hq1) rfl
set_option maxRecDepth 20000 in
theorem wX2_watches {Γ : JCtx} (hC : jC Γ cX2_watches 3 RX2 (some .boolean) layX 147) (hR : gR Γ = rmH 0) (hm : gcells Γ ≤ (gR Γ).cells ∧ gslots Γ ≤ (gR Γ).slots) (g : Nat) (hg : isG g) (κ : Mem) (v1 : Int32) (v2 : Int32) : JP Γ (qf Γ (oI κ)) (pX2_watches g κ v1 v2) κ 0 [(0, .ref (gad Γ g)), (1, .int v1), (2, .int v2)] [] := by
  unfold pX2_watches
  refine j_aload_n hC (pc := 0) dX2_watches_0 0 rfl rfl ?_
  refine j_getR hC (pc := 1) dX2_watches_1 kf_RX2_15 (isG_o hg) (isG_N hg) rfl ?_
  refine j_iload_n hC (pc := 4) dX2_watches_4 1 rfl rfl ?_
  refine j_iald hC (pc := 5) dX2_watches_5 (isG_2' hg) (isG_N2 hg) ?_
  refine j_iload_n hC (pc := 6) dX2_watches_6 2 rfl rfl ?_
  refine j_ishr hC (pc := 7) dX2_watches_7 ?_
  refine j_iconst hC (pc := 8) dX2_watches_8 ki_1 ?_
  refine j_iand hC (pc := 9) dX2_watches_9 ?_
  refine j_iconst hC (pc := 10) dX2_watches_10 ki_1 ?_
  refine j_icmp_ne hC (pc := 11) dX2_watches_11 (tgt := 18) rfl ?_ ?_
  · refine j_iconst hC (pc := 14) dX2_watches_14 ki_1 ?_
    refine j_goto hC (pc := 15) dX2_watches_15 (tgt := 19) rfl ?_
    refine j_sub [] (loc' := []) rfl ?_
    exact wX2_watches_19 hC hR hm g hg κ 1
  · refine j_iconst hC (pc := 18) dX2_watches_18 ki_0 ?_
    refine j_sub [] (loc' := []) rfl ?_
    exact wX2_watches_19 hC hR hm g hg κ 0
theorem ctX2_watches {Δ : DCtx} {l : Launch} (hl : dlay Δ = layX) (hN : dN Δ = 147) (g : Nat) (hg : isG g) (κ : Mem) (v1 : Int32) (v2 : Int32) : ∀ r, pX2_watches g κ v1 v2 = some r → CT Δ l yX2_watches cX2_watches 3 (some .boolean) (rmH 0) [.ref (dad Δ g), .int v1, .int v2] κ (some (.int r)) κ :=
  ct_of (nL := 3) (ret := (some .boolean)) (lay := layX) (N := 147) (by decide +kernel) (fun Δ => [.ref (dad Δ g), .int v1, .int v2]) (fun _ => oI κ) (fun _ => (Nat.le_of_ble_eq_true rfl)) (fun Γ hR hm hC => wX2_watches hC hR hm g hg κ v1 v2) Δ l hl hN
set_option maxRecDepth 20000 in
theorem wX2_weightBehind_41 {Γ : JCtx} (hC : jC Γ cX2_weightBehind 5 RX2 (some .int) layX 147) (hR : gR Γ = rmH 0) (hm : gcells Γ ≤ (gR Γ).cells ∧ gslots Γ ≤ (gR Γ).slots) (g : Nat) (hg : isG g) (F : Nat) (κ : Mem) (v1 : Int32) (v3 : Int32) (v4 : Int32) (k7 : Int32 → Int32 → Option Int32) (hk7 : ∀ (v3 : Int32) (v4 : Int32), JP Γ (qf Γ (oI κ)) (k7 v3 v4) κ 7 [(0, .ref (gad Γ g)), (1, .int v1), (3, .int v3), (4, .int v4)] []) : JP Γ (qf Γ (oI κ)) (pX2_weightBehind_41 F g κ k7 v1 v3 v4) κ 41 [(0, .ref (gad Γ g)), (1, .int v1), (3, .int v3), (4, .int v4)] [] := by
  unfold pX2_weightBehind_41
  refine j_iinc hC (pc := 41) dX2_weightBehind_41 3 rfl ki_1 (Nat.le_of_ble_eq_true rfl) (loc' := [(4, .int (v4 + 1)), (0, .ref (gad Γ g)), (1, .int v1), (3, .int v3)]) rfl ?_
  refine j_goto hC (pc := 44) dX2_weightBehind_44 (tgt := 7) rfl ?_
  refine j_sub [1, 2, 3, 0] (loc' := [(0, .ref (gad Γ g)), (1, .int v1), (3, .int v3), (4, .int (v4 + 1))]) rfl ?_
  exact hk7 v3 (v4 + 1)
set_option maxRecDepth 20000 in
theorem wX2_weightBehind_7 {Γ : JCtx} (hC : jC Γ cX2_weightBehind 5 RX2 (some .int) layX 147) (hR : gR Γ = rmH 0) (hm : gcells Γ ≤ (gR Γ).cells ∧ gslots Γ ≤ (gR Γ).slots) (g : Nat) (hg : isG g) (F : Nat) (κ : Mem) (v1 : Int32) : ∀ (n : Nat) (v3 : Int32) (v4 : Int32), JP Γ (qf Γ (oI κ)) (pX2_weightBehind_7 F g κ v1 n v3 v4) κ 7 [(0, .ref (gad Γ g)), (1, .int v1), (3, .int v3), (4, .int v4)] [] := by
  intro n
  induction n with
  | zero =>
    intro v3 v4
    rw [pX2_weightBehind_7]
    exact j_none
  | succ fu ih =>
    intro v3 v4
    rw [pX2_weightBehind_7]
    refine j_iload hC (pc := 7) dX2_weightBehind_7 3 rfl ?_
    refine j_aload_n hC (pc := 9) dX2_weightBehind_9 0 rfl rfl ?_
    refine j_getI hC (pc := 10) dX2_weightBehind_10 kf_RX2_22 (isG_o hg) (isG_N hg) rfl ?_
    refine j_icmp_ge hC (pc := 13) dX2_weightBehind_13 (tgt := 47) rfl ?_ ?_
    · refine j_aload_n hC (pc := 16) dX2_weightBehind_16 0 rfl rfl ?_
      refine j_getR hC (pc := 17) dX2_weightBehind_17 kf_RX2_15 (isG_o hg) (isG_N hg) rfl ?_
      refine j_iload_n hC (pc := 20) dX2_weightBehind_20 1 rfl rfl ?_
      refine j_iald hC (pc := 21) dX2_weightBehind_21 (isG_2' hg) (isG_N2 hg) ?_
      refine j_iload hC (pc := 22) dX2_weightBehind_22 3 rfl ?_
      refine j_ishr hC (pc := 24) dX2_weightBehind_24 ?_
      refine j_iconst hC (pc := 25) dX2_weightBehind_25 ki_1 ?_
      refine j_iand hC (pc := 26) dX2_weightBehind_26 ?_
      refine j_iconst hC (pc := 27) dX2_weightBehind_27 ki_1 ?_
      refine j_icmp_ne hC (pc := 28) dX2_weightBehind_28 (tgt := 41) rfl ?_ ?_
      · refine j_iload_n hC (pc := 31) dX2_weightBehind_31 2 rfl rfl ?_
        refine j_aload_n hC (pc := 32) dX2_weightBehind_32 0 rfl rfl ?_
        refine j_getR hC (pc := 33) dX2_weightBehind_33 kf_RX2_11 (isG_o hg) (isG_N hg) rfl ?_
        refine j_iload hC (pc := 36) dX2_weightBehind_36 3 rfl ?_
        refine j_iald hC (pc := 38) dX2_weightBehind_38 (isG_1' hg) (isG_N1 hg) ?_
        refine j_imul hC (pc := 39) dX2_weightBehind_39 ?_
        refine j_nmi (fun x2 => ?_)
        refine j_istore_n hC (pc := 40) dX2_weightBehind_40 rfl (Nat.le_of_ble_eq_true rfl) (loc' := [(3, .int x2), (0, .ref (gad Γ g)), (1, .int v1), (4, .int v4)]) rfl ?_
        refine j_sub [1, 2, 0, 3] (loc' := [(0, .ref (gad Γ g)), (1, .int v1), (3, .int x2), (4, .int v4)]) rfl ?_
        exact wX2_weightBehind_41 hC hR hm g hg F κ v1 x2 v4 (pX2_weightBehind_7 F g κ v1 fu) ih
      · exact wX2_weightBehind_41 hC hR hm g hg F κ v1 v3 v4 (pX2_weightBehind_7 F g κ v1 fu) ih
    · refine j_iload_n hC (pc := 47) dX2_weightBehind_47 2 rfl rfl ?_
      exact j_iret hC (pc := 48) dX2_weightBehind_48 rfl rfl rfl
set_option maxRecDepth 20000 in
theorem wX2_weightBehind {Γ : JCtx} (hC : jC Γ cX2_weightBehind 5 RX2 (some .int) layX 147) (hR : gR Γ = rmH 0) (hm : gcells Γ ≤ (gR Γ).cells ∧ gslots Γ ≤ (gR Γ).slots) (g : Nat) (hg : isG g) (F : Nat) (κ : Mem) (v1 : Int32) (v2 : Int32) : JP Γ (qf Γ (oI κ)) (pX2_weightBehind F g κ v1 v2) κ 0 [(0, .ref (gad Γ g)), (1, .int v1), (2, .int v2)] [] := by
  unfold pX2_weightBehind
  refine j_iconst hC (pc := 0) dX2_weightBehind_0 ki_1 ?_
  refine j_istore_n hC (pc := 1) dX2_weightBehind_1 rfl (Nat.le_of_ble_eq_true rfl) (loc' := [(3, .int 1), (0, .ref (gad Γ g)), (1, .int v1), (2, .int v2)]) rfl ?_
  refine j_iload_n hC (pc := 2) dX2_weightBehind_2 3 rfl rfl ?_
  refine j_iconst hC (pc := 3) dX2_weightBehind_3 ki_1 ?_
  refine j_iadd hC (pc := 4) dX2_weightBehind_4 ?_
  refine j_nmi (fun x1 => ?_)
  refine j_istore hC (pc := 5) dX2_weightBehind_5 (Nat.le_of_ble_eq_true rfl) (loc' := [(4, .int x1), (3, .int 1), (0, .ref (gad Γ g)), (1, .int v1), (2, .int v2)]) rfl ?_
  refine j_sub [2, 3, 1, 0] (loc' := [(0, .ref (gad Γ g)), (1, .int v1), (3, .int 1), (4, .int x1)]) rfl ?_
  exact wX2_weightBehind_7 hC hR hm g hg F κ v1 F 1 x1
theorem ctX2_weightBehind {Δ : DCtx} {l : Launch} (hl : dlay Δ = layX) (hN : dN Δ = 147) (g : Nat) (hg : isG g) (F : Nat) (κ : Mem) (v1 : Int32) (v2 : Int32) : ∀ r, pX2_weightBehind F g κ v1 v2 = some r → CT Δ l yX2_weightBehind cX2_weightBehind 5 (some .int) (rmH 0) [.ref (dad Δ g), .int v1, .int v2] κ (some (.int r)) κ :=
  ct_of (nL := 5) (ret := (some .int)) (lay := layX) (N := 147) (by decide +kernel) (fun Δ => [.ref (dad Δ g), .int v1, .int v2]) (fun _ => oI κ) (fun _ => (Nat.le_of_ble_eq_true rfl)) (fun Γ hR hm hC => wX2_weightBehind hC hR hm g hg F κ v1 v2) Δ l hl hN
set_option maxRecDepth 20000 in
theorem wX2_situations {Γ : JCtx} (hC : jC Γ cX2_situations 2 RX2 (some .int) layX 147) (hR : gR Γ = rmH 1) (hm : gcells Γ ≤ (gR Γ).cells ∧ gslots Γ ≤ (gR Γ).slots) (g : Nat) (hg : isG g) (F : Nat) (κ : Mem) (v1 : Int32) : JP Γ (qf Γ (oI κ)) (pX2_situations F g κ v1) κ 0 [(0, .ref (gad Γ g)), (1, .int v1)] [] := by
  unfold pX2_situations
  refine j_aload_n hC (pc := 0) dX2_situations_0 0 rfl rfl ?_
  refine j_iload_n hC (pc := 1) dX2_situations_1 1 rfl rfl ?_
  refine j_iconst hC (pc := 2) dX2_situations_2 ki_m1 ?_
  refine j_callV_I hC hR (ctX2_weightBehind hC.l hC.cn g hg F κ v1 (-1)) kc_RX2_32 (Nat.le_of_ble_eq_true rfl) (Nat.le_of_ble_eq_true rfl) (isG_o hg) (isG_N hg) rfl (As := [.int v1, .int (-1)]) (rest := []) rfl rfl (Nat.le_of_ble_eq_true rfl) hm (pc := 3) dX2_situations_3 (fun t1 => ?_)
  exact j_iret hC (pc := 6) dX2_situations_6 rfl rfl rfl
theorem ctX2_situations {Δ : DCtx} {l : Launch} (hl : dlay Δ = layX) (hN : dN Δ = 147) (g : Nat) (hg : isG g) (F : Nat) (κ : Mem) (v1 : Int32) : ∀ r, pX2_situations F g κ v1 = some r → CT Δ l yX2_situations cX2_situations 2 (some .int) (rmH 1) [.ref (dad Δ g), .int v1] κ (some (.int r)) κ :=
  ct_of (nL := 2) (ret := (some .int)) (lay := layX) (N := 147) (by decide +kernel) (fun Δ => [.ref (dad Δ g), .int v1]) (fun _ => oI κ) (fun _ => (Nat.le_of_ble_eq_true rfl)) (fun Γ hR hm hC => wX2_situations hC hR hm g hg F κ v1) Δ l hl hN
set_option maxRecDepth 20000 in
theorem wX2_tell_30 {Γ : JCtx} (hC : jC Γ cX2_tell 6 RX2 none layX 147) (hR : gR Γ = rmH 0) (hm : gcells Γ ≤ (gR Γ).cells ∧ gslots Γ ≤ (gR Γ).slots) (g : Nat) (hg : isG g) (κ : Mem) : JP Γ (qf Γ oV) (pX2_tell_30 g κ) κ 30 [] [] := by
  unfold pX2_tell_30
  exact j_vret hC (pc := 30) dX2_tell_30 rfl rfl
set_option maxRecDepth 20000 in
theorem wX2_tell {Γ : JCtx} (hC : jC Γ cX2_tell 6 RX2 none layX 147) (hR : gR Γ = rmH 0) (hm : gcells Γ ≤ (gR Γ).cells ∧ gslots Γ ≤ (gR Γ).slots) (g : Nat) (hg : isG g) (κ : Mem) (v1 : Int32) (v2 : Int32) (v3 : Int32) : JP Γ (qf Γ oV) (pX2_tell g κ v1 v2 v3) κ 0 [(0, .ref (gad Γ g)), (1, .int v1), (2, .int v2), (3, .int v3)] [] := by
  unfold pX2_tell
  refine j_iload_n hC (pc := 0) dX2_tell_0 1 rfl rfl ?_
  refine j_bipush hC (pc := 1) dX2_tell_1 kb_32 ?_
  refine j_imul hC (pc := 3) dX2_tell_3 ?_
  refine j_iload_n hC (pc := 4) dX2_tell_4 2 rfl rfl ?_
  refine j_bipush hC (pc := 5) dX2_tell_5 kb_32 ?_
  refine j_idiv hC (pc := 7) dX2_tell_7 ?_
  refine j_iadd hC (pc := 8) dX2_tell_8 ?_
  refine j_nmi (fun x1 => ?_)
  refine j_istore hC (pc := 9) dX2_tell_9 (Nat.le_of_ble_eq_true rfl) (loc' := [(4, .int x1), (0, .ref (gad Γ g)), (1, .int v1), (2, .int v2), (3, .int v3)]) rfl ?_
  refine j_iload_n hC (pc := 11) dX2_tell_11 3 rfl rfl ?_
  refine j_if_lt hC (pc := 12) dX2_tell_12 (tgt := 30) rfl ?_ ?_
  · refine j_sub [] (loc' := []) rfl ?_
    exact wX2_tell_30 hC hR hm g hg κ
  · refine j_iload hC (pc := 15) dX2_tell_15 0 rfl ?_
    refine j_if_lt hC (pc := 17) dX2_tell_17 (tgt := 30) rfl ?_ ?_
    · refine j_sub [] (loc' := []) rfl ?_
      exact wX2_tell_30 hC hR hm g hg κ
    · refine j_iload hC (pc := 20) dX2_tell_20 0 rfl ?_
      refine j_aload_n hC (pc := 22) dX2_tell_22 1 rfl rfl ?_
      refine j_getR hC (pc := 23) dX2_tell_23 kf_RX2_18 (isG_o hg) (isG_N hg) rfl ?_
      refine j_alenL hC (pc := 26) dX2_tell_26 (isG_3' hg) (isG_N3 hg) rfl ?_
      refine j_icmp_lt hC (pc := 27) dX2_tell_27 (tgt := 31) rfl ?_ ?_
      · refine j_iconst hC (pc := 31) dX2_tell_31 ki_2 ?_
        refine j_iload_n hC (pc := 32) dX2_tell_32 3 rfl rfl ?_
        refine j_bipush hC (pc := 33) dX2_tell_33 kb_32 ?_
        refine j_irem hC (pc := 35) dX2_tell_35 ?_
        refine j_imul hC (pc := 36) dX2_tell_36 ?_
        refine j_nmi (fun x2 => ?_)
        refine j_istore hC (pc := 37) dX2_tell_37 (Nat.le_of_ble_eq_true rfl) (loc' := [(5, .int x2), (4, .int x1), (0, .ref (gad Γ g)), (1, .int v1), (2, .int v2), (3, .int v3)]) rfl ?_
        refine j_aload_n hC (pc := 39) dX2_tell_39 2 rfl rfl ?_
        refine j_getR hC (pc := 40) dX2_tell_40 kf_RX2_18 (isG_o hg) (isG_N hg) rfl ?_
        refine j_iload hC (pc := 43) dX2_tell_43 1 rfl ?_
        refine j_aload_n hC (pc := 45) dX2_tell_45 2 rfl rfl ?_
        refine j_getR hC (pc := 46) dX2_tell_46 kf_RX2_18 (isG_o hg) (isG_N hg) rfl ?_
        refine j_iload hC (pc := 49) dX2_tell_49 1 rfl ?_
        refine j_lald hC (pc := 51) dX2_tell_51 (isG_3' hg) (isG_N3 hg) ?_
        refine j_ldc2 hC (pc := 52) dX2_tell_52 w_111 ?_
        refine j_iload hC (pc := 55) dX2_tell_55 0 rfl ?_
        refine j_lshl hC (pc := 57) dX2_tell_57 ?_
        refine j_ldc2 hC (pc := 58) dX2_tell_58 w_112 ?_
        refine j_lxor hC (pc := 61) dX2_tell_61 ?_
        refine j_land hC (pc := 62) dX2_tell_62 ?_
        refine j_iload_n hC (pc := 63) dX2_tell_63 5 rfl rfl ?_
        refine j_iconst hC (pc := 64) dX2_tell_64 ki_3 ?_
        refine j_iand hC (pc := 65) dX2_tell_65 ?_
        refine j_i2l hC (pc := 66) dX2_tell_66 ?_
        refine j_iload hC (pc := 67) dX2_tell_67 0 rfl ?_
        refine j_lshl hC (pc := 69) dX2_tell_69 ?_
        refine j_lor hC (pc := 70) dX2_tell_70 ?_
        refine j_last hC (pc := 71) dX2_tell_71 (isG_3' hg) (isG_N3 hg) (fun κ3 => ?_)
        exact j_vret hC (pc := 72) dX2_tell_72 rfl rfl
      · refine j_sub [] (loc' := []) rfl ?_
        exact wX2_tell_30 hC hR hm g hg κ
theorem ctX2_tell {Δ : DCtx} {l : Launch} (hl : dlay Δ = layX) (hN : dN Δ = 147) (g : Nat) (hg : isG g) (κ : Mem) (v1 : Int32) (v2 : Int32) (v3 : Int32) : ∀ r, pX2_tell g κ v1 v2 v3 = some r → CT Δ l yX2_tell cX2_tell 6 none (rmH 0) [.ref (dad Δ g), .int v1, .int v2, .int v3] κ none r :=
  ct_of (nL := 6) (ret := none) (lay := layX) (N := 147) (by decide +kernel) (fun Δ => [.ref (dad Δ g), .int v1, .int v2, .int v3]) (fun _ => oV) (fun _ => (Nat.le_of_ble_eq_true rfl)) (fun Γ hR hm hC => wX2_tell hC hR hm g hg κ v1 v2 v3) Δ l hl hN
set_option maxRecDepth 20000 in
theorem wX10_lengthen_17 {Γ : JCtx} (hC : jC Γ cX10_lengthen 7 RX10 (some .int) layX 147) (hR : gR Γ = rmH 0) (hm : gcells Γ ≤ (gR Γ).cells ∧ gslots Γ ≤ (gR Γ).slots) (r0 : Nat) (hr0 : layX r0 = kIA (lenX r0)) (nr0 : r0 < 147) (F : Nat) (κ : Mem) (v1 : Int32) : JP Γ (qf Γ oE) (pX10_lengthen_17 F r0 κ v1) κ 17 [(1, .int v1)] [] := by
  unfold pX10_lengthen_17
  refine j_iload_n hC (pc := 17) dX10_lengthen_17 0 rfl rfl ?_
  exact j_iret hC (pc := 18) dX10_lengthen_18 rfl rfl rfl
set_option maxRecDepth 20000 in
theorem wX10_lengthen_40 {Γ : JCtx} (hC : jC Γ cX10_lengthen 7 RX10 (some .int) layX 147) (hR : gR Γ = rmH 0) (hm : gcells Γ ≤ (gR Γ).cells ∧ gslots Γ ≤ (gR Γ).slots) (r0 : Nat) (hr0 : layX r0 = kIA (lenX r0)) (nr0 : r0 < 147) (F : Nat) (v1 : Int32) (v2 : Int32) (v3 : Int32) (v4 : Int32) (v5 : Int32) (k24 : Mem → Int32 → Option (Int32 × Mem)) (hk24 : ∀ (κ : Mem) (v4 : Int32), JP Γ (qf Γ oE) (k24 κ v4) κ 24 [(0, .ref (gad Γ r0)), (1, .int v1), (2, .int v2), (3, .int v3), (4, .int v4)] []) : ∀ (n : Nat) (κ : Mem) (v6 : Int32), JP Γ (qf Γ oE) (pX10_lengthen_40 F r0 k24 v1 v2 v3 v4 v5 n κ v6) κ 40 [(0, .ref (gad Γ r0)), (1, .int v1), (2, .int v2), (3, .int v3), (4, .int v4), (5, .int v5), (6, .int v6)] [] := by
  intro n
  induction n with
  | zero =>
    intro κ v6
    rw [pX10_lengthen_40]
    exact j_none
  | succ fu ih =>
    intro κ v6
    rw [pX10_lengthen_40]
    refine j_iload hC (pc := 40) dX10_lengthen_40 6 rfl ?_
    refine j_if_lt hC (pc := 42) dX10_lengthen_42 (tgt := 67) rfl ?_ ?_
    · refine j_iinc hC (pc := 67) dX10_lengthen_67 4 rfl ki_m1 (Nat.le_of_ble_eq_true rfl) (loc' := [(4, .int (v4 + (-1))), (0, .ref (gad Γ r0)), (1, .int v1), (2, .int v2), (3, .int v3), (5, .int v5), (6, .int v6)]) rfl ?_
      refine j_goto hC (pc := 70) dX10_lengthen_70 (tgt := 24) rfl ?_
      refine j_sub [1, 2, 3, 4, 0] (loc' := [(0, .ref (gad Γ r0)), (1, .int v1), (2, .int v2), (3, .int v3), (4, .int (v4 + (-1)))]) rfl ?_
      exact hk24 κ (v4 + (-1))
    · refine j_aload_n hC (pc := 45) dX10_lengthen_45 0 rfl rfl ?_
      refine j_iload hC (pc := 46) dX10_lengthen_46 4 rfl ?_
      refine j_iload_n hC (pc := 48) dX10_lengthen_48 2 rfl rfl ?_
      refine j_imul hC (pc := 49) dX10_lengthen_49 ?_
      refine j_iload hC (pc := 50) dX10_lengthen_50 6 rfl ?_
      refine j_iadd hC (pc := 52) dX10_lengthen_52 ?_
      refine j_iload hC (pc := 53) dX10_lengthen_53 5 rfl ?_
      refine j_iload hC (pc := 55) dX10_lengthen_55 6 rfl ?_
      refine j_iload_n hC (pc := 57) dX10_lengthen_57 3 rfl rfl ?_
      refine j_imul hC (pc := 58) dX10_lengthen_58 ?_
      refine j_iadd hC (pc := 59) dX10_lengthen_59 ?_
      refine j_iast hC (pc := 60) dX10_lengthen_60 hr0 nr0 (fun κ4 => ?_)
      refine j_iinc hC (pc := 61) dX10_lengthen_61 6 rfl ki_m1 (Nat.le_of_ble_eq_true rfl) (loc' := [(6, .int (v6 + (-1))), (0, .ref (gad Γ r0)), (1, .int v1), (2, .int v2), (3, .int v3), (4, .int v4), (5, .int v5)]) rfl ?_
      refine j_goto hC (pc := 64) dX10_lengthen_64 (tgt := 40) rfl ?_
      refine j_sub [1, 2, 3, 4, 5, 6, 0] (loc' := [(0, .ref (gad Γ r0)), (1, .int v1), (2, .int v2), (3, .int v3), (4, .int v4), (5, .int v5), (6, .int (v6 + (-1)))]) rfl ?_
      exact ih κ4 (v6 + (-1))
set_option maxRecDepth 20000 in
theorem wX10_lengthen_24 {Γ : JCtx} (hC : jC Γ cX10_lengthen 7 RX10 (some .int) layX 147) (hR : gR Γ = rmH 0) (hm : gcells Γ ≤ (gR Γ).cells ∧ gslots Γ ≤ (gR Γ).slots) (r0 : Nat) (hr0 : layX r0 = kIA (lenX r0)) (nr0 : r0 < 147) (F : Nat) (v1 : Int32) (v2 : Int32) (v3 : Int32) : ∀ (n : Nat) (κ : Mem) (v4 : Int32), JP Γ (qf Γ oE) (pX10_lengthen_24 F r0 v1 v2 v3 n κ v4) κ 24 [(0, .ref (gad Γ r0)), (1, .int v1), (2, .int v2), (3, .int v3), (4, .int v4)] [] := by
  intro n
  induction n with
  | zero =>
    intro κ v4
    rw [pX10_lengthen_24]
    exact j_none
  | succ fu ih =>
    intro κ v4
    rw [pX10_lengthen_24]
    refine j_iload hC (pc := 24) dX10_lengthen_24 4 rfl ?_
    refine j_if_lt hC (pc := 26) dX10_lengthen_26 (tgt := 73) rfl ?_ ?_
    · refine j_iload_n hC (pc := 73) dX10_lengthen_73 1 rfl rfl ?_
      refine j_iload_n hC (pc := 74) dX10_lengthen_74 2 rfl rfl ?_
      refine j_imul hC (pc := 75) dX10_lengthen_75 ?_
      exact j_iret hC (pc := 76) dX10_lengthen_76 rfl rfl rfl
    · refine j_aload_n hC (pc := 29) dX10_lengthen_29 0 rfl rfl ?_
      refine j_iload hC (pc := 30) dX10_lengthen_30 4 rfl ?_
      refine j_iald hC (pc := 32) dX10_lengthen_32 hr0 nr0 ?_
      refine j_nmi (fun x2 => ?_)
      refine j_istore hC (pc := 33) dX10_lengthen_33 (Nat.le_of_ble_eq_true rfl) (loc' := [(5, .int x2), (0, .ref (gad Γ r0)), (1, .int v1), (2, .int v2), (3, .int v3), (4, .int v4)]) rfl ?_
      refine j_iload_n hC (pc := 35) dX10_lengthen_35 3 rfl rfl ?_
      refine j_iconst hC (pc := 36) dX10_lengthen_36 ki_1 ?_
      refine j_isub hC (pc := 37) dX10_lengthen_37 ?_
      refine j_nmi (fun x3 => ?_)
      refine j_istore hC (pc := 38) dX10_lengthen_38 (Nat.le_of_ble_eq_true rfl) (loc' := [(6, .int x3), (5, .int x2), (0, .ref (gad Γ r0)), (1, .int v1), (2, .int v2), (3, .int v3), (4, .int v4)]) rfl ?_
      refine j_sub [2, 3, 4, 5, 6, 1, 0] (loc' := [(0, .ref (gad Γ r0)), (1, .int v1), (2, .int v2), (3, .int v3), (4, .int v4), (5, .int x2), (6, .int x3)]) rfl ?_
      exact wX10_lengthen_40 hC hR hm r0 hr0 nr0 F v1 v2 v3 v4 x2 (pX10_lengthen_24 F r0 v1 v2 v3 fu) ih F κ x3
set_option maxRecDepth 20000 in
theorem wX10_lengthen {Γ : JCtx} (hC : jC Γ cX10_lengthen 7 RX10 (some .int) layX 147) (hR : gR Γ = rmH 0) (hm : gcells Γ ≤ (gR Γ).cells ∧ gslots Γ ≤ (gR Γ).slots) (r0 : Nat) (hr0 : layX r0 = kIA (lenX r0)) (nr0 : r0 < 147) (F : Nat) (κ : Mem) (v1 : Int32) (v2 : Int32) (v3 : Int32) : JP Γ (qf Γ oE) (pX10_lengthen F r0 κ v1 v2 v3) κ 0 [(0, .ref (gad Γ r0)), (1, .int v1), (2, .int v2), (3, .int v3)] [] := by
  unfold pX10_lengthen
  refine j_iload_n hC (pc := 0) dX10_lengthen_0 1 rfl rfl ?_
  refine j_if_lt hC (pc := 1) dX10_lengthen_1 (tgt := 17) rfl ?_ ?_
  · refine j_sub [1] (loc' := [(1, .int v1)]) rfl ?_
    exact wX10_lengthen_17 hC hR hm r0 hr0 nr0 F κ v1
  · refine j_iload_n hC (pc := 4) dX10_lengthen_4 2 rfl rfl ?_
    refine j_iconst hC (pc := 5) dX10_lengthen_5 ki_1 ?_
    refine j_icmp_lt hC (pc := 6) dX10_lengthen_6 (tgt := 17) rfl ?_ ?_
    · refine j_sub [1] (loc' := [(1, .int v1)]) rfl ?_
      exact wX10_lengthen_17 hC hR hm r0 hr0 nr0 F κ v1
    · refine j_iload_n hC (pc := 9) dX10_lengthen_9 1 rfl rfl ?_
      refine j_iload_n hC (pc := 10) dX10_lengthen_10 2 rfl rfl ?_
      refine j_imul hC (pc := 11) dX10_lengthen_11 ?_
      refine j_aload_n hC (pc := 12) dX10_lengthen_12 0 rfl rfl ?_
      refine j_alenI hC (pc := 13) dX10_lengthen_13 hr0 nr0 rfl ?_
      refine j_icmp_le hC (pc := 14) dX10_lengthen_14 (tgt := 19) rfl ?_ ?_
      · refine j_iload_n hC (pc := 19) dX10_lengthen_19 1 rfl rfl ?_
        refine j_iconst hC (pc := 20) dX10_lengthen_20 ki_1 ?_
        refine j_isub hC (pc := 21) dX10_lengthen_21 ?_
        refine j_nmi (fun x1 => ?_)
        refine j_istore hC (pc := 22) dX10_lengthen_22 (Nat.le_of_ble_eq_true rfl) (loc' := [(4, .int x1), (0, .ref (gad Γ r0)), (1, .int v1), (2, .int v2), (3, .int v3)]) rfl ?_
        refine j_sub [1, 2, 3, 4, 0] (loc' := [(0, .ref (gad Γ r0)), (1, .int v1), (2, .int v2), (3, .int v3), (4, .int x1)]) rfl ?_
        exact wX10_lengthen_24 hC hR hm r0 hr0 nr0 F v1 v2 v3 F κ x1
      · refine j_sub [1] (loc' := [(1, .int v1)]) rfl ?_
        exact wX10_lengthen_17 hC hR hm r0 hr0 nr0 F κ v1
theorem ctX10_lengthen {Δ : DCtx} {l : Launch} (hl : dlay Δ = layX) (hN : dN Δ = 147) (r0 : Nat) (hr0 : layX r0 = kIA (lenX r0)) (nr0 : r0 < 147) (F : Nat) (κ : Mem) (v1 : Int32) (v2 : Int32) (v3 : Int32) : ∀ r, pX10_lengthen F r0 κ v1 v2 v3 = some r → CT Δ l yX10_lengthen cX10_lengthen 7 (some .int) (rmH 0) [.ref (dad Δ r0), .int v1, .int v2, .int v3] κ (some (.int r.1)) r.2 :=
  ct_of (nL := 7) (ret := (some .int)) (lay := layX) (N := 147) (by decide +kernel) (fun Δ => [.ref (dad Δ r0), .int v1, .int v2, .int v3]) (fun _ => oE) (fun _ => (Nat.le_of_ble_eq_true rfl)) (fun Γ hR hm hC => wX10_lengthen hC hR hm r0 hr0 nr0 F κ v1 v2 v3) Δ l hl hN
set_option maxRecDepth 20000 in
theorem wX2_copy {Γ : JCtx} (hC : jC Γ cX2_copy 2 RX2 none layX 147) (hR : gR Γ = rmH 1) (hm : gcells Γ ≤ (gR Γ).cells ∧ gslots Γ ≤ (gR Γ).slots) (g : Nat) (hg : isG g) (g1 : Nat) (hg1 : isG g1) (κ : Mem) : JP Γ (qf Γ oV) (pX2_copy g g1 κ) κ 0 [(0, .ref (gad Γ g)), (1, .ref (gad Γ g1))] [] := by
  unfold pX2_copy
  refine j_aload_n hC (pc := 0) dX2_copy_0 0 rfl rfl ?_
  refine j_aload_n hC (pc := 1) dX2_copy_1 1 rfl rfl ?_
  refine j_getI hC (pc := 2) dX2_copy_2 kf_RX2_22 (isG_o hg1) (isG_N hg1) rfl ?_
  refine j_putI hC (pc := 5) dX2_copy_5 kp_RX2_22 (isG_o hg) (isG_N hg) rfl rfl rfl (fun κ1 => ?_)
  refine j_aload_n hC (pc := 8) dX2_copy_8 1 rfl rfl ?_
  refine j_getR hC (pc := 9) dX2_copy_9 kf_RX2_11 (isG_o hg1) (isG_N hg1) rfl ?_
  refine j_iconst hC (pc := 12) dX2_copy_12 ki_0 ?_
  refine j_aload_n hC (pc := 13) dX2_copy_13 0 rfl rfl ?_
  refine j_getR hC (pc := 14) dX2_copy_14 kf_RX2_11 (isG_o hg) (isG_N hg) rfl ?_
  refine j_iconst hC (pc := 17) dX2_copy_17 ki_0 ?_
  refine j_bipush hC (pc := 18) dX2_copy_18 kb_6 ?_
  refine j_copyI hC hR kc_RX2_26 (Nat.le_of_ble_eq_true rfl) (isG_1' hg1) (isG_N1 hg1) (isG_1' hg) (isG_N1 hg) hm (pc := 20) dX2_copy_20 (fun κ2 => ?_)
  refine j_aload_n hC (pc := 23) dX2_copy_23 1 rfl rfl ?_
  refine j_getR hC (pc := 24) dX2_copy_24 kf_RX2_15 (isG_o hg1) (isG_N hg1) rfl ?_
  refine j_iconst hC (pc := 27) dX2_copy_27 ki_0 ?_
  refine j_aload_n hC (pc := 28) dX2_copy_28 0 rfl rfl ?_
  refine j_getR hC (pc := 29) dX2_copy_29 kf_RX2_15 (isG_o hg) (isG_N hg) rfl ?_
  refine j_iconst hC (pc := 32) dX2_copy_32 ki_0 ?_
  refine j_bipush hC (pc := 33) dX2_copy_33 kb_6 ?_
  refine j_copyI hC hR kc_RX2_26 (Nat.le_of_ble_eq_true rfl) (isG_2' hg1) (isG_N2 hg1) (isG_2' hg) (isG_N2 hg) hm (pc := 35) dX2_copy_35 (fun κ3 => ?_)
  refine j_aload_n hC (pc := 38) dX2_copy_38 1 rfl rfl ?_
  refine j_getR hC (pc := 39) dX2_copy_39 kf_RX2_18 (isG_o hg1) (isG_N hg1) rfl ?_
  refine j_iconst hC (pc := 42) dX2_copy_42 ki_0 ?_
  refine j_aload_n hC (pc := 43) dX2_copy_43 0 rfl rfl ?_
  refine j_getR hC (pc := 44) dX2_copy_44 kf_RX2_18 (isG_o hg) (isG_N hg) rfl ?_
  refine j_iconst hC (pc := 47) dX2_copy_47 ki_0 ?_
  refine j_aload_n hC (pc := 48) dX2_copy_48 0 rfl rfl ?_
  refine j_getR hC (pc := 49) dX2_copy_49 kf_RX2_18 (isG_o hg) (isG_N hg) rfl ?_
  refine j_alenL hC (pc := 52) dX2_copy_52 (isG_3' hg) (isG_N3 hg) rfl ?_
  refine j_copyL hC hR kc_RX2_26 (Nat.le_of_ble_eq_true rfl) (isG_3' hg1) (isG_N3 hg1) (isG_3' hg) (isG_N3 hg) hm (pc := 53) dX2_copy_53 (fun κ4 => ?_)
  exact j_vret hC (pc := 56) dX2_copy_56 rfl rfl
theorem ctX2_copy {Δ : DCtx} {l : Launch} (hl : dlay Δ = layX) (hN : dN Δ = 147) (g : Nat) (hg : isG g) (g1 : Nat) (hg1 : isG g1) (κ : Mem) : ∀ r, pX2_copy g g1 κ = some r → CT Δ l yX2_copy cX2_copy 2 none (rmH 1) [.ref (dad Δ g), .ref (dad Δ g1)] κ none r :=
  ct_of (nL := 2) (ret := none) (lay := layX) (N := 147) (by decide +kernel) (fun Δ => [.ref (dad Δ g), .ref (dad Δ g1)]) (fun _ => oV) (fun _ => (Nat.le_of_ble_eq_true rfl)) (fun Γ hR hm hC => wX2_copy hC hR hm g hg g1 hg1 κ) Δ l hl hN
set_option maxRecDepth 20000 in
theorem wX2_weight_19 {Γ : JCtx} (hC : jC Γ cX2_weight 3 RX2 (some .int) layX 147) (hR : gR Γ = rmH 1) (hm : gcells Γ ≤ (gR Γ).cells ∧ gslots Γ ≤ (gR Γ).slots) (g : Nat) (hg : isG g) (F : Nat) (κ : Mem) (y0 : Int32) : JP Γ (qf Γ (oI κ)) (pX2_weight_19 F g κ y0) κ 19 [] [.int y0] := by
  unfold pX2_weight_19
  exact j_iret hC (pc := 19) dX2_weight_19 rfl rfl rfl
set_option maxRecDepth 20000 in
theorem wX2_weight {Γ : JCtx} (hC : jC Γ cX2_weight 3 RX2 (some .int) layX 147) (hR : gR Γ = rmH 1) (hm : gcells Γ ≤ (gR Γ).cells ∧ gslots Γ ≤ (gR Γ).slots) (g : Nat) (hg : isG g) (F : Nat) (κ : Mem) (v1 : Int32) (v2 : Int32) : JP Γ (qf Γ (oI κ)) (pX2_weight F g κ v1 v2) κ 0 [(0, .ref (gad Γ g)), (1, .int v1), (2, .int v2)] [] := by
  unfold pX2_weight
  refine j_aload_n hC (pc := 0) dX2_weight_0 0 rfl rfl ?_
  refine j_iload_n hC (pc := 1) dX2_weight_1 1 rfl rfl ?_
  refine j_iload_n hC (pc := 2) dX2_weight_2 2 rfl rfl ?_
  refine j_callV_I hC hR (ctX2_watches hC.l hC.cn g hg κ v1 v2) kc_RX2_36 (Nat.le_of_ble_eq_true rfl) (Nat.le_of_ble_eq_true rfl) (isG_o hg) (isG_N hg) rfl (As := [.int v1, .int v2]) (rest := []) rfl rfl (Nat.le_of_ble_eq_true rfl) hm (pc := 3) dX2_weight_3 (fun t1 => ?_)
  refine j_if_eq hC (pc := 6) dX2_weight_6 (tgt := 18) rfl ?_ ?_
  · refine j_iconst hC (pc := 18) dX2_weight_18 ki_0 ?_
    refine j_sub [] (loc' := []) rfl ?_
    exact wX2_weight_19 hC hR hm g hg F κ 0
  · refine j_aload_n hC (pc := 9) dX2_weight_9 0 rfl rfl ?_
    refine j_iload_n hC (pc := 10) dX2_weight_10 1 rfl rfl ?_
    refine j_iload_n hC (pc := 11) dX2_weight_11 2 rfl rfl ?_
    refine j_callV_I hC hR (ctX2_weightBehind hC.l hC.cn g hg F κ v1 v2) kc_RX2_32 (Nat.le_of_ble_eq_true rfl) (Nat.le_of_ble_eq_true rfl) (isG_o hg) (isG_N hg) rfl (As := [.int v1, .int v2]) (rest := []) rfl rfl (Nat.le_of_ble_eq_true rfl) hm (pc := 12) dX2_weight_12 (fun t2 => ?_)
    refine j_goto hC (pc := 15) dX2_weight_15 (tgt := 19) rfl ?_
    refine j_sub [] (loc' := []) rfl ?_
    exact wX2_weight_19 hC hR hm g hg F κ t2
theorem ctX2_weight {Δ : DCtx} {l : Launch} (hl : dlay Δ = layX) (hN : dN Δ = 147) (g : Nat) (hg : isG g) (F : Nat) (κ : Mem) (v1 : Int32) (v2 : Int32) : ∀ r, pX2_weight F g κ v1 v2 = some r → CT Δ l yX2_weight cX2_weight 3 (some .int) (rmH 1) [.ref (dad Δ g), .int v1, .int v2] κ (some (.int r)) κ :=
  ct_of (nL := 3) (ret := (some .int)) (lay := layX) (N := 147) (by decide +kernel) (fun Δ => [.ref (dad Δ g), .int v1, .int v2]) (fun _ => oI κ) (fun _ => (Nat.le_of_ble_eq_true rfl)) (fun Γ hR hm hC => wX2_weight hC hR hm g hg F κ v1 v2) Δ l hl hN
set_option maxRecDepth 20000 in
theorem wX2_told_27 {Γ : JCtx} (hC : jC Γ cX2_told 4 RX2 (some .int) layX 147) (hR : gR Γ = rmH 0) (hm : gcells Γ ≤ (gR Γ).cells ∧ gslots Γ ≤ (gR Γ).slots) (g : Nat) (hg : isG g) (κ : Mem) : JP Γ (qf Γ (oI κ)) (pX2_told_27 g κ) κ 27 [] [] := by
  unfold pX2_told_27
  refine j_iconst hC (pc := 27) dX2_told_27 ki_0 ?_
  exact j_iret hC (pc := 28) dX2_told_28 rfl rfl rfl
set_option maxRecDepth 20000 in
theorem wX2_told {Γ : JCtx} (hC : jC Γ cX2_told 4 RX2 (some .int) layX 147) (hR : gR Γ = rmH 0) (hm : gcells Γ ≤ (gR Γ).cells ∧ gslots Γ ≤ (gR Γ).slots) (g : Nat) (hg : isG g) (κ : Mem) (v1 : Int32) (v2 : Int32) : JP Γ (qf Γ (oI κ)) (pX2_told g κ v1 v2) κ 0 [(0, .ref (gad Γ g)), (1, .int v1), (2, .int v2)] [] := by
  unfold pX2_told
  refine j_iload_n hC (pc := 0) dX2_told_0 1 rfl rfl ?_
  refine j_bipush hC (pc := 1) dX2_told_1 kb_32 ?_
  refine j_imul hC (pc := 3) dX2_told_3 ?_
  refine j_iload_n hC (pc := 4) dX2_told_4 2 rfl rfl ?_
  refine j_bipush hC (pc := 5) dX2_told_5 kb_32 ?_
  refine j_idiv hC (pc := 7) dX2_told_7 ?_
  refine j_iadd hC (pc := 8) dX2_told_8 ?_
  refine j_nmi (fun x1 => ?_)
  refine j_istore_n hC (pc := 9) dX2_told_9 rfl (Nat.le_of_ble_eq_true rfl) (loc' := [(3, .int x1), (0, .ref (gad Γ g)), (1, .int v1), (2, .int v2)]) rfl ?_
  refine j_iload_n hC (pc := 10) dX2_told_10 3 rfl rfl ?_
  refine j_if_lt hC (pc := 11) dX2_told_11 (tgt := 27) rfl ?_ ?_
  · refine j_sub [] (loc' := []) rfl ?_
    exact wX2_told_27 hC hR hm g hg κ
  · refine j_iload_n hC (pc := 14) dX2_told_14 0 rfl rfl ?_
    refine j_if_lt hC (pc := 15) dX2_told_15 (tgt := 27) rfl ?_ ?_
    · refine j_sub [] (loc' := []) rfl ?_
      exact wX2_told_27 hC hR hm g hg κ
    · refine j_iload_n hC (pc := 18) dX2_told_18 0 rfl rfl ?_
      refine j_aload_n hC (pc := 19) dX2_told_19 1 rfl rfl ?_
      refine j_getR hC (pc := 20) dX2_told_20 kf_RX2_18 (isG_o hg) (isG_N hg) rfl ?_
      refine j_alenL hC (pc := 23) dX2_told_23 (isG_3' hg) (isG_N3 hg) rfl ?_
      refine j_icmp_lt hC (pc := 24) dX2_told_24 (tgt := 29) rfl ?_ ?_
      · refine j_aload_n hC (pc := 29) dX2_told_29 1 rfl rfl ?_
        refine j_getR hC (pc := 30) dX2_told_30 kf_RX2_18 (isG_o hg) (isG_N hg) rfl ?_
        refine j_iload_n hC (pc := 33) dX2_told_33 0 rfl rfl ?_
        refine j_lald hC (pc := 34) dX2_told_34 (isG_3' hg) (isG_N3 hg) ?_
        refine j_iconst hC (pc := 35) dX2_told_35 ki_2 ?_
        refine j_iload_n hC (pc := 36) dX2_told_36 3 rfl rfl ?_
        refine j_bipush hC (pc := 37) dX2_told_37 kb_32 ?_
        refine j_irem hC (pc := 39) dX2_told_39 ?_
        refine j_imul hC (pc := 40) dX2_told_40 ?_
        refine j_lushr hC (pc := 41) dX2_told_41 ?_
        refine j_l2i hC (pc := 42) dX2_told_42 ?_
        refine j_iconst hC (pc := 43) dX2_told_43 ki_3 ?_
        refine j_iand hC (pc := 44) dX2_told_44 ?_
        exact j_iret hC (pc := 45) dX2_told_45 rfl rfl rfl
      · refine j_sub [] (loc' := []) rfl ?_
        exact wX2_told_27 hC hR hm g hg κ
theorem ctX2_told {Δ : DCtx} {l : Launch} (hl : dlay Δ = layX) (hN : dN Δ = 147) (g : Nat) (hg : isG g) (κ : Mem) (v1 : Int32) (v2 : Int32) : ∀ r, pX2_told g κ v1 v2 = some r → CT Δ l yX2_told cX2_told 4 (some .int) (rmH 0) [.ref (dad Δ g), .int v1, .int v2] κ (some (.int r)) κ :=
  ct_of (nL := 4) (ret := (some .int)) (lay := layX) (N := 147) (by decide +kernel) (fun Δ => [.ref (dad Δ g), .int v1, .int v2]) (fun _ => oI κ) (fun _ => (Nat.le_of_ble_eq_true rfl)) (fun Γ hR hm hC => wX2_told hC hR hm g hg κ v1 v2) Δ l hl hN
set_option maxRecDepth 20000 in
theorem wX2_seenBy_32 {Γ : JCtx} (hC : jC Γ cX2_seenBy 4 RX2 (some .int) layX 147) (hR : gR Γ = rmH 0) (hm : gcells Γ ≤ (gR Γ).cells ∧ gslots Γ ≤ (gR Γ).slots) (g : Nat) (hg : isG g) (F : Nat) (κ : Mem) (v1 : Int32) (v2 : Int32) (v3 : Int32) (k4 : Int32 → Int32 → Option Int32) (hk4 : ∀ (v2 : Int32) (v3 : Int32), JP Γ (qf Γ (oI κ)) (k4 v2 v3) κ 4 [(0, .ref (gad Γ g)), (1, .int v1), (2, .int v2), (3, .int v3)] []) : JP Γ (qf Γ (oI κ)) (pX2_seenBy_32 F g κ k4 v1 v2 v3) κ 32 [(0, .ref (gad Γ g)), (1, .int v1), (2, .int v2), (3, .int v3)] [] := by
  unfold pX2_seenBy_32
  refine j_iinc hC (pc := 32) dX2_seenBy_32 3 rfl ki_1 (Nat.le_of_ble_eq_true rfl) (loc' := [(3, .int (v3 + 1)), (0, .ref (gad Γ g)), (1, .int v1), (2, .int v2)]) rfl ?_
  refine j_goto hC (pc := 35) dX2_seenBy_35 (tgt := 4) rfl ?_
  refine j_sub [1, 2, 3, 0] (loc' := [(0, .ref (gad Γ g)), (1, .int v1), (2, .int v2), (3, .int (v3 + 1))]) rfl ?_
  exact hk4 v2 (v3 + 1)
set_option maxRecDepth 20000 in
theorem wX2_seenBy_4 {Γ : JCtx} (hC : jC Γ cX2_seenBy 4 RX2 (some .int) layX 147) (hR : gR Γ = rmH 0) (hm : gcells Γ ≤ (gR Γ).cells ∧ gslots Γ ≤ (gR Γ).slots) (g : Nat) (hg : isG g) (F : Nat) (κ : Mem) (v1 : Int32) : ∀ (n : Nat) (v2 : Int32) (v3 : Int32), JP Γ (qf Γ (oI κ)) (pX2_seenBy_4 F g κ v1 n v2 v3) κ 4 [(0, .ref (gad Γ g)), (1, .int v1), (2, .int v2), (3, .int v3)] [] := by
  intro n
  induction n with
  | zero =>
    intro v2 v3
    rw [pX2_seenBy_4]
    exact j_none
  | succ fu ih =>
    intro v2 v3
    rw [pX2_seenBy_4]
    refine j_iload_n hC (pc := 4) dX2_seenBy_4 3 rfl rfl ?_
    refine j_aload_n hC (pc := 5) dX2_seenBy_5 0 rfl rfl ?_
    refine j_getI hC (pc := 6) dX2_seenBy_6 kf_RX2_22 (isG_o hg) (isG_N hg) rfl ?_
    refine j_icmp_ge hC (pc := 9) dX2_seenBy_9 (tgt := 38) rfl ?_ ?_
    · refine j_aload_n hC (pc := 12) dX2_seenBy_12 0 rfl rfl ?_
      refine j_getR hC (pc := 13) dX2_seenBy_13 kf_RX2_15 (isG_o hg) (isG_N hg) rfl ?_
      refine j_iload_n hC (pc := 16) dX2_seenBy_16 3 rfl rfl ?_
      refine j_iald hC (pc := 17) dX2_seenBy_17 (isG_2' hg) (isG_N2 hg) ?_
      refine j_iload_n hC (pc := 18) dX2_seenBy_18 1 rfl rfl ?_
      refine j_ishr hC (pc := 19) dX2_seenBy_19 ?_
      refine j_iconst hC (pc := 20) dX2_seenBy_20 ki_1 ?_
      refine j_iand hC (pc := 21) dX2_seenBy_21 ?_
      refine j_iconst hC (pc := 22) dX2_seenBy_22 ki_1 ?_
      refine j_icmp_ne hC (pc := 23) dX2_seenBy_23 (tgt := 32) rfl ?_ ?_
      · refine j_iload_n hC (pc := 26) dX2_seenBy_26 2 rfl rfl ?_
        refine j_iconst hC (pc := 27) dX2_seenBy_27 ki_1 ?_
        refine j_iload_n hC (pc := 28) dX2_seenBy_28 3 rfl rfl ?_
        refine j_ishl hC (pc := 29) dX2_seenBy_29 ?_
        refine j_ior hC (pc := 30) dX2_seenBy_30 ?_
        refine j_nmi (fun x1 => ?_)
        refine j_istore_n hC (pc := 31) dX2_seenBy_31 rfl (Nat.le_of_ble_eq_true rfl) (loc' := [(2, .int x1), (0, .ref (gad Γ g)), (1, .int v1), (3, .int v3)]) rfl ?_
        refine j_sub [1, 2, 0, 3] (loc' := [(0, .ref (gad Γ g)), (1, .int v1), (2, .int x1), (3, .int v3)]) rfl ?_
        exact wX2_seenBy_32 hC hR hm g hg F κ v1 x1 v3 (pX2_seenBy_4 F g κ v1 fu) ih
      · exact wX2_seenBy_32 hC hR hm g hg F κ v1 v2 v3 (pX2_seenBy_4 F g κ v1 fu) ih
    · refine j_iload_n hC (pc := 38) dX2_seenBy_38 2 rfl rfl ?_
      exact j_iret hC (pc := 39) dX2_seenBy_39 rfl rfl rfl
set_option maxRecDepth 20000 in
theorem wX2_seenBy {Γ : JCtx} (hC : jC Γ cX2_seenBy 4 RX2 (some .int) layX 147) (hR : gR Γ = rmH 0) (hm : gcells Γ ≤ (gR Γ).cells ∧ gslots Γ ≤ (gR Γ).slots) (g : Nat) (hg : isG g) (F : Nat) (κ : Mem) (v1 : Int32) : JP Γ (qf Γ (oI κ)) (pX2_seenBy F g κ v1) κ 0 [(0, .ref (gad Γ g)), (1, .int v1)] [] := by
  unfold pX2_seenBy
  refine j_iconst hC (pc := 0) dX2_seenBy_0 ki_0 ?_
  refine j_istore_n hC (pc := 1) dX2_seenBy_1 rfl (Nat.le_of_ble_eq_true rfl) (loc' := [(2, .int 0), (0, .ref (gad Γ g)), (1, .int v1)]) rfl ?_
  refine j_iconst hC (pc := 2) dX2_seenBy_2 ki_0 ?_
  refine j_istore_n hC (pc := 3) dX2_seenBy_3 rfl (Nat.le_of_ble_eq_true rfl) (loc' := [(3, .int 0), (2, .int 0), (0, .ref (gad Γ g)), (1, .int v1)]) rfl ?_
  refine j_sub [2, 3, 1, 0] (loc' := [(0, .ref (gad Γ g)), (1, .int v1), (2, .int 0), (3, .int 0)]) rfl ?_
  exact wX2_seenBy_4 hC hR hm g hg F κ v1 F 0 0
theorem ctX2_seenBy {Δ : DCtx} {l : Launch} (hl : dlay Δ = layX) (hN : dN Δ = 147) (g : Nat) (hg : isG g) (F : Nat) (κ : Mem) (v1 : Int32) : ∀ r, pX2_seenBy F g κ v1 = some r → CT Δ l yX2_seenBy cX2_seenBy 4 (some .int) (rmH 0) [.ref (dad Δ g), .int v1] κ (some (.int r)) κ :=
  ct_of (nL := 4) (ret := (some .int)) (lay := layX) (N := 147) (by decide +kernel) (fun Δ => [.ref (dad Δ g), .int v1]) (fun _ => oI κ) (fun _ => (Nat.le_of_ble_eq_true rfl)) (fun Γ hR hm hC => wX2_seenBy hC hR hm g hg F κ v1) Δ l hl hN
set_option maxRecDepth 20000 in
theorem wX2_timesTold_33 {Γ : JCtx} (hC : jC Γ cX2_timesTold 6 RX2 (some .int) layX 147) (hR : gR Γ = rmH 2) (hm : gcells Γ ≤ (gR Γ).cells ∧ gslots Γ ≤ (gR Γ).slots) (g : Nat) (hg : isG g) (F : Nat) (κ : Mem) (v1 : Int32) (v2 : Int32) (v3 : Int32) (v4 : Int32) (v5 : Int32) (k12 : Int32 → Int32 → Option Int32) (hk12 : ∀ (v3 : Int32) (v5 : Int32), JP Γ (qf Γ (oI κ)) (k12 v3 v5) κ 12 [(0, .ref (gad Γ g)), (1, .int v1), (2, .int v2), (3, .int v3), (4, .int v4), (5, .int v5)] []) : JP Γ (qf Γ (oI κ)) (pX2_timesTold_33 F g κ k12 v1 v2 v3 v4 v5) κ 33 [(0, .ref (gad Γ g)), (1, .int v1), (2, .int v2), (3, .int v3), (4, .int v4), (5, .int v5)] [] := by
  unfold pX2_timesTold_33
  refine j_iinc hC (pc := 33) dX2_timesTold_33 5 rfl ki_1 (Nat.le_of_ble_eq_true rfl) (loc' := [(5, .int (v5 + 1)), (0, .ref (gad Γ g)), (1, .int v1), (2, .int v2), (3, .int v3), (4, .int v4)]) rfl ?_
  refine j_goto hC (pc := 36) dX2_timesTold_36 (tgt := 12) rfl ?_
  refine j_sub [1, 2, 3, 4, 5, 0] (loc' := [(0, .ref (gad Γ g)), (1, .int v1), (2, .int v2), (3, .int v3), (4, .int v4), (5, .int (v5 + 1))]) rfl ?_
  exact hk12 v3 (v5 + 1)
set_option maxRecDepth 20000 in
theorem wX2_timesTold_12 {Γ : JCtx} (hC : jC Γ cX2_timesTold 6 RX2 (some .int) layX 147) (hR : gR Γ = rmH 2) (hm : gcells Γ ≤ (gR Γ).cells ∧ gslots Γ ≤ (gR Γ).slots) (g : Nat) (hg : isG g) (F : Nat) (κ : Mem) (v1 : Int32) (v2 : Int32) (v4 : Int32) : ∀ (n : Nat) (v3 : Int32) (v5 : Int32), JP Γ (qf Γ (oI κ)) (pX2_timesTold_12 F g κ v1 v2 v4 n v3 v5) κ 12 [(0, .ref (gad Γ g)), (1, .int v1), (2, .int v2), (3, .int v3), (4, .int v4), (5, .int v5)] [] := by
  intro n
  induction n with
  | zero =>
    intro v3 v5
    rw [pX2_timesTold_12]
    exact j_none
  | succ fu ih =>
    intro v3 v5
    rw [pX2_timesTold_12]
    refine j_iload hC (pc := 12) dX2_timesTold_12 5 rfl ?_
    refine j_iload hC (pc := 14) dX2_timesTold_14 4 rfl ?_
    refine j_icmp_ge hC (pc := 16) dX2_timesTold_16 (tgt := 39) rfl ?_ ?_
    · refine j_aload_n hC (pc := 19) dX2_timesTold_19 0 rfl rfl ?_
      refine j_iload_n hC (pc := 20) dX2_timesTold_20 1 rfl rfl ?_
      refine j_iload hC (pc := 21) dX2_timesTold_21 5 rfl ?_
      refine j_callV_I hC hR (ctX2_told hC.l hC.cn g hg κ v1 v5) kc_RX2_48 (Nat.le_of_ble_eq_true rfl) (Nat.le_of_ble_eq_true rfl) (isG_o hg) (isG_N hg) rfl (As := [.int v1, .int v5]) (rest := []) rfl rfl (Nat.le_of_ble_eq_true rfl) hm (pc := 23) dX2_timesTold_23 (fun t2 => ?_)
      refine j_iload_n hC (pc := 26) dX2_timesTold_26 2 rfl rfl ?_
      refine j_icmp_ne hC (pc := 27) dX2_timesTold_27 (tgt := 33) rfl ?_ ?_
      · refine j_iinc hC (pc := 30) dX2_timesTold_30 3 rfl ki_1 (Nat.le_of_ble_eq_true rfl) (loc' := [(3, .int (v3 + 1)), (0, .ref (gad Γ g)), (1, .int v1), (2, .int v2), (4, .int v4), (5, .int v5)]) rfl ?_
        refine j_sub [1, 2, 3, 0, 4, 5] (loc' := [(0, .ref (gad Γ g)), (1, .int v1), (2, .int v2), (3, .int (v3 + 1)), (4, .int v4), (5, .int v5)]) rfl ?_
        exact wX2_timesTold_33 hC hR hm g hg F κ v1 v2 (v3 + 1) v4 v5 (pX2_timesTold_12 F g κ v1 v2 v4 fu) ih
      · exact wX2_timesTold_33 hC hR hm g hg F κ v1 v2 v3 v4 v5 (pX2_timesTold_12 F g κ v1 v2 v4 fu) ih
    · refine j_iload_n hC (pc := 39) dX2_timesTold_39 3 rfl rfl ?_
      exact j_iret hC (pc := 40) dX2_timesTold_40 rfl rfl rfl
set_option maxRecDepth 20000 in
theorem wX2_timesTold {Γ : JCtx} (hC : jC Γ cX2_timesTold 6 RX2 (some .int) layX 147) (hR : gR Γ = rmH 2) (hm : gcells Γ ≤ (gR Γ).cells ∧ gslots Γ ≤ (gR Γ).slots) (g : Nat) (hg : isG g) (F : Nat) (κ : Mem) (v1 : Int32) (v2 : Int32) : JP Γ (qf Γ (oI κ)) (pX2_timesTold F g κ v1 v2) κ 0 [(0, .ref (gad Γ g)), (1, .int v1), (2, .int v2)] [] := by
  unfold pX2_timesTold
  refine j_iconst hC (pc := 0) dX2_timesTold_0 ki_0 ?_
  refine j_istore_n hC (pc := 1) dX2_timesTold_1 rfl (Nat.le_of_ble_eq_true rfl) (loc' := [(3, .int 0), (0, .ref (gad Γ g)), (1, .int v1), (2, .int v2)]) rfl ?_
  refine j_aload_n hC (pc := 2) dX2_timesTold_2 1 rfl rfl ?_
  refine j_iload_n hC (pc := 3) dX2_timesTold_3 2 rfl rfl ?_
  refine j_callV_I hC hR (ctX2_situations hC.l hC.cn g hg F κ v1) kc_RX2_44 (Nat.le_of_ble_eq_true rfl) (Nat.le_of_ble_eq_true rfl) (isG_o hg) (isG_N hg) rfl (As := [.int v1]) (rest := []) rfl rfl (Nat.le_of_ble_eq_true rfl) hm (pc := 4) dX2_timesTold_4 (fun t1 => ?_)
  refine j_istore hC (pc := 7) dX2_timesTold_7 (Nat.le_of_ble_eq_true rfl) (loc' := [(4, .int t1), (3, .int 0), (0, .ref (gad Γ g)), (1, .int v1), (2, .int v2)]) rfl ?_
  refine j_iconst hC (pc := 9) dX2_timesTold_9 ki_0 ?_
  refine j_istore hC (pc := 10) dX2_timesTold_10 (Nat.le_of_ble_eq_true rfl) (loc' := [(5, .int 0), (4, .int t1), (3, .int 0), (0, .ref (gad Γ g)), (1, .int v1), (2, .int v2)]) rfl ?_
  refine j_sub [3, 4, 5, 2, 1, 0] (loc' := [(0, .ref (gad Γ g)), (1, .int v1), (2, .int v2), (3, .int 0), (4, .int t1), (5, .int 0)]) rfl ?_
  exact wX2_timesTold_12 hC hR hm g hg F κ v1 v2 t1 F 0 0
theorem ctX2_timesTold {Δ : DCtx} {l : Launch} (hl : dlay Δ = layX) (hN : dN Δ = 147) (g : Nat) (hg : isG g) (F : Nat) (κ : Mem) (v1 : Int32) (v2 : Int32) : ∀ r, pX2_timesTold F g κ v1 v2 = some r → CT Δ l yX2_timesTold cX2_timesTold 6 (some .int) (rmH 2) [.ref (dad Δ g), .int v1, .int v2] κ (some (.int r)) κ :=
  ct_of (nL := 6) (ret := (some .int)) (lay := layX) (N := 147) (by decide +kernel) (fun Δ => [.ref (dad Δ g), .int v1, .int v2]) (fun _ => oI κ) (fun _ => (Nat.le_of_ble_eq_true rfl)) (fun Γ hR hm hC => wX2_timesTold hC hR hm g hg F κ v1 v2) Δ l hl hN
set_option maxRecDepth 20000 in
theorem wX2_colourIn {Γ : JCtx} (hC : jC Γ cX2_colourIn 4 RX2 (some .int) layX 147) (hR : gR Γ = rmH 1) (hm : gcells Γ ≤ (gR Γ).cells ∧ gslots Γ ≤ (gR Γ).slots) (g : Nat) (hg : isG g) (F : Nat) (κ : Mem) (v1 : Int32) (v2 : Int32) (v3 : Int32) : JP Γ (qf Γ (oI κ)) (pX2_colourIn F g κ v1 v2 v3) κ 0 [(0, .ref (gad Γ g)), (1, .int v1), (2, .int v2), (3, .int v3)] [] := by
  unfold pX2_colourIn
  refine j_iload_n hC (pc := 0) dX2_colourIn_0 2 rfl rfl ?_
  refine j_aload_n hC (pc := 1) dX2_colourIn_1 0 rfl rfl ?_
  refine j_iload_n hC (pc := 2) dX2_colourIn_2 1 rfl rfl ?_
  refine j_iload_n hC (pc := 3) dX2_colourIn_3 3 rfl rfl ?_
  refine j_callV_I hC hR (ctX2_weightBehind hC.l hC.cn g hg F κ v1 v3) kc_RX2_32 (Nat.le_of_ble_eq_true rfl) (Nat.le_of_ble_eq_true rfl) (isG_o hg) (isG_N hg) rfl (As := [.int v1, .int v3]) (rest := [.int v2]) rfl rfl (Nat.le_of_ble_eq_true rfl) hm (pc := 4) dX2_colourIn_4 (fun t1 => ?_)
  refine j_idiv hC (pc := 7) dX2_colourIn_7 ?_
  refine j_aload_n hC (pc := 8) dX2_colourIn_8 0 rfl rfl ?_
  refine j_getR hC (pc := 9) dX2_colourIn_9 kf_RX2_11 (isG_o hg) (isG_N hg) rfl ?_
  refine j_iload_n hC (pc := 12) dX2_colourIn_12 3 rfl rfl ?_
  refine j_iald hC (pc := 13) dX2_colourIn_13 (isG_1' hg) (isG_N1 hg) ?_
  refine j_irem hC (pc := 14) dX2_colourIn_14 ?_
  exact j_iret hC (pc := 15) dX2_colourIn_15 rfl rfl rfl
theorem ctX2_colourIn {Δ : DCtx} {l : Launch} (hl : dlay Δ = layX) (hN : dN Δ = 147) (g : Nat) (hg : isG g) (F : Nat) (κ : Mem) (v1 : Int32) (v2 : Int32) (v3 : Int32) : ∀ r, pX2_colourIn F g κ v1 v2 v3 = some r → CT Δ l yX2_colourIn cX2_colourIn 4 (some .int) (rmH 1) [.ref (dad Δ g), .int v1, .int v2, .int v3] κ (some (.int r)) κ :=
  ct_of (nL := 4) (ret := (some .int)) (lay := layX) (N := 147) (by decide +kernel) (fun Δ => [.ref (dad Δ g), .int v1, .int v2, .int v3]) (fun _ => oI κ) (fun _ => (Nat.le_of_ble_eq_true rfl)) (fun Γ hR hm hC => wX2_colourIn hC hR hm g hg F κ v1 v2 v3) Δ l hl hN
set_option maxRecDepth 20000 in
theorem wX2_swayed_88 {Γ : JCtx} (hC : jC Γ cX2_swayed 10 RX2 (some .int) layX 147) (hR : gR Γ = rmH 2) (hm : gcells Γ ≤ (gR Γ).cells ∧ gslots Γ ≤ (gR Γ).slots) (g : Nat) (hg : isG g) (F : Nat) (κ : Mem) (v1 : Int32) (v2 : Int32) (v3 : Int32) (v4 : Int32) (v5 : Int32) (v6 : Int32) (v7 : Int32) (v9 : Int32) (y0 : Int32) (y1 : Int32) (k48 : Int32 → Int32 → Option Int32) (hk48 : ∀ (v8 : Int32) (v9 : Int32), JP Γ (qf Γ (oI κ)) (k48 v8 v9) κ 48 [(0, .ref (gad Γ g)), (1, .int v1), (2, .int v2), (3, .int v3), (4, .int v4), (5, .int v5), (6, .int v6), (7, .int v7), (8, .int v8), (9, .int v9)] []) : JP Γ (qf Γ (oI κ)) (pX2_swayed_88 F g κ k48 v1 v2 v3 v4 v5 v6 v7 v9 y0 y1) κ 88 [(0, .ref (gad Γ g)), (1, .int v1), (2, .int v2), (3, .int v3), (4, .int v4), (5, .int v5), (6, .int v6), (7, .int v7), (9, .int v9)] [.int y0, .int y1] := by
  unfold pX2_swayed_88
  refine j_ior hC (pc := 88) dX2_swayed_88 ?_
  refine j_nmi (fun x7 => ?_)
  refine j_istore hC (pc := 89) dX2_swayed_89 (Nat.le_of_ble_eq_true rfl) (loc' := [(8, .int x7), (0, .ref (gad Γ g)), (1, .int v1), (2, .int v2), (3, .int v3), (4, .int v4), (5, .int v5), (6, .int v6), (7, .int v7), (9, .int v9)]) rfl ?_
  refine j_iinc hC (pc := 91) dX2_swayed_91 9 rfl ki_1 (Nat.le_of_ble_eq_true rfl) (loc' := [(9, .int (v9 + 1)), (8, .int x7), (0, .ref (gad Γ g)), (1, .int v1), (2, .int v2), (3, .int v3), (4, .int v4), (5, .int v5), (6, .int v6), (7, .int v7)]) rfl ?_
  refine j_goto hC (pc := 94) dX2_swayed_94 (tgt := 48) rfl ?_
  refine j_sub [2, 3, 4, 5, 6, 7, 8, 9, 1, 0] (loc' := [(0, .ref (gad Γ g)), (1, .int v1), (2, .int v2), (3, .int v3), (4, .int v4), (5, .int v5), (6, .int v6), (7, .int v7), (8, .int x7), (9, .int (v9 + 1))]) rfl ?_
  exact hk48 x7 (v9 + 1)
set_option maxRecDepth 20000 in
theorem wX2_swayed_105 {Γ : JCtx} (hC : jC Γ cX2_swayed 10 RX2 (some .int) layX 147) (hR : gR Γ = rmH 2) (hm : gcells Γ ≤ (gR Γ).cells ∧ gslots Γ ≤ (gR Γ).slots) (g : Nat) (hg : isG g) (F : Nat) (κ : Mem) (v1 : Int32) (v2 : Int32) (v3 : Int32) (v4 : Int32) (v5 : Int32) (v6 : Int32) (k20 : Int32 → Int32 → Option Int32) (hk20 : ∀ (v4 : Int32) (v6 : Int32), JP Γ (qf Γ (oI κ)) (k20 v4 v6) κ 20 [(0, .ref (gad Γ g)), (1, .int v1), (2, .int v2), (3, .int v3), (4, .int v4), (5, .int v5), (6, .int v6)] []) : JP Γ (qf Γ (oI κ)) (pX2_swayed_105 F g κ k20 v1 v2 v3 v4 v5 v6) κ 105 [(0, .ref (gad Γ g)), (1, .int v1), (2, .int v2), (3, .int v3), (4, .int v4), (5, .int v5), (6, .int v6)] [] := by
  unfold pX2_swayed_105
  refine j_iinc hC (pc := 105) dX2_swayed_105 6 rfl ki_1 (Nat.le_of_ble_eq_true rfl) (loc' := [(6, .int (v6 + 1)), (0, .ref (gad Γ g)), (1, .int v1), (2, .int v2), (3, .int v3), (4, .int v4), (5, .int v5)]) rfl ?_
  refine j_goto hC (pc := 108) dX2_swayed_108 (tgt := 20) rfl ?_
  refine j_sub [1, 2, 3, 4, 5, 6, 0] (loc' := [(0, .ref (gad Γ g)), (1, .int v1), (2, .int v2), (3, .int v3), (4, .int v4), (5, .int v5), (6, .int (v6 + 1))]) rfl ?_
  exact hk20 v4 (v6 + 1)
set_option maxRecDepth 20000 in
theorem wX2_swayed_48 {Γ : JCtx} (hC : jC Γ cX2_swayed 10 RX2 (some .int) layX 147) (hR : gR Γ = rmH 2) (hm : gcells Γ ≤ (gR Γ).cells ∧ gslots Γ ≤ (gR Γ).slots) (g : Nat) (hg : isG g) (F : Nat) (κ : Mem) (v1 : Int32) (v2 : Int32) (v3 : Int32) (v4 : Int32) (v5 : Int32) (v6 : Int32) (v7 : Int32) (k20 : Int32 → Int32 → Option Int32) (hk20 : ∀ (v4 : Int32) (v6 : Int32), JP Γ (qf Γ (oI κ)) (k20 v4 v6) κ 20 [(0, .ref (gad Γ g)), (1, .int v1), (2, .int v2), (3, .int v3), (4, .int v4), (5, .int v5), (6, .int v6)] []) : ∀ (n : Nat) (v8 : Int32) (v9 : Int32), JP Γ (qf Γ (oI κ)) (pX2_swayed_48 F g κ k20 v1 v2 v3 v4 v5 v6 v7 n v8 v9) κ 48 [(0, .ref (gad Γ g)), (1, .int v1), (2, .int v2), (3, .int v3), (4, .int v4), (5, .int v5), (6, .int v6), (7, .int v7), (8, .int v8), (9, .int v9)] [] := by
  intro n
  induction n with
  | zero =>
    intro v8 v9
    rw [pX2_swayed_48]
    exact j_none
  | succ fu ih =>
    intro v8 v9
    rw [pX2_swayed_48]
    refine j_iload hC (pc := 48) dX2_swayed_48 9 rfl ?_
    refine j_aload_n hC (pc := 50) dX2_swayed_50 0 rfl rfl ?_
    refine j_getR hC (pc := 51) dX2_swayed_51 kf_RX2_11 (isG_o hg) (isG_N hg) rfl ?_
    refine j_iload_n hC (pc := 54) dX2_swayed_54 2 rfl rfl ?_
    refine j_iald hC (pc := 55) dX2_swayed_55 (isG_1' hg) (isG_N1 hg) ?_
    refine j_icmp_ge hC (pc := 56) dX2_swayed_56 (tgt := 97) rfl ?_ ?_
    · refine j_iload hC (pc := 59) dX2_swayed_59 8 rfl ?_
      refine j_aload_n hC (pc := 61) dX2_swayed_61 0 rfl rfl ?_
      refine j_iload_n hC (pc := 62) dX2_swayed_62 1 rfl rfl ?_
      refine j_iload hC (pc := 63) dX2_swayed_63 7 rfl ?_
      refine j_iload hC (pc := 65) dX2_swayed_65 9 rfl ?_
      refine j_iload_n hC (pc := 67) dX2_swayed_67 3 rfl rfl ?_
      refine j_imul hC (pc := 68) dX2_swayed_68 ?_
      refine j_iadd hC (pc := 69) dX2_swayed_69 ?_
      refine j_callV_I hC hR (ctX2_told hC.l hC.cn g hg κ v1 (v7 + (v9 * v3))) kc_RX2_48 (Nat.le_of_ble_eq_true rfl) (Nat.le_of_ble_eq_true rfl) (isG_o hg) (isG_N hg) rfl (As := [.int v1, .int (v7 + (v9 * v3))]) (rest := [.int v8]) rfl rfl (Nat.le_of_ble_eq_true rfl) hm (pc := 70) dX2_swayed_70 (fun t5 => ?_)
      refine j_aload_n hC (pc := 73) dX2_swayed_73 0 rfl rfl ?_
      refine j_iload_n hC (pc := 74) dX2_swayed_74 1 rfl rfl ?_
      refine j_iload hC (pc := 75) dX2_swayed_75 6 rfl ?_
      refine j_callV_I hC hR (ctX2_told hC.l hC.cn g hg κ v1 v6) kc_RX2_48 (Nat.le_of_ble_eq_true rfl) (Nat.le_of_ble_eq_true rfl) (isG_o hg) (isG_N hg) rfl (As := [.int v1, .int v6]) (rest := [.int t5, .int v8]) rfl rfl (Nat.le_of_ble_eq_true rfl) hm (pc := 77) dX2_swayed_77 (fun t6 => ?_)
      refine j_icmp_eq hC (pc := 80) dX2_swayed_80 (tgt := 87) rfl ?_ ?_
      · refine j_iconst hC (pc := 87) dX2_swayed_87 ki_0 ?_
        refine j_sub [0, 1, 2, 3, 4, 5, 6, 7, 9] (loc' := [(0, .ref (gad Γ g)), (1, .int v1), (2, .int v2), (3, .int v3), (4, .int v4), (5, .int v5), (6, .int v6), (7, .int v7), (9, .int v9)]) rfl ?_
        exact wX2_swayed_88 hC hR hm g hg F κ v1 v2 v3 v4 v5 v6 v7 v9 0 v8 (pX2_swayed_48 F g κ k20 v1 v2 v3 v4 v5 v6 v7 fu) ih
      · refine j_iconst hC (pc := 83) dX2_swayed_83 ki_1 ?_
        refine j_goto hC (pc := 84) dX2_swayed_84 (tgt := 88) rfl ?_
        refine j_sub [0, 1, 2, 3, 4, 5, 6, 7, 9] (loc' := [(0, .ref (gad Γ g)), (1, .int v1), (2, .int v2), (3, .int v3), (4, .int v4), (5, .int v5), (6, .int v6), (7, .int v7), (9, .int v9)]) rfl ?_
        exact wX2_swayed_88 hC hR hm g hg F κ v1 v2 v3 v4 v5 v6 v7 v9 1 v8 (pX2_swayed_48 F g κ k20 v1 v2 v3 v4 v5 v6 v7 fu) ih
    · refine j_iload hC (pc := 97) dX2_swayed_97 8 rfl ?_
      refine j_if_eq hC (pc := 99) dX2_swayed_99 (tgt := 105) rfl ?_ ?_
      · refine j_sub [0, 1, 2, 3, 4, 5, 6] (loc' := [(0, .ref (gad Γ g)), (1, .int v1), (2, .int v2), (3, .int v3), (4, .int v4), (5, .int v5), (6, .int v6)]) rfl ?_
        exact wX2_swayed_105 hC hR hm g hg F κ v1 v2 v3 v4 v5 v6 k20 hk20
      · refine j_iinc hC (pc := 102) dX2_swayed_102 4 rfl ki_1 (Nat.le_of_ble_eq_true rfl) (loc' := [(4, .int (v4 + 1)), (0, .ref (gad Γ g)), (1, .int v1), (2, .int v2), (3, .int v3), (5, .int v5), (6, .int v6), (7, .int v7), (8, .int v8), (9, .int v9)]) rfl ?_
        refine j_sub [1, 2, 3, 4, 0, 5, 6] (loc' := [(0, .ref (gad Γ g)), (1, .int v1), (2, .int v2), (3, .int v3), (4, .int (v4 + 1)), (5, .int v5), (6, .int v6)]) rfl ?_
        exact wX2_swayed_105 hC hR hm g hg F κ v1 v2 v3 (v4 + 1) v5 v6 k20 hk20
set_option maxRecDepth 20000 in
theorem wX2_swayed_20 {Γ : JCtx} (hC : jC Γ cX2_swayed 10 RX2 (some .int) layX 147) (hR : gR Γ = rmH 2) (hm : gcells Γ ≤ (gR Γ).cells ∧ gslots Γ ≤ (gR Γ).slots) (g : Nat) (hg : isG g) (F : Nat) (κ : Mem) (v1 : Int32) (v2 : Int32) (v3 : Int32) (v5 : Int32) : ∀ (n : Nat) (v4 : Int32) (v6 : Int32), JP Γ (qf Γ (oI κ)) (pX2_swayed_20 F g κ v1 v2 v3 v5 n v4 v6) κ 20 [(0, .ref (gad Γ g)), (1, .int v1), (2, .int v2), (3, .int v3), (4, .int v4), (5, .int v5), (6, .int v6)] [] := by
  intro n
  induction n with
  | zero =>
    intro v4 v6
    rw [pX2_swayed_20]
    exact j_none
  | succ fu ih =>
    intro v4 v6
    rw [pX2_swayed_20]
    refine j_iload hC (pc := 20) dX2_swayed_20 6 rfl ?_
    refine j_iload hC (pc := 22) dX2_swayed_22 5 rfl ?_
    refine j_icmp_ge hC (pc := 24) dX2_swayed_24 (tgt := 111) rfl ?_ ?_
    · refine j_iload hC (pc := 27) dX2_swayed_27 6 rfl ?_
      refine j_aload_n hC (pc := 29) dX2_swayed_29 0 rfl rfl ?_
      refine j_iload_n hC (pc := 30) dX2_swayed_30 1 rfl rfl ?_
      refine j_iload hC (pc := 31) dX2_swayed_31 6 rfl ?_
      refine j_iload_n hC (pc := 33) dX2_swayed_33 2 rfl rfl ?_
      refine j_callV_I hC hR (ctX2_colourIn hC.l hC.cn g hg F κ v1 v6 v2) kc_RX2_54 (Nat.le_of_ble_eq_true rfl) (Nat.le_of_ble_eq_true rfl) (isG_o hg) (isG_N hg) rfl (As := [.int v1, .int v6, .int v2]) (rest := [.int v6]) rfl rfl (Nat.le_of_ble_eq_true rfl) hm (pc := 34) dX2_swayed_34 (fun t3 => ?_)
      refine j_iload_n hC (pc := 37) dX2_swayed_37 3 rfl rfl ?_
      refine j_imul hC (pc := 38) dX2_swayed_38 ?_
      refine j_isub hC (pc := 39) dX2_swayed_39 ?_
      refine j_nmi (fun x4 => ?_)
      refine j_istore hC (pc := 40) dX2_swayed_40 (Nat.le_of_ble_eq_true rfl) (loc' := [(7, .int x4), (0, .ref (gad Γ g)), (1, .int v1), (2, .int v2), (3, .int v3), (4, .int v4), (5, .int v5), (6, .int v6)]) rfl ?_
      refine j_iconst hC (pc := 42) dX2_swayed_42 ki_0 ?_
      refine j_istore hC (pc := 43) dX2_swayed_43 (Nat.le_of_ble_eq_true rfl) (loc' := [(8, .int 0), (7, .int x4), (0, .ref (gad Γ g)), (1, .int v1), (2, .int v2), (3, .int v3), (4, .int v4), (5, .int v5), (6, .int v6)]) rfl ?_
      refine j_iconst hC (pc := 45) dX2_swayed_45 ki_0 ?_
      refine j_istore hC (pc := 46) dX2_swayed_46 (Nat.le_of_ble_eq_true rfl) (loc' := [(9, .int 0), (8, .int 0), (7, .int x4), (0, .ref (gad Γ g)), (1, .int v1), (2, .int v2), (3, .int v3), (4, .int v4), (5, .int v5), (6, .int v6)]) rfl ?_
      refine j_sub [3, 4, 5, 6, 7, 8, 9, 2, 1, 0] (loc' := [(0, .ref (gad Γ g)), (1, .int v1), (2, .int v2), (3, .int v3), (4, .int v4), (5, .int v5), (6, .int v6), (7, .int x4), (8, .int 0), (9, .int 0)]) rfl ?_
      exact wX2_swayed_48 hC hR hm g hg F κ v1 v2 v3 v4 v5 v6 x4 (pX2_swayed_20 F g κ v1 v2 v3 v5 fu) ih F 0 0
    · refine j_iload hC (pc := 111) dX2_swayed_111 4 rfl ?_
      exact j_iret hC (pc := 113) dX2_swayed_113 rfl rfl rfl
set_option maxRecDepth 20000 in
theorem wX2_swayed {Γ : JCtx} (hC : jC Γ cX2_swayed 10 RX2 (some .int) layX 147) (hR : gR Γ = rmH 2) (hm : gcells Γ ≤ (gR Γ).cells ∧ gslots Γ ≤ (gR Γ).slots) (g : Nat) (hg : isG g) (F : Nat) (κ : Mem) (v1 : Int32) (v2 : Int32) : JP Γ (qf Γ (oI κ)) (pX2_swayed F g κ v1 v2) κ 0 [(0, .ref (gad Γ g)), (1, .int v1), (2, .int v2)] [] := by
  unfold pX2_swayed
  refine j_aload_n hC (pc := 0) dX2_swayed_0 0 rfl rfl ?_
  refine j_iload_n hC (pc := 1) dX2_swayed_1 1 rfl rfl ?_
  refine j_iload_n hC (pc := 2) dX2_swayed_2 2 rfl rfl ?_
  refine j_callV_I hC hR (ctX2_weight hC.l hC.cn g hg F κ v1 v2) kc_RX2_51 (Nat.le_of_ble_eq_true rfl) (Nat.le_of_ble_eq_true rfl) (isG_o hg) (isG_N hg) rfl (As := [.int v1, .int v2]) (rest := []) rfl rfl (Nat.le_of_ble_eq_true rfl) hm (pc := 3) dX2_swayed_3 (fun t1 => ?_)
  refine j_istore_n hC (pc := 6) dX2_swayed_6 rfl (Nat.le_of_ble_eq_true rfl) (loc' := [(3, .int t1), (0, .ref (gad Γ g)), (1, .int v1), (2, .int v2)]) rfl ?_
  refine j_iconst hC (pc := 7) dX2_swayed_7 ki_0 ?_
  refine j_istore hC (pc := 8) dX2_swayed_8 (Nat.le_of_ble_eq_true rfl) (loc' := [(4, .int 0), (3, .int t1), (0, .ref (gad Γ g)), (1, .int v1), (2, .int v2)]) rfl ?_
  refine j_aload_n hC (pc := 10) dX2_swayed_10 2 rfl rfl ?_
  refine j_iload_n hC (pc := 11) dX2_swayed_11 3 rfl rfl ?_
  refine j_callV_I hC hR (ctX2_situations hC.l hC.cn g hg F κ v1) kc_RX2_44 (Nat.le_of_ble_eq_true rfl) (Nat.le_of_ble_eq_true rfl) (isG_o hg) (isG_N hg) rfl (As := [.int v1]) (rest := []) rfl rfl (Nat.le_of_ble_eq_true rfl) hm (pc := 12) dX2_swayed_12 (fun t2 => ?_)
  refine j_istore hC (pc := 15) dX2_swayed_15 (Nat.le_of_ble_eq_true rfl) (loc' := [(5, .int t2), (4, .int 0), (3, .int t1), (0, .ref (gad Γ g)), (1, .int v1), (2, .int v2)]) rfl ?_
  refine j_iconst hC (pc := 17) dX2_swayed_17 ki_0 ?_
  refine j_istore hC (pc := 18) dX2_swayed_18 (Nat.le_of_ble_eq_true rfl) (loc' := [(6, .int 0), (5, .int t2), (4, .int 0), (3, .int t1), (0, .ref (gad Γ g)), (1, .int v1), (2, .int v2)]) rfl ?_
  refine j_sub [4, 5, 6, 3, 2, 1, 0] (loc' := [(0, .ref (gad Γ g)), (1, .int v1), (2, .int v2), (3, .int t1), (4, .int 0), (5, .int t2), (6, .int 0)]) rfl ?_
  exact wX2_swayed_20 hC hR hm g hg F κ v1 v2 t1 t2 F 0 0
theorem ctX2_swayed {Δ : DCtx} {l : Launch} (hl : dlay Δ = layX) (hN : dN Δ = 147) (g : Nat) (hg : isG g) (F : Nat) (κ : Mem) (v1 : Int32) (v2 : Int32) : ∀ r, pX2_swayed F g κ v1 v2 = some r → CT Δ l yX2_swayed cX2_swayed 10 (some .int) (rmH 2) [.ref (dad Δ g), .int v1, .int v2] κ (some (.int r)) κ :=
  ct_of (nL := 10) (ret := (some .int)) (lay := layX) (N := 147) (by decide +kernel) (fun Δ => [.ref (dad Δ g), .int v1, .int v2]) (fun _ => oI κ) (fun _ => (Nat.le_of_ble_eq_true rfl)) (fun Γ hR hm hC => wX2_swayed hC hR hm g hg F κ v1 v2) Δ l hl hN
set_option maxRecDepth 20000 in
theorem wX10_commonDivisor_23 {Γ : JCtx} (hC : jC Γ cX10_commonDivisor 4 RX10 (some .int) layX 147) (hR : gR Γ = rmH 0) (hm : gcells Γ ≤ (gR Γ).cells ∧ gslots Γ ≤ (gR Γ).slots) (F : Nat) (κ : Mem) (v0 : Int32) (v1 : Int32) (v2 : Int32) (v3 : Int32) (k4 : Int32 → Int32 → Option Int32) (hk4 : ∀ (v2 : Int32) (v3 : Int32), JP Γ (qf Γ (oI κ)) (k4 v2 v3) κ 4 [(0, .int v0), (1, .int v1), (2, .int v2), (3, .int v3)] []) : JP Γ (qf Γ (oI κ)) (pX10_commonDivisor_23 F κ k4 v0 v1 v2 v3) κ 23 [(0, .int v0), (1, .int v1), (2, .int v2), (3, .int v3)] [] := by
  unfold pX10_commonDivisor_23
  refine j_iinc hC (pc := 23) dX10_commonDivisor_23 3 rfl ki_1 (Nat.le_of_ble_eq_true rfl) (loc' := [(3, .int (v3 + 1)), (0, .int v0), (1, .int v1), (2, .int v2)]) rfl ?_
  refine j_goto hC (pc := 26) dX10_commonDivisor_26 (tgt := 4) rfl ?_
  refine j_sub [1, 2, 3, 0] (loc' := [(0, .int v0), (1, .int v1), (2, .int v2), (3, .int (v3 + 1))]) rfl ?_
  exact hk4 v2 (v3 + 1)
set_option maxRecDepth 20000 in
theorem wX10_commonDivisor_4 {Γ : JCtx} (hC : jC Γ cX10_commonDivisor 4 RX10 (some .int) layX 147) (hR : gR Γ = rmH 0) (hm : gcells Γ ≤ (gR Γ).cells ∧ gslots Γ ≤ (gR Γ).slots) (F : Nat) (κ : Mem) (v0 : Int32) (v1 : Int32) : ∀ (n : Nat) (v2 : Int32) (v3 : Int32), JP Γ (qf Γ (oI κ)) (pX10_commonDivisor_4 F κ v0 v1 n v2 v3) κ 4 [(0, .int v0), (1, .int v1), (2, .int v2), (3, .int v3)] [] := by
  intro n
  induction n with
  | zero =>
    intro v2 v3
    rw [pX10_commonDivisor_4]
    exact j_none
  | succ fu ih =>
    intro v2 v3
    rw [pX10_commonDivisor_4]
    refine j_iload_n hC (pc := 4) dX10_commonDivisor_4 3 rfl rfl ?_
    refine j_iload_n hC (pc := 5) dX10_commonDivisor_5 1 rfl rfl ?_
    refine j_icmp_gt hC (pc := 6) dX10_commonDivisor_6 (tgt := 29) rfl ?_ ?_
    · refine j_iload_n hC (pc := 9) dX10_commonDivisor_9 0 rfl rfl ?_
      refine j_iload_n hC (pc := 10) dX10_commonDivisor_10 3 rfl rfl ?_
      refine j_irem hC (pc := 11) dX10_commonDivisor_11 ?_
      refine j_if_ne hC (pc := 12) dX10_commonDivisor_12 (tgt := 23) rfl ?_ ?_
      · refine j_iload_n hC (pc := 15) dX10_commonDivisor_15 1 rfl rfl ?_
        refine j_iload_n hC (pc := 16) dX10_commonDivisor_16 3 rfl rfl ?_
        refine j_irem hC (pc := 17) dX10_commonDivisor_17 ?_
        refine j_if_ne hC (pc := 18) dX10_commonDivisor_18 (tgt := 23) rfl ?_ ?_
        · refine j_iload_n hC (pc := 21) dX10_commonDivisor_21 3 rfl rfl ?_
          refine j_istore_n hC (pc := 22) dX10_commonDivisor_22 rfl (Nat.le_of_ble_eq_true rfl) (loc' := [(2, .int v3), (0, .int v0), (1, .int v1), (3, .int v3)]) rfl ?_
          refine j_sub [1, 2, 0, 3] (loc' := [(0, .int v0), (1, .int v1), (2, .int v3), (3, .int v3)]) rfl ?_
          exact wX10_commonDivisor_23 hC hR hm F κ v0 v1 v3 v3 (pX10_commonDivisor_4 F κ v0 v1 fu) ih
        · exact wX10_commonDivisor_23 hC hR hm F κ v0 v1 v2 v3 (pX10_commonDivisor_4 F κ v0 v1 fu) ih
      · exact wX10_commonDivisor_23 hC hR hm F κ v0 v1 v2 v3 (pX10_commonDivisor_4 F κ v0 v1 fu) ih
    · refine j_iload_n hC (pc := 29) dX10_commonDivisor_29 2 rfl rfl ?_
      exact j_iret hC (pc := 30) dX10_commonDivisor_30 rfl rfl rfl
set_option maxRecDepth 20000 in
theorem wX10_commonDivisor {Γ : JCtx} (hC : jC Γ cX10_commonDivisor 4 RX10 (some .int) layX 147) (hR : gR Γ = rmH 0) (hm : gcells Γ ≤ (gR Γ).cells ∧ gslots Γ ≤ (gR Γ).slots) (F : Nat) (κ : Mem) (v0 : Int32) (v1 : Int32) : JP Γ (qf Γ (oI κ)) (pX10_commonDivisor F κ v0 v1) κ 0 [(0, .int v0), (1, .int v1)] [] := by
  unfold pX10_commonDivisor
  refine j_iconst hC (pc := 0) dX10_commonDivisor_0 ki_1 ?_
  refine j_istore_n hC (pc := 1) dX10_commonDivisor_1 rfl (Nat.le_of_ble_eq_true rfl) (loc' := [(2, .int 1), (0, .int v0), (1, .int v1)]) rfl ?_
  refine j_iconst hC (pc := 2) dX10_commonDivisor_2 ki_2 ?_
  refine j_istore_n hC (pc := 3) dX10_commonDivisor_3 rfl (Nat.le_of_ble_eq_true rfl) (loc' := [(3, .int 2), (2, .int 1), (0, .int v0), (1, .int v1)]) rfl ?_
  refine j_sub [2, 3, 1, 0] (loc' := [(0, .int v0), (1, .int v1), (2, .int 1), (3, .int 2)]) rfl ?_
  exact wX10_commonDivisor_4 hC hR hm F κ v0 v1 F 1 2
theorem ctX10_commonDivisor {Δ : DCtx} {l : Launch} (hl : dlay Δ = layX) (hN : dN Δ = 147) (F : Nat) (κ : Mem) (v0 : Int32) (v1 : Int32) : ∀ r, pX10_commonDivisor F κ v0 v1 = some r → CT Δ l yX10_commonDivisor cX10_commonDivisor 4 (some .int) (rmH 0) [.int v0, .int v1] κ (some (.int r)) κ :=
  ct_of (nL := 4) (ret := (some .int)) (lay := layX) (N := 147) (by decide +kernel) (fun Δ => [.int v0, .int v1]) (fun _ => oI κ) (fun _ => (Nat.le_of_ble_eq_true rfl)) (fun Γ hR hm hC => wX10_commonDivisor hC hR hm F κ v0 v1) Δ l hl hN
set_option maxRecDepth 20000 in
theorem wX2_waysToGuess_63 {Γ : JCtx} (hC : jC Γ cX2_waysToGuess 5 RX2 (some .int) layX 147) (hR : gR Γ = rmH 2) (hm : gcells Γ ≤ (gR Γ).cells ∧ gslots Γ ≤ (gR Γ).slots) (g : Nat) (hg : isG g) (F : Nat) (κ : Mem) (v1 : Int32) (v2 : Int32) (k4 : Int32 → Int32 → Option Int32) (hk4 : ∀ (v1 : Int32) (v2 : Int32), JP Γ (qf Γ (oI κ)) (k4 v1 v2) κ 4 [(0, .ref (gad Γ g)), (1, .int v1), (2, .int v2)] []) : JP Γ (qf Γ (oI κ)) (pX2_waysToGuess_63 F g κ k4 v1 v2) κ 63 [(0, .ref (gad Γ g)), (1, .int v1), (2, .int v2)] [] := by
  unfold pX2_waysToGuess_63
  refine j_iinc hC (pc := 63) dX2_waysToGuess_63 2 rfl ki_1 (Nat.le_of_ble_eq_true rfl) (loc' := [(2, .int (v2 + 1)), (0, .ref (gad Γ g)), (1, .int v1)]) rfl ?_
  refine j_goto hC (pc := 66) dX2_waysToGuess_66 (tgt := 4) rfl ?_
  refine j_sub [1, 2, 0] (loc' := [(0, .ref (gad Γ g)), (1, .int v1), (2, .int (v2 + 1))]) rfl ?_
  exact hk4 v1 (v2 + 1)
set_option maxRecDepth 20000 in
theorem wX2_waysToGuess_35 {Γ : JCtx} (hC : jC Γ cX2_waysToGuess 5 RX2 (some .int) layX 147) (hR : gR Γ = rmH 2) (hm : gcells Γ ≤ (gR Γ).cells ∧ gslots Γ ≤ (gR Γ).slots) (g : Nat) (hg : isG g) (F : Nat) (κ : Mem) (v2 : Int32) (v3 : Int32) (k4 : Int32 → Int32 → Option Int32) (hk4 : ∀ (v1 : Int32) (v2 : Int32), JP Γ (qf Γ (oI κ)) (k4 v1 v2) κ 4 [(0, .ref (gad Γ g)), (1, .int v1), (2, .int v2)] []) : ∀ (n : Nat) (v1 : Int32) (v4 : Int32), JP Γ (qf Γ (oI κ)) (pX2_waysToGuess_35 F g κ k4 v2 v3 n v1 v4) κ 35 [(0, .ref (gad Γ g)), (1, .int v1), (2, .int v2), (3, .int v3), (4, .int v4)] [] := by
  intro n
  induction n with
  | zero =>
    intro v1 v4
    rw [pX2_waysToGuess_35]
    exact j_none
  | succ fu ih =>
    intro v1 v4
    rw [pX2_waysToGuess_35]
    refine j_iload hC (pc := 35) dX2_waysToGuess_35 4 rfl ?_
    refine j_iload_n hC (pc := 37) dX2_waysToGuess_37 3 rfl rfl ?_
    refine j_icmp_ge hC (pc := 38) dX2_waysToGuess_38 (tgt := 63) rfl ?_ ?_
    · refine j_iload_n hC (pc := 41) dX2_waysToGuess_41 1 rfl rfl ?_
      refine j_sipush hC (pc := 42) dX2_waysToGuess_42 ks_20000 ?_
      refine j_icmp_gt hC (pc := 45) dX2_waysToGuess_45 (tgt := 63) rfl ?_ ?_
      · refine j_iload_n hC (pc := 48) dX2_waysToGuess_48 1 rfl rfl ?_
        refine j_aload_n hC (pc := 49) dX2_waysToGuess_49 0 rfl rfl ?_
        refine j_getR hC (pc := 50) dX2_waysToGuess_50 kf_RX2_11 (isG_o hg) (isG_N hg) rfl ?_
        refine j_iload_n hC (pc := 53) dX2_waysToGuess_53 2 rfl rfl ?_
        refine j_iald hC (pc := 54) dX2_waysToGuess_54 (isG_1' hg) (isG_N1 hg) ?_
        refine j_imul hC (pc := 55) dX2_waysToGuess_55 ?_
        refine j_nmi (fun x1 => ?_)
        refine j_istore_n hC (pc := 56) dX2_waysToGuess_56 rfl (Nat.le_of_ble_eq_true rfl) (loc' := [(1, .int x1), (0, .ref (gad Γ g)), (2, .int v2), (3, .int v3), (4, .int v4)]) rfl ?_
        refine j_iinc hC (pc := 57) dX2_waysToGuess_57 4 rfl ki_1 (Nat.le_of_ble_eq_true rfl) (loc' := [(4, .int (v4 + 1)), (1, .int x1), (0, .ref (gad Γ g)), (2, .int v2), (3, .int v3)]) rfl ?_
        refine j_goto hC (pc := 60) dX2_waysToGuess_60 (tgt := 35) rfl ?_
        refine j_sub [2, 1, 3, 4, 0] (loc' := [(0, .ref (gad Γ g)), (1, .int x1), (2, .int v2), (3, .int v3), (4, .int (v4 + 1))]) rfl ?_
        exact ih x1 (v4 + 1)
      · refine j_sub [0, 1, 2] (loc' := [(0, .ref (gad Γ g)), (1, .int v1), (2, .int v2)]) rfl ?_
        exact wX2_waysToGuess_63 hC hR hm g hg F κ v1 v2 k4 hk4
    · refine j_sub [0, 1, 2] (loc' := [(0, .ref (gad Γ g)), (1, .int v1), (2, .int v2)]) rfl ?_
      exact wX2_waysToGuess_63 hC hR hm g hg F κ v1 v2 k4 hk4
set_option maxRecDepth 20000 in
theorem wX2_waysToGuess_31 {Γ : JCtx} (hC : jC Γ cX2_waysToGuess 5 RX2 (some .int) layX 147) (hR : gR Γ = rmH 2) (hm : gcells Γ ≤ (gR Γ).cells ∧ gslots Γ ≤ (gR Γ).slots) (g : Nat) (hg : isG g) (F : Nat) (κ : Mem) (v1 : Int32) (v2 : Int32) (y0 : Int32) (k4 : Int32 → Int32 → Option Int32) (hk4 : ∀ (v1 : Int32) (v2 : Int32), JP Γ (qf Γ (oI κ)) (k4 v1 v2) κ 4 [(0, .ref (gad Γ g)), (1, .int v1), (2, .int v2)] []) : JP Γ (qf Γ (oI κ)) (pX2_waysToGuess_31 F g κ k4 v1 v2 y0) κ 31 [(0, .ref (gad Γ g)), (1, .int v1), (2, .int v2)] [.int y0] := by
  unfold pX2_waysToGuess_31
  refine j_istore_n hC (pc := 31) dX2_waysToGuess_31 rfl (Nat.le_of_ble_eq_true rfl) (loc' := [(3, .int y0), (0, .ref (gad Γ g)), (1, .int v1), (2, .int v2)]) rfl ?_
  refine j_iconst hC (pc := 32) dX2_waysToGuess_32 ki_0 ?_
  refine j_istore hC (pc := 33) dX2_waysToGuess_33 (Nat.le_of_ble_eq_true rfl) (loc' := [(4, .int 0), (3, .int y0), (0, .ref (gad Γ g)), (1, .int v1), (2, .int v2)]) rfl ?_
  refine j_sub [2, 3, 4, 1, 0] (loc' := [(0, .ref (gad Γ g)), (1, .int v1), (2, .int v2), (3, .int y0), (4, .int 0)]) rfl ?_
  exact wX2_waysToGuess_35 hC hR hm g hg F κ v2 y0 k4 hk4 F v1 0
set_option maxRecDepth 20000 in
theorem wX2_waysToGuess_4 {Γ : JCtx} (hC : jC Γ cX2_waysToGuess 5 RX2 (some .int) layX 147) (hR : gR Γ = rmH 2) (hm : gcells Γ ≤ (gR Γ).cells ∧ gslots Γ ≤ (gR Γ).slots) (g : Nat) (hg : isG g) (F : Nat) (κ : Mem) : ∀ (n : Nat) (v1 : Int32) (v2 : Int32), JP Γ (qf Γ (oI κ)) (pX2_waysToGuess_4 F g κ n v1 v2) κ 4 [(0, .ref (gad Γ g)), (1, .int v1), (2, .int v2)] [] := by
  intro n
  induction n with
  | zero =>
    intro v1 v2
    rw [pX2_waysToGuess_4]
    exact j_none
  | succ fu ih =>
    intro v1 v2
    rw [pX2_waysToGuess_4]
    refine j_iload_n hC (pc := 4) dX2_waysToGuess_4 2 rfl rfl ?_
    refine j_aload_n hC (pc := 5) dX2_waysToGuess_5 0 rfl rfl ?_
    refine j_getI hC (pc := 6) dX2_waysToGuess_6 kf_RX2_22 (isG_o hg) (isG_N hg) rfl ?_
    refine j_icmp_ge hC (pc := 9) dX2_waysToGuess_9 (tgt := 69) rfl ?_ ?_
    · refine j_aload_n hC (pc := 12) dX2_waysToGuess_12 0 rfl rfl ?_
      refine j_getR hC (pc := 13) dX2_waysToGuess_13 kf_RX2_11 (isG_o hg) (isG_N hg) rfl ?_
      refine j_iload_n hC (pc := 16) dX2_waysToGuess_16 2 rfl rfl ?_
      refine j_iald hC (pc := 17) dX2_waysToGuess_17 (isG_1' hg) (isG_N1 hg) ?_
      refine j_iconst hC (pc := 18) dX2_waysToGuess_18 ki_1 ?_
      refine j_icmp_ne hC (pc := 19) dX2_waysToGuess_19 (tgt := 26) rfl ?_ ?_
      · refine j_iconst hC (pc := 22) dX2_waysToGuess_22 ki_0 ?_
        refine j_goto hC (pc := 23) dX2_waysToGuess_23 (tgt := 31) rfl ?_
        exact wX2_waysToGuess_31 hC hR hm g hg F κ v1 v2 0 (pX2_waysToGuess_4 F g κ fu) ih
      · refine j_aload_n hC (pc := 26) dX2_waysToGuess_26 0 rfl rfl ?_
        refine j_iload_n hC (pc := 27) dX2_waysToGuess_27 2 rfl rfl ?_
        refine j_callV_I hC hR (ctX2_situations hC.l hC.cn g hg F κ v2) kc_RX2_44 (Nat.le_of_ble_eq_true rfl) (Nat.le_of_ble_eq_true rfl) (isG_o hg) (isG_N hg) rfl (As := [.int v2]) (rest := []) rfl rfl (Nat.le_of_ble_eq_true rfl) hm (pc := 28) dX2_waysToGuess_28 (fun t2 => ?_)
        exact wX2_waysToGuess_31 hC hR hm g hg F κ v1 v2 t2 (pX2_waysToGuess_4 F g κ fu) ih
    · refine j_iload_n hC (pc := 69) dX2_waysToGuess_69 1 rfl rfl ?_
      exact j_iret hC (pc := 70) dX2_waysToGuess_70 rfl rfl rfl
set_option maxRecDepth 20000 in
theorem wX2_waysToGuess {Γ : JCtx} (hC : jC Γ cX2_waysToGuess 5 RX2 (some .int) layX 147) (hR : gR Γ = rmH 2) (hm : gcells Γ ≤ (gR Γ).cells ∧ gslots Γ ≤ (gR Γ).slots) (g : Nat) (hg : isG g) (F : Nat) (κ : Mem) : JP Γ (qf Γ (oI κ)) (pX2_waysToGuess F g κ) κ 0 [(0, .ref (gad Γ g))] [] := by
  unfold pX2_waysToGuess
  refine j_iconst hC (pc := 0) dX2_waysToGuess_0 ki_1 ?_
  refine j_istore_n hC (pc := 1) dX2_waysToGuess_1 rfl (Nat.le_of_ble_eq_true rfl) (loc' := [(1, .int 1), (0, .ref (gad Γ g))]) rfl ?_
  refine j_iconst hC (pc := 2) dX2_waysToGuess_2 ki_0 ?_
  refine j_istore_n hC (pc := 3) dX2_waysToGuess_3 rfl (Nat.le_of_ble_eq_true rfl) (loc' := [(2, .int 0), (1, .int 1), (0, .ref (gad Γ g))]) rfl ?_
  refine j_sub [2, 1, 0] (loc' := [(0, .ref (gad Γ g)), (1, .int 1), (2, .int 0)]) rfl ?_
  exact wX2_waysToGuess_4 hC hR hm g hg F κ F 1 0
theorem ctX2_waysToGuess {Δ : DCtx} {l : Launch} (hl : dlay Δ = layX) (hN : dN Δ = 147) (g : Nat) (hg : isG g) (F : Nat) (κ : Mem) : ∀ r, pX2_waysToGuess F g κ = some r → CT Δ l yX2_waysToGuess cX2_waysToGuess 5 (some .int) (rmH 2) [.ref (dad Δ g)] κ (some (.int r)) κ :=
  ct_of (nL := 5) (ret := (some .int)) (lay := layX) (N := 147) (by decide +kernel) (fun Δ => [.ref (dad Δ g)]) (fun _ => oI κ) (fun _ => (Nat.le_of_ble_eq_true rfl)) (fun Γ hR hm hC => wX2_waysToGuess hC hR hm g hg F κ) Δ l hl hN
set_option maxRecDepth 20000 in
theorem wX2_draw_26 {Γ : JCtx} (hC : jC Γ cX2_draw 7 RX2 none layX 147) (hR : gR Γ = rmH 2) (hm : gcells Γ ≤ (gR Γ).cells ∧ gslots Γ ≤ (gR Γ).slots) (g : Nat) (hg : isG g) (F : Nat) (v4 : Int32) (v5 : Int32) (k6 : Mem → Int64 → Int32 → Option Mem) (hk6 : ∀ (κ : Mem) (v2 : Int64) (v4 : Int32), JP Γ (qf Γ oV) (k6 κ v2 v4) κ 6 [(0, .ref (gad Γ g)), (2, .long v2), (4, .int v4)] []) : ∀ (n : Nat) (κ : Mem) (v2 : Int64) (v6 : Int32), JP Γ (qf Γ oV) (pX2_draw_26 F g k6 v4 v5 n κ v2 v6) κ 26 [(0, .ref (gad Γ g)), (2, .long v2), (4, .int v4), (5, .int v5), (6, .int v6)] [] := by
  intro n
  induction n with
  | zero =>
    intro κ v2 v6
    rw [pX2_draw_26]
    exact j_none
  | succ fu ih =>
    intro κ v2 v6
    rw [pX2_draw_26]
    refine j_iload hC (pc := 26) dX2_draw_26 4 rfl ?_
    refine j_iload hC (pc := 28) dX2_draw_28 3 rfl ?_
    refine j_icmp_ge hC (pc := 30) dX2_draw_30 (tgt := 71) rfl ?_ ?_
    · refine j_lload_n hC (pc := 33) dX2_draw_33 1 rfl rfl ?_
      refine j_ldc2 hC (pc := 34) dX2_draw_34 w_528 ?_
      refine j_lmul hC (pc := 37) dX2_draw_37 ?_
      refine j_ldc2 hC (pc := 38) dX2_draw_38 w_529 ?_
      refine j_ladd hC (pc := 41) dX2_draw_41 ?_
      refine j_nml (fun x3 => ?_)
      refine j_lstore_n hC (pc := 42) dX2_draw_42 rfl (Nat.le_of_ble_eq_true rfl) (loc' := [(2, .long x3), (0, .ref (gad Γ g)), (4, .int v4), (5, .int v5), (6, .int v6)]) rfl ?_
      refine j_aload_n hC (pc := 43) dX2_draw_43 1 rfl rfl ?_
      refine j_iload hC (pc := 44) dX2_draw_44 2 rfl ?_
      refine j_iload hC (pc := 46) dX2_draw_46 4 rfl ?_
      refine j_lload_n hC (pc := 48) dX2_draw_48 0 rfl rfl ?_
      refine j_bipush hC (pc := 49) dX2_draw_49 kb_33 ?_
      refine j_lushr hC (pc := 51) dX2_draw_51 ?_
      refine j_aload_n hC (pc := 52) dX2_draw_52 1 rfl rfl ?_
      refine j_getR hC (pc := 53) dX2_draw_53 kf_RX2_11 (isG_o hg) (isG_N hg) rfl ?_
      refine j_iload hC (pc := 56) dX2_draw_56 2 rfl ?_
      refine j_iald hC (pc := 58) dX2_draw_58 (isG_1' hg) (isG_N1 hg) ?_
      refine j_i2l hC (pc := 59) dX2_draw_59 ?_
      refine j_lrem hC (pc := 60) dX2_draw_60 ?_
      refine j_l2i hC (pc := 61) dX2_draw_61 ?_
      refine j_callV_V hC hR (ctX2_tell hC.l hC.cn g hg κ v4 v6 (((x3.toUInt64 >>> ((33 : Int32).toInt64.toUInt64 &&& Int64.toUInt64 63)).toInt64 - (x3.toUInt64 >>> ((33 : Int32).toInt64.toUInt64 &&& Int64.toUInt64 63)).toInt64 / (mi κ (g + 1) v4.toNatClampNeg).toInt64 * (mi κ (g + 1) v4.toNatClampNeg).toInt64).toInt32)) kc_RX2_62 (Nat.le_of_ble_eq_true rfl) (Nat.le_of_ble_eq_true rfl) (isG_o hg) (isG_N hg) rfl (As := [.int v4, .int v6, .int (((x3.toUInt64 >>> ((33 : Int32).toInt64.toUInt64 &&& Int64.toUInt64 63)).toInt64 - (x3.toUInt64 >>> ((33 : Int32).toInt64.toUInt64 &&& Int64.toUInt64 63)).toInt64 / (mi κ (g + 1) v4.toNatClampNeg).toInt64 * (mi κ (g + 1) v4.toNatClampNeg).toInt64).toInt32)]) (rest := []) rfl rfl (Nat.le_of_ble_eq_true rfl) hm (pc := 62) dX2_draw_62 (fun t4 => ?_)
      refine j_iinc hC (pc := 65) dX2_draw_65 4 rfl ki_1 (Nat.le_of_ble_eq_true rfl) (loc' := [(6, .int (v6 + 1)), (2, .long x3), (0, .ref (gad Γ g)), (4, .int v4), (5, .int v5)]) rfl ?_
      refine j_goto hC (pc := 68) dX2_draw_68 (tgt := 26) rfl ?_
      refine j_sub [2, 1, 3, 4, 0] (loc' := [(0, .ref (gad Γ g)), (2, .long x3), (4, .int v4), (5, .int v5), (6, .int (v6 + 1))]) rfl ?_
      exact ih t4 x3 (v6 + 1)
    · refine j_iinc hC (pc := 71) dX2_draw_71 2 rfl ki_1 (Nat.le_of_ble_eq_true rfl) (loc' := [(4, .int (v4 + 1)), (0, .ref (gad Γ g)), (2, .long v2), (5, .int v5), (6, .int v6)]) rfl ?_
      refine j_goto hC (pc := 74) dX2_draw_74 (tgt := 6) rfl ?_
      refine j_sub [1, 2, 0] (loc' := [(0, .ref (gad Γ g)), (2, .long v2), (4, .int (v4 + 1))]) rfl ?_
      exact hk6 κ v2 (v4 + 1)
set_option maxRecDepth 20000 in
theorem wX2_draw_6 {Γ : JCtx} (hC : jC Γ cX2_draw 7 RX2 none layX 147) (hR : gR Γ = rmH 2) (hm : gcells Γ ≤ (gR Γ).cells ∧ gslots Γ ≤ (gR Γ).slots) (g : Nat) (hg : isG g) (F : Nat) : ∀ (n : Nat) (κ : Mem) (v2 : Int64) (v4 : Int32), JP Γ (qf Γ oV) (pX2_draw_6 F g n κ v2 v4) κ 6 [(0, .ref (gad Γ g)), (2, .long v2), (4, .int v4)] [] := by
  intro n
  induction n with
  | zero =>
    intro κ v2 v4
    rw [pX2_draw_6]
    exact j_none
  | succ fu ih =>
    intro κ v2 v4
    rw [pX2_draw_6]
    refine j_iload hC (pc := 6) dX2_draw_6 2 rfl ?_
    refine j_aload_n hC (pc := 8) dX2_draw_8 0 rfl rfl ?_
    refine j_getI hC (pc := 9) dX2_draw_9 kf_RX2_22 (isG_o hg) (isG_N hg) rfl ?_
    refine j_icmp_ge hC (pc := 12) dX2_draw_12 (tgt := 77) rfl ?_ ?_
    · refine j_aload_n hC (pc := 15) dX2_draw_15 0 rfl rfl ?_
      refine j_iload hC (pc := 16) dX2_draw_16 2 rfl ?_
      refine j_callV_I hC hR (ctX2_situations hC.l hC.cn g hg F κ v4) kc_RX2_44 (Nat.le_of_ble_eq_true rfl) (Nat.le_of_ble_eq_true rfl) (isG_o hg) (isG_N hg) rfl (As := [.int v4]) (rest := []) rfl rfl (Nat.le_of_ble_eq_true rfl) hm (pc := 18) dX2_draw_18 (fun t2 => ?_)
      refine j_istore hC (pc := 21) dX2_draw_21 (Nat.le_of_ble_eq_true rfl) (loc' := [(5, .int t2), (0, .ref (gad Γ g)), (2, .long v2), (4, .int v4)]) rfl ?_
      refine j_iconst hC (pc := 23) dX2_draw_23 ki_0 ?_
      refine j_istore hC (pc := 24) dX2_draw_24 (Nat.le_of_ble_eq_true rfl) (loc' := [(6, .int 0), (5, .int t2), (0, .ref (gad Γ g)), (2, .long v2), (4, .int v4)]) rfl ?_
      refine j_sub [2, 3, 4, 1, 0] (loc' := [(0, .ref (gad Γ g)), (2, .long v2), (4, .int v4), (5, .int t2), (6, .int 0)]) rfl ?_
      exact wX2_draw_26 hC hR hm g hg F v4 t2 (pX2_draw_6 F g fu) ih F κ v2 0
    · exact j_vret hC (pc := 77) dX2_draw_77 rfl rfl
set_option maxRecDepth 20000 in
theorem wX2_draw {Γ : JCtx} (hC : jC Γ cX2_draw 7 RX2 none layX 147) (hR : gR Γ = rmH 2) (hm : gcells Γ ≤ (gR Γ).cells ∧ gslots Γ ≤ (gR Γ).slots) (g : Nat) (hg : isG g) (F : Nat) (κ : Mem) (v1 : Int32) : JP Γ (qf Γ oV) (pX2_draw F g κ v1) κ 0 [(0, .ref (gad Γ g)), (1, .int v1)] [] := by
  unfold pX2_draw
  refine j_iload_n hC (pc := 0) dX2_draw_0 1 rfl rfl ?_
  refine j_i2l hC (pc := 1) dX2_draw_1 ?_
  refine j_nml (fun x1 => ?_)
  refine j_lstore_n hC (pc := 2) dX2_draw_2 rfl (Nat.le_of_ble_eq_true rfl) (loc' := [(2, .long x1), (0, .ref (gad Γ g)), (1, .int v1)]) rfl ?_
  refine j_iconst hC (pc := 3) dX2_draw_3 ki_0 ?_
  refine j_istore hC (pc := 4) dX2_draw_4 (Nat.le_of_ble_eq_true rfl) (loc' := [(4, .int 0), (2, .long x1), (0, .ref (gad Γ g)), (1, .int v1)]) rfl ?_
  refine j_sub [2, 1, 0] (loc' := [(0, .ref (gad Γ g)), (2, .long x1), (4, .int 0)]) rfl ?_
  exact wX2_draw_6 hC hR hm g hg F F κ x1 0
theorem ctX2_draw {Δ : DCtx} {l : Launch} (hl : dlay Δ = layX) (hN : dN Δ = 147) (g : Nat) (hg : isG g) (F : Nat) (κ : Mem) (v1 : Int32) : ∀ r, pX2_draw F g κ v1 = some r → CT Δ l yX2_draw cX2_draw 7 none (rmH 2) [.ref (dad Δ g), .int v1] κ none r :=
  ct_of (nL := 7) (ret := none) (lay := layX) (N := 147) (by decide +kernel) (fun Δ => [.ref (dad Δ g), .int v1]) (fun _ => oV) (fun _ => (Nat.le_of_ble_eq_true rfl)) (fun Γ hR hm hC => wX2_draw hC hR hm g hg F κ v1) Δ l hl hN
