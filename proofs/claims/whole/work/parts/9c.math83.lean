/-! CONSTRUCTORS: the class's own (laid by wip/gen/ctor.py) -/
set_option maxHeartbeats 20000000 in
set_option maxRecDepth 100000 in
theorem zw_X10 {Γ : ZCtx} {Qf : State → Prop} (hR : zR Γ = rmK 3 146 46299) (hC : zC Γ cX10_init 1 yX10_init.cls) (hin : (zmeth Γ).name = "<init>")
    (kk : ZP Γ Qf 146 46299 (.inr (10, nX10_f (zh Γ)) :: nX10_b (zA Γ) (zh Γ)) 172 (lv_args 0 [.ref (zh Γ)]) [.int 0, .ref (zh Γ + 1)]) : ZP Γ Qf 0 0 [.inr (10, [.null, .null, .null, .null, .null, .null, .null, .null, .null, .null, .null, .int 0, .int 0, .int 0, .int 0])] 0 (lv_args 0 [.ref (zh Γ)]) [] := by
  have hce : ∀ k, k ≤ 146 → k ≤ (zR Γ).cells := by rw [hR]; exact fun _ h => h
  have hsl : ∀ k, k ≤ 46299 → k ≤ (zR Γ).slots := by rw [hR]; exact fun _ h => h
  have hB : ([] : List va_E).length = 0 := rfl
  have hB : ([] : List va_E).length = 0 := rfl
  refine z_aload_n hC (pc := 0) dX10_init_0 0 rfl rfl ?_
  refine z_obj hC (pc := 1) zo_RX10_1 (rmK_1 hR).1 (rmK_1 hR).2 dX10_init_1 ?_
  refine z_aload_n hC (pc := 4) dX10_init_4 0 rfl rfl ?_
  refine zz_new hC hB (pc := 5) (a := zh Γ + 1) zc_X2 zw_75 (hce _ (Nat.le_of_ble_eq_true rfl)) (hsl _ (Nat.le_of_ble_eq_true rfl)) rfl dX10_init_5 ?_
  refine z_dup hC (pc := 8) dX10_init_8 rfl ?_
  refine zz_call hC hB (pc := 9) (b := zh Γ + 1) (k1 := 4) [] [.ref (zh Γ + 1), .ref (zh Γ)] (zt_X2 zOk_nil) zi_RX10_9 (rmK_le hR (Nat.le_of_ble_eq_true rfl) (Nat.le_of_ble_eq_true rfl)) zOk_nil (fun _ _ _ => zE_nil) rfl rfl rfl (Nat.le_of_ble_eq_true rfl) (hce _ (Nat.le_of_ble_eq_true rfl)) (hsl _ (Nat.le_of_ble_eq_true rfl)) rfl dX10_init_9 (fun hB => ?_)
  refine zz_putF hC hin (pc := 12) ([.ref (zh Γ + 1), .null, .null, .null, .null, .null, .null, .null, .null, .null, .null, .int 0, .int 0, .int 0, .int 0]) zf_RX10_10 (Nat.le_of_ble_eq_true rfl) rfl rfl rfl dX10_init_12 ?_
  refine z_aload_n hC (pc := 15) dX10_init_15 0 rfl rfl ?_
  refine zz_new hC hB (pc := 16) (a := zh Γ + 5) zc_X1 zw_79 (hce _ (Nat.le_of_ble_eq_true rfl)) (hsl _ (Nat.le_of_ble_eq_true rfl)) rfl dX10_init_16 ?_
  refine z_dup hC (pc := 19) dX10_init_19 rfl ?_
  refine z_aload_n hC (pc := 20) dX10_init_20 0 rfl rfl ?_
  refine zz_get hC (pc := 21) (v := .ref (zh Γ + 1)) zg_RX10_10 rfl dX10_init_21 ?_
  refine zz_call hC hB (pc := 24) (b := zh Γ + 5) (k1 := 13) [.ref (zh Γ + 1)] [.ref (zh Γ + 5), .ref (zh Γ)] (zt_X1 (a1 := (zh Γ + 1)) zOk_nil) zi_RX10_18 (rmK_le hR (Nat.le_of_ble_eq_true rfl) (Nat.le_of_ble_eq_true rfl)) zOk_nil (fun _ _ _ => zE_nil) rfl rfl rfl (Nat.le_of_ble_eq_true rfl) (hce _ (Nat.le_of_ble_eq_true rfl)) (hsl _ (Nat.le_of_ble_eq_true rfl)) rfl dX10_init_24 (fun hB => ?_)
  refine zz_putF hC hin (pc := 27) ([.ref (zh Γ + 1), .ref (zh Γ + 5), .null, .null, .null, .null, .null, .null, .null, .null, .null, .int 0, .int 0, .int 0, .int 0]) zf_RX10_21 (Nat.le_of_ble_eq_true rfl) rfl rfl rfl dX10_init_27 ?_
  refine z_aload_n hC (pc := 30) dX10_init_30 0 rfl rfl ?_
  refine zz_new hC hB (pc := 31) (a := zh Γ + 18) zc_X4 zw_86 (hce _ (Nat.le_of_ble_eq_true rfl)) (hsl _ (Nat.le_of_ble_eq_true rfl)) rfl dX10_init_31 ?_
  refine z_dup hC (pc := 34) dX10_init_34 rfl ?_
  refine z_aload_n hC (pc := 35) dX10_init_35 0 rfl rfl ?_
  refine zz_get hC (pc := 36) (v := .ref (zh Γ + 1)) zg_RX10_10 rfl dX10_init_36 ?_
  refine zz_call hC hB (pc := 39) (b := zh Γ + 18) (k1 := 1) [.ref (zh Γ + 1)] [.ref (zh Γ + 18), .ref (zh Γ)] (zt_X4 (a1 := (zh Γ + 1)) zOk_nil) zi_RX10_27 (rmK_le hR (Nat.le_of_ble_eq_true rfl) (Nat.le_of_ble_eq_true rfl)) zOk_nil (fun _ _ _ => zE_nil) rfl rfl rfl (Nat.le_of_ble_eq_true rfl) (hce _ (Nat.le_of_ble_eq_true rfl)) (hsl _ (Nat.le_of_ble_eq_true rfl)) rfl dX10_init_39 (fun hB => ?_)
  refine zz_putF hC hin (pc := 42) ([.ref (zh Γ + 1), .ref (zh Γ + 5), .ref (zh Γ + 18), .null, .null, .null, .null, .null, .null, .null, .null, .int 0, .int 0, .int 0, .int 0]) zf_RX10_28 (Nat.le_of_ble_eq_true rfl) rfl rfl rfl dX10_init_42 ?_
  refine z_aload_n hC (pc := 45) dX10_init_45 0 rfl rfl ?_
  refine zz_new hC hB (pc := 46) (a := zh Γ + 19) zc_X7 zw_93 (hce _ (Nat.le_of_ble_eq_true rfl)) (hsl _ (Nat.le_of_ble_eq_true rfl)) rfl dX10_init_46 ?_
  refine z_dup hC (pc := 49) dX10_init_49 rfl ?_
  refine z_aload_n hC (pc := 50) dX10_init_50 0 rfl rfl ?_
  refine zz_get hC (pc := 51) (v := .ref (zh Γ + 1)) zg_RX10_10 rfl dX10_init_51 ?_
  refine zz_call hC hB (pc := 54) (b := zh Γ + 19) (k1 := 3) [.ref (zh Γ + 1)] [.ref (zh Γ + 19), .ref (zh Γ)] (zt_X7 (a1 := (zh Γ + 1)) zOk_nil) zi_RX10_34 (rmK_le hR (Nat.le_of_ble_eq_true rfl) (Nat.le_of_ble_eq_true rfl)) zOk_nil (fun _ _ _ => zE_nil) rfl rfl rfl (Nat.le_of_ble_eq_true rfl) (hce _ (Nat.le_of_ble_eq_true rfl)) (hsl _ (Nat.le_of_ble_eq_true rfl)) rfl dX10_init_54 (fun hB => ?_)
  refine zz_putF hC hin (pc := 57) ([.ref (zh Γ + 1), .ref (zh Γ + 5), .ref (zh Γ + 18), .ref (zh Γ + 19), .null, .null, .null, .null, .null, .null, .null, .int 0, .int 0, .int 0, .int 0]) zf_RX10_35 (Nat.le_of_ble_eq_true rfl) rfl rfl rfl dX10_init_57 ?_
  refine z_aload_n hC (pc := 60) dX10_init_60 0 rfl rfl ?_
  refine zz_new hC hB (pc := 61) (a := zh Γ + 22) zc_X0 zw_100 (hce _ (Nat.le_of_ble_eq_true rfl)) (hsl _ (Nat.le_of_ble_eq_true rfl)) rfl dX10_init_61 ?_
  refine z_dup hC (pc := 64) dX10_init_64 rfl ?_
  refine z_aload_n hC (pc := 65) dX10_init_65 0 rfl rfl ?_
  refine zz_get hC (pc := 66) (v := .ref (zh Γ + 1)) zg_RX10_10 rfl dX10_init_66 ?_
  refine zz_call hC hB (pc := 69) (b := zh Γ + 22) (k1 := 1) [.ref (zh Γ + 1)] [.ref (zh Γ + 22), .ref (zh Γ)] (zt_X0 (a1 := (zh Γ + 1)) zOk_nil) zi_RX10_41 (rmK_le hR (Nat.le_of_ble_eq_true rfl) (Nat.le_of_ble_eq_true rfl)) zOk_nil (fun _ _ _ => zE_nil) rfl rfl rfl (Nat.le_of_ble_eq_true rfl) (hce _ (Nat.le_of_ble_eq_true rfl)) (hsl _ (Nat.le_of_ble_eq_true rfl)) rfl dX10_init_69 (fun hB => ?_)
  refine zz_putF hC hin (pc := 72) ([.ref (zh Γ + 1), .ref (zh Γ + 5), .ref (zh Γ + 18), .ref (zh Γ + 19), .ref (zh Γ + 22), .null, .null, .null, .null, .null, .null, .int 0, .int 0, .int 0, .int 0]) zf_RX10_42 (Nat.le_of_ble_eq_true rfl) rfl rfl rfl dX10_init_72 ?_
  refine z_aload_n hC (pc := 75) dX10_init_75 0 rfl rfl ?_
  refine zz_new hC hB (pc := 76) (a := zh Γ + 23) zc_X9 zw_107 (hce _ (Nat.le_of_ble_eq_true rfl)) (hsl _ (Nat.le_of_ble_eq_true rfl)) rfl dX10_init_76 ?_
  refine z_dup hC (pc := 79) dX10_init_79 rfl ?_
  refine z_aload_n hC (pc := 80) dX10_init_80 0 rfl rfl ?_
  refine zz_get hC (pc := 81) (v := .ref (zh Γ + 5)) zg_RX10_21 rfl dX10_init_81 ?_
  refine zz_call hC hB (pc := 84) (b := zh Γ + 23) (k1 := 76) [.ref (zh Γ + 5)] [.ref (zh Γ + 23), .ref (zh Γ)] (zt_X9 (c := zh Γ + 5) (fc := nX1_f (zh Γ + 5) (zh Γ + 1)) (g := zh Γ + 1) rfl (zOk_1 (by omega))) zi_RX10_48 (rmK_le hR (Nat.le_of_ble_eq_true rfl) (Nat.le_of_ble_eq_true rfl)) (zOk_1 (by omega)) (fun H locs hj => ⟨hj.pick (k := 5) rfl rfl, fun _ _ _ => trivial⟩) rfl rfl rfl (Nat.le_of_ble_eq_true rfl) (hce _ (Nat.le_of_ble_eq_true rfl)) (hsl _ (Nat.le_of_ble_eq_true rfl)) rfl dX10_init_84 (fun hB => ?_)
  refine zz_putF hC hin (pc := 87) ([.ref (zh Γ + 1), .ref (zh Γ + 5), .ref (zh Γ + 18), .ref (zh Γ + 19), .ref (zh Γ + 22), .ref (zh Γ + 23), .null, .null, .null, .null, .null, .int 0, .int 0, .int 0, .int 0]) zf_RX10_51 (Nat.le_of_ble_eq_true rfl) rfl rfl rfl dX10_init_87 ?_
  refine z_aload_n hC (pc := 90) dX10_init_90 0 rfl rfl ?_
  refine zz_new hC hB (pc := 91) (a := zh Γ + 99) zc_X3 zw_114 (hce _ (Nat.le_of_ble_eq_true rfl)) (hsl _ (Nat.le_of_ble_eq_true rfl)) rfl dX10_init_91 ?_
  refine z_dup hC (pc := 94) dX10_init_94 rfl ?_
  refine zz_call hC hB (pc := 95) (b := zh Γ + 99) (k1 := 30) [] [.ref (zh Γ + 99), .ref (zh Γ)] (zt_X3 zOk_nil) zi_RX10_57 (rmK_le hR (Nat.le_of_ble_eq_true rfl) (Nat.le_of_ble_eq_true rfl)) zOk_nil (fun _ _ _ => zE_nil) rfl rfl rfl (Nat.le_of_ble_eq_true rfl) (hce _ (Nat.le_of_ble_eq_true rfl)) (hsl _ (Nat.le_of_ble_eq_true rfl)) rfl dX10_init_95 (fun hB => ?_)
  refine zz_putF hC hin (pc := 98) ([.ref (zh Γ + 1), .ref (zh Γ + 5), .ref (zh Γ + 18), .ref (zh Γ + 19), .ref (zh Γ + 22), .ref (zh Γ + 23), .ref (zh Γ + 99), .null, .null, .null, .null, .int 0, .int 0, .int 0, .int 0]) zf_RX10_58 (Nat.le_of_ble_eq_true rfl) rfl rfl rfl dX10_init_98 ?_
  refine z_aload_n hC (pc := 101) dX10_init_101 0 rfl rfl ?_
  refine z_sipush hC (pc := 102) dX10_init_102 zks_600 ?_
  refine zz_newB hC hB (pc := 105) (a := zh Γ + 129) zw_23 zp_600.1 zp_600.2 (Nat.le_of_ble_eq_true rfl) (hce _ (Nat.le_of_ble_eq_true rfl)) (hsl _ (Nat.le_of_ble_eq_true rfl)) rfl dX10_init_105 (fun hB => ?_)
  refine zz_putF hC hin (pc := 107) ([.ref (zh Γ + 1), .ref (zh Γ + 5), .ref (zh Γ + 18), .ref (zh Γ + 19), .ref (zh Γ + 22), .ref (zh Γ + 23), .ref (zh Γ + 99), .ref (zh Γ + 129), .null, .null, .null, .int 0, .int 0, .int 0, .int 0]) zf_RX10_62 (Nat.le_of_ble_eq_true rfl) rfl rfl rfl dX10_init_107 ?_
  refine z_aload_n hC (pc := 110) dX10_init_110 0 rfl rfl ?_
  refine zz_new hC hB (pc := 111) (a := zh Γ + 130) zc_X6 zw_122 (hce _ (Nat.le_of_ble_eq_true rfl)) (hsl _ (Nat.le_of_ble_eq_true rfl)) rfl dX10_init_111 ?_
  refine z_dup hC (pc := 114) dX10_init_114 rfl ?_
  refine z_aload_n hC (pc := 115) dX10_init_115 0 rfl rfl ?_
  refine zz_get hC (pc := 116) (v := .ref (zh Γ + 129)) zg_RX10_62 rfl dX10_init_116 ?_
  refine zz_call hC hB (pc := 119) (b := zh Γ + 130) (k1 := 10) [.ref (zh Γ + 129)] [.ref (zh Γ + 130), .ref (zh Γ)] (zt_X6 (a1 := (zh Γ + 129)) zOk_nil) zi_RX10_68 (rmK_le hR (Nat.le_of_ble_eq_true rfl) (Nat.le_of_ble_eq_true rfl)) zOk_nil (fun _ _ _ => zE_nil) rfl rfl rfl (Nat.le_of_ble_eq_true rfl) (hce _ (Nat.le_of_ble_eq_true rfl)) (hsl _ (Nat.le_of_ble_eq_true rfl)) rfl dX10_init_119 (fun hB => ?_)
  refine zz_putF hC hin (pc := 122) ([.ref (zh Γ + 1), .ref (zh Γ + 5), .ref (zh Γ + 18), .ref (zh Γ + 19), .ref (zh Γ + 22), .ref (zh Γ + 23), .ref (zh Γ + 99), .ref (zh Γ + 129), .ref (zh Γ + 130), .null, .null, .int 0, .int 0, .int 0, .int 0]) zf_RX10_71 (Nat.le_of_ble_eq_true rfl) rfl rfl rfl dX10_init_122 ?_
  refine z_aload_n hC (pc := 125) dX10_init_125 0 rfl rfl ?_
  refine zz_new hC hB (pc := 126) (a := zh Γ + 140) zc_X5 zw_129 (hce _ (Nat.le_of_ble_eq_true rfl)) (hsl _ (Nat.le_of_ble_eq_true rfl)) rfl dX10_init_126 ?_
  refine z_dup hC (pc := 129) dX10_init_129 rfl ?_
  refine zz_call hC hB (pc := 130) (b := zh Γ + 140) (k1 := 3) [] [.ref (zh Γ + 140), .ref (zh Γ)] (zt_X5 zOk_nil) zi_RX10_77 (rmK_le hR (Nat.le_of_ble_eq_true rfl) (Nat.le_of_ble_eq_true rfl)) zOk_nil (fun _ _ _ => zE_nil) rfl rfl rfl (Nat.le_of_ble_eq_true rfl) (hce _ (Nat.le_of_ble_eq_true rfl)) (hsl _ (Nat.le_of_ble_eq_true rfl)) rfl dX10_init_130 (fun hB => ?_)
  refine zz_putF hC hin (pc := 133) ([.ref (zh Γ + 1), .ref (zh Γ + 5), .ref (zh Γ + 18), .ref (zh Γ + 19), .ref (zh Γ + 22), .ref (zh Γ + 23), .ref (zh Γ + 99), .ref (zh Γ + 129), .ref (zh Γ + 130), .ref (zh Γ + 140), .null, .int 0, .int 0, .int 0, .int 0]) zf_RX10_78 (Nat.le_of_ble_eq_true rfl) rfl rfl rfl dX10_init_133 ?_
  refine z_aload_n hC (pc := 136) dX10_init_136 0 rfl rfl ?_
  refine zz_new hC hB (pc := 137) (a := zh Γ + 143) zc_X2 zw_75 (hce _ (Nat.le_of_ble_eq_true rfl)) (hsl _ (Nat.le_of_ble_eq_true rfl)) rfl dX10_init_137 ?_
  refine z_dup hC (pc := 140) dX10_init_140 rfl ?_
  refine zz_call hC hB (pc := 141) (b := zh Γ + 143) (k1 := 4) [] [.ref (zh Γ + 143), .ref (zh Γ)] (zt_X2 zOk_nil) zi_RX10_9 (rmK_le hR (Nat.le_of_ble_eq_true rfl) (Nat.le_of_ble_eq_true rfl)) zOk_nil (fun _ _ _ => zE_nil) rfl rfl rfl (Nat.le_of_ble_eq_true rfl) (hce _ (Nat.le_of_ble_eq_true rfl)) (hsl _ (Nat.le_of_ble_eq_true rfl)) rfl dX10_init_141 (fun hB => ?_)
  refine zz_putF hC hin (pc := 144) ([.ref (zh Γ + 1), .ref (zh Γ + 5), .ref (zh Γ + 18), .ref (zh Γ + 19), .ref (zh Γ + 22), .ref (zh Γ + 23), .ref (zh Γ + 99), .ref (zh Γ + 129), .ref (zh Γ + 130), .ref (zh Γ + 140), .ref (zh Γ + 143), .int 0, .int 0, .int 0, .int 0]) zf_RX10_82 (Nat.le_of_ble_eq_true rfl) rfl rfl rfl dX10_init_144 ?_
  refine z_aload_n hC (pc := 147) dX10_init_147 0 rfl rfl ?_
  refine z_iconst hC (pc := 148) dX10_init_148 zki_0 ?_
  refine zz_put hC (pc := 149) ([.ref (zh Γ + 1), .ref (zh Γ + 5), .ref (zh Γ + 18), .ref (zh Γ + 19), .ref (zh Γ + 22), .ref (zh Γ + 23), .ref (zh Γ + 99), .ref (zh Γ + 129), .ref (zh Γ + 130), .ref (zh Γ + 140), .ref (zh Γ + 143), .int 0, .int 0, .int 0, .int 0]) zp_RX10_85 (Nat.le_of_ble_eq_true rfl) rfl rfl rfl dX10_init_149 ?_
  refine z_aload_n hC (pc := 152) dX10_init_152 0 rfl rfl ?_
  refine z_iconst hC (pc := 153) dX10_init_153 zki_0 ?_
  refine zz_put hC (pc := 154) ([.ref (zh Γ + 1), .ref (zh Γ + 5), .ref (zh Γ + 18), .ref (zh Γ + 19), .ref (zh Γ + 22), .ref (zh Γ + 23), .ref (zh Γ + 99), .ref (zh Γ + 129), .ref (zh Γ + 130), .ref (zh Γ + 140), .ref (zh Γ + 143), .int 0, .int 0, .int 0, .int 0]) zp_RX10_89 (Nat.le_of_ble_eq_true rfl) rfl rfl rfl dX10_init_154 ?_
  refine z_aload_n hC (pc := 157) dX10_init_157 0 rfl rfl ?_
  refine z_iconst hC (pc := 158) dX10_init_158 zki_m1 ?_
  refine zz_put hC (pc := 159) ([.ref (zh Γ + 1), .ref (zh Γ + 5), .ref (zh Γ + 18), .ref (zh Γ + 19), .ref (zh Γ + 22), .ref (zh Γ + 23), .ref (zh Γ + 99), .ref (zh Γ + 129), .ref (zh Γ + 130), .ref (zh Γ + 140), .ref (zh Γ + 143), .int 0, .int 0, .int (-1), .int 0]) zp_RX10_92 (Nat.le_of_ble_eq_true rfl) rfl rfl rfl dX10_init_159 ?_
  refine z_aload_n hC (pc := 162) dX10_init_162 0 rfl rfl ?_
  refine z_iconst hC (pc := 163) dX10_init_163 zki_m1 ?_
  refine zz_put hC (pc := 164) ([.ref (zh Γ + 1), .ref (zh Γ + 5), .ref (zh Γ + 18), .ref (zh Γ + 19), .ref (zh Γ + 22), .ref (zh Γ + 23), .ref (zh Γ + 99), .ref (zh Γ + 129), .ref (zh Γ + 130), .ref (zh Γ + 140), .ref (zh Γ + 143), .int 0, .int 0, .int (-1), .int (-1)]) zp_RX10_95 (Nat.le_of_ble_eq_true rfl) rfl rfl rfl dX10_init_164 ?_
  refine z_aload_n hC (pc := 167) dX10_init_167 0 rfl rfl ?_
  refine zz_get hC (pc := 168) (v := .ref (zh Γ + 1)) zg_RX10_10 rfl dX10_init_168 ?_
  refine z_iconst hC (pc := 171) dX10_init_171 zki_0 ?_
  exact kk
