/-! CONSTRUCTORS: the reference's (laid by wip/gen/ctor.py) -/
set_option maxHeartbeats 20000000 in
set_option maxRecDepth 100000 in
theorem zt_X11 {D : va_G} {cA : Nat → ClassId} {h : Nat} {E : State → Prop} {l : Launch} {ws0 : va_W} (hok : zOk h ws0 E) : ZT D cA h ws0 E l yX11_init cX11_init 1 (rmK 1 14 78839) 14 78839 [.ref h] (.inr (11, [.int 0, .int 0, .null, .null, .null, .null, .int 0, .null, .null, .null, .null, .int 0, .int 0, .null, .int 0, .int 0, .null, .null, .null, .int 0, .int 0, .null, .int 0, .int 0, .int 0, .int 0, .int 0, .int 0, .int 0, .int 0, .int 0, .int 0, .int 0, .int 0, .long 0, .null])) (.inr (11, nX11_f h) :: nX11_b cA h) := by
  refine zt_of (by decide +kernel) rfl hok (Nat.le_of_ble_eq_true rfl) ?_
  intro Γ hR hl hD hA hh h0 hE hC hin hret
  subst hD
  subst hA
  subst hh
  have hce : ∀ k, k ≤ 14 → k ≤ (zR Γ).cells := by rw [hR]; exact fun _ h => h
  have hsl : ∀ k, k ≤ 78839 → k ≤ (zR Γ).slots := by rw [hR]; exact fun _ h => h
  have hB : ([] : List va_E).length = 0 := rfl
  refine z_aload_n hC (pc := 0) dX11_init_0 0 rfl rfl ?_
  refine z_obj hC (pc := 1) zo_RX11_1 (rmK_1 hR).1 (rmK_1 hR).2 dX11_init_1 ?_
  refine z_aload_n hC (pc := 4) dX11_init_4 0 rfl rfl ?_
  refine z_sipush hC (pc := 5) dX11_init_5 zks_6157 ?_
  refine zz_newI hC hB (pc := 8) (a := zh Γ + 1) zw_3 zp_6157.1 zp_6157.2 (Nat.le_of_ble_eq_true rfl) (hce _ (Nat.le_of_ble_eq_true rfl)) (hsl _ (Nat.le_of_ble_eq_true rfl)) rfl dX11_init_8 (fun hB => ?_)
  refine zz_putF hC hin (pc := 10) ([.int 0, .int 0, .ref (zh Γ + 1), .null, .null, .null, .int 0, .null, .null, .null, .null, .int 0, .int 0, .null, .int 0, .int 0, .null, .null, .null, .int 0, .int 0, .null, .int 0, .int 0, .int 0, .int 0, .int 0, .int 0, .int 0, .int 0, .int 0, .int 0, .int 0, .int 0, .long 0, .null]) zf_RX11_7 (Nat.le_of_ble_eq_true rfl) rfl rfl rfl dX11_init_10 ?_
  refine z_aload_n hC (pc := 13) dX11_init_13 0 rfl rfl ?_
  refine z_sipush hC (pc := 14) dX11_init_14 zks_6157 ?_
  refine zz_newI hC hB (pc := 17) (a := zh Γ + 2) zw_3 zp_6157.1 zp_6157.2 (Nat.le_of_ble_eq_true rfl) (hce _ (Nat.le_of_ble_eq_true rfl)) (hsl _ (Nat.le_of_ble_eq_true rfl)) rfl dX11_init_17 (fun hB => ?_)
  refine zz_putF hC hin (pc := 19) ([.int 0, .int 0, .ref (zh Γ + 1), .ref (zh Γ + 2), .null, .null, .int 0, .null, .null, .null, .null, .int 0, .int 0, .null, .int 0, .int 0, .null, .null, .null, .int 0, .int 0, .null, .int 0, .int 0, .int 0, .int 0, .int 0, .int 0, .int 0, .int 0, .int 0, .int 0, .int 0, .int 0, .long 0, .null]) zf_RX11_13 (Nat.le_of_ble_eq_true rfl) rfl rfl rfl dX11_init_19 ?_
  refine z_aload_n hC (pc := 22) dX11_init_22 0 rfl rfl ?_
  refine z_ldc hC (pc := 23) dX11_init_23 (v := 36942) zw_141 ?_
  refine zz_newI hC hB (pc := 25) (a := zh Γ + 3) zw_3 zp_36942.1 zp_36942.2 (Nat.le_of_ble_eq_true rfl) (hce _ (Nat.le_of_ble_eq_true rfl)) (hsl _ (Nat.le_of_ble_eq_true rfl)) rfl dX11_init_25 (fun hB => ?_)
  refine zz_putF hC hin (pc := 27) ([.int 0, .int 0, .ref (zh Γ + 1), .ref (zh Γ + 2), .ref (zh Γ + 3), .null, .int 0, .null, .null, .null, .null, .int 0, .int 0, .null, .int 0, .int 0, .null, .null, .null, .int 0, .int 0, .null, .int 0, .int 0, .int 0, .int 0, .int 0, .int 0, .int 0, .int 0, .int 0, .int 0, .int 0, .int 0, .long 0, .null]) zf_RX11_17 (Nat.le_of_ble_eq_true rfl) rfl rfl rfl dX11_init_27 ?_
  refine z_aload_n hC (pc := 30) dX11_init_30 0 rfl rfl ?_
  refine z_sipush hC (pc := 31) dX11_init_31 zks_6157 ?_
  refine zz_newI hC hB (pc := 34) (a := zh Γ + 4) zw_3 zp_6157.1 zp_6157.2 (Nat.le_of_ble_eq_true rfl) (hce _ (Nat.le_of_ble_eq_true rfl)) (hsl _ (Nat.le_of_ble_eq_true rfl)) rfl dX11_init_34 (fun hB => ?_)
  refine zz_putF hC hin (pc := 36) ([.int 0, .int 0, .ref (zh Γ + 1), .ref (zh Γ + 2), .ref (zh Γ + 3), .ref (zh Γ + 4), .int 0, .null, .null, .null, .null, .int 0, .int 0, .null, .int 0, .int 0, .null, .null, .null, .int 0, .int 0, .null, .int 0, .int 0, .int 0, .int 0, .int 0, .int 0, .int 0, .int 0, .int 0, .int 0, .int 0, .int 0, .long 0, .null]) zf_RX11_20 (Nat.le_of_ble_eq_true rfl) rfl rfl rfl dX11_init_36 ?_
  refine z_aload_n hC (pc := 39) dX11_init_39 0 rfl rfl ?_
  refine z_bipush hC (pc := 40) dX11_init_40 zkb_6 ?_
  refine zz_newI hC hB (pc := 42) (a := zh Γ + 5) zw_3 zp_6.1 zp_6.2 (Nat.le_of_ble_eq_true rfl) (hce _ (Nat.le_of_ble_eq_true rfl)) (hsl _ (Nat.le_of_ble_eq_true rfl)) rfl dX11_init_42 (fun hB => ?_)
  refine zz_putF hC hin (pc := 44) ([.int 0, .int 0, .ref (zh Γ + 1), .ref (zh Γ + 2), .ref (zh Γ + 3), .ref (zh Γ + 4), .int 0, .ref (zh Γ + 5), .null, .null, .null, .int 0, .int 0, .null, .int 0, .int 0, .null, .null, .null, .int 0, .int 0, .null, .int 0, .int 0, .int 0, .int 0, .int 0, .int 0, .int 0, .int 0, .int 0, .int 0, .int 0, .int 0, .long 0, .null]) zf_RX11_23 (Nat.le_of_ble_eq_true rfl) rfl rfl rfl dX11_init_44 ?_
  refine z_aload_n hC (pc := 47) dX11_init_47 0 rfl rfl ?_
  refine z_sipush hC (pc := 48) dX11_init_48 zks_4096 ?_
  refine zz_newI hC hB (pc := 51) (a := zh Γ + 6) zw_3 zp_4096.1 zp_4096.2 (Nat.le_of_ble_eq_true rfl) (hce _ (Nat.le_of_ble_eq_true rfl)) (hsl _ (Nat.le_of_ble_eq_true rfl)) rfl dX11_init_51 (fun hB => ?_)
  refine zz_putF hC hin (pc := 53) ([.int 0, .int 0, .ref (zh Γ + 1), .ref (zh Γ + 2), .ref (zh Γ + 3), .ref (zh Γ + 4), .int 0, .ref (zh Γ + 5), .ref (zh Γ + 6), .null, .null, .int 0, .int 0, .null, .int 0, .int 0, .null, .null, .null, .int 0, .int 0, .null, .int 0, .int 0, .int 0, .int 0, .int 0, .int 0, .int 0, .int 0, .int 0, .int 0, .int 0, .int 0, .long 0, .null]) zf_RX11_26 (Nat.le_of_ble_eq_true rfl) rfl rfl rfl dX11_init_53 ?_
  refine z_aload_n hC (pc := 56) dX11_init_56 0 rfl rfl ?_
  refine z_bipush hC (pc := 57) dX11_init_57 zkb_6 ?_
  refine zz_newI hC hB (pc := 59) (a := zh Γ + 7) zw_3 zp_6.1 zp_6.2 (Nat.le_of_ble_eq_true rfl) (hce _ (Nat.le_of_ble_eq_true rfl)) (hsl _ (Nat.le_of_ble_eq_true rfl)) rfl dX11_init_59 (fun hB => ?_)
  refine zz_putF hC hin (pc := 61) ([.int 0, .int 0, .ref (zh Γ + 1), .ref (zh Γ + 2), .ref (zh Γ + 3), .ref (zh Γ + 4), .int 0, .ref (zh Γ + 5), .ref (zh Γ + 6), .ref (zh Γ + 7), .null, .int 0, .int 0, .null, .int 0, .int 0, .null, .null, .null, .int 0, .int 0, .null, .int 0, .int 0, .int 0, .int 0, .int 0, .int 0, .int 0, .int 0, .int 0, .int 0, .int 0, .int 0, .long 0, .null]) zf_RX11_29 (Nat.le_of_ble_eq_true rfl) rfl rfl rfl dX11_init_61 ?_
  refine z_aload_n hC (pc := 64) dX11_init_64 0 rfl rfl ?_
  refine z_sipush hC (pc := 65) dX11_init_65 zks_4096 ?_
  refine zz_newI hC hB (pc := 68) (a := zh Γ + 8) zw_3 zp_4096.1 zp_4096.2 (Nat.le_of_ble_eq_true rfl) (hce _ (Nat.le_of_ble_eq_true rfl)) (hsl _ (Nat.le_of_ble_eq_true rfl)) rfl dX11_init_68 (fun hB => ?_)
  refine zz_putF hC hin (pc := 70) ([.int 0, .int 0, .ref (zh Γ + 1), .ref (zh Γ + 2), .ref (zh Γ + 3), .ref (zh Γ + 4), .int 0, .ref (zh Γ + 5), .ref (zh Γ + 6), .ref (zh Γ + 7), .ref (zh Γ + 8), .int 0, .int 0, .null, .int 0, .int 0, .null, .null, .null, .int 0, .int 0, .null, .int 0, .int 0, .int 0, .int 0, .int 0, .int 0, .int 0, .int 0, .int 0, .int 0, .int 0, .int 0, .long 0, .null]) zf_RX11_32 (Nat.le_of_ble_eq_true rfl) rfl rfl rfl dX11_init_70 ?_
  refine z_aload_n hC (pc := 73) dX11_init_73 0 rfl rfl ?_
  refine z_bipush hC (pc := 74) dX11_init_74 zkb_6 ?_
  refine zz_newI hC hB (pc := 76) (a := zh Γ + 9) zw_3 zp_6.1 zp_6.2 (Nat.le_of_ble_eq_true rfl) (hce _ (Nat.le_of_ble_eq_true rfl)) (hsl _ (Nat.le_of_ble_eq_true rfl)) rfl dX11_init_76 (fun hB => ?_)
  refine zz_putF hC hin (pc := 78) ([.int 0, .int 0, .ref (zh Γ + 1), .ref (zh Γ + 2), .ref (zh Γ + 3), .ref (zh Γ + 4), .int 0, .ref (zh Γ + 5), .ref (zh Γ + 6), .ref (zh Γ + 7), .ref (zh Γ + 8), .int 0, .int 0, .ref (zh Γ + 9), .int 0, .int 0, .null, .null, .null, .int 0, .int 0, .null, .int 0, .int 0, .int 0, .int 0, .int 0, .int 0, .int 0, .int 0, .int 0, .int 0, .int 0, .int 0, .long 0, .null]) zf_RX11_35 (Nat.le_of_ble_eq_true rfl) rfl rfl rfl dX11_init_78 ?_
  refine z_aload_n hC (pc := 81) dX11_init_81 0 rfl rfl ?_
  refine z_bipush hC (pc := 82) dX11_init_82 zkb_6 ?_
  refine zz_newI hC hB (pc := 84) (a := zh Γ + 10) zw_3 zp_6.1 zp_6.2 (Nat.le_of_ble_eq_true rfl) (hce _ (Nat.le_of_ble_eq_true rfl)) (hsl _ (Nat.le_of_ble_eq_true rfl)) rfl dX11_init_84 (fun hB => ?_)
  refine zz_putF hC hin (pc := 86) ([.int 0, .int 0, .ref (zh Γ + 1), .ref (zh Γ + 2), .ref (zh Γ + 3), .ref (zh Γ + 4), .int 0, .ref (zh Γ + 5), .ref (zh Γ + 6), .ref (zh Γ + 7), .ref (zh Γ + 8), .int 0, .int 0, .ref (zh Γ + 9), .int 0, .int 0, .ref (zh Γ + 10), .null, .null, .int 0, .int 0, .null, .int 0, .int 0, .int 0, .int 0, .int 0, .int 0, .int 0, .int 0, .int 0, .int 0, .int 0, .int 0, .long 0, .null]) zf_RX11_38 (Nat.le_of_ble_eq_true rfl) rfl rfl rfl dX11_init_86 ?_
  refine z_aload_n hC (pc := 89) dX11_init_89 0 rfl rfl ?_
  refine z_sipush hC (pc := 90) dX11_init_90 zks_14000 ?_
  refine zz_newI hC hB (pc := 93) (a := zh Γ + 11) zw_3 zp_14000.1 zp_14000.2 (Nat.le_of_ble_eq_true rfl) (hce _ (Nat.le_of_ble_eq_true rfl)) (hsl _ (Nat.le_of_ble_eq_true rfl)) rfl dX11_init_93 (fun hB => ?_)
  refine zz_putF hC hin (pc := 95) ([.int 0, .int 0, .ref (zh Γ + 1), .ref (zh Γ + 2), .ref (zh Γ + 3), .ref (zh Γ + 4), .int 0, .ref (zh Γ + 5), .ref (zh Γ + 6), .ref (zh Γ + 7), .ref (zh Γ + 8), .int 0, .int 0, .ref (zh Γ + 9), .int 0, .int 0, .ref (zh Γ + 10), .ref (zh Γ + 11), .null, .int 0, .int 0, .null, .int 0, .int 0, .int 0, .int 0, .int 0, .int 0, .int 0, .int 0, .int 0, .int 0, .int 0, .int 0, .long 0, .null]) zf_RX11_41 (Nat.le_of_ble_eq_true rfl) rfl rfl rfl dX11_init_95 ?_
  refine z_aload_n hC (pc := 98) dX11_init_98 0 rfl rfl ?_
  refine z_sipush hC (pc := 99) dX11_init_99 zks_600 ?_
  refine zz_newI hC hB (pc := 102) (a := zh Γ + 12) zw_3 zp_600.1 zp_600.2 (Nat.le_of_ble_eq_true rfl) (hce _ (Nat.le_of_ble_eq_true rfl)) (hsl _ (Nat.le_of_ble_eq_true rfl)) rfl dX11_init_102 (fun hB => ?_)
  refine zz_putF hC hin (pc := 104) ([.int 0, .int 0, .ref (zh Γ + 1), .ref (zh Γ + 2), .ref (zh Γ + 3), .ref (zh Γ + 4), .int 0, .ref (zh Γ + 5), .ref (zh Γ + 6), .ref (zh Γ + 7), .ref (zh Γ + 8), .int 0, .int 0, .ref (zh Γ + 9), .int 0, .int 0, .ref (zh Γ + 10), .ref (zh Γ + 11), .ref (zh Γ + 12), .int 0, .int 0, .null, .int 0, .int 0, .int 0, .int 0, .int 0, .int 0, .int 0, .int 0, .int 0, .int 0, .int 0, .int 0, .long 0, .null]) zf_RX11_44 (Nat.le_of_ble_eq_true rfl) rfl rfl rfl dX11_init_104 ?_
  refine z_aload_n hC (pc := 107) dX11_init_107 0 rfl rfl ?_
  refine z_sipush hC (pc := 108) dX11_init_108 zks_600 ?_
  refine zz_newB hC hB (pc := 111) (a := zh Γ + 13) zw_23 zp_600.1 zp_600.2 (Nat.le_of_ble_eq_true rfl) (hce _ (Nat.le_of_ble_eq_true rfl)) (hsl _ (Nat.le_of_ble_eq_true rfl)) rfl dX11_init_111 (fun hB => ?_)
  refine zz_putF hC hin (pc := 113) ([.int 0, .int 0, .ref (zh Γ + 1), .ref (zh Γ + 2), .ref (zh Γ + 3), .ref (zh Γ + 4), .int 0, .ref (zh Γ + 5), .ref (zh Γ + 6), .ref (zh Γ + 7), .ref (zh Γ + 8), .int 0, .int 0, .ref (zh Γ + 9), .int 0, .int 0, .ref (zh Γ + 10), .ref (zh Γ + 11), .ref (zh Γ + 12), .int 0, .int 0, .ref (zh Γ + 13), .int 0, .int 0, .int 0, .int 0, .int 0, .int 0, .int 0, .int 0, .int 0, .int 0, .int 0, .int 0, .long 0, .null]) zf_RX11_47 (Nat.le_of_ble_eq_true rfl) rfl rfl rfl dX11_init_113 ?_
  refine z_aload_n hC (pc := 116) dX11_init_116 0 rfl rfl ?_
  refine z_iconst hC (pc := 117) dX11_init_117 zki_m1 ?_
  refine zz_put hC (pc := 118) ([.int 0, .int 0, .ref (zh Γ + 1), .ref (zh Γ + 2), .ref (zh Γ + 3), .ref (zh Γ + 4), .int 0, .ref (zh Γ + 5), .ref (zh Γ + 6), .ref (zh Γ + 7), .ref (zh Γ + 8), .int 0, .int 0, .ref (zh Γ + 9), .int 0, .int 0, .ref (zh Γ + 10), .ref (zh Γ + 11), .ref (zh Γ + 12), .int 0, .int 0, .ref (zh Γ + 13), .int 0, .int (-1), .int 0, .int 0, .int 0, .int 0, .int 0, .int 0, .int 0, .int 0, .int 0, .int 0, .long 0, .null]) zp_RX11_51 (Nat.le_of_ble_eq_true rfl) rfl rfl rfl dX11_init_118 ?_
  refine z_aload_n hC (pc := 121) dX11_init_121 0 rfl rfl ?_
  refine z_iconst hC (pc := 122) dX11_init_122 zki_m1 ?_
  refine zz_put hC (pc := 123) ([.int 0, .int 0, .ref (zh Γ + 1), .ref (zh Γ + 2), .ref (zh Γ + 3), .ref (zh Γ + 4), .int 0, .ref (zh Γ + 5), .ref (zh Γ + 6), .ref (zh Γ + 7), .ref (zh Γ + 8), .int 0, .int 0, .ref (zh Γ + 9), .int 0, .int 0, .ref (zh Γ + 10), .ref (zh Γ + 11), .ref (zh Γ + 12), .int 0, .int 0, .ref (zh Γ + 13), .int 0, .int (-1), .int (-1), .int 0, .int 0, .int 0, .int 0, .int 0, .int 0, .int 0, .int 0, .int 0, .long 0, .null]) zp_RX11_55 (Nat.le_of_ble_eq_true rfl) rfl rfl rfl dX11_init_123 ?_
  refine z_aload_n hC (pc := 126) dX11_init_126 0 rfl rfl ?_
  refine z_bipush hC (pc := 127) dX11_init_127 zkb_10 ?_
  refine zz_newL hC hB (pc := 129) (a := zh Γ + 14) zw_6 zp_10.1 zp_10.2 (Nat.le_of_ble_eq_true rfl) (hce _ (Nat.le_of_ble_eq_true rfl)) (hsl _ (Nat.le_of_ble_eq_true rfl)) rfl dX11_init_129 ?_
  refine z_dup hC (pc := 131) dX11_init_131 rfl ?_
  refine z_iconst hC (pc := 132) dX11_init_132 zki_0 ?_
  refine z_ldc2 hC (pc := 133) dX11_init_133 (v := 6371942374) zw_155 ?_
  refine zz_last hC hB (pc := 136) (N := 10) (f := (fun _ => 0)) (f' := nWs 1) (by unfold vp_in; decide +kernel) (by rw [zp_0.2]; rfl) rfl dX11_init_136 ?_
  refine z_dup hC (pc := 137) dX11_init_137 rfl ?_
  refine z_iconst hC (pc := 138) dX11_init_138 zki_1 ?_
  refine z_ldc2 hC (pc := 139) dX11_init_139 (v := 158752) zw_156 ?_
  refine zz_last hC hB (pc := 142) (N := 10) (f := nWs 1) (f' := nWs 2) (by unfold vp_in; decide +kernel) (by rw [zp_1.2]; rfl) rfl dX11_init_142 ?_
  refine z_dup hC (pc := 143) dX11_init_143 rfl ?_
  refine z_iconst hC (pc := 144) dX11_init_144 zki_2 ?_
  refine z_ldc2 hC (pc := 145) dX11_init_145 (v := 243146) zw_157 ?_
  refine zz_last hC hB (pc := 148) (N := 10) (f := nWs 2) (f' := nWs 3) (by unfold vp_in; decide +kernel) (by rw [zp_2.2]; rfl) rfl dX11_init_148 ?_
  refine z_dup hC (pc := 149) dX11_init_149 rfl ?_
  refine z_iconst hC (pc := 150) dX11_init_150 zki_3 ?_
  refine z_ldc2 hC (pc := 151) dX11_init_151 (v := 377776) zw_158 ?_
  refine zz_last hC hB (pc := 154) (N := 10) (f := nWs 3) (f' := nWs 4) (by unfold vp_in; decide +kernel) (by rw [zp_3.2]; rfl) rfl dX11_init_154 ?_
  refine z_dup hC (pc := 155) dX11_init_155 rfl ?_
  refine z_iconst hC (pc := 156) dX11_init_156 zki_4 ?_
  refine z_ldc2 hC (pc := 157) dX11_init_157 (v := 4137607) zw_159 ?_
  refine zz_last hC hB (pc := 160) (N := 10) (f := nWs 4) (f' := nWs 5) (by unfold vp_in; decide +kernel) (by rw [zp_4.2]; rfl) rfl dX11_init_160 ?_
  refine z_dup hC (pc := 161) dX11_init_161 rfl ?_
  refine z_iconst hC (pc := 162) dX11_init_162 zki_5 ?_
  refine z_ldc2 hC (pc := 163) dX11_init_163 (v := 14431) zw_160 ?_
  refine zz_last hC hB (pc := 166) (N := 10) (f := nWs 5) (f' := nWs 6) (by unfold vp_in; decide +kernel) (by rw [zp_5.2]; rfl) rfl dX11_init_166 ?_
  refine z_dup hC (pc := 167) dX11_init_167 rfl ?_
  refine z_bipush hC (pc := 168) dX11_init_168 zkb_6 ?_
  refine z_ldc2 hC (pc := 170) dX11_init_170 (v := 375062) zw_161 ?_
  refine zz_last hC hB (pc := 173) (N := 10) (f := nWs 6) (f' := nWs 7) (by unfold vp_in; decide +kernel) (by rw [zp_6.2]; rfl) rfl dX11_init_173 ?_
  refine z_dup hC (pc := 174) dX11_init_174 rfl ?_
  refine z_bipush hC (pc := 175) dX11_init_175 zkb_7 ?_
  refine z_ldc2 hC (pc := 177) dX11_init_177 (v := 279875) zw_162 ?_
  refine zz_last hC hB (pc := 180) (N := 10) (f := nWs 7) (f' := nWs 8) (by unfold vp_in; decide +kernel) (by rw [zp_7.2]; rfl) rfl dX11_init_180 ?_
  refine z_dup hC (pc := 181) dX11_init_181 rfl ?_
  refine z_bipush hC (pc := 182) dX11_init_182 zkb_8 ?_
  refine z_ldc2 hC (pc := 184) dX11_init_184 (v := 3383428) zw_163 ?_
  refine zz_last hC hB (pc := 187) (N := 10) (f := nWs 8) (f' := nWs 9) (by unfold vp_in; decide +kernel) (by rw [zp_8.2]; rfl) rfl dX11_init_187 ?_
  refine z_dup hC (pc := 188) dX11_init_188 rfl ?_
  refine z_bipush hC (pc := 189) dX11_init_189 zkb_9 ?_
  refine z_ldc2 hC (pc := 191) dX11_init_191 (v := 10650290) zw_164 ?_
  refine zz_last hC hB (pc := 194) (N := 10) (f := nWs 9) (f' := nWs 10) (by unfold vp_in; decide +kernel) (by rw [zp_9.2]; rfl) rfl dX11_init_194 ?_
  refine zz_putF hC hin (pc := 195) ([.int 0, .int 0, .ref (zh Γ + 1), .ref (zh Γ + 2), .ref (zh Γ + 3), .ref (zh Γ + 4), .int 0, .ref (zh Γ + 5), .ref (zh Γ + 6), .ref (zh Γ + 7), .ref (zh Γ + 8), .int 0, .int 0, .ref (zh Γ + 9), .int 0, .int 0, .ref (zh Γ + 10), .ref (zh Γ + 11), .ref (zh Γ + 12), .int 0, .int 0, .ref (zh Γ + 13), .int 0, .int (-1), .int (-1), .int 0, .int 0, .int 0, .int 0, .int 0, .int 0, .int 0, .int 0, .int 0, .long 0, .ref (zh Γ + 14)]) zf_RX11_78 (Nat.le_of_ble_eq_true rfl) rfl rfl rfl dX11_init_195 ?_
  exact z_vret hC hret dX11_init_198
