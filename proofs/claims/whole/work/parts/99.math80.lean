/-! CONSTRUCTORS: their walks (laid by wip/gen/ctor.py) -/
theorem zOk_1 {a b : Nat} {e : va_E} (h : a < b) : zOk b [(a, e)] (fun _ => True) := by
  refine ⟨fun k q hq => ?_, fun _ _ _ _ _ _ => trivial, fun _ _ _ _ _ => trivial⟩
  have h0 : k < 1 := (List.getElem?_eq_some_iff.mp hq).1
  obtain rfl : k = 0 := by omega
  cases hq
  exact h
def nGs (h : Nat) : Nat → Nat → Option Nat
  | 0 => fun _ => none
  | k + 1 => va_up (nGs h k) k (some (h + (2 + 4 * k)))
def nWl : List Int64 := [6371942374, 158752, 243146, 377776, 4137607, 14431, 375062, 279875, 3383428, 10650290]
def nWs : Nat → Nat → Int64
  | 0 => fun _ => 0
  | k + 1 => vp_updL (nWs k) k (nWl.getD k 0)
def nX2_f (h : Nat) : List Value := [.int 0, .ref (h + 1), .ref (h + 2), .ref (h + 3)]
def nX2_b (cA : Nat → ClassId) (h : Nat) : List va_E := [.inl (cA 0, 6, .inl (fun _ => 0))] ++ [.inl (cA 0, 6, .inl (fun _ => 0))] ++ [.inl (cA 2, 192, .inr (.inl (fun _ => 0)))]
set_option maxHeartbeats 20000000 in
set_option maxRecDepth 100000 in
theorem zt_X2 {D : va_G} {cA : Nat → ClassId} {h : Nat} {E : State → Prop} {l : Launch} {ws0 : va_W} (hok : zOk h ws0 E) : ZT D cA h ws0 E l yX2_init cX2_init 1 (rmK 1 3 204) 3 204 [.ref h] (.inr (2, [.int 0, .null, .null, .null])) (.inr (2, nX2_f h) :: nX2_b cA h) := by
  refine zt_of (by decide +kernel) rfl hok (Nat.le_of_ble_eq_true rfl) ?_
  intro Γ hR hl hD hA hh h0 hE hC hin hret
  subst hD
  subst hA
  subst hh
  have hce : ∀ k, k ≤ 3 → k ≤ (zR Γ).cells := by rw [hR]; exact fun _ h => h
  have hsl : ∀ k, k ≤ 204 → k ≤ (zR Γ).slots := by rw [hR]; exact fun _ h => h
  refine z_aload_n hC (pc := 0) dX2_init_0 0 rfl rfl ?_
  refine z_obj hC (pc := 1) zo_RX2_5 (rmK_1 hR).1 (rmK_1 hR).2 dX2_init_1 ?_
  refine z_aload_n hC (pc := 4) dX2_init_4 0 rfl rfl ?_
  refine z_bipush hC (pc := 5) dX2_init_5 zkb_6 ?_
  refine z_newI hC (pc := 7) (a := zh Γ + 1) zw_3 zp_6.1 zp_6.2 (Nat.le_of_ble_eq_true rfl) (hce _ (Nat.le_of_ble_eq_true rfl)) (hsl _ (Nat.le_of_ble_eq_true rfl)) rfl dX2_init_7 ?_
  refine z_putF hC hin (pc := 9) (k := 0) (a := zh Γ) (fs := [.int 0, .null, .null, .null]) (fs' := [.int 0, .ref (zh Γ + 1), .null, .null]) (M' := .inr (2, [.int 0, .ref (zh Γ + 1), .null, .null]) :: ([.inl (zA Γ 0, 6, .inl (fun _ => 0))])) zf_RX2_11 rfl (Nat.le_of_ble_eq_true rfl) rfl rfl rfl rfl rfl dX2_init_9 ?_
  refine z_aload_n hC (pc := 12) dX2_init_12 0 rfl rfl ?_
  refine z_bipush hC (pc := 13) dX2_init_13 zkb_6 ?_
  refine z_newI hC (pc := 15) (a := zh Γ + 2) zw_3 zp_6.1 zp_6.2 (Nat.le_of_ble_eq_true rfl) (hce _ (Nat.le_of_ble_eq_true rfl)) (hsl _ (Nat.le_of_ble_eq_true rfl)) rfl dX2_init_15 ?_
  refine z_putF hC hin (pc := 17) (k := 0) (a := zh Γ) (fs := [.int 0, .ref (zh Γ + 1), .null, .null]) (fs' := [.int 0, .ref (zh Γ + 1), .ref (zh Γ + 2), .null]) (M' := .inr (2, [.int 0, .ref (zh Γ + 1), .ref (zh Γ + 2), .null]) :: ([.inl (zA Γ 0, 6, .inl (fun _ => 0))] ++ [.inl (zA Γ 0, 6, .inl (fun _ => 0))])) zf_RX2_15 rfl (Nat.le_of_ble_eq_true rfl) rfl rfl rfl rfl rfl dX2_init_17 ?_
  refine z_aload_n hC (pc := 20) dX2_init_20 0 rfl rfl ?_
  refine z_sipush hC (pc := 21) dX2_init_21 zks_192 ?_
  refine z_newL hC (pc := 24) (a := zh Γ + 3) zw_6 zp_192.1 zp_192.2 (Nat.le_of_ble_eq_true rfl) (hce _ (Nat.le_of_ble_eq_true rfl)) (hsl _ (Nat.le_of_ble_eq_true rfl)) rfl dX2_init_24 ?_
  refine z_putF hC hin (pc := 26) (k := 0) (a := zh Γ) (fs := [.int 0, .ref (zh Γ + 1), .ref (zh Γ + 2), .null]) (fs' := [.int 0, .ref (zh Γ + 1), .ref (zh Γ + 2), .ref (zh Γ + 3)]) (M' := .inr (2, [.int 0, .ref (zh Γ + 1), .ref (zh Γ + 2), .ref (zh Γ + 3)]) :: ([.inl (zA Γ 0, 6, .inl (fun _ => 0))] ++ [.inl (zA Γ 0, 6, .inl (fun _ => 0))] ++ [.inl (zA Γ 2, 192, .inr (.inl (fun _ => 0)))])) zf_RX2_18 rfl (Nat.le_of_ble_eq_true rfl) rfl rfl rfl rfl rfl dX2_init_26 ?_
  exact z_vret hC hret dX2_init_29
def nX0_f (h a1 : Nat) : List Value := [.ref a1]
def nX0_b (cA : Nat → ClassId) (h : Nat) : List va_E := []
set_option maxHeartbeats 20000000 in
set_option maxRecDepth 100000 in
theorem zt_X0 {D : va_G} {cA : Nat → ClassId} {h : Nat} {E : State → Prop} {l : Launch} {ws0 : va_W} {a1 : Nat} (hok : zOk h ws0 E) : ZT D cA h ws0 E l yX0_init cX0_init 2 (rmK 1 0 0) 0 0 [.ref h, .ref a1] (.inr (0, [.null])) (.inr (0, nX0_f h a1) :: nX0_b cA h) := by
  refine zt_of (by decide +kernel) rfl hok (Nat.le_of_ble_eq_true rfl) ?_
  intro Γ hR hl hD hA hh h0 hE hC hin hret
  subst hD
  subst hA
  subst hh
  have hce : ∀ k, k ≤ 0 → k ≤ (zR Γ).cells := by rw [hR]; exact fun _ h => h
  have hsl : ∀ k, k ≤ 0 → k ≤ (zR Γ).slots := by rw [hR]; exact fun _ h => h
  refine z_aload_n hC (pc := 0) dX0_init_0 0 rfl rfl ?_
  refine z_obj hC (pc := 1) zo_RX0_1 (rmK_1 hR).1 (rmK_1 hR).2 dX0_init_1 ?_
  refine z_aload_n hC (pc := 4) dX0_init_4 0 rfl rfl ?_
  refine z_aload_n hC (pc := 5) dX0_init_5 1 rfl rfl ?_
  refine z_putF hC hin (pc := 6) (k := 0) (a := zh Γ) (fs := [.null]) (fs' := [.ref a1]) (M' := .inr (0, [.ref a1]) :: []) zf_RX0_7 rfl (Nat.le_of_ble_eq_true rfl) rfl rfl rfl rfl rfl dX0_init_6 ?_
  exact z_vret hC hret dX0_init_9
def nX4_f (h a1 : Nat) : List Value := [.ref a1]
def nX4_b (cA : Nat → ClassId) (h : Nat) : List va_E := []
set_option maxHeartbeats 20000000 in
set_option maxRecDepth 100000 in
theorem zt_X4 {D : va_G} {cA : Nat → ClassId} {h : Nat} {E : State → Prop} {l : Launch} {ws0 : va_W} {a1 : Nat} (hok : zOk h ws0 E) : ZT D cA h ws0 E l yX4_init cX4_init 2 (rmK 1 0 0) 0 0 [.ref h, .ref a1] (.inr (4, [.null])) (.inr (4, nX4_f h a1) :: nX4_b cA h) := by
  refine zt_of (by decide +kernel) rfl hok (Nat.le_of_ble_eq_true rfl) ?_
  intro Γ hR hl hD hA hh h0 hE hC hin hret
  subst hD
  subst hA
  subst hh
  have hce : ∀ k, k ≤ 0 → k ≤ (zR Γ).cells := by rw [hR]; exact fun _ h => h
  have hsl : ∀ k, k ≤ 0 → k ≤ (zR Γ).slots := by rw [hR]; exact fun _ h => h
  refine z_aload_n hC (pc := 0) dX4_init_0 0 rfl rfl ?_
  refine z_obj hC (pc := 1) zo_RX4_3 (rmK_1 hR).1 (rmK_1 hR).2 dX4_init_1 ?_
  refine z_aload_n hC (pc := 4) dX4_init_4 0 rfl rfl ?_
  refine z_aload_n hC (pc := 5) dX4_init_5 1 rfl rfl ?_
  refine z_putF hC hin (pc := 6) (k := 0) (a := zh Γ) (fs := [.null]) (fs' := [.ref a1]) (M' := .inr (4, [.ref a1]) :: []) zf_RX4_9 rfl (Nat.le_of_ble_eq_true rfl) rfl rfl rfl rfl rfl dX4_init_6 ?_
  exact z_vret hC hret dX4_init_9
def nX7_f (h a1 : Nat) : List Value := [.ref a1, .ref (h + 1), .ref (h + 2)]
def nX7_b (cA : Nat → ClassId) (h : Nat) : List va_E := [.inl (cA 0, 6, .inl (fun _ => 0))] ++ [.inl (cA 0, 1024, .inl (fun _ => 0))]
set_option maxHeartbeats 20000000 in
set_option maxRecDepth 100000 in
theorem zt_X7 {D : va_G} {cA : Nat → ClassId} {h : Nat} {E : State → Prop} {l : Launch} {ws0 : va_W} {a1 : Nat} (hok : zOk h ws0 E) : ZT D cA h ws0 E l yX7_init cX7_init 2 (rmK 1 2 1030) 2 1030 [.ref h, .ref a1] (.inr (7, [.null, .null, .null])) (.inr (7, nX7_f h a1) :: nX7_b cA h) := by
  refine zt_of (by decide +kernel) rfl hok (Nat.le_of_ble_eq_true rfl) ?_
  intro Γ hR hl hD hA hh h0 hE hC hin hret
  subst hD
  subst hA
  subst hh
  have hce : ∀ k, k ≤ 2 → k ≤ (zR Γ).cells := by rw [hR]; exact fun _ h => h
  have hsl : ∀ k, k ≤ 1030 → k ≤ (zR Γ).slots := by rw [hR]; exact fun _ h => h
  refine z_aload_n hC (pc := 0) dX7_init_0 0 rfl rfl ?_
  refine z_obj hC (pc := 1) zo_RX7_3 (rmK_1 hR).1 (rmK_1 hR).2 dX7_init_1 ?_
  refine z_aload_n hC (pc := 4) dX7_init_4 0 rfl rfl ?_
  refine z_bipush hC (pc := 5) dX7_init_5 zkb_6 ?_
  refine z_newI hC (pc := 7) (a := zh Γ + 1) zw_3 zp_6.1 zp_6.2 (Nat.le_of_ble_eq_true rfl) (hce _ (Nat.le_of_ble_eq_true rfl)) (hsl _ (Nat.le_of_ble_eq_true rfl)) rfl dX7_init_7 ?_
  refine z_putF hC hin (pc := 9) (k := 0) (a := zh Γ) (fs := [.null, .null, .null]) (fs' := [.null, .ref (zh Γ + 1), .null]) (M' := .inr (7, [.null, .ref (zh Γ + 1), .null]) :: ([.inl (zA Γ 0, 6, .inl (fun _ => 0))])) zf_RX7_9 rfl (Nat.le_of_ble_eq_true rfl) rfl rfl rfl rfl rfl dX7_init_9 ?_
  refine z_aload_n hC (pc := 12) dX7_init_12 0 rfl rfl ?_
  refine z_sipush hC (pc := 13) dX7_init_13 zks_1024 ?_
  refine z_newI hC (pc := 16) (a := zh Γ + 2) zw_3 zp_1024.1 zp_1024.2 (Nat.le_of_ble_eq_true rfl) (hce _ (Nat.le_of_ble_eq_true rfl)) (hsl _ (Nat.le_of_ble_eq_true rfl)) rfl dX7_init_16 ?_
  refine z_putF hC hin (pc := 18) (k := 0) (a := zh Γ) (fs := [.null, .ref (zh Γ + 1), .null]) (fs' := [.null, .ref (zh Γ + 1), .ref (zh Γ + 2)]) (M' := .inr (7, [.null, .ref (zh Γ + 1), .ref (zh Γ + 2)]) :: ([.inl (zA Γ 0, 6, .inl (fun _ => 0))] ++ [.inl (zA Γ 0, 1024, .inl (fun _ => 0))])) zf_RX7_15 rfl (Nat.le_of_ble_eq_true rfl) rfl rfl rfl rfl rfl dX7_init_18 ?_
  refine z_aload_n hC (pc := 21) dX7_init_21 0 rfl rfl ?_
  refine z_aload_n hC (pc := 22) dX7_init_22 1 rfl rfl ?_
  refine z_putF hC hin (pc := 23) (k := 0) (a := zh Γ) (fs := [.null, .ref (zh Γ + 1), .ref (zh Γ + 2)]) (fs' := [.ref a1, .ref (zh Γ + 1), .ref (zh Γ + 2)]) (M' := .inr (7, [.ref a1, .ref (zh Γ + 1), .ref (zh Γ + 2)]) :: ([.inl (zA Γ 0, 6, .inl (fun _ => 0))] ++ [.inl (zA Γ 0, 1024, .inl (fun _ => 0))])) zf_RX7_18 rfl (Nat.le_of_ble_eq_true rfl) rfl rfl rfl rfl rfl dX7_init_23 ?_
  exact z_vret hC hret dX7_init_26
def nX8_f (h a1 : Nat) : List Value := [.ref (h + 1), .ref (h + 2), .ref (h + 3), .ref a1, .int 0]
def nX8_b (cA : Nat → ClassId) (h : Nat) : List va_E := [.inl (cA 0, 601, .inl (fun _ => 0))] ++ [.inl (cA 0, 601, .inl (fun _ => 0))] ++ [.inl (cA 0, 601, .inl (fun _ => 0))]
set_option maxHeartbeats 20000000 in
set_option maxRecDepth 100000 in
theorem zt_X8 {D : va_G} {cA : Nat → ClassId} {h : Nat} {E : State → Prop} {l : Launch} {ws0 : va_W} {a1 : Nat} (hok : zOk h ws0 E) : ZT D cA h ws0 E l yX8_init cX8_init 2 (rmK 1 3 1803) 3 1803 [.ref h, .ref a1] (.inr (8, [.null, .null, .null, .null, .int 0])) (.inr (8, nX8_f h a1) :: nX8_b cA h) := by
  refine zt_of (by decide +kernel) rfl hok (Nat.le_of_ble_eq_true rfl) ?_
  intro Γ hR hl hD hA hh h0 hE hC hin hret
  subst hD
  subst hA
  subst hh
  have hce : ∀ k, k ≤ 3 → k ≤ (zR Γ).cells := by rw [hR]; exact fun _ h => h
  have hsl : ∀ k, k ≤ 1803 → k ≤ (zR Γ).slots := by rw [hR]; exact fun _ h => h
  refine z_aload_n hC (pc := 0) dX8_init_0 0 rfl rfl ?_
  refine z_obj hC (pc := 1) zo_RX8_3 (rmK_1 hR).1 (rmK_1 hR).2 dX8_init_1 ?_
  refine z_aload_n hC (pc := 4) dX8_init_4 0 rfl rfl ?_
  refine z_sipush hC (pc := 5) dX8_init_5 zks_601 ?_
  refine z_newI hC (pc := 8) (a := zh Γ + 1) zw_3 zp_601.1 zp_601.2 (Nat.le_of_ble_eq_true rfl) (hce _ (Nat.le_of_ble_eq_true rfl)) (hsl _ (Nat.le_of_ble_eq_true rfl)) rfl dX8_init_8 ?_
  refine z_putF hC hin (pc := 10) (k := 0) (a := zh Γ) (fs := [.null, .null, .null, .null, .int 0]) (fs' := [.ref (zh Γ + 1), .null, .null, .null, .int 0]) (M' := .inr (8, [.ref (zh Γ + 1), .null, .null, .null, .int 0]) :: ([.inl (zA Γ 0, 601, .inl (fun _ => 0))])) zf_RX8_9 rfl (Nat.le_of_ble_eq_true rfl) rfl rfl rfl rfl rfl dX8_init_10 ?_
  refine z_aload_n hC (pc := 13) dX8_init_13 0 rfl rfl ?_
  refine z_sipush hC (pc := 14) dX8_init_14 zks_601 ?_
  refine z_newI hC (pc := 17) (a := zh Γ + 2) zw_3 zp_601.1 zp_601.2 (Nat.le_of_ble_eq_true rfl) (hce _ (Nat.le_of_ble_eq_true rfl)) (hsl _ (Nat.le_of_ble_eq_true rfl)) rfl dX8_init_17 ?_
  refine z_putF hC hin (pc := 19) (k := 0) (a := zh Γ) (fs := [.ref (zh Γ + 1), .null, .null, .null, .int 0]) (fs' := [.ref (zh Γ + 1), .ref (zh Γ + 2), .null, .null, .int 0]) (M' := .inr (8, [.ref (zh Γ + 1), .ref (zh Γ + 2), .null, .null, .int 0]) :: ([.inl (zA Γ 0, 601, .inl (fun _ => 0))] ++ [.inl (zA Γ 0, 601, .inl (fun _ => 0))])) zf_RX8_15 rfl (Nat.le_of_ble_eq_true rfl) rfl rfl rfl rfl rfl dX8_init_19 ?_
  refine z_aload_n hC (pc := 22) dX8_init_22 0 rfl rfl ?_
  refine z_sipush hC (pc := 23) dX8_init_23 zks_601 ?_
  refine z_newI hC (pc := 26) (a := zh Γ + 3) zw_3 zp_601.1 zp_601.2 (Nat.le_of_ble_eq_true rfl) (hce _ (Nat.le_of_ble_eq_true rfl)) (hsl _ (Nat.le_of_ble_eq_true rfl)) rfl dX8_init_26 ?_
  refine z_putF hC hin (pc := 28) (k := 0) (a := zh Γ) (fs := [.ref (zh Γ + 1), .ref (zh Γ + 2), .null, .null, .int 0]) (fs' := [.ref (zh Γ + 1), .ref (zh Γ + 2), .ref (zh Γ + 3), .null, .int 0]) (M' := .inr (8, [.ref (zh Γ + 1), .ref (zh Γ + 2), .ref (zh Γ + 3), .null, .int 0]) :: ([.inl (zA Γ 0, 601, .inl (fun _ => 0))] ++ [.inl (zA Γ 0, 601, .inl (fun _ => 0))] ++ [.inl (zA Γ 0, 601, .inl (fun _ => 0))])) zf_RX8_18 rfl (Nat.le_of_ble_eq_true rfl) rfl rfl rfl rfl rfl dX8_init_28 ?_
  refine z_aload_n hC (pc := 31) dX8_init_31 0 rfl rfl ?_
  refine z_iconst hC (pc := 32) dX8_init_32 zki_0 ?_
  refine z_put hC (pc := 33) (k := 0) (a := zh Γ) (fs := [.ref (zh Γ + 1), .ref (zh Γ + 2), .ref (zh Γ + 3), .null, .int 0]) (fs' := [.ref (zh Γ + 1), .ref (zh Γ + 2), .ref (zh Γ + 3), .null, .int 0]) (M' := .inr (8, [.ref (zh Γ + 1), .ref (zh Γ + 2), .ref (zh Γ + 3), .null, .int 0]) :: ([.inl (zA Γ 0, 601, .inl (fun _ => 0))] ++ [.inl (zA Γ 0, 601, .inl (fun _ => 0))] ++ [.inl (zA Γ 0, 601, .inl (fun _ => 0))])) zp_RX8_21 rfl (Nat.le_of_ble_eq_true rfl) rfl rfl rfl rfl rfl dX8_init_33 ?_
  refine z_aload_n hC (pc := 36) dX8_init_36 0 rfl rfl ?_
  refine z_aload_n hC (pc := 37) dX8_init_37 1 rfl rfl ?_
  refine z_putF hC hin (pc := 38) (k := 0) (a := zh Γ) (fs := [.ref (zh Γ + 1), .ref (zh Γ + 2), .ref (zh Γ + 3), .null, .int 0]) (fs' := [.ref (zh Γ + 1), .ref (zh Γ + 2), .ref (zh Γ + 3), .ref a1, .int 0]) (M' := .inr (8, [.ref (zh Γ + 1), .ref (zh Γ + 2), .ref (zh Γ + 3), .ref a1, .int 0]) :: ([.inl (zA Γ 0, 601, .inl (fun _ => 0))] ++ [.inl (zA Γ 0, 601, .inl (fun _ => 0))] ++ [.inl (zA Γ 0, 601, .inl (fun _ => 0))])) zf_RX8_25 rfl (Nat.le_of_ble_eq_true rfl) rfl rfl rfl rfl rfl dX8_init_38 ?_
  exact z_vret hC hret dX8_init_41
def nX5_f (h : Nat) : List Value := [.ref (h + 1), .int 0, .ref (h + 2), .int 0]
def nX5_b (cA : Nat → ClassId) (h : Nat) : List va_E := [.inl (cA 1, 600, .inl (fun _ => 0))] ++ [.inl (cA 1, 600, .inl (fun _ => 0))]
set_option maxHeartbeats 20000000 in
set_option maxRecDepth 100000 in
theorem zt_X5 {D : va_G} {cA : Nat → ClassId} {h : Nat} {E : State → Prop} {l : Launch} {ws0 : va_W} (hok : zOk h ws0 E) : ZT D cA h ws0 E l yX5_init cX5_init 1 (rmK 1 2 1200) 2 1200 [.ref h] (.inr (5, [.null, .int 0, .null, .int 0])) (.inr (5, nX5_f h) :: nX5_b cA h) := by
  refine zt_of (by decide +kernel) rfl hok (Nat.le_of_ble_eq_true rfl) ?_
  intro Γ hR hl hD hA hh h0 hE hC hin hret
  subst hD
  subst hA
  subst hh
  have hce : ∀ k, k ≤ 2 → k ≤ (zR Γ).cells := by rw [hR]; exact fun _ h => h
  have hsl : ∀ k, k ≤ 1200 → k ≤ (zR Γ).slots := by rw [hR]; exact fun _ h => h
  refine z_aload_n hC (pc := 0) dX5_init_0 0 rfl rfl ?_
  refine z_obj hC (pc := 1) zo_RX5_3 (rmK_1 hR).1 (rmK_1 hR).2 dX5_init_1 ?_
  refine z_aload_n hC (pc := 4) dX5_init_4 0 rfl rfl ?_
  refine z_sipush hC (pc := 5) dX5_init_5 zks_600 ?_
  refine z_newB hC (pc := 8) (a := zh Γ + 1) zw_23 zp_600.1 zp_600.2 (Nat.le_of_ble_eq_true rfl) (hce _ (Nat.le_of_ble_eq_true rfl)) (hsl _ (Nat.le_of_ble_eq_true rfl)) rfl dX5_init_8 ?_
  refine z_put hC (pc := 10) (k := 0) (a := zh Γ) (fs := [.null, .int 0, .null, .int 0]) (fs' := [.ref (zh Γ + 1), .int 0, .null, .int 0]) (M' := .inr (5, [.ref (zh Γ + 1), .int 0, .null, .int 0]) :: ([.inl (zA Γ 1, 600, .inl (fun _ => 0))])) zp_RX5_9 rfl (Nat.le_of_ble_eq_true rfl) rfl rfl rfl rfl rfl dX5_init_10 ?_
  refine z_aload_n hC (pc := 13) dX5_init_13 0 rfl rfl ?_
  refine z_iconst hC (pc := 14) dX5_init_14 zki_0 ?_
  refine z_put hC (pc := 15) (k := 0) (a := zh Γ) (fs := [.ref (zh Γ + 1), .int 0, .null, .int 0]) (fs' := [.ref (zh Γ + 1), .int 0, .null, .int 0]) (M' := .inr (5, [.ref (zh Γ + 1), .int 0, .null, .int 0]) :: ([.inl (zA Γ 1, 600, .inl (fun _ => 0))])) zp_RX5_15 rfl (Nat.le_of_ble_eq_true rfl) rfl rfl rfl rfl rfl dX5_init_15 ?_
  refine z_aload_n hC (pc := 18) dX5_init_18 0 rfl rfl ?_
  refine z_sipush hC (pc := 19) dX5_init_19 zks_600 ?_
  refine z_newB hC (pc := 22) (a := zh Γ + 2) zw_23 zp_600.1 zp_600.2 (Nat.le_of_ble_eq_true rfl) (hce _ (Nat.le_of_ble_eq_true rfl)) (hsl _ (Nat.le_of_ble_eq_true rfl)) rfl dX5_init_22 ?_
  refine z_put hC (pc := 24) (k := 0) (a := zh Γ) (fs := [.ref (zh Γ + 1), .int 0, .null, .int 0]) (fs' := [.ref (zh Γ + 1), .int 0, .ref (zh Γ + 2), .int 0]) (M' := .inr (5, [.ref (zh Γ + 1), .int 0, .ref (zh Γ + 2), .int 0]) :: ([.inl (zA Γ 1, 600, .inl (fun _ => 0))] ++ [.inl (zA Γ 1, 600, .inl (fun _ => 0))])) zp_RX5_19 rfl (Nat.le_of_ble_eq_true rfl) rfl rfl rfl rfl rfl dX5_init_24 ?_
  refine z_aload_n hC (pc := 27) dX5_init_27 0 rfl rfl ?_
  refine z_iconst hC (pc := 28) dX5_init_28 zki_0 ?_
  refine z_put hC (pc := 29) (k := 0) (a := zh Γ) (fs := [.ref (zh Γ + 1), .int 0, .ref (zh Γ + 2), .int 0]) (fs' := [.ref (zh Γ + 1), .int 0, .ref (zh Γ + 2), .int 0]) (M' := .inr (5, [.ref (zh Γ + 1), .int 0, .ref (zh Γ + 2), .int 0]) :: ([.inl (zA Γ 1, 600, .inl (fun _ => 0))] ++ [.inl (zA Γ 1, 600, .inl (fun _ => 0))])) zp_RX5_22 rfl (Nat.le_of_ble_eq_true rfl) rfl rfl rfl rfl rfl dX5_init_29 ?_
  exact z_vret hC hret dX5_init_32
def nX1_f (h a1 : Nat) : List Value := [.ref a1, .int 0, .ref (h + 1), .ref (h + 2), .ref (h + 9), .ref (h + 10), .ref (h + 11), .ref (h + 12)]
def nX1_b (cA : Nat → ClassId) (h : Nat) : List va_E := [.inl (cA 0, 6, .inl (fun _ => 0))] ++ (.inl (cA 3, 6, .inr (.inr (.inr (.inr (fun i => some (h + 2 + 1 + i)))))) :: List.replicate 6 (.inl (cA 0, 4096, .inl (fun _ => 0)))) ++ [.inl (cA 0, 4096, .inl (fun _ => 0))] ++ [.inl (cA 0, 64, .inl (fun _ => 0))] ++ [.inl (cA 0, 1024, .inl (fun _ => 0))] ++ [.inl (cA 0, 4096, .inl (fun _ => 0))]
set_option maxHeartbeats 20000000 in
set_option maxRecDepth 100000 in
theorem zt_X1 {D : va_G} {cA : Nat → ClassId} {h : Nat} {E : State → Prop} {l : Launch} {ws0 : va_W} {a1 : Nat} (hok : zOk h ws0 E) : ZT D cA h ws0 E l yX1_init cX1_init 2 (rmK 1 12 33868) 12 33868 [.ref h, .ref a1] (.inr (1, [.null, .int 0, .null, .null, .null, .null, .null, .null])) (.inr (1, nX1_f h a1) :: nX1_b cA h) := by
  refine zt_of (by decide +kernel) rfl hok (Nat.le_of_ble_eq_true rfl) ?_
  intro Γ hR hl hD hA hh h0 hE hC hin hret
  subst hD
  subst hA
  subst hh
  have hce : ∀ k, k ≤ 12 → k ≤ (zR Γ).cells := by rw [hR]; exact fun _ h => h
  have hsl : ∀ k, k ≤ 33868 → k ≤ (zR Γ).slots := by rw [hR]; exact fun _ h => h
  refine z_aload_n hC (pc := 0) dX1_init_0 0 rfl rfl ?_
  refine z_obj hC (pc := 1) zo_RX1_3 (rmK_1 hR).1 (rmK_1 hR).2 dX1_init_1 ?_
  refine z_aload_n hC (pc := 4) dX1_init_4 0 rfl rfl ?_
  refine z_iconst hC (pc := 5) dX1_init_5 zki_0 ?_
  refine z_put hC (pc := 6) (k := 0) (a := zh Γ) (fs := [.null, .int 0, .null, .null, .null, .null, .null, .null]) (fs' := [.null, .int 0, .null, .null, .null, .null, .null, .null]) (M' := .inr (1, [.null, .int 0, .null, .null, .null, .null, .null, .null]) :: []) zp_RX1_9 rfl (Nat.le_of_ble_eq_true rfl) rfl rfl rfl rfl rfl dX1_init_6 ?_
  refine z_aload_n hC (pc := 9) dX1_init_9 0 rfl rfl ?_
  refine z_bipush hC (pc := 10) dX1_init_10 zkb_6 ?_
  refine z_newI hC (pc := 12) (a := zh Γ + 1) zw_3 zp_6.1 zp_6.2 (Nat.le_of_ble_eq_true rfl) (hce _ (Nat.le_of_ble_eq_true rfl)) (hsl _ (Nat.le_of_ble_eq_true rfl)) rfl dX1_init_12 ?_
  refine z_putF hC hin (pc := 14) (k := 0) (a := zh Γ) (fs := [.null, .int 0, .null, .null, .null, .null, .null, .null]) (fs' := [.null, .int 0, .ref (zh Γ + 1), .null, .null, .null, .null, .null]) (M' := .inr (1, [.null, .int 0, .ref (zh Γ + 1), .null, .null, .null, .null, .null]) :: ([.inl (zA Γ 0, 6, .inl (fun _ => 0))])) zf_RX1_15 rfl (Nat.le_of_ble_eq_true rfl) rfl rfl rfl rfl rfl dX1_init_14 ?_
  refine z_aload_n hC (pc := 17) dX1_init_17 0 rfl rfl ?_
  refine z_bipush hC (pc := 18) dX1_init_18 zkb_6 ?_
  refine z_sipush hC (pc := 20) dX1_init_20 zks_4096 ?_
  refine z_mnaI hC (pc := 23) (a := zh Γ + 2) zw_31 zw_3 zp_6.1 zp_6.2 zp_4096.1 zp_4096.2 (Nat.le_of_ble_eq_true rfl) (Nat.le_of_ble_eq_true rfl) (hce _ (Nat.le_of_ble_eq_true rfl)) (hsl _ (Nat.le_of_ble_eq_true rfl)) rfl dX1_init_23 ?_
  refine z_putF hC hin (pc := 27) (k := 0) (a := zh Γ) (fs := [.null, .int 0, .ref (zh Γ + 1), .null, .null, .null, .null, .null]) (fs' := [.null, .int 0, .ref (zh Γ + 1), .ref (zh Γ + 2), .null, .null, .null, .null]) (M' := .inr (1, [.null, .int 0, .ref (zh Γ + 1), .ref (zh Γ + 2), .null, .null, .null, .null]) :: ([.inl (zA Γ 0, 6, .inl (fun _ => 0))] ++ (.inl (zA Γ 3, 6, .inr (.inr (.inr (.inr (fun i => some (zh Γ + 2 + 1 + i)))))) :: List.replicate 6 (.inl (zA Γ 0, 4096, .inl (fun _ => 0)))))) zf_RX1_21 rfl (Nat.le_of_ble_eq_true rfl) rfl rfl rfl rfl rfl dX1_init_27 ?_
  refine z_aload_n hC (pc := 30) dX1_init_30 0 rfl rfl ?_
  refine z_sipush hC (pc := 31) dX1_init_31 zks_4096 ?_
  refine z_newI hC (pc := 34) (a := zh Γ + 9) zw_3 zp_4096.1 zp_4096.2 (Nat.le_of_ble_eq_true rfl) (hce _ (Nat.le_of_ble_eq_true rfl)) (hsl _ (Nat.le_of_ble_eq_true rfl)) rfl dX1_init_34 ?_
  refine z_putF hC hin (pc := 36) (k := 0) (a := zh Γ) (fs := [.null, .int 0, .ref (zh Γ + 1), .ref (zh Γ + 2), .null, .null, .null, .null]) (fs' := [.null, .int 0, .ref (zh Γ + 1), .ref (zh Γ + 2), .ref (zh Γ + 9), .null, .null, .null]) (M' := .inr (1, [.null, .int 0, .ref (zh Γ + 1), .ref (zh Γ + 2), .ref (zh Γ + 9), .null, .null, .null]) :: ([.inl (zA Γ 0, 6, .inl (fun _ => 0))] ++ (.inl (zA Γ 3, 6, .inr (.inr (.inr (.inr (fun i => some (zh Γ + 2 + 1 + i)))))) :: List.replicate 6 (.inl (zA Γ 0, 4096, .inl (fun _ => 0)))) ++ [.inl (zA Γ 0, 4096, .inl (fun _ => 0))])) zf_RX1_24 rfl (Nat.le_of_ble_eq_true rfl) rfl rfl rfl rfl rfl dX1_init_36 ?_
  refine z_aload_n hC (pc := 39) dX1_init_39 0 rfl rfl ?_
  refine z_bipush hC (pc := 40) dX1_init_40 zkb_64 ?_
  refine z_newI hC (pc := 42) (a := zh Γ + 10) zw_3 zp_64.1 zp_64.2 (Nat.le_of_ble_eq_true rfl) (hce _ (Nat.le_of_ble_eq_true rfl)) (hsl _ (Nat.le_of_ble_eq_true rfl)) rfl dX1_init_42 ?_
  refine z_putF hC hin (pc := 44) (k := 0) (a := zh Γ) (fs := [.null, .int 0, .ref (zh Γ + 1), .ref (zh Γ + 2), .ref (zh Γ + 9), .null, .null, .null]) (fs' := [.null, .int 0, .ref (zh Γ + 1), .ref (zh Γ + 2), .ref (zh Γ + 9), .ref (zh Γ + 10), .null, .null]) (M' := .inr (1, [.null, .int 0, .ref (zh Γ + 1), .ref (zh Γ + 2), .ref (zh Γ + 9), .ref (zh Γ + 10), .null, .null]) :: ([.inl (zA Γ 0, 6, .inl (fun _ => 0))] ++ (.inl (zA Γ 3, 6, .inr (.inr (.inr (.inr (fun i => some (zh Γ + 2 + 1 + i)))))) :: List.replicate 6 (.inl (zA Γ 0, 4096, .inl (fun _ => 0)))) ++ [.inl (zA Γ 0, 4096, .inl (fun _ => 0))] ++ [.inl (zA Γ 0, 64, .inl (fun _ => 0))])) zf_RX1_27 rfl (Nat.le_of_ble_eq_true rfl) rfl rfl rfl rfl rfl dX1_init_44 ?_
  refine z_aload_n hC (pc := 47) dX1_init_47 0 rfl rfl ?_
  refine z_sipush hC (pc := 48) dX1_init_48 zks_1024 ?_
  refine z_newI hC (pc := 51) (a := zh Γ + 11) zw_3 zp_1024.1 zp_1024.2 (Nat.le_of_ble_eq_true rfl) (hce _ (Nat.le_of_ble_eq_true rfl)) (hsl _ (Nat.le_of_ble_eq_true rfl)) rfl dX1_init_51 ?_
  refine z_putF hC hin (pc := 53) (k := 0) (a := zh Γ) (fs := [.null, .int 0, .ref (zh Γ + 1), .ref (zh Γ + 2), .ref (zh Γ + 9), .ref (zh Γ + 10), .null, .null]) (fs' := [.null, .int 0, .ref (zh Γ + 1), .ref (zh Γ + 2), .ref (zh Γ + 9), .ref (zh Γ + 10), .ref (zh Γ + 11), .null]) (M' := .inr (1, [.null, .int 0, .ref (zh Γ + 1), .ref (zh Γ + 2), .ref (zh Γ + 9), .ref (zh Γ + 10), .ref (zh Γ + 11), .null]) :: ([.inl (zA Γ 0, 6, .inl (fun _ => 0))] ++ (.inl (zA Γ 3, 6, .inr (.inr (.inr (.inr (fun i => some (zh Γ + 2 + 1 + i)))))) :: List.replicate 6 (.inl (zA Γ 0, 4096, .inl (fun _ => 0)))) ++ [.inl (zA Γ 0, 4096, .inl (fun _ => 0))] ++ [.inl (zA Γ 0, 64, .inl (fun _ => 0))] ++ [.inl (zA Γ 0, 1024, .inl (fun _ => 0))])) zf_RX1_30 rfl (Nat.le_of_ble_eq_true rfl) rfl rfl rfl rfl rfl dX1_init_53 ?_
  refine z_aload_n hC (pc := 56) dX1_init_56 0 rfl rfl ?_
  refine z_sipush hC (pc := 57) dX1_init_57 zks_4096 ?_
  refine z_newI hC (pc := 60) (a := zh Γ + 12) zw_3 zp_4096.1 zp_4096.2 (Nat.le_of_ble_eq_true rfl) (hce _ (Nat.le_of_ble_eq_true rfl)) (hsl _ (Nat.le_of_ble_eq_true rfl)) rfl dX1_init_60 ?_
  refine z_putF hC hin (pc := 62) (k := 0) (a := zh Γ) (fs := [.null, .int 0, .ref (zh Γ + 1), .ref (zh Γ + 2), .ref (zh Γ + 9), .ref (zh Γ + 10), .ref (zh Γ + 11), .null]) (fs' := [.null, .int 0, .ref (zh Γ + 1), .ref (zh Γ + 2), .ref (zh Γ + 9), .ref (zh Γ + 10), .ref (zh Γ + 11), .ref (zh Γ + 12)]) (M' := .inr (1, [.null, .int 0, .ref (zh Γ + 1), .ref (zh Γ + 2), .ref (zh Γ + 9), .ref (zh Γ + 10), .ref (zh Γ + 11), .ref (zh Γ + 12)]) :: ([.inl (zA Γ 0, 6, .inl (fun _ => 0))] ++ (.inl (zA Γ 3, 6, .inr (.inr (.inr (.inr (fun i => some (zh Γ + 2 + 1 + i)))))) :: List.replicate 6 (.inl (zA Γ 0, 4096, .inl (fun _ => 0)))) ++ [.inl (zA Γ 0, 4096, .inl (fun _ => 0))] ++ [.inl (zA Γ 0, 64, .inl (fun _ => 0))] ++ [.inl (zA Γ 0, 1024, .inl (fun _ => 0))] ++ [.inl (zA Γ 0, 4096, .inl (fun _ => 0))])) zf_RX1_33 rfl (Nat.le_of_ble_eq_true rfl) rfl rfl rfl rfl rfl dX1_init_62 ?_
  refine z_aload_n hC (pc := 65) dX1_init_65 0 rfl rfl ?_
  refine z_aload_n hC (pc := 66) dX1_init_66 1 rfl rfl ?_
  refine z_putF hC hin (pc := 67) (k := 0) (a := zh Γ) (fs := [.null, .int 0, .ref (zh Γ + 1), .ref (zh Γ + 2), .ref (zh Γ + 9), .ref (zh Γ + 10), .ref (zh Γ + 11), .ref (zh Γ + 12)]) (fs' := [.ref a1, .int 0, .ref (zh Γ + 1), .ref (zh Γ + 2), .ref (zh Γ + 9), .ref (zh Γ + 10), .ref (zh Γ + 11), .ref (zh Γ + 12)]) (M' := .inr (1, [.ref a1, .int 0, .ref (zh Γ + 1), .ref (zh Γ + 2), .ref (zh Γ + 9), .ref (zh Γ + 10), .ref (zh Γ + 11), .ref (zh Γ + 12)]) :: ([.inl (zA Γ 0, 6, .inl (fun _ => 0))] ++ (.inl (zA Γ 3, 6, .inr (.inr (.inr (.inr (fun i => some (zh Γ + 2 + 1 + i)))))) :: List.replicate 6 (.inl (zA Γ 0, 4096, .inl (fun _ => 0)))) ++ [.inl (zA Γ 0, 4096, .inl (fun _ => 0))] ++ [.inl (zA Γ 0, 64, .inl (fun _ => 0))] ++ [.inl (zA Γ 0, 1024, .inl (fun _ => 0))] ++ [.inl (zA Γ 0, 4096, .inl (fun _ => 0))])) zf_RX1_36 rfl (Nat.le_of_ble_eq_true rfl) rfl rfl rfl rfl rfl dX1_init_67 ?_
  exact z_vret hC hret dX1_init_70
def nX9_f (h c g : Nat) : List Value := [.ref c, .ref g, .ref (h + 1), .ref (h + 58), .ref (h + 74), .ref (h + 75), .int 0, .int 0, .int 0, .int 0]
def nX9_b (cA : Nat → ClassId) (h : Nat) : List va_E := (.inl (cA 4, 56, .inr (.inr (.inr (.inr (fun i => some (h + 1 + 1 + i)))))) :: List.replicate 56 (.inl (cA 2, 64, .inr (.inl (fun _ => 0))))) ++ (.inl (cA 4, 15, .inr (.inr (.inr (.inr (fun i => some (h + 58 + 1 + i)))))) :: List.replicate 15 (.inl (cA 2, 64, .inr (.inl (fun _ => 0))))) ++ [.inl (cA 0, 14, .inl (fun _ => 0))] ++ [.inl (cA 0, 14, .inl (fun _ => 0))]
set_option maxHeartbeats 20000000 in
set_option maxRecDepth 100000 in
theorem zt_X9 {D : va_G} {cA : Nat → ClassId} {h : Nat} {E : State → Prop} {l : Launch} {c g : Nat} {fc : List Value} (hg : fc[0]? = some (.ref g)) (hok : zOk h [(c, .inr (1, fc))] E) : ZT D cA h [(c, .inr (1, fc))] E l yX9_init cX9_init 2 (rmK 1 75 4643) 75 4643 [.ref h, .ref c] (.inr (9, [.null, .null, .null, .null, .null, .null, .int 0, .int 0, .int 0, .int 0])) (.inr (9, nX9_f h c g) :: nX9_b cA h) := by
  refine zt_of (by decide +kernel) rfl hok (Nat.le_of_ble_eq_true rfl) ?_
  intro Γ hR hl hD hA hh h0 hE hC hin hret
  subst hD
  subst hA
  subst hh
  have hce : ∀ k, k ≤ 75 → k ≤ (zR Γ).cells := by rw [hR]; exact fun _ h => h
  have hsl : ∀ k, k ≤ 4643 → k ≤ (zR Γ).slots := by rw [hR]; exact fun _ h => h
  refine z_aload_n hC (pc := 0) dX9_init_0 0 rfl rfl ?_
  refine z_obj hC (pc := 1) zo_RX9_3 (rmK_1 hR).1 (rmK_1 hR).2 dX9_init_1 ?_
  refine z_aload_n hC (pc := 4) dX9_init_4 0 rfl rfl ?_
  refine z_bipush hC (pc := 5) dX9_init_5 zkb_56 ?_
  refine z_bipush hC (pc := 7) dX9_init_7 zkb_64 ?_
  refine z_mnaL hC (pc := 9) (a := zh Γ + 1) zw_39 zw_6 zp_56.1 zp_56.2 zp_64.1 zp_64.2 (Nat.le_of_ble_eq_true rfl) (Nat.le_of_ble_eq_true rfl) (hce _ (Nat.le_of_ble_eq_true rfl)) (hsl _ (Nat.le_of_ble_eq_true rfl)) rfl dX9_init_9 ?_
  refine z_putF hC hin (pc := 13) (k := 0) (a := zh Γ) (fs := [.null, .null, .null, .null, .null, .null, .int 0, .int 0, .int 0, .int 0]) (fs' := [.null, .null, .ref (zh Γ + 1), .null, .null, .null, .int 0, .int 0, .int 0, .int 0]) (M' := .inr (9, [.null, .null, .ref (zh Γ + 1), .null, .null, .null, .int 0, .int 0, .int 0, .int 0]) :: ((.inl (zA Γ 4, 56, .inr (.inr (.inr (.inr (fun i => some (zh Γ + 1 + 1 + i)))))) :: List.replicate 56 (.inl (zA Γ 2, 64, .inr (.inl (fun _ => 0))))))) zf_RX9_13 rfl (Nat.le_of_ble_eq_true rfl) rfl rfl rfl rfl rfl dX9_init_13 ?_
  refine z_aload_n hC (pc := 16) dX9_init_16 0 rfl rfl ?_
  refine z_bipush hC (pc := 17) dX9_init_17 zkb_15 ?_
  refine z_bipush hC (pc := 19) dX9_init_19 zkb_64 ?_
  refine z_mnaL hC (pc := 21) (a := zh Γ + 58) zw_39 zw_6 zp_15.1 zp_15.2 zp_64.1 zp_64.2 (Nat.le_of_ble_eq_true rfl) (Nat.le_of_ble_eq_true rfl) (hce _ (Nat.le_of_ble_eq_true rfl)) (hsl _ (Nat.le_of_ble_eq_true rfl)) rfl dX9_init_21 ?_
  refine z_putF hC hin (pc := 25) (k := 0) (a := zh Γ) (fs := [.null, .null, .ref (zh Γ + 1), .null, .null, .null, .int 0, .int 0, .int 0, .int 0]) (fs' := [.null, .null, .ref (zh Γ + 1), .ref (zh Γ + 58), .null, .null, .int 0, .int 0, .int 0, .int 0]) (M' := .inr (9, [.null, .null, .ref (zh Γ + 1), .ref (zh Γ + 58), .null, .null, .int 0, .int 0, .int 0, .int 0]) :: ((.inl (zA Γ 4, 56, .inr (.inr (.inr (.inr (fun i => some (zh Γ + 1 + 1 + i)))))) :: List.replicate 56 (.inl (zA Γ 2, 64, .inr (.inl (fun _ => 0))))) ++ (.inl (zA Γ 4, 15, .inr (.inr (.inr (.inr (fun i => some (zh Γ + 58 + 1 + i)))))) :: List.replicate 15 (.inl (zA Γ 2, 64, .inr (.inl (fun _ => 0))))))) zf_RX9_16 rfl (Nat.le_of_ble_eq_true rfl) rfl rfl rfl rfl rfl dX9_init_25 ?_
  refine z_aload_n hC (pc := 28) dX9_init_28 0 rfl rfl ?_
  refine z_bipush hC (pc := 29) dX9_init_29 zkb_14 ?_
  refine z_newI hC (pc := 31) (a := zh Γ + 74) zw_3 zp_14.1 zp_14.2 (Nat.le_of_ble_eq_true rfl) (hce _ (Nat.le_of_ble_eq_true rfl)) (hsl _ (Nat.le_of_ble_eq_true rfl)) rfl dX9_init_31 ?_
  refine z_putF hC hin (pc := 33) (k := 0) (a := zh Γ) (fs := [.null, .null, .ref (zh Γ + 1), .ref (zh Γ + 58), .null, .null, .int 0, .int 0, .int 0, .int 0]) (fs' := [.null, .null, .ref (zh Γ + 1), .ref (zh Γ + 58), .ref (zh Γ + 74), .null, .int 0, .int 0, .int 0, .int 0]) (M' := .inr (9, [.null, .null, .ref (zh Γ + 1), .ref (zh Γ + 58), .ref (zh Γ + 74), .null, .int 0, .int 0, .int 0, .int 0]) :: ((.inl (zA Γ 4, 56, .inr (.inr (.inr (.inr (fun i => some (zh Γ + 1 + 1 + i)))))) :: List.replicate 56 (.inl (zA Γ 2, 64, .inr (.inl (fun _ => 0))))) ++ (.inl (zA Γ 4, 15, .inr (.inr (.inr (.inr (fun i => some (zh Γ + 58 + 1 + i)))))) :: List.replicate 15 (.inl (zA Γ 2, 64, .inr (.inl (fun _ => 0))))) ++ [.inl (zA Γ 0, 14, .inl (fun _ => 0))])) zf_RX9_19 rfl (Nat.le_of_ble_eq_true rfl) rfl rfl rfl rfl rfl dX9_init_33 ?_
  refine z_aload_n hC (pc := 36) dX9_init_36 0 rfl rfl ?_
  refine z_bipush hC (pc := 37) dX9_init_37 zkb_14 ?_
  refine z_newI hC (pc := 39) (a := zh Γ + 75) zw_3 zp_14.1 zp_14.2 (Nat.le_of_ble_eq_true rfl) (hce _ (Nat.le_of_ble_eq_true rfl)) (hsl _ (Nat.le_of_ble_eq_true rfl)) rfl dX9_init_39 ?_
  refine z_putF hC hin (pc := 41) (k := 0) (a := zh Γ) (fs := [.null, .null, .ref (zh Γ + 1), .ref (zh Γ + 58), .ref (zh Γ + 74), .null, .int 0, .int 0, .int 0, .int 0]) (fs' := [.null, .null, .ref (zh Γ + 1), .ref (zh Γ + 58), .ref (zh Γ + 74), .ref (zh Γ + 75), .int 0, .int 0, .int 0, .int 0]) (M' := .inr (9, [.null, .null, .ref (zh Γ + 1), .ref (zh Γ + 58), .ref (zh Γ + 74), .ref (zh Γ + 75), .int 0, .int 0, .int 0, .int 0]) :: ((.inl (zA Γ 4, 56, .inr (.inr (.inr (.inr (fun i => some (zh Γ + 1 + 1 + i)))))) :: List.replicate 56 (.inl (zA Γ 2, 64, .inr (.inl (fun _ => 0))))) ++ (.inl (zA Γ 4, 15, .inr (.inr (.inr (.inr (fun i => some (zh Γ + 58 + 1 + i)))))) :: List.replicate 15 (.inl (zA Γ 2, 64, .inr (.inl (fun _ => 0))))) ++ [.inl (zA Γ 0, 14, .inl (fun _ => 0))] ++ [.inl (zA Γ 0, 14, .inl (fun _ => 0))])) zf_RX9_23 rfl (Nat.le_of_ble_eq_true rfl) rfl rfl rfl rfl rfl dX9_init_41 ?_
  refine z_aload_n hC (pc := 44) dX9_init_44 0 rfl rfl ?_
  refine z_aload_n hC (pc := 45) dX9_init_45 1 rfl rfl ?_
  refine z_putF hC hin (pc := 46) (k := 0) (a := zh Γ) (fs := [.null, .null, .ref (zh Γ + 1), .ref (zh Γ + 58), .ref (zh Γ + 74), .ref (zh Γ + 75), .int 0, .int 0, .int 0, .int 0]) (fs' := [.ref c, .null, .ref (zh Γ + 1), .ref (zh Γ + 58), .ref (zh Γ + 74), .ref (zh Γ + 75), .int 0, .int 0, .int 0, .int 0]) (M' := .inr (9, [.ref c, .null, .ref (zh Γ + 1), .ref (zh Γ + 58), .ref (zh Γ + 74), .ref (zh Γ + 75), .int 0, .int 0, .int 0, .int 0]) :: ((.inl (zA Γ 4, 56, .inr (.inr (.inr (.inr (fun i => some (zh Γ + 1 + 1 + i)))))) :: List.replicate 56 (.inl (zA Γ 2, 64, .inr (.inl (fun _ => 0))))) ++ (.inl (zA Γ 4, 15, .inr (.inr (.inr (.inr (fun i => some (zh Γ + 58 + 1 + i)))))) :: List.replicate 15 (.inl (zA Γ 2, 64, .inr (.inl (fun _ => 0))))) ++ [.inl (zA Γ 0, 14, .inl (fun _ => 0))] ++ [.inl (zA Γ 0, 14, .inl (fun _ => 0))])) zf_RX9_26 rfl (Nat.le_of_ble_eq_true rfl) rfl rfl rfl rfl rfl dX9_init_46 ?_
  refine z_aload_n hC (pc := 49) dX9_init_49 0 rfl rfl ?_
  refine z_aload_n hC (pc := 50) dX9_init_50 1 rfl rfl ?_
  refine z_get0 hC (pc := 51) (k := 0) (fs := fc) (v := .ref g) zg_RX9_30 (by rw [h0]; rfl) hg dX9_init_51 ?_
  refine z_putF hC hin (pc := 54) (k := 0) (a := zh Γ) (fs := [.ref c, .null, .ref (zh Γ + 1), .ref (zh Γ + 58), .ref (zh Γ + 74), .ref (zh Γ + 75), .int 0, .int 0, .int 0, .int 0]) (fs' := [.ref c, .ref g, .ref (zh Γ + 1), .ref (zh Γ + 58), .ref (zh Γ + 74), .ref (zh Γ + 75), .int 0, .int 0, .int 0, .int 0]) (M' := .inr (9, [.ref c, .ref g, .ref (zh Γ + 1), .ref (zh Γ + 58), .ref (zh Γ + 74), .ref (zh Γ + 75), .int 0, .int 0, .int 0, .int 0]) :: ((.inl (zA Γ 4, 56, .inr (.inr (.inr (.inr (fun i => some (zh Γ + 1 + 1 + i)))))) :: List.replicate 56 (.inl (zA Γ 2, 64, .inr (.inl (fun _ => 0))))) ++ (.inl (zA Γ 4, 15, .inr (.inr (.inr (.inr (fun i => some (zh Γ + 58 + 1 + i)))))) :: List.replicate 15 (.inl (zA Γ 2, 64, .inr (.inl (fun _ => 0))))) ++ [.inl (zA Γ 0, 14, .inl (fun _ => 0))] ++ [.inl (zA Γ 0, 14, .inl (fun _ => 0))])) zf_RX9_36 rfl (Nat.le_of_ble_eq_true rfl) rfl rfl rfl rfl rfl dX9_init_54 ?_
  exact z_vret hC hret dX9_init_57
def nX3_f (h : Nat) : List Value := [.ref (h + 1), .int 0, .int 0]
def nX3_b (cA : Nat → ClassId) (h : Nat) : List va_E := [.inl (cA 5, 7, .inr (.inr (.inr (.inr (nGs (h) 7)))))] ++ (.inr (2, nX2_f (h + 2)) :: nX2_b (cA) (h + 2)) ++ (.inr (2, nX2_f (h + 6)) :: nX2_b (cA) (h + 6)) ++ (.inr (2, nX2_f (h + 10)) :: nX2_b (cA) (h + 10)) ++ (.inr (2, nX2_f (h + 14)) :: nX2_b (cA) (h + 14)) ++ (.inr (2, nX2_f (h + 18)) :: nX2_b (cA) (h + 18)) ++ (.inr (2, nX2_f (h + 22)) :: nX2_b (cA) (h + 22)) ++ (.inr (2, nX2_f (h + 26)) :: nX2_b (cA) (h + 26))
set_option maxHeartbeats 20000000 in
set_option maxRecDepth 100000 in
theorem zt_X3 {D : va_G} {cA : Nat → ClassId} {h : Nat} {E : State → Prop} {l : Launch} {ws0 : va_W} (hok : zOk h ws0 E) : ZT D cA h ws0 E l yX3_init cX3_init 2 (rmK 2 29 1463) 29 1463 [.ref h] (.inr (3, [.null, .int 0, .int 0])) (.inr (3, nX3_f h) :: nX3_b cA h) := by
  refine zt_of (by decide +kernel) rfl hok (Nat.le_of_ble_eq_true rfl) ?_
  intro Γ hR hl hD hA hh h0 hE hC hin hret
  subst hD
  subst hA
  subst hh
  have hce : ∀ k, k ≤ 29 → k ≤ (zR Γ).cells := by rw [hR]; exact fun _ h => h
  have hsl : ∀ k, k ≤ 1463 → k ≤ (zR Γ).slots := by rw [hR]; exact fun _ h => h
  refine z_aload_n hC (pc := 0) dX3_init_0 0 rfl rfl ?_
  refine z_obj hC (pc := 1) zo_RX3_3 (rmK_1 hR).1 (rmK_1 hR).2 dX3_init_1 ?_
  refine z_aload_n hC (pc := 4) dX3_init_4 0 rfl rfl ?_
  refine z_bipush hC (pc := 5) dX3_init_5 zkb_7 ?_
  refine z_anew hC (pc := 7) (a := zh Γ + 1) zw_48 zp_7.1 zp_7.2 (Nat.le_of_ble_eq_true rfl) (hce _ (Nat.le_of_ble_eq_true rfl)) (hsl _ (Nat.le_of_ble_eq_true rfl)) rfl dX3_init_7 ?_
  refine z_putF hC hin (pc := 10) (k := 0) (a := zh Γ) (fs := [.null, .int 0, .int 0]) (fs' := [.ref (zh Γ + 1), .int 0, .int 0]) (M' := .inr (3, [.ref (zh Γ + 1), .int 0, .int 0]) :: ([.inl (zA Γ 5, 7, .inr (.inr (.inr (.inr (fun _ => none)))))])) zf_RX3_13 rfl (Nat.le_of_ble_eq_true rfl) rfl rfl rfl rfl rfl dX3_init_10 ?_
  refine z_aload_n hC (pc := 13) dX3_init_13 0 rfl rfl ?_
  refine z_iconst hC (pc := 14) dX3_init_14 zki_0 ?_
  refine z_put hC (pc := 15) (k := 0) (a := zh Γ) (fs := [.ref (zh Γ + 1), .int 0, .int 0]) (fs' := [.ref (zh Γ + 1), .int 0, .int 0]) (M' := .inr (3, [.ref (zh Γ + 1), .int 0, .int 0]) :: ([.inl (zA Γ 5, 7, .inr (.inr (.inr (.inr (fun _ => none)))))])) zp_RX3_17 rfl (Nat.le_of_ble_eq_true rfl) rfl rfl rfl rfl rfl dX3_init_15 ?_
  refine z_aload_n hC (pc := 18) dX3_init_18 0 rfl rfl ?_
  refine z_iconst hC (pc := 19) dX3_init_19 zki_0 ?_
  refine z_put hC (pc := 20) (k := 0) (a := zh Γ) (fs := [.ref (zh Γ + 1), .int 0, .int 0]) (fs' := [.ref (zh Γ + 1), .int 0, .int 0]) (M' := .inr (3, [.ref (zh Γ + 1), .int 0, .int 0]) :: ([.inl (zA Γ 5, 7, .inr (.inr (.inr (.inr (fun _ => none)))))])) zp_RX3_21 rfl (Nat.le_of_ble_eq_true rfl) rfl rfl rfl rfl rfl dX3_init_20 ?_
  refine z_iconst hC (pc := 23) dX3_init_23 zki_0 ?_
  refine z_istore_n hC (pc := 24) dX3_init_24 rfl (Nat.le_of_ble_eq_true rfl) rfl ?_
  refine z_iload_n hC (pc := 25) dX3_init_25 0 rfl rfl ?_
  refine z_bipush hC (pc := 26) dX3_init_26 zkb_7 ?_
  refine z_ge_no hC (pc := 28) (tgt := 50) dX3_init_28 rfl (by decide +kernel) ?_
  refine z_aload_n hC (pc := 31) dX3_init_31 1 rfl rfl ?_
  refine z_get hC (pc := 32) (k := 0) (fs := [.ref (zh Γ + 1), .int 0, .int 0]) (v := .ref (zh Γ + 1)) zg_RX3_13 rfl rfl rfl dX3_init_32 ?_
  refine z_iload_n hC (pc := 35) dX3_init_35 0 rfl rfl ?_
  refine z_new hC (pc := 36) (a := zh Γ + 2) zc_X2 zw_54 (hce _ (Nat.le_of_ble_eq_true rfl)) (hsl _ (Nat.le_of_ble_eq_true rfl)) rfl dX3_init_36 ?_
  refine z_dup hC (pc := 39) dX3_init_39 rfl ?_
  refine z_call hC (pc := 40) (b := zh Γ + 2) (As := []) (rest := [.ref (zh Γ + 2), .int 0, .ref (zh Γ + 1)]) (zt_X2 zOk_nil) zi_RX3_24 (rmK_le hR (Nat.le_of_ble_eq_true rfl) (Nat.le_of_ble_eq_true rfl)) zOk_nil (fun _ _ _ => zE_nil) rfl rfl rfl (Nat.le_of_ble_eq_true rfl) (hce _ (Nat.le_of_ble_eq_true rfl)) (hsl _ (Nat.le_of_ble_eq_true rfl)) dX3_init_40 ?_
  refine z_aast hC (pc := 43) (k := 1) (N := 7) (f := (fun _ => none)) (qk := 2) (M' := .inr (3, [.ref (zh Γ + 1), .int 0, .int 0]) :: ([.inl (zA Γ 5, 7, .inr (.inr (.inr (.inr (nGs (zh Γ) 1)))))] ++ (.inr (2, nX2_f (zh Γ + 2)) :: nX2_b (zA Γ) (zh Γ + 2)))) (by exact rfl) (by exact rfl) (by unfold vp_in; decide +kernel) (by rw [zp_0.2]; rfl) rfl rfl dX3_init_43 ?_
  refine z_iinc hC (pc := 44) (w := 1) dX3_init_44 0 rfl (by decide +kernel) (Nat.le_of_ble_eq_true rfl) rfl ?_
  refine z_goto hC (pc := 47) (tgt := 25) dX3_init_47 rfl ?_
  refine z_iload_n hC (pc := 25) dX3_init_25 0 rfl rfl ?_
  refine z_bipush hC (pc := 26) dX3_init_26 zkb_7 ?_
  refine z_ge_no hC (pc := 28) (tgt := 50) dX3_init_28 rfl (by decide +kernel) ?_
  refine z_aload_n hC (pc := 31) dX3_init_31 1 rfl rfl ?_
  refine z_get hC (pc := 32) (k := 0) (fs := [.ref (zh Γ + 1), .int 0, .int 0]) (v := .ref (zh Γ + 1)) zg_RX3_13 rfl rfl rfl dX3_init_32 ?_
  refine z_iload_n hC (pc := 35) dX3_init_35 0 rfl rfl ?_
  refine z_new hC (pc := 36) (a := zh Γ + 6) zc_X2 zw_54 (hce _ (Nat.le_of_ble_eq_true rfl)) (hsl _ (Nat.le_of_ble_eq_true rfl)) rfl dX3_init_36 ?_
  refine z_dup hC (pc := 39) dX3_init_39 rfl ?_
  refine z_call hC (pc := 40) (b := zh Γ + 6) (As := []) (rest := [.ref (zh Γ + 6), .int 1, .ref (zh Γ + 1)]) (zt_X2 zOk_nil) zi_RX3_24 (rmK_le hR (Nat.le_of_ble_eq_true rfl) (Nat.le_of_ble_eq_true rfl)) zOk_nil (fun _ _ _ => zE_nil) rfl rfl rfl (Nat.le_of_ble_eq_true rfl) (hce _ (Nat.le_of_ble_eq_true rfl)) (hsl _ (Nat.le_of_ble_eq_true rfl)) dX3_init_40 ?_
  refine z_aast hC (pc := 43) (k := 1) (N := 7) (f := nGs (zh Γ) 1) (qk := 6) (M' := .inr (3, [.ref (zh Γ + 1), .int 0, .int 0]) :: ([.inl (zA Γ 5, 7, .inr (.inr (.inr (.inr (nGs (zh Γ) 2)))))] ++ (.inr (2, nX2_f (zh Γ + 2)) :: nX2_b (zA Γ) (zh Γ + 2)) ++ (.inr (2, nX2_f (zh Γ + 6)) :: nX2_b (zA Γ) (zh Γ + 6)))) (by exact rfl) (by exact rfl) (by unfold vp_in; decide +kernel) (by rw [zp_1.2]; rfl) rfl rfl dX3_init_43 ?_
  refine z_iinc hC (pc := 44) (w := 2) dX3_init_44 0 rfl (by decide +kernel) (Nat.le_of_ble_eq_true rfl) rfl ?_
  refine z_goto hC (pc := 47) (tgt := 25) dX3_init_47 rfl ?_
  refine z_iload_n hC (pc := 25) dX3_init_25 0 rfl rfl ?_
  refine z_bipush hC (pc := 26) dX3_init_26 zkb_7 ?_
  refine z_ge_no hC (pc := 28) (tgt := 50) dX3_init_28 rfl (by decide +kernel) ?_
  refine z_aload_n hC (pc := 31) dX3_init_31 1 rfl rfl ?_
  refine z_get hC (pc := 32) (k := 0) (fs := [.ref (zh Γ + 1), .int 0, .int 0]) (v := .ref (zh Γ + 1)) zg_RX3_13 rfl rfl rfl dX3_init_32 ?_
  refine z_iload_n hC (pc := 35) dX3_init_35 0 rfl rfl ?_
  refine z_new hC (pc := 36) (a := zh Γ + 10) zc_X2 zw_54 (hce _ (Nat.le_of_ble_eq_true rfl)) (hsl _ (Nat.le_of_ble_eq_true rfl)) rfl dX3_init_36 ?_
  refine z_dup hC (pc := 39) dX3_init_39 rfl ?_
  refine z_call hC (pc := 40) (b := zh Γ + 10) (As := []) (rest := [.ref (zh Γ + 10), .int 2, .ref (zh Γ + 1)]) (zt_X2 zOk_nil) zi_RX3_24 (rmK_le hR (Nat.le_of_ble_eq_true rfl) (Nat.le_of_ble_eq_true rfl)) zOk_nil (fun _ _ _ => zE_nil) rfl rfl rfl (Nat.le_of_ble_eq_true rfl) (hce _ (Nat.le_of_ble_eq_true rfl)) (hsl _ (Nat.le_of_ble_eq_true rfl)) dX3_init_40 ?_
  refine z_aast hC (pc := 43) (k := 1) (N := 7) (f := nGs (zh Γ) 2) (qk := 10) (M' := .inr (3, [.ref (zh Γ + 1), .int 0, .int 0]) :: ([.inl (zA Γ 5, 7, .inr (.inr (.inr (.inr (nGs (zh Γ) 3)))))] ++ (.inr (2, nX2_f (zh Γ + 2)) :: nX2_b (zA Γ) (zh Γ + 2)) ++ (.inr (2, nX2_f (zh Γ + 6)) :: nX2_b (zA Γ) (zh Γ + 6)) ++ (.inr (2, nX2_f (zh Γ + 10)) :: nX2_b (zA Γ) (zh Γ + 10)))) (by exact rfl) (by exact rfl) (by unfold vp_in; decide +kernel) (by rw [zp_2.2]; rfl) rfl rfl dX3_init_43 ?_
  refine z_iinc hC (pc := 44) (w := 3) dX3_init_44 0 rfl (by decide +kernel) (Nat.le_of_ble_eq_true rfl) rfl ?_
  refine z_goto hC (pc := 47) (tgt := 25) dX3_init_47 rfl ?_
  refine z_iload_n hC (pc := 25) dX3_init_25 0 rfl rfl ?_
  refine z_bipush hC (pc := 26) dX3_init_26 zkb_7 ?_
  refine z_ge_no hC (pc := 28) (tgt := 50) dX3_init_28 rfl (by decide +kernel) ?_
  refine z_aload_n hC (pc := 31) dX3_init_31 1 rfl rfl ?_
  refine z_get hC (pc := 32) (k := 0) (fs := [.ref (zh Γ + 1), .int 0, .int 0]) (v := .ref (zh Γ + 1)) zg_RX3_13 rfl rfl rfl dX3_init_32 ?_
  refine z_iload_n hC (pc := 35) dX3_init_35 0 rfl rfl ?_
  refine z_new hC (pc := 36) (a := zh Γ + 14) zc_X2 zw_54 (hce _ (Nat.le_of_ble_eq_true rfl)) (hsl _ (Nat.le_of_ble_eq_true rfl)) rfl dX3_init_36 ?_
  refine z_dup hC (pc := 39) dX3_init_39 rfl ?_
  refine z_call hC (pc := 40) (b := zh Γ + 14) (As := []) (rest := [.ref (zh Γ + 14), .int 3, .ref (zh Γ + 1)]) (zt_X2 zOk_nil) zi_RX3_24 (rmK_le hR (Nat.le_of_ble_eq_true rfl) (Nat.le_of_ble_eq_true rfl)) zOk_nil (fun _ _ _ => zE_nil) rfl rfl rfl (Nat.le_of_ble_eq_true rfl) (hce _ (Nat.le_of_ble_eq_true rfl)) (hsl _ (Nat.le_of_ble_eq_true rfl)) dX3_init_40 ?_
  refine z_aast hC (pc := 43) (k := 1) (N := 7) (f := nGs (zh Γ) 3) (qk := 14) (M' := .inr (3, [.ref (zh Γ + 1), .int 0, .int 0]) :: ([.inl (zA Γ 5, 7, .inr (.inr (.inr (.inr (nGs (zh Γ) 4)))))] ++ (.inr (2, nX2_f (zh Γ + 2)) :: nX2_b (zA Γ) (zh Γ + 2)) ++ (.inr (2, nX2_f (zh Γ + 6)) :: nX2_b (zA Γ) (zh Γ + 6)) ++ (.inr (2, nX2_f (zh Γ + 10)) :: nX2_b (zA Γ) (zh Γ + 10)) ++ (.inr (2, nX2_f (zh Γ + 14)) :: nX2_b (zA Γ) (zh Γ + 14)))) (by exact rfl) (by exact rfl) (by unfold vp_in; decide +kernel) (by rw [zp_3.2]; rfl) rfl rfl dX3_init_43 ?_
  refine z_iinc hC (pc := 44) (w := 4) dX3_init_44 0 rfl (by decide +kernel) (Nat.le_of_ble_eq_true rfl) rfl ?_
  refine z_goto hC (pc := 47) (tgt := 25) dX3_init_47 rfl ?_
  refine z_iload_n hC (pc := 25) dX3_init_25 0 rfl rfl ?_
  refine z_bipush hC (pc := 26) dX3_init_26 zkb_7 ?_
  refine z_ge_no hC (pc := 28) (tgt := 50) dX3_init_28 rfl (by decide +kernel) ?_
  refine z_aload_n hC (pc := 31) dX3_init_31 1 rfl rfl ?_
  refine z_get hC (pc := 32) (k := 0) (fs := [.ref (zh Γ + 1), .int 0, .int 0]) (v := .ref (zh Γ + 1)) zg_RX3_13 rfl rfl rfl dX3_init_32 ?_
  refine z_iload_n hC (pc := 35) dX3_init_35 0 rfl rfl ?_
  refine z_new hC (pc := 36) (a := zh Γ + 18) zc_X2 zw_54 (hce _ (Nat.le_of_ble_eq_true rfl)) (hsl _ (Nat.le_of_ble_eq_true rfl)) rfl dX3_init_36 ?_
  refine z_dup hC (pc := 39) dX3_init_39 rfl ?_
  refine z_call hC (pc := 40) (b := zh Γ + 18) (As := []) (rest := [.ref (zh Γ + 18), .int 4, .ref (zh Γ + 1)]) (zt_X2 zOk_nil) zi_RX3_24 (rmK_le hR (Nat.le_of_ble_eq_true rfl) (Nat.le_of_ble_eq_true rfl)) zOk_nil (fun _ _ _ => zE_nil) rfl rfl rfl (Nat.le_of_ble_eq_true rfl) (hce _ (Nat.le_of_ble_eq_true rfl)) (hsl _ (Nat.le_of_ble_eq_true rfl)) dX3_init_40 ?_
  refine z_aast hC (pc := 43) (k := 1) (N := 7) (f := nGs (zh Γ) 4) (qk := 18) (M' := .inr (3, [.ref (zh Γ + 1), .int 0, .int 0]) :: ([.inl (zA Γ 5, 7, .inr (.inr (.inr (.inr (nGs (zh Γ) 5)))))] ++ (.inr (2, nX2_f (zh Γ + 2)) :: nX2_b (zA Γ) (zh Γ + 2)) ++ (.inr (2, nX2_f (zh Γ + 6)) :: nX2_b (zA Γ) (zh Γ + 6)) ++ (.inr (2, nX2_f (zh Γ + 10)) :: nX2_b (zA Γ) (zh Γ + 10)) ++ (.inr (2, nX2_f (zh Γ + 14)) :: nX2_b (zA Γ) (zh Γ + 14)) ++ (.inr (2, nX2_f (zh Γ + 18)) :: nX2_b (zA Γ) (zh Γ + 18)))) (by exact rfl) (by exact rfl) (by unfold vp_in; decide +kernel) (by rw [zp_4.2]; rfl) rfl rfl dX3_init_43 ?_
  refine z_iinc hC (pc := 44) (w := 5) dX3_init_44 0 rfl (by decide +kernel) (Nat.le_of_ble_eq_true rfl) rfl ?_
  refine z_goto hC (pc := 47) (tgt := 25) dX3_init_47 rfl ?_
  refine z_iload_n hC (pc := 25) dX3_init_25 0 rfl rfl ?_
  refine z_bipush hC (pc := 26) dX3_init_26 zkb_7 ?_
  refine z_ge_no hC (pc := 28) (tgt := 50) dX3_init_28 rfl (by decide +kernel) ?_
  refine z_aload_n hC (pc := 31) dX3_init_31 1 rfl rfl ?_
  refine z_get hC (pc := 32) (k := 0) (fs := [.ref (zh Γ + 1), .int 0, .int 0]) (v := .ref (zh Γ + 1)) zg_RX3_13 rfl rfl rfl dX3_init_32 ?_
  refine z_iload_n hC (pc := 35) dX3_init_35 0 rfl rfl ?_
  refine z_new hC (pc := 36) (a := zh Γ + 22) zc_X2 zw_54 (hce _ (Nat.le_of_ble_eq_true rfl)) (hsl _ (Nat.le_of_ble_eq_true rfl)) rfl dX3_init_36 ?_
  refine z_dup hC (pc := 39) dX3_init_39 rfl ?_
  refine z_call hC (pc := 40) (b := zh Γ + 22) (As := []) (rest := [.ref (zh Γ + 22), .int 5, .ref (zh Γ + 1)]) (zt_X2 zOk_nil) zi_RX3_24 (rmK_le hR (Nat.le_of_ble_eq_true rfl) (Nat.le_of_ble_eq_true rfl)) zOk_nil (fun _ _ _ => zE_nil) rfl rfl rfl (Nat.le_of_ble_eq_true rfl) (hce _ (Nat.le_of_ble_eq_true rfl)) (hsl _ (Nat.le_of_ble_eq_true rfl)) dX3_init_40 ?_
  refine z_aast hC (pc := 43) (k := 1) (N := 7) (f := nGs (zh Γ) 5) (qk := 22) (M' := .inr (3, [.ref (zh Γ + 1), .int 0, .int 0]) :: ([.inl (zA Γ 5, 7, .inr (.inr (.inr (.inr (nGs (zh Γ) 6)))))] ++ (.inr (2, nX2_f (zh Γ + 2)) :: nX2_b (zA Γ) (zh Γ + 2)) ++ (.inr (2, nX2_f (zh Γ + 6)) :: nX2_b (zA Γ) (zh Γ + 6)) ++ (.inr (2, nX2_f (zh Γ + 10)) :: nX2_b (zA Γ) (zh Γ + 10)) ++ (.inr (2, nX2_f (zh Γ + 14)) :: nX2_b (zA Γ) (zh Γ + 14)) ++ (.inr (2, nX2_f (zh Γ + 18)) :: nX2_b (zA Γ) (zh Γ + 18)) ++ (.inr (2, nX2_f (zh Γ + 22)) :: nX2_b (zA Γ) (zh Γ + 22)))) (by exact rfl) (by exact rfl) (by unfold vp_in; decide +kernel) (by rw [zp_5.2]; rfl) rfl rfl dX3_init_43 ?_
  refine z_iinc hC (pc := 44) (w := 6) dX3_init_44 0 rfl (by decide +kernel) (Nat.le_of_ble_eq_true rfl) rfl ?_
  refine z_goto hC (pc := 47) (tgt := 25) dX3_init_47 rfl ?_
  refine z_iload_n hC (pc := 25) dX3_init_25 0 rfl rfl ?_
  refine z_bipush hC (pc := 26) dX3_init_26 zkb_7 ?_
  refine z_ge_no hC (pc := 28) (tgt := 50) dX3_init_28 rfl (by decide +kernel) ?_
  refine z_aload_n hC (pc := 31) dX3_init_31 1 rfl rfl ?_
  refine z_get hC (pc := 32) (k := 0) (fs := [.ref (zh Γ + 1), .int 0, .int 0]) (v := .ref (zh Γ + 1)) zg_RX3_13 rfl rfl rfl dX3_init_32 ?_
  refine z_iload_n hC (pc := 35) dX3_init_35 0 rfl rfl ?_
  refine z_new hC (pc := 36) (a := zh Γ + 26) zc_X2 zw_54 (hce _ (Nat.le_of_ble_eq_true rfl)) (hsl _ (Nat.le_of_ble_eq_true rfl)) rfl dX3_init_36 ?_
  refine z_dup hC (pc := 39) dX3_init_39 rfl ?_
  refine z_call hC (pc := 40) (b := zh Γ + 26) (As := []) (rest := [.ref (zh Γ + 26), .int 6, .ref (zh Γ + 1)]) (zt_X2 zOk_nil) zi_RX3_24 (rmK_le hR (Nat.le_of_ble_eq_true rfl) (Nat.le_of_ble_eq_true rfl)) zOk_nil (fun _ _ _ => zE_nil) rfl rfl rfl (Nat.le_of_ble_eq_true rfl) (hce _ (Nat.le_of_ble_eq_true rfl)) (hsl _ (Nat.le_of_ble_eq_true rfl)) dX3_init_40 ?_
  refine z_aast hC (pc := 43) (k := 1) (N := 7) (f := nGs (zh Γ) 6) (qk := 26) (M' := .inr (3, [.ref (zh Γ + 1), .int 0, .int 0]) :: ([.inl (zA Γ 5, 7, .inr (.inr (.inr (.inr (nGs (zh Γ) 7)))))] ++ (.inr (2, nX2_f (zh Γ + 2)) :: nX2_b (zA Γ) (zh Γ + 2)) ++ (.inr (2, nX2_f (zh Γ + 6)) :: nX2_b (zA Γ) (zh Γ + 6)) ++ (.inr (2, nX2_f (zh Γ + 10)) :: nX2_b (zA Γ) (zh Γ + 10)) ++ (.inr (2, nX2_f (zh Γ + 14)) :: nX2_b (zA Γ) (zh Γ + 14)) ++ (.inr (2, nX2_f (zh Γ + 18)) :: nX2_b (zA Γ) (zh Γ + 18)) ++ (.inr (2, nX2_f (zh Γ + 22)) :: nX2_b (zA Γ) (zh Γ + 22)) ++ (.inr (2, nX2_f (zh Γ + 26)) :: nX2_b (zA Γ) (zh Γ + 26)))) (by exact rfl) (by exact rfl) (by unfold vp_in; decide +kernel) (by rw [zp_6.2]; rfl) rfl rfl dX3_init_43 ?_
  refine z_iinc hC (pc := 44) (w := 7) dX3_init_44 0 rfl (by decide +kernel) (Nat.le_of_ble_eq_true rfl) rfl ?_
  refine z_goto hC (pc := 47) (tgt := 25) dX3_init_47 rfl ?_
  refine z_iload_n hC (pc := 25) dX3_init_25 0 rfl rfl ?_
  refine z_bipush hC (pc := 26) dX3_init_26 zkb_7 ?_
  refine z_ge_yes hC (pc := 28) (tgt := 50) dX3_init_28 rfl (by decide +kernel) ?_
  exact z_vret hC hret dX3_init_50
def nX6_f (h a1 : Nat) : List Value := [.ref (h + 1), .int 0, .int (-1), .ref (h + 6), .int 0, .int 0, .ref (h + 5), .int 0, .int 0]
def nX6_b (cA : Nat → ClassId) (h a1 : Nat) : List va_E := (.inr (2, nX2_f (h + 1)) :: nX2_b (cA) (h + 1)) ++ [.inl (cA 0, 1024, .inl (fun _ => 0))] ++ (.inr (8, nX8_f (h + 6) (a1)) :: nX8_b (cA) (h + 6))
set_option maxHeartbeats 20000000 in
set_option maxRecDepth 100000 in
theorem zt_X6 {D : va_G} {cA : Nat → ClassId} {h : Nat} {E : State → Prop} {l : Launch} {ws0 : va_W} {a1 : Nat} (hok : zOk h ws0 E) : ZT D cA h ws0 E l yX6_init cX6_init 2 (rmK 2 9 3040) 9 3040 [.ref h, .ref a1] (.inr (6, [.null, .int 0, .int 0, .null, .int 0, .int 0, .null, .int 0, .int 0])) (.inr (6, nX6_f h a1) :: nX6_b cA h a1) := by
  refine zt_of (by decide +kernel) rfl hok (Nat.le_of_ble_eq_true rfl) ?_
  intro Γ hR hl hD hA hh h0 hE hC hin hret
  subst hD
  subst hA
  subst hh
  have hce : ∀ k, k ≤ 9 → k ≤ (zR Γ).cells := by rw [hR]; exact fun _ h => h
  have hsl : ∀ k, k ≤ 3040 → k ≤ (zR Γ).slots := by rw [hR]; exact fun _ h => h
  refine z_aload_n hC (pc := 0) dX6_init_0 0 rfl rfl ?_
  refine z_obj hC (pc := 1) zo_RX6_3 (rmK_1 hR).1 (rmK_1 hR).2 dX6_init_1 ?_
  refine z_aload_n hC (pc := 4) dX6_init_4 0 rfl rfl ?_
  refine z_new hC (pc := 5) (a := zh Γ + 1) zc_X2 zw_58 (hce _ (Nat.le_of_ble_eq_true rfl)) (hsl _ (Nat.le_of_ble_eq_true rfl)) rfl dX6_init_5 ?_
  refine z_dup hC (pc := 8) dX6_init_8 rfl ?_
  refine z_call hC (pc := 9) (b := zh Γ + 1) (As := []) (rest := [.ref (zh Γ + 1), .ref (zh Γ)]) (zt_X2 zOk_nil) zi_RX6_11 (rmK_le hR (Nat.le_of_ble_eq_true rfl) (Nat.le_of_ble_eq_true rfl)) zOk_nil (fun _ _ _ => zE_nil) rfl rfl rfl (Nat.le_of_ble_eq_true rfl) (hce _ (Nat.le_of_ble_eq_true rfl)) (hsl _ (Nat.le_of_ble_eq_true rfl)) dX6_init_9 ?_
  refine z_putF hC hin (pc := 12) (k := 0) (a := zh Γ) (fs := [.null, .int 0, .int 0, .null, .int 0, .int 0, .null, .int 0, .int 0]) (fs' := [.ref (zh Γ + 1), .int 0, .int 0, .null, .int 0, .int 0, .null, .int 0, .int 0]) (M' := .inr (6, [.ref (zh Γ + 1), .int 0, .int 0, .null, .int 0, .int 0, .null, .int 0, .int 0]) :: ((.inr (2, nX2_f (zh Γ + 1)) :: nX2_b (zA Γ) (zh Γ + 1)))) zf_RX6_12 rfl (Nat.le_of_ble_eq_true rfl) rfl rfl rfl rfl rfl dX6_init_12 ?_
  refine z_aload_n hC (pc := 15) dX6_init_15 0 rfl rfl ?_
  refine z_iconst hC (pc := 16) dX6_init_16 zki_0 ?_
  refine z_put hC (pc := 17) (k := 0) (a := zh Γ) (fs := [.ref (zh Γ + 1), .int 0, .int 0, .null, .int 0, .int 0, .null, .int 0, .int 0]) (fs' := [.ref (zh Γ + 1), .int 0, .int 0, .null, .int 0, .int 0, .null, .int 0, .int 0]) (M' := .inr (6, [.ref (zh Γ + 1), .int 0, .int 0, .null, .int 0, .int 0, .null, .int 0, .int 0]) :: ((.inr (2, nX2_f (zh Γ + 1)) :: nX2_b (zA Γ) (zh Γ + 1)))) zp_RX6_18 rfl (Nat.le_of_ble_eq_true rfl) rfl rfl rfl rfl rfl dX6_init_17 ?_
  refine z_aload_n hC (pc := 20) dX6_init_20 0 rfl rfl ?_
  refine z_iconst hC (pc := 21) dX6_init_21 zki_m1 ?_
  refine z_put hC (pc := 22) (k := 0) (a := zh Γ) (fs := [.ref (zh Γ + 1), .int 0, .int 0, .null, .int 0, .int 0, .null, .int 0, .int 0]) (fs' := [.ref (zh Γ + 1), .int 0, .int (-1), .null, .int 0, .int 0, .null, .int 0, .int 0]) (M' := .inr (6, [.ref (zh Γ + 1), .int 0, .int (-1), .null, .int 0, .int 0, .null, .int 0, .int 0]) :: ((.inr (2, nX2_f (zh Γ + 1)) :: nX2_b (zA Γ) (zh Γ + 1)))) zp_RX6_22 rfl (Nat.le_of_ble_eq_true rfl) rfl rfl rfl rfl rfl dX6_init_22 ?_
  refine z_aload_n hC (pc := 25) dX6_init_25 0 rfl rfl ?_
  refine z_iconst hC (pc := 26) dX6_init_26 zki_0 ?_
  refine z_put hC (pc := 27) (k := 0) (a := zh Γ) (fs := [.ref (zh Γ + 1), .int 0, .int (-1), .null, .int 0, .int 0, .null, .int 0, .int 0]) (fs' := [.ref (zh Γ + 1), .int 0, .int (-1), .null, .int 0, .int 0, .null, .int 0, .int 0]) (M' := .inr (6, [.ref (zh Γ + 1), .int 0, .int (-1), .null, .int 0, .int 0, .null, .int 0, .int 0]) :: ((.inr (2, nX2_f (zh Γ + 1)) :: nX2_b (zA Γ) (zh Γ + 1)))) zp_RX6_25 rfl (Nat.le_of_ble_eq_true rfl) rfl rfl rfl rfl rfl dX6_init_27 ?_
  refine z_aload_n hC (pc := 30) dX6_init_30 0 rfl rfl ?_
  refine z_iconst hC (pc := 31) dX6_init_31 zki_0 ?_
  refine z_put hC (pc := 32) (k := 0) (a := zh Γ) (fs := [.ref (zh Γ + 1), .int 0, .int (-1), .null, .int 0, .int 0, .null, .int 0, .int 0]) (fs' := [.ref (zh Γ + 1), .int 0, .int (-1), .null, .int 0, .int 0, .null, .int 0, .int 0]) (M' := .inr (6, [.ref (zh Γ + 1), .int 0, .int (-1), .null, .int 0, .int 0, .null, .int 0, .int 0]) :: ((.inr (2, nX2_f (zh Γ + 1)) :: nX2_b (zA Γ) (zh Γ + 1)))) zp_RX6_28 rfl (Nat.le_of_ble_eq_true rfl) rfl rfl rfl rfl rfl dX6_init_32 ?_
  refine z_aload_n hC (pc := 35) dX6_init_35 0 rfl rfl ?_
  refine z_sipush hC (pc := 36) dX6_init_36 zks_1024 ?_
  refine z_newI hC (pc := 39) (a := zh Γ + 5) zw_3 zp_1024.1 zp_1024.2 (Nat.le_of_ble_eq_true rfl) (hce _ (Nat.le_of_ble_eq_true rfl)) (hsl _ (Nat.le_of_ble_eq_true rfl)) rfl dX6_init_39 ?_
  refine z_putF hC hin (pc := 41) (k := 0) (a := zh Γ) (fs := [.ref (zh Γ + 1), .int 0, .int (-1), .null, .int 0, .int 0, .null, .int 0, .int 0]) (fs' := [.ref (zh Γ + 1), .int 0, .int (-1), .null, .int 0, .int 0, .ref (zh Γ + 5), .int 0, .int 0]) (M' := .inr (6, [.ref (zh Γ + 1), .int 0, .int (-1), .null, .int 0, .int 0, .ref (zh Γ + 5), .int 0, .int 0]) :: ((.inr (2, nX2_f (zh Γ + 1)) :: nX2_b (zA Γ) (zh Γ + 1)) ++ [.inl (zA Γ 0, 1024, .inl (fun _ => 0))])) zf_RX6_31 rfl (Nat.le_of_ble_eq_true rfl) rfl rfl rfl rfl rfl dX6_init_41 ?_
  refine z_aload_n hC (pc := 44) dX6_init_44 0 rfl rfl ?_
  refine z_iconst hC (pc := 45) dX6_init_45 zki_0 ?_
  refine z_put hC (pc := 46) (k := 0) (a := zh Γ) (fs := [.ref (zh Γ + 1), .int 0, .int (-1), .null, .int 0, .int 0, .ref (zh Γ + 5), .int 0, .int 0]) (fs' := [.ref (zh Γ + 1), .int 0, .int (-1), .null, .int 0, .int 0, .ref (zh Γ + 5), .int 0, .int 0]) (M' := .inr (6, [.ref (zh Γ + 1), .int 0, .int (-1), .null, .int 0, .int 0, .ref (zh Γ + 5), .int 0, .int 0]) :: ((.inr (2, nX2_f (zh Γ + 1)) :: nX2_b (zA Γ) (zh Γ + 1)) ++ [.inl (zA Γ 0, 1024, .inl (fun _ => 0))])) zp_RX6_35 rfl (Nat.le_of_ble_eq_true rfl) rfl rfl rfl rfl rfl dX6_init_46 ?_
  refine z_aload_n hC (pc := 49) dX6_init_49 0 rfl rfl ?_
  refine z_iconst hC (pc := 50) dX6_init_50 zki_0 ?_
  refine z_put hC (pc := 51) (k := 0) (a := zh Γ) (fs := [.ref (zh Γ + 1), .int 0, .int (-1), .null, .int 0, .int 0, .ref (zh Γ + 5), .int 0, .int 0]) (fs' := [.ref (zh Γ + 1), .int 0, .int (-1), .null, .int 0, .int 0, .ref (zh Γ + 5), .int 0, .int 0]) (M' := .inr (6, [.ref (zh Γ + 1), .int 0, .int (-1), .null, .int 0, .int 0, .ref (zh Γ + 5), .int 0, .int 0]) :: ((.inr (2, nX2_f (zh Γ + 1)) :: nX2_b (zA Γ) (zh Γ + 1)) ++ [.inl (zA Γ 0, 1024, .inl (fun _ => 0))])) zp_RX6_38 rfl (Nat.le_of_ble_eq_true rfl) rfl rfl rfl rfl rfl dX6_init_51 ?_
  refine z_aload_n hC (pc := 54) dX6_init_54 0 rfl rfl ?_
  refine z_new hC (pc := 55) (a := zh Γ + 6) zc_X8 zw_69 (hce _ (Nat.le_of_ble_eq_true rfl)) (hsl _ (Nat.le_of_ble_eq_true rfl)) rfl dX6_init_55 ?_
  refine z_dup hC (pc := 58) dX6_init_58 rfl ?_
  refine z_aload_n hC (pc := 59) dX6_init_59 1 rfl rfl ?_
  refine z_call hC (pc := 60) (b := zh Γ + 6) (As := [.ref a1]) (rest := [.ref (zh Γ + 6), .ref (zh Γ)]) (zt_X8 (a1 := a1) zOk_nil) zi_RX6_43 (rmK_le hR (Nat.le_of_ble_eq_true rfl) (Nat.le_of_ble_eq_true rfl)) zOk_nil (fun _ _ _ => zE_nil) rfl rfl rfl (Nat.le_of_ble_eq_true rfl) (hce _ (Nat.le_of_ble_eq_true rfl)) (hsl _ (Nat.le_of_ble_eq_true rfl)) dX6_init_60 ?_
  refine z_putF hC hin (pc := 63) (k := 0) (a := zh Γ) (fs := [.ref (zh Γ + 1), .int 0, .int (-1), .null, .int 0, .int 0, .ref (zh Γ + 5), .int 0, .int 0]) (fs' := [.ref (zh Γ + 1), .int 0, .int (-1), .ref (zh Γ + 6), .int 0, .int 0, .ref (zh Γ + 5), .int 0, .int 0]) (M' := .inr (6, [.ref (zh Γ + 1), .int 0, .int (-1), .ref (zh Γ + 6), .int 0, .int 0, .ref (zh Γ + 5), .int 0, .int 0]) :: ((.inr (2, nX2_f (zh Γ + 1)) :: nX2_b (zA Γ) (zh Γ + 1)) ++ [.inl (zA Γ 0, 1024, .inl (fun _ => 0))] ++ (.inr (8, nX8_f (zh Γ + 6) (a1)) :: nX8_b (zA Γ) (zh Γ + 6)))) zf_RX6_46 rfl (Nat.le_of_ble_eq_true rfl) rfl rfl rfl rfl rfl dX6_init_63 ?_
  exact z_vret hC hret dX6_init_66
def nX10_f (h : Nat) : List Value := [.ref (h + 1), .ref (h + 5), .ref (h + 18), .ref (h + 19), .ref (h + 22), .ref (h + 23), .ref (h + 99), .ref (h + 129), .ref (h + 130), .ref (h + 140), .ref (h + 143), .int 0, .int 0, .int (-1), .int (-1)]
def nX10_b (cA : Nat → ClassId) (h : Nat) : List va_E := ([] : List va_E) ++ (.inr (2, nX2_f (h + 1)) :: nX2_b (cA) (h + 1)) ++ (.inr (1, nX1_f (h + 5) (h + 1)) :: nX1_b (cA) (h + 5)) ++ (.inr (4, nX4_f (h + 18) (h + 1)) :: nX4_b (cA) (h + 18)) ++ (.inr (7, nX7_f (h + 19) (h + 1)) :: nX7_b (cA) (h + 19)) ++ (.inr (0, nX0_f (h + 22) (h + 1)) :: nX0_b (cA) (h + 22)) ++ (.inr (9, nX9_f (h + 23) (h + 5) (h + 1)) :: nX9_b (cA) (h + 23)) ++ (.inr (3, nX3_f (h + 99)) :: nX3_b (cA) (h + 99)) ++ [.inl (cA 1, 600, .inl (fun _ => 0))] ++ (.inr (6, nX6_f (h + 130) (h + 129)) :: nX6_b (cA) (h + 130) (h + 129)) ++ (.inr (5, nX5_f (h + 140)) :: nX5_b (cA) (h + 140)) ++ (.inr (2, nX2_f (h + 143)) :: nX2_b (cA) (h + 143))
def nX11_f (h : Nat) : List Value := [.int 0, .int 0, .ref (h + 1), .ref (h + 2), .ref (h + 3), .ref (h + 4), .int 0, .ref (h + 5), .ref (h + 6), .ref (h + 7), .ref (h + 8), .int 0, .int 0, .ref (h + 9), .int 0, .int 0, .ref (h + 10), .ref (h + 11), .ref (h + 12), .int 0, .int 0, .ref (h + 13), .int 0, .int (-1), .int (-1), .int 0, .int 0, .int 0, .int 0, .int 0, .int 0, .int 0, .int 0, .int 0, .long 0, .ref (h + 14)]
def nX11_b (cA : Nat → ClassId) (h : Nat) : List va_E := ([] : List va_E) ++ [.inl (cA 0, 6157, .inl (fun _ => 0))] ++ [.inl (cA 0, 6157, .inl (fun _ => 0))] ++ [.inl (cA 0, 36942, .inl (fun _ => 0))] ++ [.inl (cA 0, 6157, .inl (fun _ => 0))] ++ [.inl (cA 0, 6, .inl (fun _ => 0))] ++ [.inl (cA 0, 4096, .inl (fun _ => 0))] ++ [.inl (cA 0, 6, .inl (fun _ => 0))] ++ [.inl (cA 0, 4096, .inl (fun _ => 0))] ++ [.inl (cA 0, 6, .inl (fun _ => 0))] ++ [.inl (cA 0, 6, .inl (fun _ => 0))] ++ [.inl (cA 0, 14000, .inl (fun _ => 0))] ++ [.inl (cA 0, 600, .inl (fun _ => 0))] ++ [.inl (cA 1, 600, .inl (fun _ => 0))] ++ [.inl (cA 2, 10, .inr (.inl (nWs 10)))]
