/-! PRINTING: the reference; the call -/
section PM
variable {ρ ρ1 ρ2 κ κ1 : Mem} {G : Gm} {H : Nat → Gm} {L w : List Nat} {D F m p q : Nat}
def RO (ρ : Mem) (L : List Nat) : Prop := mi ρ 0 20 = nI L.length ∧ ∀ i, i < L.length → mi ρ 11 i = nI (L.getD i 0)
def qf2 (ρ ρ1 : Mem) : Prop := (∀ k, k ≠ 0 → k ≠ 11 → ρ1.1 k = ρ.1 k ∧ ρ1.2.1 k = ρ.2.1 k ∧ ρ1.2.2 k = ρ.2.2 k) ∧ ∀ i, i ≠ 20 → mi ρ1 0 i = mi ρ 0 i
theorem qf2_rfl : qf2 ρ ρ := ⟨fun _ _ _ => ⟨rfl, rfl, rfl⟩, fun _ _ => rfl⟩
theorem qf2_trans (h : qf2 ρ ρ1) (h2 : qf2 ρ1 ρ2) : qf2 ρ ρ2 := ⟨fun k a b => ⟨(h2.1 k a b).1.trans (h.1 k a b).1, (h2.1 k a b).2.1.trans (h.1 k a b).2.1, (h2.1 k a b).2.2.trans (h.1 k a b).2.2⟩, fun i hi => (h2.2 i hi).trans (h.2 i hi)⟩
theorem qf2.ag (h : qf2 ρ ρ1) : agr (fun k => k = 0 ∨ k = 11) ρ ρ1 := fun k hk => h.1 k (fun z => hk (Or.inl z)) (fun z => hk (Or.inr z))
theorem RG.qf (h : RG ρ 1 G) (hq : qf2 ρ ρ1) : RG ρ1 1 G := h.agr hq.ag (by omega)
theorem r_says {c : Nat} (h : RO ρ L) (hl : L.length < 14000) : ∃ ρ1, RO ρ1 (L ++ [c]) ∧ qf2 ρ ρ1 ∧ pX11_says ρ (nI c) = some ρ1 := by
  obtain ⟨h1, h2⟩ := h
  have hlen : (L ++ [c]).length = L.length + 1 := by simp
  refine ⟨setI (setI ρ 11 L.length (nI c)) 0 20 (nI (L.length + 1)), ⟨by rw [mi_setI, if_pos ⟨rfl, rfl⟩, hlen], fun i hi => ?_⟩, ⟨fun k a b => ⟨by simp [setI, a, b], rfl, rfl⟩, fun i hi => ?_⟩, ?_⟩
  · rw [hlen] at hi
    rw [mi_setI, if_neg (by omega), mi_setI]
    by_cases e : i = L.length
    · subst e
      rw [if_pos ⟨rfl, rfl⟩, gD_app2]
    · rw [if_neg (fun y => e y.2), h2 i (by omega), gD_app1 (by omega)]
  · rw [mi_setI, if_neg (fun z => hi z.2), mi_setI, if_neg (by omega)]
  · unfold pX11_says
    rw [h1]
    simp (disch := omega) only [n_0, n_1, n_2, n_3, n_4, n_5, n_6, n_7, n_8, n_9, n_10, n_12, n_13, n_14, n_20, n_31, n_32, n_63, n_64, n_600, n_1024, n_4096, n_6157, n_add, n_mul, nm_def, Option.bind_some, Option.some.injEq, ck_in, ck_nz, ck_p, n_cl, n_lt, n_le, n_eq, n_div, n_rem, if_pos, if_neg, if_true, if_false, eq_self, n_192, n_256, n_20000, m1_n0, m1_np, m1_n0p, m1_lt0, m1_lt0p, mi_setIA, mi_setI, ml_setIA, ml_setI, mr_setI, mr_setIA, h1]
theorem r_saysWord {z : Nat} (h : RO ρ L) (hz : z < 20) (hF : 100 < F) (hl : L.length + 7 ≤ 14000) : ∃ ρ1, RO ρ1 (L ++ wdN z) ∧ qf2 ρ ρ1 ∧ pX11_saysWord F z ρ = some ρ1 := by
  obtain ⟨w1, w2, w3⟩ := wd_ok z hz
  unfold pX11_saysWord
  refine lp_inv (fun fu (s : Mem) i => pX11_saysWord_2 F z fu s (nI i)) (fun s i => RO s (L ++ (wdN z).take i) ∧ qf2 ρ s) (wdN z).length (fun r => ∃ ρ1, RO ρ1 (L ++ wdN z) ∧ qf2 ρ ρ1 ∧ r = some ρ1) (fun fu s hI => ?_) (fun fu s i hi hI => ?_) F ρ 0 (Nat.zero_le _) (by omega) ⟨by simpa using h, qf2_rfl⟩
  · obtain ⟨b1, b2⟩ := hI
    rw [List.take_length] at b1
    refine ⟨s, b1, b2, ?_⟩
    show pX11_saysWord_2 F z (fu + 1) s (nI (wdN z).length) = _
    rw [pX11_saysWord_2]
    unfold pJ0_length_8abf5
    rw [← w1, show Int32.ofNat (wdN z).length = nI (wdN z).length from rfl]
    simp (disch := omega) only [n_0, n_1, n_2, n_3, n_4, n_5, n_6, n_7, n_8, n_9, n_10, n_12, n_13, n_14, n_20, n_31, n_32, n_63, n_64, n_600, n_1024, n_4096, n_6157, n_add, n_mul, nm_def, Option.bind_some, Option.some.injEq, ck_in, ck_nz, ck_p, n_cl, n_lt, n_le, n_eq, n_div, n_rem, if_pos, if_neg, if_true, if_false, eq_self, n_192, n_256, n_20000, m1_n0, m1_np, m1_n0p, m1_lt0, m1_lt0p, mi_setIA, mi_setI, ml_setIA, ml_setI, mr_setI, mr_setIA]
  · obtain ⟨b1, b2⟩ := hI
    obtain ⟨c1, c2⟩ := w3 i hi
    have hll : (L ++ (wdN z).take i).length < 14000 := by
      rw [List.length_append, List.length_take]
      omega
    obtain ⟨s1, d1, d2, d3⟩ := r_says (c := (wdN z).getD i 0) b1 hll
    refine ⟨s1, ⟨by rw [tk_s hi, ← List.append_assoc]; exact d1, qf2_trans b2 d2⟩, ?_⟩
    show pX11_saysWord_2 F z (fu + 1) s (nI i) = pX11_saysWord_2 F z fu s1 (nI (i + 1))
    rw [pX11_saysWord_2]
    unfold pJ0_length_8abf5 pJ0_charAt_5068e
    rw [← w1, show Int32.ofNat (wdN z).length = nI (wdN z).length from rfl]
    simp (disch := omega) only [n_0, n_1, n_2, n_3, n_4, n_5, n_6, n_7, n_8, n_9, n_10, n_12, n_13, n_14, n_20, n_31, n_32, n_63, n_64, n_600, n_1024, n_4096, n_6157, n_add, n_mul, nm_def, Option.bind_some, Option.some.injEq, ck_in, ck_nz, ck_p, n_cl, n_lt, n_le, n_eq, n_div, n_rem, if_pos, if_neg, if_true, if_false, eq_self, n_192, n_256, n_20000, m1_n0, m1_np, m1_n0p, m1_lt0, m1_lt0p, mi_setIA, mi_setI, ml_setIA, ml_setI, mr_setI, mr_setIA, c1, d3]
theorem r_saysNumber {v : Nat} (h : RO ρ L) (hv : v < 10) (hl : L.length + 2 ≤ 14000) : ∃ ρ1, RO ρ1 (L ++ [32, 48 + v]) ∧ qf2 ρ ρ1 ∧ pX11_saysNumber ρ (nI v) = some ρ1 := by
  obtain ⟨s1, a1, a2, a3⟩ := r_says (c := 32) h (by omega)
  obtain ⟨s2, b1, b2, b3⟩ := r_says (c := 48 + v) a1 (by simp; omega)
  refine ⟨s2, by simpa using b1, qf2_trans a2 b2, ?_⟩
  unfold pX11_saysNumber
  rw [ch10b v hv, show (32 : Int32) = nI 32 from rfl, a3, Option.bind_some, b3]
  rfl
theorem r_saysTwo {z a b : Nat} (h : RO ρ L) (hz : z < 20) (hF : 100 < F) (ha : a < 10) (hb : b < 10) (hl : L.length + 12 ≤ 14000) : ∃ ρ1, RO ρ1 (L ++ (wdN z ++ ([32, 48 + a] ++ ([32, 48 + b] ++ [59])))) ∧ qf2 ρ ρ1 ∧ pX11_saysTwo F z ρ (nI a) (nI b) = some ρ1 := by
  obtain ⟨-, w2, -⟩ := wd_ok z hz
  obtain ⟨s1, c1, c2, c3⟩ := r_saysWord (F := F) h hz hF (by omega)
  obtain ⟨s2, d1, d2, d3⟩ := r_saysNumber (v := a) c1 ha (by rw [List.length_append]; omega)
  obtain ⟨s3, e1, e2, e3⟩ := r_saysNumber (v := b) d1 hb (by simp only [List.length_append, List.length_cons, List.length_nil]; omega)
  obtain ⟨s4, f1, f2, f3⟩ := r_says (c := 59) e1 (by simp only [List.length_append, List.length_cons, List.length_nil]; omega)
  refine ⟨s4, by simpa only [List.append_assoc] using f1, qf2_trans c2 (qf2_trans d2 (qf2_trans e2 f2)), ?_⟩
  unfold pX11_saysTwo
  rw [c3, Option.bind_some, d3, Option.bind_some, e3, Option.bind_some, show (59 : Int32) = nI 59 from rfl, f3]
  rfl
theorem w15 : wdN 15 = wdN 10 := by decide +kernel
theorem w16 : wdN 16 = wdN 11 := by decide +kernel
theorem w17 : wdN 17 = wdN 12 := by decide +kernel
theorem w18 : wdN 18 = wdN 13 := by decide +kernel
theorem w19 : wdN 19 = [32] ++ wdN 14 := by decide +kernel
theorem r_tabs (h : RO ρ L) (hG : RG ρ 1 G) (hw : WF G) (hF : 5000 < F) (hl : L.length < 1000) : ∃ ρ1, RO ρ1 (L ++ prU G (Gn G)) ∧ qf2 ρ ρ1 ∧ pX11_saysGame_102 F F ρ 0 = some ρ1 := by
  have hn := hw.n6
  have e59 : (59 : Int32) = nI 59 := rfl
  have hin : ∀ (k2 : Mem → Int32 → Option Mem) (p : Nat) (ρ : Mem) (L : List Nat), RO ρ L → RG ρ 1 G → p < Gn G → L.length + 2060 < 14000 → ∃ ρ1, RO ρ1 (L ++ (prE G p (sit G p) ++ [59])) ∧ qf2 ρ ρ1 ∧ pX11_saysGame_131 F k2 (nI p) F ρ 0 = k2 ρ1 (nI (p + 1)) := fun k2 p ρ L h hG hp hl => by
    have hp6 := hw_lt hw hp
    have hsl := sit_le hw hp
    refine lp_inv (fun fu (s : Mem) i => pX11_saysGame_131 F k2 (nI p) fu s (nI i)) (fun s i => RO s (L ++ prE G p i) ∧ qf2 ρ s) (sit G p) (fun r => ∃ ρ1, RO ρ1 (L ++ (prE G p (sit G p) ++ [59])) ∧ qf2 ρ ρ1 ∧ r = k2 ρ1 (nI (p + 1))) (fun fu s hI => ?_) (fun fu s i hi hI => ?_) F ρ 0 (Nat.zero_le _) (by omega) ⟨by simpa [prE] using h, qf2_rfl⟩
    · obtain ⟨b1, b2⟩ := hI
      obtain ⟨s1, c1, c2, c3⟩ := r_says (c := 59) b1 (by rw [List.length_append, prE_len]; omega)
      refine ⟨s1, by rw [← List.append_assoc]; exact c1, qf2_trans b2 c2, ?_⟩
      show pX11_saysGame_131 F k2 (nI p) (fu + 1) s (nI (sit G p)) = _
      rw [pX11_saysGame_131, rX_situations (hG.qf b2) hw (by omega) hp]
      simp (disch := omega) only [n_0, n_1, n_2, n_3, n_4, n_5, n_6, n_7, n_8, n_9, n_10, n_12, n_13, n_14, n_20, n_31, n_32, n_63, n_64, n_600, n_1024, n_4096, n_6157, n_add, n_mul, nm_def, Option.bind_some, Option.some.injEq, ck_in, ck_nz, ck_p, n_cl, n_lt, n_le, n_eq, n_div, n_rem, if_pos, if_neg, if_true, if_false, eq_self, n_192, n_256, n_20000, m1_n0, m1_np, m1_n0p, m1_lt0, m1_lt0p, mi_setIA, mi_setI, ml_setIA, ml_setI, mr_setI, mr_setIA, e59, c3]
    · obtain ⟨b1, b2⟩ := hI
      have hXs := hG.qf b2
      have ht := hw.t hp hi
      have h4 := hw.h4 hp
      obtain ⟨s1, c1, c2, c3⟩ := r_saysNumber (v := Gt G p i) b1 (by omega) (by rw [List.length_append, prE_len]; omega)
      refine ⟨s1, ⟨by rw [prE, ← List.append_assoc]; exact c1, qf2_trans b2 c2⟩, ?_⟩
      show pX11_saysGame_131 F k2 (nI p) (fu + 1) s (nI i) = pX11_saysGame_131 F k2 (nI p) fu s1 (nI (i + 1))
      rw [pX11_saysGame_131, rX_situations hXs hw (by omega) hp]
      simp (disch := omega) only [n_0, n_1, n_2, n_3, n_4, n_5, n_6, n_7, n_8, n_9, n_10, n_12, n_13, n_14, n_20, n_31, n_32, n_63, n_64, n_600, n_1024, n_4096, n_6157, n_add, n_mul, nm_def, Option.bind_some, Option.some.injEq, ck_in, ck_nz, ck_p, n_cl, n_lt, n_le, n_eq, n_div, n_rem, if_pos, if_neg, if_true, if_false, eq_self, n_192, n_256, n_20000, m1_n0, m1_np, m1_n0p, m1_lt0, m1_lt0p, mi_setIA, mi_setI, ml_setIA, ml_setI, mr_setI, mr_setIA, rX_entry hXs hw hp hi, c3]
  refine lp_inv (fun fu (s : Mem) i => pX11_saysGame_102 F fu s (nI i)) (fun s i => RO s (L ++ prU G i) ∧ qf2 ρ s) (Gn G) (fun r => ∃ ρ1, RO ρ1 (L ++ prU G (Gn G)) ∧ qf2 ρ ρ1 ∧ r = some ρ1) (fun fu s hI => ?_) (fun fu s i hi hI => ?_) F ρ 0 (Nat.zero_le _) (by omega) ⟨by simpa [prU] using h, qf2_rfl⟩
  · obtain ⟨b1, b2⟩ := hI
    refine ⟨s, b1, b2, ?_⟩
    show pX11_saysGame_102 F (fu + 1) s (nI (Gn G)) = _
    rw [pX11_saysGame_102, rX_players (hG.qf b2)]
    simp (disch := omega) only [n_0, n_1, n_2, n_3, n_4, n_5, n_6, n_7, n_8, n_9, n_10, n_12, n_13, n_14, n_20, n_31, n_32, n_63, n_64, n_600, n_1024, n_4096, n_6157, n_add, n_mul, nm_def, Option.bind_some, Option.some.injEq, ck_in, ck_nz, ck_p, n_cl, n_lt, n_le, n_eq, n_div, n_rem, if_pos, if_neg, if_true, if_false, eq_self, n_192, n_256, n_20000, m1_n0, m1_np, m1_n0p, m1_lt0, m1_lt0p, mi_setIA, mi_setI, ml_setIA, ml_setI, mr_setI, mr_setIA]
  · obtain ⟨b1, b2⟩ := hI
    have hXs := hG.qf b2
    have l0 : (L ++ prU G i).length < 11400 := by
      have := prU_len (G := G) hw i (by omega)
      rw [List.length_append]; omega
    obtain ⟨s1, c1, c2, c3⟩ := r_saysWord (F := F) (z := 18) b1 (by decide) (by omega) (by omega)
    rw [w18] at c1
    obtain ⟨s2, d1, d2, d3⟩ := r_saysNumber (v := i) c1 (by omega) (by rw [List.length_append, wl13]; omega)
    obtain ⟨s3, e1, e2, e3⟩ := r_saysWord (F := F) (z := 19) d1 (by decide) (by omega) (by simp only [List.length_append, wl13, List.length_cons, List.length_nil] at l0 ⊢; omega)
    rw [w19] at e1
    have hX3 := hXs.qf (qf2_trans c2 (qf2_trans d2 e2))
    obtain ⟨s5, g1, g2, g3⟩ := hin (pX11_saysGame_102 F fu) i s3 _ e1 hX3 hi (by simp only [List.length_append, wl13, wl14, List.length_cons, List.length_nil] at l0 ⊢; omega)
    refine ⟨s5, ⟨by rw [prU]; simpa only [List.append_assoc] using g1, qf2_trans b2 (qf2_trans c2 (qf2_trans d2 (qf2_trans e2 g2)))⟩, ?_⟩
    show pX11_saysGame_102 F (fu + 1) s (nI i) = pX11_saysGame_102 F fu s5 (nI (i + 1))
    rw [pX11_saysGame_102, rX_players hXs]
    simp (disch := omega) only [n_0, n_1, n_2, n_3, n_4, n_5, n_6, n_7, n_8, n_9, n_10, n_12, n_13, n_14, n_20, n_31, n_32, n_63, n_64, n_600, n_1024, n_4096, n_6157, n_add, n_mul, nm_def, Option.bind_some, Option.some.injEq, ck_in, ck_nz, ck_p, n_cl, n_lt, n_le, n_eq, n_div, n_rem, if_pos, if_neg, if_true, if_false, eq_self, n_192, n_256, n_20000, m1_n0, m1_np, m1_n0p, m1_lt0, m1_lt0p, mi_setIA, mi_setI, ml_setIA, ml_setI, mr_setI, mr_setIA, c3, d3, e3]
    exact g3
theorem r_sees (h : RO ρ L) (hG : RG ρ 1 G) (hw : WF G) (hF : 5000 < F) (hl : L.length < 600) : ∃ ρ1, RO ρ1 (L ++ (prS G (Gn G) ++ prU G (Gn G))) ∧ qf2 ρ ρ1 ∧ pX11_saysGame_52 F F ρ 0 = some ρ1 := by
  have hn := hw.n6
  have hin : ∀ (k2 : Mem → Int32 → Option Mem) (p : Nat) (ρ : Mem) (L : List Nat), RO ρ L → RG ρ 1 G → p < Gn G → L.length < 12000 → ∃ ρ1, RO ρ1 (L ++ prI G p (Gn G)) ∧ qf2 ρ ρ1 ∧ pX11_saysGame_62 F k2 (nI p) F ρ 0 = k2 ρ1 (nI (p + 1)) := fun k2 p ρ L h hG hp hl => by
    have hp6 := hw_lt hw hp
    refine lp_inv (fun fu (s : Mem) i => pX11_saysGame_62 F k2 (nI p) fu s (nI i)) (fun s i => RO s (L ++ prI G p i) ∧ qf2 ρ s) (Gn G) (fun r => ∃ ρ1, RO ρ1 (L ++ prI G p (Gn G)) ∧ qf2 ρ ρ1 ∧ r = k2 ρ1 (nI (p + 1))) (fun fu s hI => ?_) (fun fu s i hi hI => ?_) F ρ 0 (Nat.zero_le _) (by omega) ⟨by simpa [prI] using h, qf2_rfl⟩
    · obtain ⟨b1, b2⟩ := hI
      refine ⟨s, b1, b2, ?_⟩
      show pX11_saysGame_62 F k2 (nI p) (fu + 1) s (nI (Gn G)) = _
      rw [pX11_saysGame_62, rX_players (hG.qf b2)]
      simp (disch := omega) only [n_0, n_1, n_2, n_3, n_4, n_5, n_6, n_7, n_8, n_9, n_10, n_12, n_13, n_14, n_20, n_31, n_32, n_63, n_64, n_600, n_1024, n_4096, n_6157, n_add, n_mul, nm_def, Option.bind_some, Option.some.injEq, ck_in, ck_nz, ck_p, n_cl, n_lt, n_le, n_eq, n_div, n_rem, if_pos, if_neg, if_true, if_false, eq_self, n_192, n_256, n_20000, m1_n0, m1_np, m1_n0p, m1_lt0, m1_lt0p, mi_setIA, mi_setI, ml_setIA, ml_setI, mr_setI, mr_setIA]
    · obtain ⟨b1, b2⟩ := hI
      have hi6 := hw_lt hw hi
      have hXs := hG.qf b2
      cases hs : sees G p i
      · refine ⟨s, ⟨by rw [prI, hs]; simpa using b1, b2⟩, ?_⟩
        show pX11_saysGame_62 F k2 (nI p) (fu + 1) s (nI i) = pX11_saysGame_62 F k2 (nI p) fu s (nI (i + 1))
        rw [pX11_saysGame_62, rX_players hXs, rX_sees hXs hw hp (by omega), hs]
        unfold pX11_saysGame_88
        simp (disch := omega) only [n_0, n_1, n_2, n_3, n_4, n_5, n_6, n_7, n_8, n_9, n_10, n_12, n_13, n_14, n_20, n_31, n_32, n_63, n_64, n_600, n_1024, n_4096, n_6157, n_add, n_mul, nm_def, Option.bind_some, Option.some.injEq, ck_in, ck_nz, ck_p, n_cl, n_lt, n_le, n_eq, n_div, n_rem, if_pos, if_neg, if_true, if_false, eq_self, n_192, n_256, n_20000, m1_n0, m1_np, m1_n0p, m1_lt0, m1_lt0p, mi_setIA, mi_setI, ml_setIA, ml_setI, mr_setI, mr_setIA, Bool.toNat_false]
      · have l0 : (L ++ prI G p i).length < 13000 := by
          have := prI_len (G := G) p i
          rw [List.length_append]; omega
        obtain ⟨s4, f1, f2, f3⟩ := r_saysTwo (F := F) (z := 17) (a := p) (b := i) b1 (by decide) (by omega) (by omega) (by omega) (by omega)
        rw [w17] at f1
        refine ⟨s4, ⟨by rw [prI, hs, if_pos rfl]; simpa only [List.append_assoc] using f1, qf2_trans b2 f2⟩, ?_⟩
        show pX11_saysGame_62 F k2 (nI p) (fu + 1) s (nI i) = pX11_saysGame_62 F k2 (nI p) fu s4 (nI (i + 1))
        rw [pX11_saysGame_62, rX_players hXs, rX_sees hXs hw hp (by omega), hs]
        unfold pX11_saysGame_88
        simp (disch := omega) only [n_0, n_1, n_2, n_3, n_4, n_5, n_6, n_7, n_8, n_9, n_10, n_12, n_13, n_14, n_20, n_31, n_32, n_63, n_64, n_600, n_1024, n_4096, n_6157, n_add, n_mul, nm_def, Option.bind_some, Option.some.injEq, ck_in, ck_nz, ck_p, n_cl, n_lt, n_le, n_eq, n_div, n_rem, if_pos, if_neg, if_true, if_false, eq_self, n_192, n_256, n_20000, m1_n0, m1_np, m1_n0p, m1_lt0, m1_lt0p, mi_setIA, mi_setI, ml_setIA, ml_setI, mr_setI, mr_setIA, Bool.toNat_true, f3]
  refine lp_inv (fun fu (s : Mem) i => pX11_saysGame_52 F fu s (nI i)) (fun s i => RO s (L ++ prS G i) ∧ qf2 ρ s) (Gn G) (fun r => ∃ ρ1, RO ρ1 (L ++ (prS G (Gn G) ++ prU G (Gn G))) ∧ qf2 ρ ρ1 ∧ r = some ρ1) (fun fu s hI => ?_) (fun fu s i hi hI => ?_) F ρ 0 (Nat.zero_le _) (by omega) ⟨by simpa [prS] using h, qf2_rfl⟩
  · obtain ⟨b1, b2⟩ := hI
    have l0 : (L ++ prS G (Gn G)).length < 1000 := by
      have := prS_len (G := G) hw (Gn G)
      rw [List.length_append]; omega
    obtain ⟨s1, c1, c2, c3⟩ := r_tabs (F := F) b1 (hG.qf b2) hw hF l0
    refine ⟨s1, by rw [← List.append_assoc]; exact c1, qf2_trans b2 c2, ?_⟩
    show pX11_saysGame_52 F (fu + 1) s (nI (Gn G)) = _
    rw [pX11_saysGame_52, rX_players (hG.qf b2)]
    simp (disch := omega) only [n_0, n_1, n_2, n_3, n_4, n_5, n_6, n_7, n_8, n_9, n_10, n_12, n_13, n_14, n_20, n_31, n_32, n_63, n_64, n_600, n_1024, n_4096, n_6157, n_add, n_mul, nm_def, Option.bind_some, Option.some.injEq, ck_in, ck_nz, ck_p, n_cl, n_lt, n_le, n_eq, n_div, n_rem, if_pos, if_neg, if_true, if_false, eq_self, n_192, n_256, n_20000, m1_n0, m1_np, m1_n0p, m1_lt0, m1_lt0p, mi_setIA, mi_setI, ml_setIA, ml_setI, mr_setI, mr_setIA]
    exact c3
  · obtain ⟨b1, b2⟩ := hI
    have hXs := hG.qf b2
    have l0 : (L ++ prS G i).length < 12000 := by
      have := prS_len (G := G) hw i
      rw [List.length_append]; omega
    obtain ⟨s1, c1, c2, c3⟩ := hin (pX11_saysGame_52 F fu) i s _ b1 hXs hi l0
    refine ⟨s1, ⟨by rw [prS, ← List.append_assoc]; exact c1, qf2_trans b2 c2⟩, ?_⟩
    show pX11_saysGame_52 F (fu + 1) s (nI i) = pX11_saysGame_52 F fu s1 (nI (i + 1))
    rw [pX11_saysGame_52, rX_players hXs]
    simp (disch := omega) only [n_0, n_1, n_2, n_3, n_4, n_5, n_6, n_7, n_8, n_9, n_10, n_12, n_13, n_14, n_20, n_31, n_32, n_63, n_64, n_600, n_1024, n_4096, n_6157, n_add, n_mul, nm_def, Option.bind_some, Option.some.injEq, ck_in, ck_nz, ck_p, n_cl, n_lt, n_le, n_eq, n_div, n_rem, if_pos, if_neg, if_true, if_false, eq_self, n_192, n_256, n_20000, m1_n0, m1_np, m1_n0p, m1_lt0, m1_lt0p, mi_setIA, mi_setI, ml_setIA, ml_setI, mr_setI, mr_setIA]
    exact c3
theorem r_saysGame (h : RO ρ []) (hG : RG ρ 1 G) (hw : WF G) (hF : 5000 < F) (h0 : Gn G ≠ 0) : ∃ ρ1, RO ρ1 (prG G) ∧ qf2 ρ ρ1 ∧ pX11_saysGame F ρ = some ρ1 := by
  have hn := hw.n6
  obtain ⟨s1, c1, c2, c3⟩ := r_saysWord (F := F) (z := 15) h (by decide) (by omega) (by simp)
  rw [w15] at c1
  obtain ⟨s2, d1, d2, d3⟩ := r_saysNumber (v := Gn G) c1 (by omega) (by simp [wl10])
  obtain ⟨s3, e1, e2, e3⟩ := r_says (c := 59) d1 (by simp [wl10])
  have hG3 := hG.qf (qf2_trans c2 (qf2_trans d2 e2))
  obtain ⟨L0, hL0⟩ : ∃ L0, L0 = ([] ++ wdN 10 ++ [32, 48 + Gn G] ++ [59] : List Nat) := ⟨_, rfl⟩
  have hl0 : L0.length ≤ 10 := by rw [hL0]; simp [wl10]
  rw [← hL0] at e1
  have key : ∃ ρ1, RO ρ1 (L0 ++ (prH G (Gn G) ++ (prS G (Gn G) ++ prU G (Gn G)))) ∧ qf2 s3 ρ1 ∧ pX11_saysGame_23 F F s3 0 = some ρ1 := by
    refine lp_inv (fun fu (s : Mem) i => pX11_saysGame_23 F fu s (nI i)) (fun s i => RO s (L0 ++ prH G i) ∧ qf2 s3 s) (Gn G) (fun r => ∃ ρ1, RO ρ1 (L0 ++ (prH G (Gn G) ++ (prS G (Gn G) ++ prU G (Gn G)))) ∧ qf2 s3 ρ1 ∧ r = some ρ1) (fun fu s hI => ?_) (fun fu s i hi hI => ?_) F s3 0 (Nat.zero_le _) (by omega) ⟨by simpa [prH] using e1, qf2_rfl⟩
    · obtain ⟨b1, b2⟩ := hI
      obtain ⟨s4, f1, f2, f3⟩ := r_sees (F := F) b1 (hG3.qf b2) hw hF (by rw [List.length_append, prH_len]; omega)
      refine ⟨s4, by rw [← List.append_assoc]; exact f1, qf2_trans b2 f2, ?_⟩
      show pX11_saysGame_23 F (fu + 1) s (nI (Gn G)) = _
      rw [pX11_saysGame_23, rX_players (hG3.qf b2)]
      simp (disch := omega) only [n_0, n_1, n_2, n_3, n_4, n_5, n_6, n_7, n_8, n_9, n_10, n_12, n_13, n_14, n_20, n_31, n_32, n_63, n_64, n_600, n_1024, n_4096, n_6157, n_add, n_mul, nm_def, Option.bind_some, Option.some.injEq, ck_in, ck_nz, ck_p, n_cl, n_lt, n_le, n_eq, n_div, n_rem, if_pos, if_neg, if_true, if_false, eq_self, n_192, n_256, n_20000, m1_n0, m1_np, m1_n0p, m1_lt0, m1_lt0p, mi_setIA, mi_setI, ml_setIA, ml_setI, mr_setI, mr_setIA]
      exact f3
    · obtain ⟨b1, b2⟩ := hI
      have hXs := hG3.qf b2
      have h4 := hw.h4 hi
      have hi6 := hw_lt hw hi
      obtain ⟨s4, f1, f2, f3⟩ := r_saysTwo (F := F) (z := 16) (a := i) (b := Gh G i) b1 (by decide) (by omega) (by omega) (by omega) (by rw [List.length_append, prH_len]; omega)
      rw [w16] at f1
      refine ⟨s4, ⟨by rw [prH]; simpa only [List.append_assoc] using f1, qf2_trans b2 f2⟩, ?_⟩
      show pX11_saysGame_23 F (fu + 1) s (nI i) = pX11_saysGame_23 F fu s4 (nI (i + 1))
      rw [pX11_saysGame_23, rX_players hXs, rX_hats hXs hw hi]
      simp (disch := omega) only [n_0, n_1, n_2, n_3, n_4, n_5, n_6, n_7, n_8, n_9, n_10, n_12, n_13, n_14, n_20, n_31, n_32, n_63, n_64, n_600, n_1024, n_4096, n_6157, n_add, n_mul, nm_def, Option.bind_some, Option.some.injEq, ck_in, ck_nz, ck_p, n_cl, n_lt, n_le, n_eq, n_div, n_rem, if_pos, if_neg, if_true, if_false, eq_self, n_192, n_256, n_20000, m1_n0, m1_np, m1_n0p, m1_lt0, m1_lt0p, mi_setIA, mi_setI, ml_setIA, ml_setI, mr_setI, mr_setIA, f3]
  obtain ⟨s4, f1, f2, f3⟩ := key
  refine ⟨s4, ?_, qf2_trans c2 (qf2_trans d2 (qf2_trans e2 f2)), ?_⟩
  · unfold prG prP
    rw [if_neg h0]
    rw [hL0] at f1
    simpa only [List.append_assoc, List.nil_append] using f1
  · have hG1 := hG.qf c2
    unfold pX11_saysGame
    rw [c3, Option.bind_some, rX_players hG1, Option.bind_some, d3, Option.bind_some, show (59 : Int32) = nI 59 from rfl, e3, Option.bind_some]
    exact f3
theorem x_write (h : DP D κ []) (hG : XG κ 1 G) (hw : WF G) (hF : 5000 < F) : ∃ κ1, DP D κ1 (prG G) ∧ pf D κ κ1 ∧ (if (mi κ 1 0) ≤ 0 then pX5_write_32 F 1 κ else (pX5_addWord F 10 κ).bind fun t10 => (pX5_addNumber t10 (mi t10 1 0)).bind fun t11 => (pX5_addByte t11 59).bind fun t12 => pX5_write_32 F 1 t12) = (if (mi κ1 144 3) ≤ 600 then ckP (isPB (mr κ1 144 0)) (ckP (isPB (mr κ1 144 2)) (nm (setR κ1 144 0 (mr κ1 144 2)) fun κ7 => nm (setR κ7 144 2 (mr κ1 144 0)) fun κ8 => nm (setI κ8 144 1 (mi κ8 144 3)) fun κ9 => some (1, κ9))) else some (0, κ1)) := by
  have hn := hw.n6
  have hD := h.1
  have hrest : ∀ (κ : Mem) (L : List Nat), DP D κ L → XG κ 1 G → L.length ≤ 10 → ∃ κ1, DP D κ1 (L ++ (prH G (Gn G) ++ (prS G (Gn G) ++ prU G (Gn G)))) ∧ pf D κ κ1 ∧ pX5_write_32 F 1 κ = (if (mi κ1 144 3) ≤ 600 then ckP (isPB (mr κ1 144 0)) (ckP (isPB (mr κ1 144 2)) (nm (setR κ1 144 0 (mr κ1 144 2)) fun κ7 => nm (setR κ7 144 2 (mr κ1 144 0)) fun κ8 => nm (setI κ8 144 1 (mi κ8 144 3)) fun κ9 => some (1, κ9))) else some (0, κ1)) := fun κ L h hG hl => by
    obtain ⟨s1, a1, a2, a3⟩ := x_addHats (F := F) h hG hw (by omega) (by omega)
    obtain ⟨s2, b1, b2, b3⟩ := x_addSights (F := F) a1 (hG.pf hD a2) hw (by omega) (by rw [List.length_append, prH_len]; omega)
    have l2 := prS_len (G := G) hw (Gn G)
    obtain ⟨s3, c1, c2, c3⟩ := x_addTables (F := F) b1 (hG.pf hD (pf_trans a2 b2)) hw hF (by rw [List.length_append, List.length_append, prH_len]; omega)
    refine ⟨s3, by simpa only [List.append_assoc] using c1, pf_trans a2 (pf_trans b2 c2), ?_⟩
    unfold pX5_write_32
    rw [a3, Option.bind_some, b3, Option.bind_some, c3, Option.bind_some]
  have e0 : (mi κ 1 0 ≤ 0) = (Gn G = 0) := by rw [hG.n, n_0, n_le (by omega) (by decide)]; exact propext (by omega)
  by_cases z : Gn G = 0
  · obtain ⟨s1, a1, a2, a3⟩ := hrest κ [] h hG (by simp)
    refine ⟨s1, ?_, a2, ?_⟩
    · unfold prG prP
      rw [if_pos z]
      exact a1
    · simp only [e0]
      rw [if_pos z, a3]
  · obtain ⟨s1, c1, c2, c3⟩ := x_addWord (F := F) (z := 10) h (by decide) (by omega) (by simp)
    obtain ⟨s2, d1, d2, d3⟩ := x_addNumber (v := Gn G) c1 (by omega) (by simp [wl10])
    obtain ⟨s3, e1, e2, e3⟩ := x_addByte (c := 59) d1 (by decide) (by simp [wl10])
    obtain ⟨s4, a1, a2, a3⟩ := hrest s3 _ e1 (hG.pf hD (pf_trans c2 (pf_trans d2 e2))) (by simp [wl10])
    refine ⟨s4, ?_, pf_trans c2 (pf_trans d2 (pf_trans e2 a2)), ?_⟩
    · unfold prG prP
      rw [if_neg z]
      simpa only [List.append_assoc, List.nil_append] using a1
    · simp only [e0]
      rw [if_neg z, c3, Option.bind_some, (hG.pf hD c2).n, d3, Option.bind_some, show (59 : Int32) = nI 59 from rfl, e3, Option.bind_some, a3]
theorem prG_le (hw : WF G) : (prG G).length ≤ 13000 := by
  have h1 := prP_len (G := G)
  have h2 := prS_len (G := G) hw (Gn G)
  have h3 := prU_len (G := G) hw (Gn G) (Nat.le_refl _)
  have hn := hw.n6
  unfold prG
  simp only [List.length_append, prH_len]
  omega
theorem r_print40 {n : Nat} (h : mi ρ 0 20 = nI n) (hn : n ≤ 600) (hF : 5000 < F) : pX11_print_40 F F ρ 0 = some (nI n, setI (setIA ρ 12 (wr (ρ.1 12) 0 n (ρ.1 11))) 0 19 (nI n)) := by
  refine lp_upE F (fun fu i => pX11_print_40 F fu (setIA ρ 12 (wr (ρ.1 12) 0 i (ρ.1 11))) (nI i)) (0) (n) _ _ ?_ (fun fu => ?_) (fun fu i hi1 hi2 => ?_) (by omega) (by omega)
  · rw [setIA_wr0]; rfl
  · show pX11_print_40 F (fu + 1) (setIA ρ 12 (wr (ρ.1 12) 0 (n) (ρ.1 11))) (nI (n)) = _
    rw [pX11_print_40]
    simp (disch := omega) only [n_0, n_1, n_2, n_3, n_4, n_5, n_6, n_7, n_8, n_9, n_10, n_12, n_13, n_14, n_20, n_31, n_32, n_63, n_64, n_600, n_1024, n_4096, n_6157, n_add, n_mul, nm_def, Option.bind_some, Option.some.injEq, ck_in, ck_nz, ck_p, n_cl, n_lt, n_le, n_eq, n_div, n_rem, if_pos, if_neg, if_true, if_false, eq_self, n_192, n_256, n_20000, m1_n0, m1_np, m1_n0p, m1_lt0, m1_lt0p, mi_setIA, mi_setI, ml_setIA, ml_setI, mr_setI, mr_setIA, h, and_self]
  · show pX11_print_40 F (fu + 1) (setIA ρ 12 (wr (ρ.1 12) 0 i (ρ.1 11))) (nI i) = pX11_print_40 F fu (setIA ρ 12 (wr (ρ.1 12) 0 (i + 1) (ρ.1 11))) (nI (i + 1))
    rw [pX11_print_40]
    simp (disch := omega) only [n_0, n_1, n_2, n_3, n_4, n_5, n_6, n_7, n_8, n_9, n_10, n_12, n_13, n_14, n_20, n_31, n_32, n_63, n_64, n_600, n_1024, n_4096, n_6157, n_add, n_mul, nm_def, Option.bind_some, Option.some.injEq, ck_in, ck_nz, ck_p, n_cl, n_lt, n_le, n_eq, n_div, n_rem, if_pos, if_neg, if_true, if_false, eq_self, n_192, n_256, n_20000, m1_n0, m1_np, m1_n0p, m1_lt0, m1_lt0p, mi_setIA, mi_setI, ml_setIA, ml_setI, mr_setI, mr_setIA, h]
    rw [show mi ρ 11 i = ρ.1 11 i from rfl, setI_wr_up (v := ρ.1 11) (Nat.zero_le _) rfl]
end PM
