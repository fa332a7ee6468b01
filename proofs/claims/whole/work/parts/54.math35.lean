/-! PRINTING -/
def wdN (z : Nat) : List Nat := (bytJS.getD z []).map (fun x => x.toBitVec.toNat)
theorem wd_ok : ∀ z, z < 20 → ((wdN z).length = lenJS.getD z 0 ∧ (wdN z).length ≤ 7 ∧ ∀ i, i < (wdN z).length → chJS z i = nI ((wdN z).getD i 0) ∧ (wdN z).getD i 0 < 128) := by decide +kernel
theorem by8 : ∀ c, c < 128 → (nI c).toInt8.toInt32.toInt8.toInt32 = nI c := by decide +kernel
theorem ch10 : ∀ v, v < 10 → ((48 + nI v).toUInt32 % 65536).toInt32 = nI (48 + v) := by decide +kernel
theorem ch10b : ∀ v, v < 10 → (48 : Int32) + nI v = nI (48 + v) := by decide +kernel
theorem gD_app1 {L w : List Nat} {i : Nat} (h : i < L.length) : (L ++ w).getD i 0 = L.getD i 0 := by
  simp [List.getD_eq_getElem?_getD, List.getElem?_append_left h]
theorem gD_app2 {L : List Nat} {c : Nat} : (L ++ [c]).getD L.length 0 = c := by
  simp [List.getD_eq_getElem?_getD]
theorem tk_s {w : List Nat} {i : Nat} (h : i < w.length) : w.take (i + 1) = w.take i ++ [w.getD i 0] := by
  rw [List.take_succ]
  simp [List.getD_eq_getElem?_getD, h]
section PX
variable {κ κ1 κ2 : Mem} {G : Gm} {L w : List Nat} {D F p q : Nat}
def DP (D : Nat) (κ : Mem) (L : List Nat) : Prop := (D = 145 ∨ D = 146) ∧ mi κ 144 3 = nI L.length ∧ mr κ 144 2 = D ∧ ∀ i, i < L.length → i < 600 → mi κ D i = nI (L.getD i 0)
def pf (D : Nat) (κ κ1 : Mem) : Prop := agr (fun k => k = 144 ∨ k = D) κ κ1 ∧ mr κ1 144 0 = mr κ 144 0 ∧ mi κ1 144 1 = mi κ 144 1
theorem pf_rfl : pf D κ κ := ⟨agr_rfl, rfl, rfl⟩
theorem pf_trans (h : pf D κ κ1) (h2 : pf D κ1 κ2) : pf D κ κ2 := ⟨agr_trans h.1 h2.1, h2.2.1.trans h.2.1, h2.2.2.trans h.2.2⟩
theorem XG.pf (h : XG κ 1 G) (hD : D = 145 ∨ D = 146) (hp : pf D κ κ1) : XG κ1 1 G := h.agr hp.1 (by omega) (by omega) (by omega) (by omega)
theorem x_addByte {c : Nat} (h : DP D κ L) (hc : c < 128) (hl : L.length < 20000) : ∃ κ1, DP D κ1 (L ++ [c]) ∧ pf D κ κ1 ∧ pX5_addByte κ (nI c) = some κ1 := by
  obtain ⟨hD, h1, h2, h3⟩ := h
  have hB : isPB D = true := by unfold isPB; simpa using hD
  have hlen : (L ++ [c]).length = L.length + 1 := by simp
  unfold pX5_addByte pX5_addByte_21
  rw [h1, h2, hB, by8 c hc]
  by_cases z : L.length < 600
  · refine ⟨setI (setI κ D L.length (nI c)) 144 3 (nI (L.length + 1)), ⟨hD, by rw [mi_setI, if_pos ⟨rfl, rfl⟩, hlen], h2, fun i hi h6 => ?_⟩, ⟨agr_trans (agr_setI (Or.inr rfl)) (agr_setI (Or.inl rfl)), rfl, ?_⟩, ?_⟩
    · rw [mi_setI, if_neg (by omega), mi_setI]
      rw [hlen] at hi
      by_cases e : i = L.length
      · subst e
        rw [if_pos ⟨rfl, rfl⟩, gD_app2]
      · rw [if_neg (fun y => e y.2), h3 i (by omega) h6, gD_app1 (by omega)]
    · rw [mi_setI, if_neg (by omega), mi_setI, if_neg (by omega)]
    · simp (disch := omega) only [n_0, n_1, n_2, n_3, n_4, n_5, n_6, n_7, n_8, n_9, n_10, n_12, n_13, n_14, n_20, n_31, n_32, n_63, n_64, n_600, n_1024, n_4096, n_6157, n_add, n_mul, nm_def, Option.bind_some, Option.some.injEq, ck_in, ck_nz, ck_p, n_cl, n_lt, n_le, n_eq, n_div, n_rem, if_pos, if_neg, if_true, if_false, eq_self, n_192, n_256, n_20000, m1_n0, m1_np, m1_n0p, m1_lt0, m1_lt0p, mi_setIA, mi_setI, ml_setIA, ml_setI, mr_setI, mr_setIA, h1]
  · refine ⟨setI κ 144 3 (nI (L.length + 1)), ⟨hD, by rw [mi_setI, if_pos ⟨rfl, rfl⟩, hlen], h2, fun i hi h6 => ?_⟩, ⟨agr_setI (Or.inl rfl), rfl, ?_⟩, ?_⟩
    · rw [hlen] at hi
      rw [mi_setI, if_neg (by omega), h3 i (by omega) h6, gD_app1 (by omega)]
    · rw [mi_setI, if_neg (by omega)]
    · simp (disch := omega) only [n_0, n_1, n_2, n_3, n_4, n_5, n_6, n_7, n_8, n_9, n_10, n_12, n_13, n_14, n_20, n_31, n_32, n_63, n_64, n_600, n_1024, n_4096, n_6157, n_add, n_mul, nm_def, Option.bind_some, Option.some.injEq, ck_in, ck_nz, ck_p, n_cl, n_lt, n_le, n_eq, n_div, n_rem, if_pos, if_neg, if_true, if_false, eq_self, n_192, n_256, n_20000, m1_n0, m1_np, m1_n0p, m1_lt0, m1_lt0p, mi_setIA, mi_setI, ml_setIA, ml_setI, mr_setI, mr_setIA, h1]
theorem x_addWord {z : Nat} (h : DP D κ L) (hz : z < 20) (hF : 100 < F) (hl : L.length < 19000) : ∃ κ1, DP D κ1 (L ++ wdN z) ∧ pf D κ κ1 ∧ pX5_addWord F z κ = some κ1 := by
  obtain ⟨w1, w2, w3⟩ := wd_ok z hz
  unfold pX5_addWord
  refine lp_inv (fun fu (s : Mem) i => pX5_addWord_2 F z fu s (nI i)) (fun s i => DP D s (L ++ (wdN z).take i) ∧ pf D κ s) (wdN z).length (fun r => ∃ κ1, DP D κ1 (L ++ wdN z) ∧ pf D κ κ1 ∧ r = some κ1) (fun fu s hI => ?_) (fun fu s i hi hI => ?_) F κ 0 (Nat.zero_le _) (by omega) ⟨by simpa using h, pf_rfl⟩
  · obtain ⟨b1, b2⟩ := hI
    rw [List.take_length] at b1
    refine ⟨s, b1, b2, ?_⟩
    show pX5_addWord_2 F z (fu + 1) s (nI (wdN z).length) = _
    rw [pX5_addWord_2]
    unfold pJ0_length_8abf5
    rw [← w1, show Int32.ofNat (wdN z).length = nI (wdN z).length from rfl]
    simp (disch := omega) only [n_0, n_1, n_2, n_3, n_4, n_5, n_6, n_7, n_8, n_9, n_10, n_12, n_13, n_14, n_20, n_31, n_32, n_63, n_64, n_600, n_1024, n_4096, n_6157, n_add, n_mul, nm_def, Option.bind_some, Option.some.injEq, ck_in, ck_nz, ck_p, n_cl, n_lt, n_le, n_eq, n_div, n_rem, if_pos, if_neg, if_true, if_false, eq_self, n_192, n_256, n_20000, m1_n0, m1_np, m1_n0p, m1_lt0, m1_lt0p, mi_setIA, mi_setI, ml_setIA, ml_setI, mr_setI, mr_setIA]
  · obtain ⟨b1, b2⟩ := hI
    obtain ⟨c1, c2⟩ := w3 i hi
    have hll : (L ++ (wdN z).take i).length < 20000 := by
      rw [List.length_append, List.length_take]
      omega
    obtain ⟨s1, d1, d2, d3⟩ := x_addByte b1 c2 hll
    refine ⟨s1, ⟨by rw [tk_s hi, ← List.append_assoc]; exact d1, pf_trans b2 d2⟩, ?_⟩
    show pX5_addWord_2 F z (fu + 1) s (nI i) = pX5_addWord_2 F z fu s1 (nI (i + 1))
    rw [pX5_addWord_2]
    unfold pJ0_length_8abf5 pJ0_charAt_5068e
    rw [← w1, show Int32.ofNat (wdN z).length = nI (wdN z).length from rfl]
    simp (disch := omega) only [n_0, n_1, n_2, n_3, n_4, n_5, n_6, n_7, n_8, n_9, n_10, n_12, n_13, n_14, n_20, n_31, n_32, n_63, n_64, n_600, n_1024, n_4096, n_6157, n_add, n_mul, nm_def, Option.bind_some, Option.some.injEq, ck_in, ck_nz, ck_p, n_cl, n_lt, n_le, n_eq, n_div, n_rem, if_pos, if_neg, if_true, if_false, eq_self, n_192, n_256, n_20000, m1_n0, m1_np, m1_n0p, m1_lt0, m1_lt0p, mi_setIA, mi_setI, ml_setIA, ml_setI, mr_setI, mr_setIA, c1, d3]
theorem x_addNumber {v : Nat} (h : DP D κ L) (hv : v < 10) (hl : L.length < 19000) : ∃ κ1, DP D κ1 (L ++ [32, 48 + v]) ∧ pf D κ κ1 ∧ pX5_addNumber κ (nI v) = some κ1 := by
  obtain ⟨s1, a1, a2, a3⟩ := x_addByte (c := 32) h (by decide) (by omega)
  obtain ⟨s2, b1, b2, b3⟩ := x_addByte (c := 48 + v) a1 (by omega) (by simp; omega)
  refine ⟨s2, by simpa using b1, pf_trans a2 b2, ?_⟩
  unfold pX5_addNumber
  rw [ch10 v hv, show (32 : Int32) = nI 32 from rfl, a3, Option.bind_some, b3]
  rfl
def prH (G : Gm) : Nat → List Nat
  | 0 => []
  | p + 1 => prH G p ++ (wdN 11 ++ ([32, 48 + p] ++ ([32, 48 + Gh G p] ++ [59])))
def prI (G : Gm) (p : Nat) : Nat → List Nat
  | 0 => []
  | q + 1 => prI G p q ++ (if sees G p q then wdN 12 ++ ([32, 48 + p] ++ ([32, 48 + q] ++ [59])) else [])
def prS (G : Gm) : Nat → List Nat
  | 0 => []
  | p + 1 => prS G p ++ prI G p (Gn G)
def prE (G : Gm) (p : Nat) : Nat → List Nat
  | 0 => []
  | s + 1 => prE G p s ++ [32, 48 + Gt G p s]
def prU (G : Gm) : Nat → List Nat
  | 0 => []
  | p + 1 => prU G p ++ (wdN 13 ++ ([32, 48 + p] ++ ([32] ++ (wdN 14 ++ (prE G p (sit G p) ++ [59])))))
def prP (G : Gm) : List Nat := if Gn G = 0 then [] else wdN 10 ++ ([32, 48 + Gn G] ++ [59])
def prG (G : Gm) : List Nat := prP G ++ (prH G (Gn G) ++ (prS G (Gn G) ++ prU G (Gn G)))
theorem wl10 : (wdN 10).length = 7 := by decide +kernel
theorem wl11 : (wdN 11).length = 4 := by decide +kernel
theorem wl12 : (wdN 12).length = 4 := by decide +kernel
theorem wl13 : (wdN 13).length = 5 := by decide +kernel
theorem wl14 : (wdN 14).length = 5 := by decide +kernel
theorem prH_len : ∀ p, (prH G p).length = 9 * p
  | 0 => rfl
  | p + 1 => by rw [prH]; simp [prH_len p, wl11]; omega
theorem prI_len (p : Nat) : ∀ q, (prI G p q).length ≤ 9 * q
  | 0 => Nat.le_refl _
  | q + 1 => by
    have := prI_len p q
    rw [prI, List.length_append]
    split
    · simp [wl12]; omega
    · simp; omega
theorem prS_len (hw : WF G) : ∀ p, (prS G p).length ≤ 54 * p
  | 0 => Nat.le_refl _
  | p + 1 => by
    have h1 := prS_len hw p
    have h2 := prI_len (G := G) p (Gn G)
    have hn := hw.n6
    rw [prS, List.length_append]
    omega
theorem prE_len (p : Nat) : ∀ s, (prE G p s).length = 2 * s
  | 0 => rfl
  | s + 1 => by rw [prE]; simp [prE_len p s]; omega
theorem prU_len (hw : WF G) : ∀ p, p ≤ Gn G → (prU G p).length ≤ 2064 * p
  | 0, _ => Nat.le_refl _
  | p + 1, h => by
    have h1 := prU_len hw p (by omega)
    have h2 := sit_le hw (show p < Gn G by omega)
    rw [prU]
    simp [wl13, wl14, prE_len]
    omega
theorem prP_len : (prP G).length ≤ 10 := by
  unfold prP
  split
  · exact Nat.zero_le _
  · simp [wl10]
theorem x_addHats (h : DP D κ L) (hG : XG κ 1 G) (hw : WF G) (hF : 100 < F) (hl : L.length < 10000) : ∃ κ1, DP D κ1 (L ++ prH G (Gn G)) ∧ pf D κ κ1 ∧ pX5_addHats F 1 κ = some κ1 := by
  have hn := hw.n6
  have hD := h.1
  unfold pX5_addHats
  refine lp_inv (fun fu (s : Mem) i => pX5_addHats_2 F 1 fu s (nI i)) (fun s i => DP D s (L ++ prH G i) ∧ pf D κ s) (Gn G) (fun r => ∃ κ1, DP D κ1 (L ++ prH G (Gn G)) ∧ pf D κ κ1 ∧ r = some κ1) (fun fu s hI => ?_) (fun fu s i hi hI => ?_) F κ 0 (Nat.zero_le _) (by omega) ⟨by simpa [prH] using h, pf_rfl⟩
  · obtain ⟨b1, b2⟩ := hI
    refine ⟨s, b1, b2, ?_⟩
    show pX5_addHats_2 F 1 (fu + 1) s (nI (Gn G)) = _
    rw [pX5_addHats_2, (hG.pf hD b2).n]
    simp (disch := omega) only [n_0, n_1, n_2, n_3, n_4, n_5, n_6, n_7, n_8, n_9, n_10, n_12, n_13, n_14, n_20, n_31, n_32, n_63, n_64, n_600, n_1024, n_4096, n_6157, n_add, n_mul, nm_def, Option.bind_some, Option.some.injEq, ck_in, ck_nz, ck_p, n_cl, n_lt, n_le, n_eq, n_div, n_rem, if_pos, if_neg, if_true, if_false, eq_self, n_192, n_256, n_20000, m1_n0, m1_np, m1_n0p, m1_lt0, m1_lt0p, mi_setIA, mi_setI, ml_setIA, ml_setI, mr_setI, mr_setIA]
  · obtain ⟨b1, b2⟩ := hI
    have h4 := hw.h4 hi
    have hi6 := hw_lt hw hi
    have l0 : (L ++ prH G i).length < 12000 := by rw [List.length_append, prH_len]; omega
    obtain ⟨s1, c1, c2, c3⟩ := x_addWord (F := F) (z := 11) b1 (by decide) hF (by omega)
    obtain ⟨s2, d1, d2, d3⟩ := x_addNumber (v := i) c1 (by omega) (by rw [List.length_append, wl11]; omega)
    obtain ⟨s3, e1, e2, e3⟩ := x_addNumber (v := Gh G i) d1 (by omega) (by simp only [List.length_append, wl11, List.length_cons, List.length_nil] at l0 ⊢; omega)
    obtain ⟨s4, f1, f2, f3⟩ := x_addByte (c := 59) e1 (by decide) (by simp only [List.length_append, wl11, List.length_cons, List.length_nil] at l0 ⊢; omega)
    have hX2 := hG.pf hD (pf_trans b2 (pf_trans c2 d2))
    refine ⟨s4, ⟨by rw [prH]; simpa only [List.append_assoc] using f1, pf_trans b2 (pf_trans c2 (pf_trans d2 (pf_trans e2 f2)))⟩, ?_⟩
    show pX5_addHats_2 F 1 (fu + 1) s (nI i) = pX5_addHats_2 F 1 fu s4 (nI (i + 1))
    have e59 : (59 : Int32) = nI 59 := rfl
    rw [pX5_addHats_2, (hG.pf hD b2).n, c3]
    simp (disch := omega) only [n_0, n_1, n_2, n_3, n_4, n_5, n_6, n_7, n_8, n_9, n_10, n_12, n_13, n_14, n_20, n_31, n_32, n_63, n_64, n_600, n_1024, n_4096, n_6157, n_add, n_mul, nm_def, Option.bind_some, Option.some.injEq, ck_in, ck_nz, ck_p, n_cl, n_lt, n_le, n_eq, n_div, n_rem, if_pos, if_neg, if_true, if_false, eq_self, n_192, n_256, n_20000, m1_n0, m1_np, m1_n0p, m1_lt0, m1_lt0p, mi_setIA, mi_setI, ml_setIA, ml_setI, mr_setI, mr_setIA, d3, hX2.h hi, e3, e59, f3]
theorem x_addSights (h : DP D κ L) (hG : XG κ 1 G) (hw : WF G) (hF : 100 < F) (hl : L.length < 10000) : ∃ κ1, DP D κ1 (L ++ prS G (Gn G)) ∧ pf D κ κ1 ∧ pX5_addSights F 1 κ = some κ1 := by
  have hn := hw.n6
  have hD := h.1
  have hin : ∀ (k2 : Mem → Int32 → Option Mem) (p : Nat) (κ : Mem) (L : List Nat), DP D κ L → XG κ 1 G → p < Gn G → L.length < 12000 → ∃ κ1, DP D κ1 (L ++ prI G p (Gn G)) ∧ pf D κ κ1 ∧ pX5_addSights_12 F 1 k2 (nI p) F κ 0 = k2 κ1 (nI (p + 1)) := fun k2 p κ L h hG hp hl => by
    have hp6 := hw_lt hw hp
    refine lp_inv (fun fu (s : Mem) i => pX5_addSights_12 F 1 k2 (nI p) fu s (nI i)) (fun s i => DP D s (L ++ prI G p i) ∧ pf D κ s) (Gn G) (fun r => ∃ κ1, DP D κ1 (L ++ prI G p (Gn G)) ∧ pf D κ κ1 ∧ r = k2 κ1 (nI (p + 1))) (fun fu s hI => ?_) (fun fu s i hi hI => ?_) F κ 0 (Nat.zero_le _) (by omega) ⟨by simpa [prI] using h, pf_rfl⟩
    · obtain ⟨b1, b2⟩ := hI
      refine ⟨s, b1, b2, ?_⟩
      show pX5_addSights_12 F 1 k2 (nI p) (fu + 1) s (nI (Gn G)) = _
      rw [pX5_addSights_12, (hG.pf hD b2).n]
      simp (disch := omega) only [n_0, n_1, n_2, n_3, n_4, n_5, n_6, n_7, n_8, n_9, n_10, n_12, n_13, n_14, n_20, n_31, n_32, n_63, n_64, n_600, n_1024, n_4096, n_6157, n_add, n_mul, nm_def, Option.bind_some, Option.some.injEq, ck_in, ck_nz, ck_p, n_cl, n_lt, n_le, n_eq, n_div, n_rem, if_pos, if_neg, if_true, if_false, eq_self, n_192, n_256, n_20000, m1_n0, m1_np, m1_n0p, m1_lt0, m1_lt0p, mi_setIA, mi_setI, ml_setIA, ml_setI, mr_setI, mr_setIA]
    · obtain ⟨b1, b2⟩ := hI
      have hi6 := hw_lt hw hi
      have hXs := hG.pf hD b2
      cases hs : sees G p i
      · refine ⟨s, ⟨by rw [prI, hs]; simpa using b1, b2⟩, ?_⟩
        show pX5_addSights_12 F 1 k2 (nI p) (fu + 1) s (nI i) = pX5_addSights_12 F 1 k2 (nI p) fu s (nI (i + 1))
        rw [pX5_addSights_12, hXs.n, sX2_watches hXs hw hp (by omega), hs]
        unfold pX5_addSights_51
        simp (disch := omega) only [n_0, n_1, n_2, n_3, n_4, n_5, n_6, n_7, n_8, n_9, n_10, n_12, n_13, n_14, n_20, n_31, n_32, n_63, n_64, n_600, n_1024, n_4096, n_6157, n_add, n_mul, nm_def, Option.bind_some, Option.some.injEq, ck_in, ck_nz, ck_p, n_cl, n_lt, n_le, n_eq, n_div, n_rem, if_pos, if_neg, if_true, if_false, eq_self, n_192, n_256, n_20000, m1_n0, m1_np, m1_n0p, m1_lt0, m1_lt0p, mi_setIA, mi_setI, ml_setIA, ml_setI, mr_setI, mr_setIA, Bool.toNat_false]
      · have l0 : (L ++ prI G p i).length < 13000 := by
          have := prI_len (G := G) p i
          rw [List.length_append]; omega
        obtain ⟨s1, c1, c2, c3⟩ := x_addWord (F := F) (z := 12) b1 (by decide) hF (by omega)
        obtain ⟨s2, d1, d2, d3⟩ := x_addNumber (v := p) c1 (by omega) (by rw [List.length_append, wl12]; omega)
        obtain ⟨s3, e1, e2, e3⟩ := x_addNumber (v := i) d1 (by omega) (by simp only [List.length_append, wl12, List.length_cons, List.length_nil] at l0 ⊢; omega)
        obtain ⟨s4, f1, f2, f3⟩ := x_addByte (c := 59) e1 (by decide) (by simp only [List.length_append, wl12, List.length_cons, List.length_nil] at l0 ⊢; omega)
        refine ⟨s4, ⟨by rw [prI, hs, if_pos rfl]; simpa only [List.append_assoc] using f1, pf_trans b2 (pf_trans c2 (pf_trans d2 (pf_trans e2 f2)))⟩, ?_⟩
        show pX5_addSights_12 F 1 k2 (nI p) (fu + 1) s (nI i) = pX5_addSights_12 F 1 k2 (nI p) fu s4 (nI (i + 1))
        have e59 : (59 : Int32) = nI 59 := rfl
        rw [pX5_addSights_12, hXs.n, sX2_watches hXs hw hp (by omega), hs]
        unfold pX5_addSights_51
        simp (disch := omega) only [n_0, n_1, n_2, n_3, n_4, n_5, n_6, n_7, n_8, n_9, n_10, n_12, n_13, n_14, n_20, n_31, n_32, n_63, n_64, n_600, n_1024, n_4096, n_6157, n_add, n_mul, nm_def, Option.bind_some, Option.some.injEq, ck_in, ck_nz, ck_p, n_cl, n_lt, n_le, n_eq, n_div, n_rem, if_pos, if_neg, if_true, if_false, eq_self, n_192, n_256, n_20000, m1_n0, m1_np, m1_n0p, m1_lt0, m1_lt0p, mi_setIA, mi_setI, ml_setIA, ml_setI, mr_setI, mr_setIA, Bool.toNat_true, c3, d3, e3, e59, f3]
  unfold pX5_addSights
  refine lp_inv (fun fu (s : Mem) i => pX5_addSights_2 F 1 fu s (nI i)) (fun s i => DP D s (L ++ prS G i) ∧ pf D κ s) (Gn G) (fun r => ∃ κ1, DP D κ1 (L ++ prS G (Gn G)) ∧ pf D κ κ1 ∧ r = some κ1) (fun fu s hI => ?_) (fun fu s i hi hI => ?_) F κ 0 (Nat.zero_le _) (by omega) ⟨by simpa [prS] using h, pf_rfl⟩
  · obtain ⟨b1, b2⟩ := hI
    refine ⟨s, b1, b2, ?_⟩
    show pX5_addSights_2 F 1 (fu + 1) s (nI (Gn G)) = _
    rw [pX5_addSights_2, (hG.pf hD b2).n]
    simp (disch := omega) only [n_0, n_1, n_2, n_3, n_4, n_5, n_6, n_7, n_8, n_9, n_10, n_12, n_13, n_14, n_20, n_31, n_32, n_63, n_64, n_600, n_1024, n_4096, n_6157, n_add, n_mul, nm_def, Option.bind_some, Option.some.injEq, ck_in, ck_nz, ck_p, n_cl, n_lt, n_le, n_eq, n_div, n_rem, if_pos, if_neg, if_true, if_false, eq_self, n_192, n_256, n_20000, m1_n0, m1_np, m1_n0p, m1_lt0, m1_lt0p, mi_setIA, mi_setI, ml_setIA, ml_setI, mr_setI, mr_setIA]
  · obtain ⟨b1, b2⟩ := hI
    have hXs := hG.pf hD b2
    have l0 : (L ++ prS G i).length < 12000 := by
      have := prS_len (G := G) hw i
      rw [List.length_append]; omega
    obtain ⟨s1, c1, c2, c3⟩ := hin (pX5_addSights_2 F 1 fu) i s _ b1 hXs hi l0
    refine ⟨s1, ⟨by rw [prS, ← List.append_assoc]; exact c1, pf_trans b2 c2⟩, ?_⟩
    show pX5_addSights_2 F 1 (fu + 1) s (nI i) = pX5_addSights_2 F 1 fu s1 (nI (i + 1))
    rw [pX5_addSights_2, hXs.n]
    simp (disch := omega) only [n_0, n_1, n_2, n_3, n_4, n_5, n_6, n_7, n_8, n_9, n_10, n_12, n_13, n_14, n_20, n_31, n_32, n_63, n_64, n_600, n_1024, n_4096, n_6157, n_add, n_mul, nm_def, Option.bind_some, Option.some.injEq, ck_in, ck_nz, ck_p, n_cl, n_lt, n_le, n_eq, n_div, n_rem, if_pos, if_neg, if_true, if_false, eq_self, n_192, n_256, n_20000, m1_n0, m1_np, m1_n0p, m1_lt0, m1_lt0p, mi_setIA, mi_setI, ml_setIA, ml_setI, mr_setI, mr_setIA]
    exact c3
theorem x_addTables (h : DP D κ L) (hG : XG κ 1 G) (hw : WF G) (hF : 5000 < F) (hl : L.length < 1000) : ∃ κ1, DP D κ1 (L ++ prU G (Gn G)) ∧ pf D κ κ1 ∧ pX5_addTables F 1 κ = some κ1 := by
  have hn := hw.n6
  have hD := h.1
  have e59 : (59 : Int32) = nI 59 := rfl
  have hin : ∀ (k2 : Mem → Int32 → Option Mem) (p : Nat) (κ : Mem) (L : List Nat), DP D κ L → XG κ 1 G → p < Gn G → L.length < 16000 → ∃ κ1, DP D κ1 (L ++ (prE G p (sit G p) ++ [59])) ∧ pf D κ κ1 ∧ pX5_addTables_42 F 1 k2 (nI p) (nI (sit G p)) F κ 0 = k2 κ1 (nI (p + 1)) := fun k2 p κ L h hG hp hl => by
    have hp6 := hw_lt hw hp
    have hsl := sit_le hw hp
    refine lp_inv (fun fu (s : Mem) i => pX5_addTables_42 F 1 k2 (nI p) (nI (sit G p)) fu s (nI i)) (fun s i => DP D s (L ++ prE G p i) ∧ pf D κ s) (sit G p) (fun r => ∃ κ1, DP D κ1 (L ++ (prE G p (sit G p) ++ [59])) ∧ pf D κ κ1 ∧ r = k2 κ1 (nI (p + 1))) (fun fu s hI => ?_) (fun fu s i hi hI => ?_) F κ 0 (Nat.zero_le _) (by omega) ⟨by simpa [prE] using h, pf_rfl⟩
    · obtain ⟨b1, b2⟩ := hI
      obtain ⟨s1, c1, c2, c3⟩ := x_addByte (c := 59) b1 (by decide) (by rw [List.length_append, prE_len]; omega)
      refine ⟨s1, by rw [← List.append_assoc]; exact c1, pf_trans b2 c2, ?_⟩
      show pX5_addTables_42 F 1 k2 (nI p) (nI (sit G p)) (fu + 1) s (nI (sit G p)) = _
      rw [pX5_addTables_42]
      simp (disch := omega) only [n_0, n_1, n_2, n_3, n_4, n_5, n_6, n_7, n_8, n_9, n_10, n_12, n_13, n_14, n_20, n_31, n_32, n_63, n_64, n_600, n_1024, n_4096, n_6157, n_add, n_mul, nm_def, Option.bind_some, Option.some.injEq, ck_in, ck_nz, ck_p, n_cl, n_lt, n_le, n_eq, n_div, n_rem, if_pos, if_neg, if_true, if_false, eq_self, n_192, n_256, n_20000, m1_n0, m1_np, m1_n0p, m1_lt0, m1_lt0p, mi_setIA, mi_setI, ml_setIA, ml_setI, mr_setI, mr_setIA, e59, c3]
    · obtain ⟨b1, b2⟩ := hI
      have hXs := hG.pf hD b2
      have ht := hw.t hp hi
      have h4 := hw.h4 hp
      obtain ⟨s1, c1, c2, c3⟩ := x_addNumber (v := Gt G p i) b1 (by omega) (by rw [List.length_append, prE_len]; omega)
      refine ⟨s1, ⟨by rw [prE, ← List.append_assoc]; exact c1, pf_trans b2 c2⟩, ?_⟩
      show pX5_addTables_42 F 1 k2 (nI p) (nI (sit G p)) (fu + 1) s (nI i) = pX5_addTables_42 F 1 k2 (nI p) (nI (sit G p)) fu s1 (nI (i + 1))
      rw [pX5_addTables_42]
      simp (disch := omega) only [n_0, n_1, n_2, n_3, n_4, n_5, n_6, n_7, n_8, n_9, n_10, n_12, n_13, n_14, n_20, n_31, n_32, n_63, n_64, n_600, n_1024, n_4096, n_6157, n_add, n_mul, nm_def, Option.bind_some, Option.some.injEq, ck_in, ck_nz, ck_p, n_cl, n_lt, n_le, n_eq, n_div, n_rem, if_pos, if_neg, if_true, if_false, eq_self, n_192, n_256, n_20000, m1_n0, m1_np, m1_n0p, m1_lt0, m1_lt0p, mi_setIA, mi_setI, ml_setIA, ml_setI, mr_setI, mr_setIA, sX2_told s 1 hp6, hXs.t hp hi, c3]
  unfold pX5_addTables
  refine lp_inv (fun fu (s : Mem) i => pX5_addTables_2 F 1 fu s (nI i)) (fun s i => DP D s (L ++ prU G i) ∧ pf D κ s) (Gn G) (fun r => ∃ κ1, DP D κ1 (L ++ prU G (Gn G)) ∧ pf D κ κ1 ∧ r = some κ1) (fun fu s hI => ?_) (fun fu s i hi hI => ?_) F κ 0 (Nat.zero_le _) (by omega) ⟨by simpa [prU] using h, pf_rfl⟩
  · obtain ⟨b1, b2⟩ := hI
    refine ⟨s, b1, b2, ?_⟩
    show pX5_addTables_2 F 1 (fu + 1) s (nI (Gn G)) = _
    rw [pX5_addTables_2, (hG.pf hD b2).n]
    simp (disch := omega) only [n_0, n_1, n_2, n_3, n_4, n_5, n_6, n_7, n_8, n_9, n_10, n_12, n_13, n_14, n_20, n_31, n_32, n_63, n_64, n_600, n_1024, n_4096, n_6157, n_add, n_mul, nm_def, Option.bind_some, Option.some.injEq, ck_in, ck_nz, ck_p, n_cl, n_lt, n_le, n_eq, n_div, n_rem, if_pos, if_neg, if_true, if_false, eq_self, n_192, n_256, n_20000, m1_n0, m1_np, m1_n0p, m1_lt0, m1_lt0p, mi_setIA, mi_setI, ml_setIA, ml_setI, mr_setI, mr_setIA]
  · obtain ⟨b1, b2⟩ := hI
    have hXs := hG.pf hD b2
    have l0 : (L ++ prU G i).length < 13900 := by
      have := prU_len (G := G) hw i (by omega)
      rw [List.length_append]; omega
    obtain ⟨s1, c1, c2, c3⟩ := x_addWord (F := F) (z := 13) b1 (by decide) (by omega) (by omega)
    obtain ⟨s2, d1, d2, d3⟩ := x_addNumber (v := i) c1 (by omega) (by rw [List.length_append, wl13]; omega)
    obtain ⟨s3, e1, e2, e3⟩ := x_addByte (c := 32) d1 (by decide) (by simp only [List.length_append, wl13, List.length_cons, List.length_nil] at l0 ⊢; omega)
    obtain ⟨s4, f1, f2, f3⟩ := x_addWord (F := F) (z := 14) e1 (by decide) (by omega) (by simp only [List.length_append, wl13, List.length_cons, List.length_nil] at l0 ⊢; omega)
    have hX4 := hXs.pf hD (pf_trans c2 (pf_trans d2 (pf_trans e2 f2)))
    obtain ⟨s5, g1, g2, g3⟩ := hin (pX5_addTables_2 F 1 fu) i s4 _ f1 hX4 hi (by simp only [List.length_append, wl13, wl14, List.length_cons, List.length_nil] at l0 ⊢; omega)
    refine ⟨s5, ⟨by rw [prU]; simpa only [List.append_assoc] using g1, pf_trans b2 (pf_trans c2 (pf_trans d2 (pf_trans e2 (pf_trans f2 g2))))⟩, ?_⟩
    show pX5_addTables_2 F 1 (fu + 1) s (nI i) = pX5_addTables_2 F 1 fu s5 (nI (i + 1))
    rw [pX5_addTables_2, hXs.n]
    simp (disch := omega) only [n_0, n_1, n_2, n_3, n_4, n_5, n_6, n_7, n_8, n_9, n_10, n_12, n_13, n_14, n_20, n_31, n_32, n_63, n_64, n_600, n_1024, n_4096, n_6157, n_add, n_mul, nm_def, Option.bind_some, Option.some.injEq, ck_in, ck_nz, ck_p, n_cl, n_lt, n_le, n_eq, n_div, n_rem, if_pos, if_neg, if_true, if_false, eq_self, n_192, n_256, n_20000, m1_n0, m1_np, m1_n0p, m1_lt0, m1_lt0p, mi_setIA, mi_setI, ml_setIA, ml_setI, mr_setI, mr_setIA, c3, d3, e3, f3, sX2_situations hX4 hw (show 10 < F by omega) hi]
    exact g3
end PX
