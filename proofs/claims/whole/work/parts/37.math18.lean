/-! THE REFERENCE: two guesses, sights taken away, who is needed, what is known, the nearest one -/
section R5
variable {ρ : Mem} {G : Gm} {F p q x c : Nat}
theorem RG5 {s : Mem} (h : RG ρ 1 G) (ha : agr (fun k => k = 5) ρ s) : RG s 1 G := h.agr ha (by omega)
theorem RR5 {s : Mem} (h : RR ρ G) (ha : agr (fun k => k = 5) ρ s) : RR s G := fun x hx => (agr_mi ha (by omega) x).trans (h x hx)
theorem agr5_lays (ρ : Mem) (f : Nat → Int32) : agr (fun k => k = 5) ρ (setIA ρ 5 f) := agr_setIA rfl
theorem lays_at (ρ : Mem) (hq : q < Gn G) (x : Nat) : mi (setIA ρ 5 (wr (ρ.1 5) 0 (Gn G) (fun p => nI (col G p x)))) 5 q = nI (col G q x) := by
  rw [mi_setIA, if_pos rfl, wr_in (Nat.zero_le _) hq]
theorem rX_laysE (h : RG ρ 1 G) (hw : WF G) (hF : 100 < F) (hx : x < 2147483648) : ∃ s1, agr (fun k => k = 5) ρ s1 ∧ LC5 s1 G (fun q => col G q x) ∧ pX11_lays F ρ (nI x) = some s1 := ⟨_, agr5_lays ρ _, fun q hq => lays_at ρ hq x, rX_lays h hw hF hx⟩
/-- lost, also if each may guess twice -/
def tw1 (G : Gm) (x : Nat) : Bool := !exb (fun p => isR G p x || secR G x p) (Gn G)
theorem rX_twice28 {s : Mem} {k10 : Mem → Int32 → Int32 → Option (Int32 × Mem)} {v1 v2 : Int32} (hR : RG s 1 G) (hw : WF G) (hF : 5000 < F) (hL : ∀ q, q < Gn G → mi s 5 q = nI (col G q x)) : pX11_twice_28 F k10 s v1 v2 F 1 0 = k10 s (v1 + nI (tw1 G x).toNat) (v2 + 1) := by
  have hn := hw.n6
  refine lp_upE F (fun fu i => pX11_twice_28 F k10 s v1 v2 fu (nI (!exb (fun p => isR G p x || secR G x p) i).toNat) (nI i)) (0) (Gn G) _ _ rfl (fun fu => ?_) (fun fu i hi1 hi2 => ?_) (by omega) (by omega)
  · show pX11_twice_28 F k10 s v1 v2 (fu + 1) (nI (!exb (fun p => isR G p x || secR G x p) (Gn G)).toNat) (nI (Gn G)) = _
    rw [pX11_twice_28, rX_players hR]
    unfold pX11_twice_110 tw1
    simp (disch := omega) only [n_0, n_1, n_2, n_3, n_4, n_5, n_6, n_7, n_8, n_9, n_10, n_12, n_13, n_14, n_20, n_31, n_32, n_63, n_64, n_600, n_1024, n_4096, n_6157, n_add, n_mul, nm_def, Option.bind_some, Option.some.injEq, ck_in, ck_nz, ck_p, n_cl, n_lt, n_le, n_eq, n_div, n_rem, if_pos, if_neg, if_true, if_false, eq_self, n_192, n_256, n_20000, m1_n0, m1_np, m1_n0p, m1_lt0, m1_lt0p, mi_setIA, mi_setI, ml_setIA, ml_setI, mr_setI, mr_setIA]
    cases exb (fun p => isR G p x || secR G x p) (Gn G)
    · simp [n_eq]
    · simp
  · show pX11_twice_28 F k10 s v1 v2 (fu + 1) (nI (!exb (fun p => isR G p x || secR G x p) i).toNat) (nI i) = pX11_twice_28 F k10 s v1 v2 fu (nI (!exb (fun p => isR G p x || secR G x p) (i + 1)).toNat) (nI (i + 1))
    have hs := sOf_lt (p := i) (x := x) hw
    have ht := hw.t hi2 hs
    have h1 := hw.h1 hi2
    have h4 := hw.h4 hi2
    have hc := col_lt (x := x) hw hi2
    have hm := Nat.mod_lt (Gt G i (sOf G i x) + 1) h1
    have e1 := rX_situationOf (F := F) (p := i) (d := fun q => col G q x) hR hw (by omega) hi2 hL
    rw [sO_col] at e1
    have e2 := hL i hi2
    rw [pX11_twice_28, rX_players hR, e1]
    unfold pX11_twice_92 pX11_twice_93
    simp (disch := omega) only [n_0, n_1, n_2, n_3, n_4, n_5, n_6, n_7, n_8, n_9, n_10, n_12, n_13, n_14, n_20, n_31, n_32, n_63, n_64, n_600, n_1024, n_4096, n_6157, n_add, n_mul, nm_def, Option.bind_some, Option.some.injEq, ck_in, ck_nz, ck_p, n_cl, n_lt, n_le, n_eq, n_div, n_rem, if_pos, if_neg, if_true, if_false, eq_self, n_192, n_256, n_20000, m1_n0, m1_np, m1_n0p, m1_lt0, m1_lt0p, mi_setIA, mi_setI, ml_setIA, ml_setI, mr_setI, mr_setIA, rX_entry hR hw hi2 hs, rX_hats hR hw hi2, e2, exb]
    have e3 : isR G i x = decide (Gt G i (sOf G i x) = col G i x) := rfl
    have e4 : secR G x i = decide ((Gt G i (sOf G i x) + 1) % Gh G i = col G i x) := rfl
    rw [e3, e4]
    cases exb (fun p => isR G p x || secR G x p) i
    · by_cases z : Gt G i (sOf G i x) = col G i x
      · simp [z, n_eq]
      · by_cases z2 : (Gt G i (sOf G i x) + 1) % Gh G i = col G i x
        · simp [z, z2, n_eq]
        · simp [z, z2, n_eq]
    · simp
theorem rB_twice (h : RG ρ 1 G) (hw : WF G) (hF : 5000 < F) : ∃ ρ1, agr (fun k => k = 5) ρ ρ1 ∧ pX11_twice_10 F F ρ 0 0 = some (nI (cnt (tw1 G) (ncol G)), ρ1) := by
  have hc := ncol_le hw
  refine lp_memK (fun fu s i => pX11_twice_10 F fu s (nI (cnt (tw1 G) i)) (nI i)) (ncol G) (fun s => some (nI (cnt (tw1 G) (ncol G)), s)) (fun fu s hI => ?_) (fun fu s i hi hI => ?_) (by omega)
  · show pX11_twice_10 F (fu + 1) s _ (nI (ncol G)) = _
    rw [pX11_twice_10, rX_colourings (RG5 h hI) hw (by omega)]
    simp (disch := omega) only [n_0, n_1, n_2, n_3, n_4, n_5, n_6, n_7, n_8, n_9, n_10, n_12, n_13, n_14, n_20, n_31, n_32, n_63, n_64, n_600, n_1024, n_4096, n_6157, n_add, n_mul, nm_def, Option.bind_some, Option.some.injEq, ck_in, ck_nz, ck_p, n_cl, n_lt, n_le, n_eq, n_div, n_rem, if_pos, if_neg, if_true, if_false, eq_self, n_192, n_256, n_20000, m1_n0, m1_np, m1_n0p, m1_lt0, m1_lt0p, mi_setIA, mi_setI, ml_setIA, ml_setI, mr_setI, mr_setIA]
  · have hR := RG5 h hI
    refine ⟨_, agr_trans hI (agr5_lays s (wr (s.1 5) 0 (Gn G) (fun p => nI (col G p i)))), ?_⟩
    show pX11_twice_10 F (fu + 1) s (nI (cnt (tw1 G) i)) (nI i) = pX11_twice_10 F fu _ (nI (cnt (tw1 G) (i + 1))) (nI (i + 1))
    rw [pX11_twice_10, rX_colourings hR hw (by omega), rX_lays hR hw (by omega) (by omega)]
    simp (disch := omega) only [n_0, n_1, n_2, n_3, n_4, n_5, n_6, n_7, n_8, n_9, n_10, n_12, n_13, n_14, n_20, n_31, n_32, n_63, n_64, n_600, n_1024, n_4096, n_6157, n_add, n_mul, nm_def, Option.bind_some, Option.some.injEq, ck_in, ck_nz, ck_p, n_cl, n_lt, n_le, n_eq, n_div, n_rem, if_pos, if_neg, if_true, if_false, eq_self, n_192, n_256, n_20000, m1_n0, m1_np, m1_n0p, m1_lt0, m1_lt0p, mi_setIA, mi_setI, ml_setIA, ml_setI, mr_setI, mr_setIA]
    rw [show nI 1 = 1 from rfl, show nI 0 = 0 from rfl, rX_twice28 (x := i) (hR.set (by decide)) hw hF (fun q hq => lays_at s hq i), n_add, cnt_s, n_1, n_add]
theorem tw1_eq (hw : WF G) (x : Nat) : tw1 G x = (decide (rgt G x = 0) && !exb (secR G x) (Gn G)) := by
  have e1 : (rgt G x = 0) ↔ ∀ i, i < Gn G → isR G i x = false := by
    rw [zero64 (rgt_lt hw)]
    constructor
    · intro h i hi
      have := h i (hw_lt hw hi)
      rw [rgt_bit hw] at this
      simpa [hi] using this
    · intro h i _
      rw [rgt_bit hw]
      by_cases z : i < Gn G
      · simp [h i z]
      · simp [z]
  unfold tw1
  cases c : exb (fun p => isR G p x || secR G x p) (Gn G)
  · have hn : ∀ i, i < Gn G → isR G i x = false ∧ secR G x i = false := fun i hi => by
      cases a : isR G i x
      · cases b : secR G x i
        · exact ⟨rfl, rfl⟩
        · have := (exb_iff (fun p => isR G p x || secR G x p) (Gn G)).mpr ⟨i, hi, by simp [b]⟩
          rw [this] at c; cases c
      · have := (exb_iff (fun p => isR G p x || secR G x p) (Gn G)).mpr ⟨i, hi, by simp [a]⟩
        rw [this] at c; cases c
    have e2 : rgt G x = 0 := e1.mpr (fun i hi => (hn i hi).1)
    have e3 : exb (secR G x) (Gn G) = false := by
      cases d : exb (secR G x) (Gn G)
      · rfl
      · obtain ⟨i, i1, i2⟩ := (exb_iff _ _).mp d
        rw [(hn i i1).2] at i2; cases i2
    simp [e2, e3]
  · obtain ⟨i, i1, i2⟩ := (exb_iff _ _).mp c
    have i3 : isR G i x = true ∨ secR G x i = true := by simpa using i2
    rcases i3 with a | b
    · have e2 : ¬ rgt G x = 0 := fun z => by rw [e1.mp z i i1] at a; cases a
      simp [e2]
    · have e3 : exb (secR G x) (Gn G) = true := (exb_iff _ _).mpr ⟨i, i1, b⟩
      simp [e3]
theorem rX_lostBlinded (h : RG ρ 1 G) (hw : WF G) (hF : 5000 < F) (hp : p < Gn G) (hs : sees G p q = true) : ∃ ρ1, agr (fun k => k = 5) ρ ρ1 ∧ pX11_lostBlinded F ρ (nI p) (nI q) = some (nI (cnt (lstU G p q) (ncol G)), ρ1) := by
  have hc := ncol_le hw
  have hp6 := hw_lt hw hp
  have hq := hw.see_lt hp hs
  have hq6 := hw_lt hw hq
  have hpq := hw.see_ne hp hs
  unfold pX11_lostBlinded
  refine lp_memK (fun fu s i => pX11_lostBlinded_5 F (nI p) (nI q) fu s (nI (cnt (lstU G p q) i)) (nI i)) (ncol G) (fun s => some (nI (cnt (lstU G p q) (ncol G)), s)) (fun fu s hI => ?_) (fun fu s i hi hI => ?_) (by omega)
  · show pX11_lostBlinded_5 F (nI p) (nI q) (fu + 1) s _ (nI (ncol G)) = _
    rw [pX11_lostBlinded_5, rX_colourings (RG5 h hI) hw (by omega)]
    simp (disch := omega) only [n_0, n_1, n_2, n_3, n_4, n_5, n_6, n_7, n_8, n_9, n_10, n_12, n_13, n_14, n_20, n_31, n_32, n_63, n_64, n_600, n_1024, n_4096, n_6157, n_add, n_mul, nm_def, Option.bind_some, Option.some.injEq, ck_in, ck_nz, ck_p, n_cl, n_lt, n_le, n_eq, n_div, n_rem, if_pos, if_neg, if_true, if_false, eq_self, n_192, n_256, n_20000, m1_n0, m1_np, m1_n0p, m1_lt0, m1_lt0p, mi_setIA, mi_setI, ml_setIA, ml_setI, mr_setI, mr_setIA]
  · have hR := RG5 h hI
    obtain ⟨s1, a1, a2, a3⟩ := rX_laysE (x := i) hR hw (show 100 < F by omega) (by omega)
    have hI1 := agr_trans hI a1
    have hR1 := RG5 h hI1
    have hI2 : agr (fun k => k = 5) ρ (setI s1 5 q (nI 0)) := agr_trans hI1 (agr_setI rfl)
    have hR2 := RG5 h hI2
    have e1 := rX_rightNow (F := F) hR1 hw (by omega) a2 (fun q hq => col_lt hw hq)
    rw [rgC_col] at e1
    have e2 := rX_situationOf (F := F) (p := p) (d := fun r => if r = q then 0 else col G r i) hR2 hw (by omega) hp (fun r hr => by
      show _ = nI (if r = q then 0 else col G r i)
      rw [mi_setI]
      by_cases z : r = q
      · rw [if_pos ⟨rfl, z⟩, if_pos z]
      · rw [if_neg (fun y => z y.2), if_neg z]
        exact a2 r hr)
    have e3 : sO G p (fun r => if r = q then 0 else col G r i) = shn G p q i := by
      rw [sO_sOf (x := i) hw hp hs (e := fun r => if r = q then 0 else col G r i) (fun r _ hr => if_neg hr)]
      unfold chg shn
      rw [cIn_sOf hw hp hs, wgt_t hs, if_pos rfl, Nat.zero_mul, Nat.add_zero]
    rw [e3] at e2
    have h2 := rgt_lt (x := i) hw
    have h3 := clr_lt h2 hp6
    have h4 := shn_le hw hp hs i
    have h5 := sOf_lt (p := p) (x := i) hw
    have h6 : shn G p q i < sit G p := by unfold shn; omega
    have htl := hw.t hp h6
    have hcl := col_lt (x := i) hw hp
    have h8 := hw.h4 hp
    have e5 := a2 p hp
    refine ⟨setI (setI s1 5 q (nI 0)) 5 q (mi s1 5 q), agr_trans hI2 (agr_setI rfl), ?_⟩
    show pX11_lostBlinded_5 F (nI p) (nI q) (fu + 1) s (nI (cnt (lstU G p q) i)) (nI i) = pX11_lostBlinded_5 F (nI p) (nI q) fu _ (nI (cnt (lstU G p q) (i + 1))) (nI (i + 1))
    rw [pX11_lostBlinded_5, rX_colourings hR hw (by omega), a3]
    unfold pX11_lostBlinded_46 pX11_lostBlinded_83 pX11_lostBlinded_84 pX11_lostBlinded_105
    simp (disch := omega) only [n_0, n_1, n_2, n_3, n_4, n_5, n_6, n_7, n_8, n_9, n_10, n_12, n_13, n_14, n_20, n_31, n_32, n_63, n_64, n_600, n_1024, n_4096, n_6157, n_add, n_mul, nm_def, Option.bind_some, Option.some.injEq, ck_in, ck_nz, ck_p, n_cl, n_lt, n_le, n_eq, n_div, n_rem, if_pos, if_neg, if_true, if_false, eq_self, n_192, n_256, n_20000, m1_n0, m1_np, m1_n0p, m1_lt0, m1_lt0p, mi_setIA, mi_setI, ml_setIA, ml_setI, mr_setI, mr_setIA, e1, n_shl1, n_clr2, e2, rX_entry hR2 hw hp h6, e5, cnt_s]
    unfold lstU
    by_cases c : clr (rgt G i) p = 0
    · by_cases c2 : Gt G p (shn G p q i) = col G p i
      · simp [c, c2, n_eq]
      · simp [c, c2, n_eq]
    · simp [c]
theorem n_le_p {a b : Nat} (ha : a < 2147483647) (hb : b < 2147483648) : (nI a ≤ predI b) = (a + 1 ≤ b) := by
  rw [← predI_s, predI_le (by omega) hb]
/-- the weakest sight so far: one more than the pair, one more than how many are lost -/
def wkI (G : Gm) (p : Nat) (s : Nat × Nat) : Nat → Nat × Nat
  | 0 => s
  | q + 1 => if sees G p q = true ∧ (wkI G p s q).2 < cnt (lstU G p q) (ncol G) + 1 then (6 * p + q + 1, cnt (lstU G p q) (ncol G) + 1) else wkI G p s q
def wkO (G : Gm) : Nat → Nat × Nat
  | 0 => (0, 0)
  | p + 1 => wkI G p (wkO G p) (Gn G)
theorem wkI_le (hw : WF G) {p : Nat} {s : Nat × Nat} (hs : s.1 ≤ 100 ∧ s.2 ≤ 4097) (hp : p < 6) : ∀ q, q ≤ 6 → (wkI G p s q).1 ≤ 100 ∧ (wkI G p s q).2 ≤ 4097
  | 0, _ => hs
  | q + 1, hq => by
    have h1 := wkI_le hw hs hp q (by omega)
    have h2 := cnt_n hw (lstU G p q)
    rw [wkI]
    split
    · exact ⟨by show 6 * p + q + 1 ≤ 100; omega, by show _ + 1 ≤ 4097; omega⟩
    · exact h1
theorem wkO_le (hw : WF G) : ∀ p, p ≤ Gn G → (wkO G p).1 ≤ 100 ∧ (wkO G p).2 ≤ 4097
  | 0, _ => ⟨Nat.zero_le _, Nat.zero_le _⟩
  | p + 1, h => by
    have hn := hw.n6
    exact wkI_le hw (wkO_le hw p (by omega)) (by omega) (Gn G) hn
theorem wkI_pos (G : Gm) (p : Nat) (s : Nat × Nat) (hs : s.1 = 0 ↔ s.2 = 0) : ∀ q, (wkI G p s q).1 = 0 ↔ (wkI G p s q).2 = 0
  | 0 => hs
  | q + 1 => by
    rw [wkI]
    split
    · simp
    · exact wkI_pos G p s hs q
theorem wkO_pos (G : Gm) : ∀ p, (wkO G p).1 = 0 ↔ (wkO G p).2 = 0
  | 0 => by simp [wkO]
  | p + 1 => by rw [wkO]; exact wkI_pos G p _ (wkO_pos G p) _
theorem rX_weakest_in {w : Int32} {k13 : Mem → Int32 → Int32 → Int32 → Option (Int32 × Mem)} {st : Nat × Nat} (h : RG ρ 1 G) (hw : WF G) (hF : 5000 < F) (hp : p < Gn G) (hs : st.1 ≤ 100 ∧ st.2 ≤ 4097) : ∃ ρ1, agr (fun k => k = 5) ρ ρ1 ∧ pX11_weakest_25 F k13 w (nI p) F ρ (predI st.1) (predI st.2) 0 = k13 ρ1 (predI (wkI G p st (Gn G)).1) (predI (wkI G p st (Gn G)).2) (nI (p + 1)) := by
  have hn := hw.n6
  have hp6 := hw_lt hw hp
  refine lp_memK (fun fu s i => pX11_weakest_25 F k13 w (nI p) fu s (predI (wkI G p st i).1) (predI (wkI G p st i).2) (nI i)) (Gn G) (fun s => k13 s (predI (wkI G p st (Gn G)).1) (predI (wkI G p st (Gn G)).2) (nI (p + 1))) (fun fu s hI => ?_) (fun fu s i hi hI => ?_) (by omega)
  · show pX11_weakest_25 F k13 w (nI p) (fu + 1) s _ _ (nI (Gn G)) = _
    rw [pX11_weakest_25, rX_players (RG5 h hI)]
    simp (disch := omega) only [n_0, n_1, n_2, n_3, n_4, n_5, n_6, n_7, n_8, n_9, n_10, n_12, n_13, n_14, n_20, n_31, n_32, n_63, n_64, n_600, n_1024, n_4096, n_6157, n_add, n_mul, nm_def, Option.bind_some, Option.some.injEq, ck_in, ck_nz, ck_p, n_cl, n_lt, n_le, n_eq, n_div, n_rem, if_pos, if_neg, if_true, if_false, eq_self, n_192, n_256, n_20000, m1_n0, m1_np, m1_n0p, m1_lt0, m1_lt0p, mi_setIA, mi_setI, ml_setIA, ml_setI, mr_setI, mr_setIA]
  · have hR := RG5 h hI
    have hle := wkI_le hw hs hp6 i (by omega)
    have hcl := cnt_n hw (lstU G p i)
    cases hsee : sees G p i
    · refine ⟨s, hI, ?_⟩
      show pX11_weakest_25 F k13 w (nI p) (fu + 1) s _ _ (nI i) = pX11_weakest_25 F k13 w (nI p) fu s (predI (wkI G p st (i + 1)).1) (predI (wkI G p st (i + 1)).2) (nI (i + 1))
      rw [pX11_weakest_25, rX_players hR, rX_sees hR hw hp (by omega), wkI, hsee]
      unfold pX11_weakest_57 pX11_weakest_80
      simp (disch := omega) only [n_0, n_1, n_2, n_3, n_4, n_5, n_6, n_7, n_8, n_9, n_10, n_12, n_13, n_14, n_20, n_31, n_32, n_63, n_64, n_600, n_1024, n_4096, n_6157, n_add, n_mul, nm_def, Option.bind_some, Option.some.injEq, ck_in, ck_nz, ck_p, n_cl, n_lt, n_le, n_eq, n_div, n_rem, if_pos, if_neg, if_true, if_false, eq_self, n_192, n_256, n_20000, m1_n0, m1_np, m1_n0p, m1_lt0, m1_lt0p, mi_setIA, mi_setI, ml_setIA, ml_setI, mr_setI, mr_setIA, Bool.toNat_false, Nat.zero_le, predI_le]
      simp
    · obtain ⟨s1, a1, a2⟩ := rX_lostBlinded (F := F) hR hw hF hp hsee
      refine ⟨s1, agr_trans hI a1, ?_⟩
      show pX11_weakest_25 F k13 w (nI p) (fu + 1) s _ _ (nI i) = pX11_weakest_25 F k13 w (nI p) fu s1 (predI (wkI G p st (i + 1)).1) (predI (wkI G p st (i + 1)).2) (nI (i + 1))
      rw [pX11_weakest_25, rX_players hR, rX_sees hR hw hp (by omega), wkI, hsee]
      unfold pX11_weakest_57 pX11_weakest_80
      simp (disch := omega) only [n_0, n_1, n_2, n_3, n_4, n_5, n_6, n_7, n_8, n_9, n_10, n_12, n_13, n_14, n_20, n_31, n_32, n_63, n_64, n_600, n_1024, n_4096, n_6157, n_add, n_mul, nm_def, Option.bind_some, Option.some.injEq, ck_in, ck_nz, ck_p, n_cl, n_lt, n_le, n_eq, n_div, n_rem, if_pos, if_neg, if_true, if_false, eq_self, n_192, n_256, n_20000, m1_n0, m1_np, m1_n0p, m1_lt0, m1_lt0p, mi_setIA, mi_setI, ml_setIA, ml_setI, mr_setI, mr_setIA, Bool.toNat_true, a2, n_le_p, true_and]
      by_cases c : cnt (lstU G p i) (ncol G) + 1 ≤ (wkI G p st i).2
      · rw [if_pos c, if_neg (by omega)]
      · rw [if_neg c, if_pos (by omega)]
        rfl
theorem rX_weakest_out {w : Int32} (h : RG ρ 1 G) (hw : WF G) (hF : 5000 < F) : ∃ ρ1, agr (fun k => k = 5) ρ ρ1 ∧ pX11_weakest_13 F w F ρ (-1) (-1) 0 = if (wkO G (Gn G)).1 = 0 then some (-1, setI ρ1 0 0 5) else some (if w = 0 then predI (wkO G (Gn G)).1 else predI (wkO G (Gn G)).2, ρ1) := by
  have hn := hw.n6
  refine lp_memK (fun fu s i => pX11_weakest_13 F w fu s (predI (wkO G i).1) (predI (wkO G i).2) (nI i)) (Gn G) (fun s => if (wkO G (Gn G)).1 = 0 then some (-1, setI s 0 0 5) else some (if w = 0 then predI (wkO G (Gn G)).1 else predI (wkO G (Gn G)).2, s)) (fun fu s hI => ?_) (fun fu s i hi hI => ?_) (by omega)
  · have hle := wkO_le hw (Gn G) (Nat.le_refl _)
    show pX11_weakest_13 F w (fu + 1) s _ _ (nI (Gn G)) = _
    rw [pX11_weakest_13, rX_players (RG5 h hI), rX_refuse]
    unfold pX11_weakest_113
    simp (disch := omega) only [n_0, n_1, n_2, n_3, n_4, n_5, n_6, n_7, n_8, n_9, n_10, n_12, n_13, n_14, n_20, n_31, n_32, n_63, n_64, n_600, n_1024, n_4096, n_6157, n_add, n_mul, nm_def, Option.bind_some, Option.some.injEq, ck_in, ck_nz, ck_p, n_cl, n_lt, n_le, n_eq, n_div, n_rem, if_pos, if_neg, if_true, if_false, eq_self, n_192, n_256, n_20000, m1_n0, m1_np, m1_n0p, m1_lt0, m1_lt0p, mi_setIA, mi_setI, ml_setIA, ml_setI, mr_setI, mr_setIA, predI_lt0]
    by_cases c : (wkO G (Gn G)).1 = 0
    · rw [if_pos c, if_pos c]
    · rw [if_neg c, if_neg c]
      by_cases d : w = nI 0
      · simp [d]
      · simp [d]
  · have hR := RG5 h hI
    have hle := wkO_le hw i (by omega)
    obtain ⟨s1, a1, a2⟩ := rX_weakest_in (F := F) (w := w) (k13 := pX11_weakest_13 F w fu) hR hw hF hi hle
    refine ⟨s1, agr_trans hI a1, ?_⟩
    show pX11_weakest_13 F w (fu + 1) s _ _ (nI i) = pX11_weakest_13 F w fu s1 (predI (wkO G (i + 1)).1) (predI (wkO G (i + 1)).2) (nI (i + 1))
    rw [pX11_weakest_13, rX_players hR]
    simp (disch := omega) only [n_0, n_1, n_2, n_3, n_4, n_5, n_6, n_7, n_8, n_9, n_10, n_12, n_13, n_14, n_20, n_31, n_32, n_63, n_64, n_600, n_1024, n_4096, n_6157, n_add, n_mul, nm_def, Option.bind_some, Option.some.injEq, ck_in, ck_nz, ck_p, n_cl, n_lt, n_le, n_eq, n_div, n_rem, if_pos, if_neg, if_true, if_false, eq_self, n_192, n_256, n_20000, m1_n0, m1_np, m1_n0p, m1_lt0, m1_lt0p, mi_setIA, mi_setI, ml_setIA, ml_setI, mr_setI, mr_setIA]
    exact a2
/-- the fewest who are needed, looked for from above -/
def fwD (G : Gm) (all : Nat) : Nat → Nat
  | 0 => all
  | k + 1 => if pc (all - k) ≤ pc (fwD G all k) ∧ nrt G (all - k) = lst G then all - k else fwD G all k
theorem rB_needed {all : Nat} (h : RG ρ 1 G) (hw : WF G) (hF : 5000 < F) (hr : RR ρ G) (ha : all < 64) : pX11_needed_36 F ρ (nI (lst G)) F (nI all) (nI all) = some (nI (fwD G all all), ρ) := by
  have hle : ∀ k, fwD G all k ≤ all := fun k => by
    induction k with
    | zero => exact Nat.le_refl _
    | succ k ih => rw [fwD]; split; omega; exact ih
  have hl := lst_le hw
  refine lp_upE F (fun fu i => pX11_needed_36 F ρ (nI (lst G)) fu (nI (fwD G all i)) (nI (all - i))) (0) (all) _ _ rfl (fun fu => ?_) (fun fu i hi1 hi2 => ?_) (by omega) (by omega)
  · show pX11_needed_36 F ρ (nI (lst G)) (fu + 1) (nI (fwD G all (all))) (nI (all - (all))) = _
    rw [pX11_needed_36, Nat.sub_self]
    simp (disch := omega) only [n_0, n_1, n_2, n_3, n_4, n_5, n_6, n_7, n_8, n_9, n_10, n_12, n_13, n_14, n_20, n_31, n_32, n_63, n_64, n_600, n_1024, n_4096, n_6157, n_add, n_mul, nm_def, Option.bind_some, Option.some.injEq, ck_in, ck_nz, ck_p, n_cl, n_lt, n_le, n_eq, n_div, n_rem, if_pos, if_neg, if_true, if_false, eq_self, n_192, n_256, n_20000, m1_n0, m1_np, m1_n0p, m1_lt0, m1_lt0p, mi_setIA, mi_setI, ml_setIA, ml_setI, mr_setI, mr_setIA, Nat.le_refl]
  · show pX11_needed_36 F ρ (nI (lst G)) (fu + 1) (nI (fwD G all i)) (nI (all - i)) = pX11_needed_36 F ρ (nI (lst G)) fu (nI (fwD G all (i + 1))) (nI (all - (i + 1)))
    have h1 := hle i
    have h2 := pc_le (all - i)
    have h3 := pc_le (fwD G all i)
    have h4 : nrt G (all - i) ≤ 4096 := cnt_n hw _
    have h5 : ¬ all - i ≤ 0 := by omega
    rw [pX11_needed_36, rX_ones ρ (by omega) (by omega), rX_ones ρ (by omega) (by omega), rX_lostBy h hw hF hr (by omega)]
    unfold pX11_needed_64 pX11_needed_65
    have e : nI (all - i) + -1 = nI (all - (i + 1)) := by
      rw [show all - i = (all - (i + 1)) + 1 by omega]
      exact n_m1 _
    rw [e]
    simp (disch := omega) only [n_0, n_1, n_2, n_3, n_4, n_5, n_6, n_7, n_8, n_9, n_10, n_12, n_13, n_14, n_20, n_31, n_32, n_63, n_64, n_600, n_1024, n_4096, n_6157, n_add, n_mul, nm_def, Option.bind_some, Option.some.injEq, ck_in, ck_nz, ck_p, n_cl, n_lt, n_le, n_eq, n_div, n_rem, if_pos, if_neg, if_true, if_false, eq_self, n_192, n_256, n_20000, m1_n0, m1_np, m1_n0p, m1_lt0, m1_lt0p, mi_setIA, mi_setI, ml_setIA, ml_setI, mr_setI, mr_setIA, h5, fwD]
    by_cases c : pc (all - i) ≤ pc (fwD G all i)
    · by_cases d : nrt G (all - i) = lst G
      · simp only [c, d, if_true, and_self]
      · simp only [c, d, if_true, if_false, and_false]
    · simp only [c, if_false, false_and]
/-- both ways find the same -/
def mnd (G : Gm) (all r : Nat) : Prop := (1 ≤ r ∧ r ≤ all ∧ nrt G r = lst G) ∧ ∀ s, 1 ≤ s → s ≤ all → nrt G s = lst G → pc r < pc s ∨ (pc r = pc s ∧ r ≤ s)
theorem lst_nrt (hw : WF G) (u : Nat) : lst G ≤ nrt G u := by
  refine cnt_mono (fun x _ hx => ?_)
  have : rgt G x = 0 := by simpa using hx
  rw [this]
  simp
theorem pc_top : ∀ n, n ≤ 6 → ∀ s, s < 2 ^ n - 1 → pc s < pc (2 ^ n - 1) := by decide +kernel
theorem fwN_mnd (hw : WF G) (h0 : Gn G ≠ 0) : mnd G (2 ^ Gn G - 1) (fwN G (2 ^ Gn G - 1) (2 ^ Gn G - 1)) := by
  have hn := hw.n6
  have h1 : 2 ^ 1 ≤ 2 ^ Gn G := Nat.pow_le_pow_right (by decide) (by omega)
  have key : ∀ i, i ≤ 2 ^ Gn G - 1 → (1 ≤ fwN G (2 ^ Gn G - 1) i ∧ fwN G (2 ^ Gn G - 1) i ≤ 2 ^ Gn G - 1 ∧ nrt G (fwN G (2 ^ Gn G - 1) i) = lst G) ∧ ∀ s, 1 ≤ s → (s < i ∨ s = 2 ^ Gn G - 1) → nrt G s = lst G → pc (fwN G (2 ^ Gn G - 1) i) < pc s ∨ (pc (fwN G (2 ^ Gn G - 1) i) = pc s ∧ fwN G (2 ^ Gn G - 1) i ≤ s) := by
    intro i
    induction i with
    | zero =>
      intro _
      refine ⟨⟨by show 1 ≤ 2 ^ Gn G - 1; omega, Nat.le_refl _, nrt_all hw⟩, fun s s1 s2 _ => ?_⟩
      have : s = 2 ^ Gn G - 1 := by omega
      subst this
      exact Or.inr ⟨rfl, Nat.le_refl _⟩
    | succ i ih =>
      intro hi
      obtain ⟨⟨a1, a2, a3⟩, b⟩ := ih (by omega)
      have hl := lst_nrt hw i
      rw [fwN]
      by_cases c : 1 ≤ i ∧ pc i < pc (fwN G (2 ^ Gn G - 1) i) ∧ nrt G i ≤ lst G
      · rw [if_pos c]
        refine ⟨⟨c.1, by omega, by omega⟩, fun s s1 s2 s3 => ?_⟩
        rcases Nat.lt_or_ge s i with z | z
        · rcases b s s1 (Or.inl z) s3 with y | y
          · left; omega
          · left; omega
        · rcases s2 with y | y
          · have : s = i := by omega
            subst this
            exact Or.inr ⟨rfl, Nat.le_refl _⟩
          · rcases b s s1 (Or.inr y) s3 with w | w
            · left; omega
            · left; omega
      · rw [if_neg c]
        refine ⟨⟨a1, a2, a3⟩, fun s s1 s2 s3 => ?_⟩
        rcases s2 with y | y
        · rcases Nat.lt_or_ge s i with z | z
          · exact b s s1 (Or.inl z) s3
          · have : s = i := by omega
            subst this
            have hd : ¬ pc s < pc (fwN G (2 ^ Gn G - 1) s) := fun z2 => c ⟨s1, z2, by omega⟩
            rcases Nat.lt_or_ge (pc (fwN G (2 ^ Gn G - 1) s)) (pc s) with z3 | z3
            · exact Or.inl z3
            · refine Or.inr ⟨by omega, ?_⟩
              have hlt : ∀ j, j ≤ s → fwN G (2 ^ Gn G - 1) j < j ∨ fwN G (2 ^ Gn G - 1) j = 2 ^ Gn G - 1 := by
                intro j
                induction j with
                | zero => intro _; exact Or.inr rfl
                | succ j ihj =>
                  intro hj
                  rw [fwN]
                  split
                  · left; omega
                  · rcases ihj (by omega) with w | w
                    · left; omega
                    · right; exact w
              rcases hlt s (Nat.le_refl _) with w | w
              · omega
              · have := pc_top (Gn G) hn s (by omega)
                rw [w] at hd
                exact absurd this hd
        · exact b s s1 (Or.inr y) s3
  obtain ⟨a, b⟩ := key (2 ^ Gn G - 1) (Nat.le_refl _)
  exact ⟨a, fun s s1 s2 s3 => b s s1 (by omega) s3⟩
theorem fwD_mnd (hw : WF G) (h0 : Gn G ≠ 0) : mnd G (2 ^ Gn G - 1) (fwD G (2 ^ Gn G - 1) (2 ^ Gn G - 1)) := by
  have hn := hw.n6
  have h1 : 2 ^ 1 ≤ 2 ^ Gn G := Nat.pow_le_pow_right (by decide) (by omega)
  have key : ∀ k, k ≤ 2 ^ Gn G - 1 → (1 ≤ fwD G (2 ^ Gn G - 1) k ∧ fwD G (2 ^ Gn G - 1) k ≤ 2 ^ Gn G - 1 ∧ nrt G (fwD G (2 ^ Gn G - 1) k) = lst G) ∧ ∀ s, 1 ≤ s → 2 ^ Gn G - 1 - k < s → s ≤ 2 ^ Gn G - 1 → nrt G s = lst G → pc (fwD G (2 ^ Gn G - 1) k) < pc s ∨ (pc (fwD G (2 ^ Gn G - 1) k) = pc s ∧ fwD G (2 ^ Gn G - 1) k ≤ s) := by
    intro k
    induction k with
    | zero =>
      intro _
      refine ⟨⟨by show 1 ≤ 2 ^ Gn G - 1; omega, Nat.le_refl _, nrt_all hw⟩, fun s s1 s2 s3 _ => ?_⟩
      omega
    | succ k ih =>
      intro hk
      obtain ⟨⟨a1, a2, a3⟩, b⟩ := ih (by omega)
      rw [fwD]
      by_cases c : pc (2 ^ Gn G - 1 - k) ≤ pc (fwD G (2 ^ Gn G - 1) k) ∧ nrt G (2 ^ Gn G - 1 - k) = lst G
      · rw [if_pos c]
        refine ⟨⟨by omega, by omega, c.2⟩, fun s s1 s2 s3 s4 => ?_⟩
        rcases Nat.eq_or_lt_of_le (show 2 ^ Gn G - 1 - k ≤ s by omega) with z | z
        · rw [← z]; exact Or.inr ⟨rfl, Nat.le_refl _⟩
        · rcases b s s1 (by omega) s3 s4 with w | w
          · left; omega
          · rcases Nat.lt_or_ge (pc (2 ^ Gn G - 1 - k)) (pc s) with y | y
            · exact Or.inl y
            · exact Or.inr ⟨by omega, by omega⟩
      · rw [if_neg c]
        refine ⟨⟨a1, a2, a3⟩, fun s s1 s2 s3 s4 => ?_⟩
        rcases Nat.eq_or_lt_of_le (show 2 ^ Gn G - 1 - k ≤ s by omega) with z | z
        · left
          rw [← z]
          rw [← z] at s4
          rcases Nat.lt_or_ge (pc (fwD G (2 ^ Gn G - 1) k)) (pc (2 ^ Gn G - 1 - k)) with y | y
          · exact y
          · exact absurd ⟨y, s4⟩ c
        · exact b s s1 (by omega) s3 s4
  obtain ⟨a, b⟩ := key (2 ^ Gn G - 1) (Nat.le_refl _)
  exact ⟨a, fun s s1 s2 s3 => b s s1 (by omega) s2 s3⟩
theorem fw_eq (hw : WF G) (h0 : Gn G ≠ 0) : fwN G (2 ^ Gn G - 1) (2 ^ Gn G - 1) = fwD G (2 ^ Gn G - 1) (2 ^ Gn G - 1) := by
  obtain ⟨⟨a1, a2, a3⟩, a4⟩ := fwN_mnd hw h0
  obtain ⟨⟨b1, b2, b3⟩, b4⟩ := fwD_mnd hw h0
  have h1 := a4 _ b1 b2 b3
  have h2 := b4 _ a1 a2 a3
  omega
theorem rB_known {c0 : Nat} (h : RG ρ 1 G) (hw : WF G) (hF : 5000 < F) (hr : RR ρ G) (hp : p < Gn G) (hc0 : c0 < 2147483648) : ∃ ρ1, agr (fun k => k = 5) ρ ρ1 ∧ pX11_known_32 F (nI p) (nI c0) F ρ 0 0 = some (nI (cnt (fun x => decide (rgt G x = 0) && decide (col G p x = c0)) (ncol G)), ρ1) := by
  have hc := ncol_le hw
  have hp6 := hw_lt hw hp
  refine lp_memK (fun fu s i => pX11_known_32 F (nI p) (nI c0) fu s (nI (cnt (fun x => decide (rgt G x = 0) && decide (col G p x = c0)) i)) (nI i)) (ncol G) (fun s => some (nI (cnt (fun x => decide (rgt G x = 0) && decide (col G p x = c0)) (ncol G)), s)) (fun fu s hI => ?_) (fun fu s i hi hI => ?_) (by omega)
  · show pX11_known_32 F (nI p) (nI c0) (fu + 1) s _ (nI (ncol G)) = _
    rw [pX11_known_32, rX_colourings (RG5 h hI) hw (by omega)]
    simp (disch := omega) only [n_0, n_1, n_2, n_3, n_4, n_5, n_6, n_7, n_8, n_9, n_10, n_12, n_13, n_14, n_20, n_31, n_32, n_63, n_64, n_600, n_1024, n_4096, n_6157, n_add, n_mul, nm_def, Option.bind_some, Option.some.injEq, ck_in, ck_nz, ck_p, n_cl, n_lt, n_le, n_eq, n_div, n_rem, if_pos, if_neg, if_true, if_false, eq_self, n_192, n_256, n_20000, m1_n0, m1_np, m1_n0p, m1_lt0, m1_lt0p, mi_setIA, mi_setI, ml_setIA, ml_setI, mr_setI, mr_setIA]
  · have hR := RG5 h hI
    obtain ⟨s1, a1, a2, a3⟩ := rX_laysE (x := i) hR hw (show 100 < F by omega) (by omega)
    have e1 := RR5 hr (agr_trans hI a1) i hi
    have e2 := a2 p hp
    have h2 := rgt_lt (x := i) hw
    have h3 := col_lt (x := i) hw hp
    have h4 := hw.h4 hp
    refine ⟨s1, agr_trans hI a1, ?_⟩
    show pX11_known_32 F (nI p) (nI c0) (fu + 1) s _ (nI i) = pX11_known_32 F (nI p) (nI c0) fu s1 (nI (cnt (fun x => decide (rgt G x = 0) && decide (col G p x = c0)) (i + 1))) (nI (i + 1))
    rw [pX11_known_32, rX_colourings hR hw (by omega), a3]
    unfold pX11_known_72 pX11_known_73
    simp (disch := omega) only [n_0, n_1, n_2, n_3, n_4, n_5, n_6, n_7, n_8, n_9, n_10, n_12, n_13, n_14, n_20, n_31, n_32, n_63, n_64, n_600, n_1024, n_4096, n_6157, n_add, n_mul, nm_def, Option.bind_some, Option.some.injEq, ck_in, ck_nz, ck_p, n_cl, n_lt, n_le, n_eq, n_div, n_rem, if_pos, if_neg, if_true, if_false, eq_self, n_192, n_256, n_20000, m1_n0, m1_np, m1_n0p, m1_lt0, m1_lt0p, mi_setIA, mi_setI, ml_setIA, ml_setI, mr_setI, mr_setIA, e1, e2, cnt_s]
    by_cases z : rgt G i = 0
    · by_cases z2 : col G p i = c0
      · simp [z, z2]
      · simp [z, z2]
    · simp [z]
theorem unl_sym (y x : Nat) : unl G y x = cnt (fun p => decide (col G p x ≠ col G p y)) (Gn G) := by
  unfold unl
  refine cnt_congr (fun i _ => ?_)
  apply decide_eq_decide.mpr
  exact ⟨fun h z => h z.symm, fun h z => h z.symm⟩
theorem rX_nearest105 {y : Nat} {w : Int32} {k71 : Mem → Int32 → Int32 → Int32 → Option (Int32 × Mem)} {v3 : Int32} {l z0 : Nat} (h : RG ρ 1 G) (hw : WF G) (hF : 5000 < F) (h5 : ∀ q, q < Gn G → mi ρ 5 q = nI (col G q z0)) (h7 : ∀ q, q < Gn G → mi ρ 7 q = nI (col G q y)) (hl : l ≤ 7) : pX11_nearest_105 F k71 ρ w v3 (nI l) (nI z0) F 0 0 = if unl G y z0 < l then k71 ρ (nI z0) (nI (unl G y z0)) (nI z0 + 1) else k71 ρ v3 (nI l) (nI z0 + 1) := by
  have hn := hw.n6
  refine lp_upE F (fun fu i => pX11_nearest_105 F k71 ρ w v3 (nI l) (nI z0) fu (nI (cnt (fun p => decide (col G p z0 ≠ col G p y)) i)) (nI i)) (0) (Gn G) _ _ rfl (fun fu => ?_) (fun fu i hi1 hi2 => ?_) (by omega) (by omega)
  · show pX11_nearest_105 F k71 ρ w v3 (nI l) (nI z0) (fu + 1) (nI (cnt (fun p => decide (col G p z0 ≠ col G p y)) (Gn G))) (nI (Gn G)) = _
    have h6 : unl G y z0 ≤ 6 := Nat.le_trans (cnt_le _ _) hn
    rw [pX11_nearest_105, rX_players h, ← unl_sym]
    unfold pX11_nearest_164
    simp (disch := omega) only [n_0, n_1, n_2, n_3, n_4, n_5, n_6, n_7, n_8, n_9, n_10, n_12, n_13, n_14, n_20, n_31, n_32, n_63, n_64, n_600, n_1024, n_4096, n_6157, n_add, n_mul, nm_def, Option.bind_some, Option.some.injEq, ck_in, ck_nz, ck_p, n_cl, n_lt, n_le, n_eq, n_div, n_rem, if_pos, if_neg, if_true, if_false, eq_self, n_192, n_256, n_20000, m1_n0, m1_np, m1_n0p, m1_lt0, m1_lt0p, mi_setIA, mi_setI, ml_setIA, ml_setI, mr_setI, mr_setIA]
  · show pX11_nearest_105 F k71 ρ w v3 (nI l) (nI z0) (fu + 1) (nI (cnt (fun p => decide (col G p z0 ≠ col G p y)) i)) (nI i) = pX11_nearest_105 F k71 ρ w v3 (nI l) (nI z0) fu (nI (cnt (fun p => decide (col G p z0 ≠ col G p y)) (i + 1))) (nI (i + 1))
    have e1 := h5 i hi2
    have e2 := h7 i hi2
    have c1 := col_lt (x := z0) hw hi2
    have c2 := col_lt (x := y) hw hi2
    have h4 := hw.h4 hi2
    rw [pX11_nearest_105, rX_players h]
    unfold pX11_nearest_138
    simp (disch := omega) only [n_0, n_1, n_2, n_3, n_4, n_5, n_6, n_7, n_8, n_9, n_10, n_12, n_13, n_14, n_20, n_31, n_32, n_63, n_64, n_600, n_1024, n_4096, n_6157, n_add, n_mul, nm_def, Option.bind_some, Option.some.injEq, ck_in, ck_nz, ck_p, n_cl, n_lt, n_le, n_eq, n_div, n_rem, if_pos, if_neg, if_true, if_false, eq_self, n_192, n_256, n_20000, m1_n0, m1_np, m1_n0p, m1_lt0, m1_lt0p, mi_setIA, mi_setI, ml_setIA, ml_setI, mr_setI, mr_setIA, e1, e2, cnt_s]
    by_cases z : col G i z0 = col G i y
    · simp [z]
    · simp [z]
theorem rB_nearest71 {y : Nat} {w : Int32} (h : RG ρ 1 G) (hw : WF G) (hF : 5000 < F) (hr : RR ρ G) (h7 : ∀ q, q < Gn G → mi ρ 7 q = nI (col G q y)) : ∃ ρ1, agr (fun k => k = 5) ρ ρ1 ∧ pX11_nearest_71 F w F ρ (-1) 7 0 = if (nrL G y (ncol G)).2 = 0 then some (-1, setI ρ1 0 0 5) else some (if w = 0 then nI (nrL G y (ncol G)).1 else predI (nrL G y (ncol G)).2, ρ1) := by
  have hc := ncol_le hw
  have hle := nrL_le G y
  refine lp_memK (fun fu s i => pX11_nearest_71 F w fu s (predI (nrL G y i).2) (nI (nrL G y i).1) (nI i)) (ncol G) (fun s => if (nrL G y (ncol G)).2 = 0 then some (-1, setI s 0 0 5) else some (if w = 0 then nI (nrL G y (ncol G)).1 else predI (nrL G y (ncol G)).2, s)) (fun fu s hI => ?_) (fun fu s i hi hI => ?_) (by omega)
  · have h1 := hle (ncol G)
    show pX11_nearest_71 F w (fu + 1) s _ _ (nI (ncol G)) = _
    rw [pX11_nearest_71, rX_colourings (RG5 h hI) hw (by omega), rX_refuse]
    unfold pX11_nearest_192
    simp (disch := omega) only [n_0, n_1, n_2, n_3, n_4, n_5, n_6, n_7, n_8, n_9, n_10, n_12, n_13, n_14, n_20, n_31, n_32, n_63, n_64, n_600, n_1024, n_4096, n_6157, n_add, n_mul, nm_def, Option.bind_some, Option.some.injEq, ck_in, ck_nz, ck_p, n_cl, n_lt, n_le, n_eq, n_div, n_rem, if_pos, if_neg, if_true, if_false, eq_self, n_192, n_256, n_20000, m1_n0, m1_np, m1_n0p, m1_lt0, m1_lt0p, mi_setIA, mi_setI, ml_setIA, ml_setI, mr_setI, mr_setIA, predI_lt0]
    by_cases c : (nrL G y (ncol G)).2 = 0
    · rw [if_pos c, if_pos c]
    · rw [if_neg c, if_neg c]
      by_cases d : w = nI 0
      · simp [d]
      · simp [d]
  · have hR := RG5 h hI
    have h1 := hle i
    have e1 := RR5 hr hI i hi
    have h2 := rgt_lt (x := i) hw
    by_cases z : rgt G i = 0
    · obtain ⟨s1, a1, a2, a3⟩ := rX_laysE (x := i) hR hw (show 100 < F by omega) (by omega)
      refine ⟨s1, agr_trans hI a1, ?_⟩
      show pX11_nearest_71 F w (fu + 1) s _ _ (nI i) = pX11_nearest_71 F w fu s1 (predI (nrL G y (i + 1)).2) (nI (nrL G y (i + 1)).1) (nI (i + 1))
      have e2 := rX_nearest105 (F := F) (y := y) (w := w) (k71 := pX11_nearest_71 F w fu) (v3 := predI (nrL G y i).2) (l := (nrL G y i).1) (z0 := i) (RG5 h (agr_trans hI a1)) hw hF a2 (fun q hq => (agr_mi (agr_trans hI a1) (by omega) q).trans (h7 q hq)) h1.1
      rw [n_0] at e2
      rw [pX11_nearest_71, rX_colourings hR hw (by omega), a3, nrL]
      simp (disch := omega) only [n_0, n_1, n_2, n_3, n_4, n_5, n_6, n_7, n_8, n_9, n_10, n_12, n_13, n_14, n_20, n_31, n_32, n_63, n_64, n_600, n_1024, n_4096, n_6157, n_add, n_mul, nm_def, Option.bind_some, Option.some.injEq, ck_in, ck_nz, ck_p, n_cl, n_lt, n_le, n_eq, n_div, n_rem, if_pos, if_neg, if_true, if_false, eq_self, n_192, n_256, n_20000, m1_n0, m1_np, m1_n0p, m1_lt0, m1_lt0p, mi_setIA, mi_setI, ml_setIA, ml_setI, mr_setI, mr_setIA, e1, z, e2]
      by_cases c : unl G y i < (nrL G y i).1
      · rw [if_pos c, if_pos ⟨trivial, c⟩]
        rfl
      · rw [if_neg c, if_neg (fun z => c z.2)]
    · refine ⟨s, hI, ?_⟩
      show pX11_nearest_71 F w (fu + 1) s _ _ (nI i) = pX11_nearest_71 F w fu s (predI (nrL G y (i + 1)).2) (nI (nrL G y (i + 1)).1) (nI (i + 1))
      rw [pX11_nearest_71, rX_colourings hR hw (by omega), nrL]
      unfold pX11_nearest_164
      simp (disch := omega) only [n_0, n_1, n_2, n_3, n_4, n_5, n_6, n_7, n_8, n_9, n_10, n_12, n_13, n_14, n_20, n_31, n_32, n_63, n_64, n_600, n_1024, n_4096, n_6157, n_add, n_mul, nm_def, Option.bind_some, Option.some.injEq, ck_in, ck_nz, ck_p, n_cl, n_lt, n_le, n_eq, n_div, n_rem, if_pos, if_neg, if_true, if_false, eq_self, n_192, n_256, n_20000, m1_n0, m1_np, m1_n0p, m1_lt0, m1_lt0p, mi_setIA, mi_setI, ml_setIA, ml_setI, mr_setI, mr_setIA, e1, z, false_and]
theorem rB_nearest {y : Nat} {w : Int32} (h : RG ρ 1 G) (hw : WF G) (hF : 5000 < F) (hr : RR ρ G) (h5 : LC5 ρ G (fun q => col G q y)) : ∃ ρ1, agr (fun k => k = 5 ∨ k = 7) ρ ρ1 ∧ pX11_nearest_36 F w F ρ 0 = if (nrL G y (ncol G)).2 = 0 then some (-1, setI ρ1 0 0 5) else some (if w = 0 then nI (nrL G y (ncol G)).1 else predI (nrL G y (ncol G)).2, ρ1) := by
  have hn := hw.n6
  refine lp_inv (fun fu (s : Mem) i => pX11_nearest_36 F w fu s (nI i)) (fun s i => agr (fun k => k = 7) ρ s ∧ ∀ q, q < i → mi s 7 q = nI (col G q y)) (Gn G) (fun r => ∃ ρ1, agr (fun k => k = 5 ∨ k = 7) ρ ρ1 ∧ r = if (nrL G y (ncol G)).2 = 0 then some (-1, setI ρ1 0 0 5) else some (if w = 0 then nI (nrL G y (ncol G)).1 else predI (nrL G y (ncol G)).2, ρ1)) (fun fu s hI => ?_) (fun fu s i hi hI => ?_) F ρ 0 (Nat.zero_le _) (by omega) ⟨agr_rfl, fun q hq => by omega⟩
  · obtain ⟨b1, b2⟩ := hI
    obtain ⟨ρ1, a1, a2⟩ := rB_nearest71 (F := F) (w := w) (h.agr b1 (by omega)) hw hF (fun x hx => (agr_mi b1 (by omega) x).trans (hr x hx)) b2
    refine ⟨ρ1, agr_trans (agr_mono b1 (fun k hk => Or.inr hk)) (agr_mono a1 (fun k hk => Or.inl hk)), ?_⟩
    show pX11_nearest_36 F w (fu + 1) s (nI (Gn G)) = _
    rw [pX11_nearest_36, rX_players (h.agr b1 (by omega)), ← a2]
    simp (disch := omega) only [n_0, n_1, n_2, n_3, n_4, n_5, n_6, n_7, n_8, n_9, n_10, n_12, n_13, n_14, n_20, n_31, n_32, n_63, n_64, n_600, n_1024, n_4096, n_6157, n_add, n_mul, nm_def, Option.bind_some, Option.some.injEq, ck_in, ck_nz, ck_p, n_cl, n_lt, n_le, n_eq, n_div, n_rem, if_pos, if_neg, if_true, if_false, eq_self, n_192, n_256, n_20000, m1_n0, m1_np, m1_n0p, m1_lt0, m1_lt0p, mi_setIA, mi_setI, ml_setIA, ml_setI, mr_setI, mr_setIA]
  · obtain ⟨b1, b2⟩ := hI
    have e1 : mi s 5 i = nI (col G i y) := (agr_mi b1 (by omega) i).trans (h5 i hi)
    refine ⟨setI s 7 i (nI (col G i y)), ⟨agr_trans b1 (agr_setI rfl), fun q hq => ?_⟩, ?_⟩
    · rw [mi_setI]
      by_cases z : q = i
      · rw [if_pos ⟨rfl, z⟩, z]
      · rw [if_neg (fun y => z y.2)]
        exact b2 q (by omega)
    · show pX11_nearest_36 F w (fu + 1) s (nI i) = pX11_nearest_36 F w fu _ (nI (i + 1))
      rw [pX11_nearest_36, rX_players (h.agr b1 (by omega))]
      simp (disch := omega) only [n_0, n_1, n_2, n_3, n_4, n_5, n_6, n_7, n_8, n_9, n_10, n_12, n_13, n_14, n_20, n_31, n_32, n_63, n_64, n_600, n_1024, n_4096, n_6157, n_add, n_mul, nm_def, Option.bind_some, Option.some.injEq, ck_in, ck_nz, ck_p, n_cl, n_lt, n_le, n_eq, n_div, n_rem, if_pos, if_neg, if_true, if_false, eq_self, n_192, n_256, n_20000, m1_n0, m1_np, m1_n0p, m1_lt0, m1_lt0p, mi_setIA, mi_setI, ml_setIA, ml_setI, mr_setI, mr_setIA, e1]
end R5
