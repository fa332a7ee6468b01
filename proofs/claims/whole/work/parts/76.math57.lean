/-! ALL WAYS TO GUESS: the reference goes through them -/
theorem i64_eq {a : Nat} (h : a < 2147483648) : (nI a).toInt64 = Int64.ofNat a := by
  apply Int64.toInt_inj.mp
  rw [Int32.toInt_toInt64, Int64.toInt_ofNat_of_lt (by omega)]
  exact Int32.toInt_ofNat_of_lt h
theorem i64_mul {a h : Nat} (ha : a ≤ 20000) (hh : h ≤ 4) : (nI a).toInt64 * (nI h).toInt64 = (nI (a * h)).toInt64 := by
  have h1 : a * h ≤ 20000 * 4 := Nat.mul_le_mul ha hh
  rw [i64_eq (by omega), i64_eq (by omega), i64_eq (by omega), ← Int64.ofNat_mul]
theorem i64_le {a : Nat} (h : a < 2147483648) : (lg_cmp (nI a).toInt64 20000 ≤ 0) = (a ≤ 20000) := by
  rw [lg_le, i64_eq h]
  apply propext
  rw [Int64.le_iff_toInt_le, Int64.toInt_ofNat_of_lt (by omega), show (20000 : Int64).toInt = 20000 from by decide]
  omega
section WM
variable {ρ ρ1 ρ2 : Mem} {G : Gm} {F p q w : Nat} {t : Nat → Nat → Nat}
theorem rX_waysMany_15 {k4 : Int64 → Int32 → Option Int32} (h : RG ρ 1 G) (hw : WF G) (hF : 2000 < F) (hp : p < Gn G) : ∀ (k fu a i : Nat), a ≤ 20000 → i + k = sit G p → k < fu → pX11_waysMany_15 F ρ k4 (nI p) fu (nI a).toInt64 (nI i) = if a * Gh G p ^ k ≤ 20000 then k4 (nI (a * Gh G p ^ k)).toInt64 (nI (p + 1)) else some (-1) := by
  have hsl := sit_le hw hp
  have h1 := hw.h1 hp
  have h4 := hw.h4 hp
  intro k
  induction k with
  | zero =>
    intro fu a i ha hi hf
    obtain ⟨fu, rfl⟩ : ∃ f, fu = f + 1 := ⟨fu - 1, by omega⟩
    rw [Nat.pow_zero, Nat.mul_one, if_pos ha, pX11_waysMany_15, rX_situations h hw (by omega) hp, show i = sit G p by omega]
    simp (disch := omega) only [n_0, n_1, n_2, n_3, n_4, n_5, n_6, n_7, n_8, n_9, n_10, n_12, n_13, n_14, n_20, n_31, n_32, n_63, n_64, n_600, n_1024, n_4096, n_6157, n_add, n_mul, nm_def, Option.bind_some, Option.some.injEq, ck_in, ck_nz, ck_p, n_cl, n_lt, n_le, n_eq, n_div, n_rem, if_pos, if_neg, if_true, if_false, eq_self, n_192, n_256, n_20000, m1_n0, m1_np, m1_n0p, m1_lt0, m1_lt0p, mi_setIA, mi_setI, ml_setIA, ml_setI, mr_setI, mr_setIA]
  | succ k ih =>
    intro fu a i ha hi hf
    obtain ⟨fu, rfl⟩ : ∃ f, fu = f + 1 := ⟨fu - 1, by omega⟩
    have h5 : a * Gh G p ≤ 20000 * 4 := Nat.mul_le_mul ha h4
    rw [pX11_waysMany_15, rX_situations h hw (by omega) hp, rX_hats h hw hp]
    simp (disch := omega) only [Option.bind_some, nm_def, n_lt, if_pos, i64_mul, i64_le]
    rw [Nat.pow_succ, Nat.mul_comm (Gh G p ^ k), ← Nat.mul_assoc]
    by_cases z : a * Gh G p ≤ 20000
    · rw [if_pos z, show nI i + 1 = nI (i + 1) from n_add i 1, ih fu (a * Gh G p) (i + 1) z (by omega) (by omega)]
    · rw [if_neg z, if_neg]
      have h6 := Nat.le_mul_of_pos_right (a * Gh G p) (Nat.pow_pos (n := k) (show 0 < Gh G p by omega))
      omega
theorem rX_waysMany (h : RG ρ 1 G) (hw : WF G) (hF : 2000 < F) : pX11_waysMany F ρ = some (if nways G ≤ 20000 then nI (nways G) else -1) := by
  have hn := hw.n6
  have key : ∀ (k fu a i : Nat), a ≤ 20000 → i + k = Gn G → k < fu → pX11_waysMany_4 F ρ fu (nI a).toInt64 (nI i) = some (if a * pw (fun p => Gh G p ^ sit G p) i k ≤ 20000 then nI (a * pw (fun p => Gh G p ^ sit G p) i k) else -1) := by
    intro k
    induction k with
    | zero =>
      intro fu a i ha hi hf
      obtain ⟨fu, rfl⟩ : ∃ f, fu = f + 1 := ⟨fu - 1, by omega⟩
      rw [pw, Nat.mul_one, if_pos ha, pX11_waysMany_4, rX_players h, show i = Gn G by omega]
      simp (disch := omega) only [n_0, n_1, n_2, n_3, n_4, n_5, n_6, n_7, n_8, n_9, n_10, n_12, n_13, n_14, n_20, n_31, n_32, n_63, n_64, n_600, n_1024, n_4096, n_6157, n_add, n_mul, nm_def, Option.bind_some, Option.some.injEq, ck_in, ck_nz, ck_p, n_cl, n_lt, n_le, n_eq, n_div, n_rem, if_pos, if_neg, if_true, if_false, eq_self, n_192, n_256, n_20000, m1_n0, m1_np, m1_n0p, m1_lt0, m1_lt0p, mi_setIA, mi_setI, ml_setIA, ml_setI, mr_setI, mr_setIA]
      rw [Int32.toInt32_toInt64]
    | succ k ih =>
      intro fu a i ha hi hf
      obtain ⟨fu, rfl⟩ : ∃ f, fu = f + 1 := ⟨fu - 1, by omega⟩
      have hp : i < Gn G := by omega
      rw [pX11_waysMany_4, rX_players h]
      simp (disch := omega) only [n_0, n_1, n_2, n_3, n_4, n_5, n_6, n_7, n_8, n_9, n_10, n_12, n_13, n_14, n_20, n_31, n_32, n_63, n_64, n_600, n_1024, n_4096, n_6157, n_add, n_mul, nm_def, Option.bind_some, Option.some.injEq, ck_in, ck_nz, ck_p, n_cl, n_lt, n_le, n_eq, n_div, n_rem, if_pos, if_neg, if_true, if_false, eq_self, n_192, n_256, n_20000, m1_n0, m1_np, m1_n0p, m1_lt0, m1_lt0p, mi_setIA, mi_setI, ml_setIA, ml_setI, mr_setI, mr_setIA]
      have e := rX_waysMany_15 (F := F) (k4 := pX11_waysMany_4 F ρ fu) h hw hF hp (sit G i) F a 0 ha (by omega) (by have := sit_le hw hp; omega)
      refine Eq.trans e ?_
      rw [pw_cons, ← Nat.mul_assoc]
      by_cases z : a * Gh G i ^ sit G i ≤ 20000
      · rw [if_pos z, ih fu _ (i + 1) z (by omega) (by omega)]
        rfl
      · have h6 : 0 < pw (fun p => Gh G p ^ sit G p) (i + 1) k := pw_pos (fun j h7 h8 => Nat.pow_pos (hw.h1 (show j < Gn G by omega)))
        have h7 := Nat.le_mul_of_pos_right (a * Gh G i ^ sit G i) h6
        rw [if_neg z, if_neg (fun y => z (Nat.le_trans h7 y))]
        rfl
  have h0 := key (Gn G) F 1 0 (by decide) (by omega) (by omega)
  rw [Nat.one_mul] at h0
  exact h0
def agW (ρ ρ1 : Mem) : Prop := (∀ k, k ≠ 0 → ¬ (k = 1 ∨ k = 5 ∨ k = 6) → ρ1.1 k = ρ.1 k ∧ ρ1.2.1 k = ρ.2.1 k ∧ ρ1.2.2 k = ρ.2.2 k) ∧ ∀ i, i ≠ 11 → i ≠ 12 → mi ρ1 0 i = mi ρ 0 i
theorem agW_rfl : agW ρ ρ := ⟨fun _ _ _ => ⟨rfl, rfl, rfl⟩, fun _ _ _ => rfl⟩
theorem agW_trans (h : agW ρ ρ1) (h2 : agW ρ1 ρ2) : agW ρ ρ2 := ⟨fun k h0 hk => ⟨(h2.1 k h0 hk).1.trans (h.1 k h0 hk).1, (h2.1 k h0 hk).2.1.trans (h.1 k h0 hk).2.1, (h2.1 k h0 hk).2.2.trans (h.1 k h0 hk).2.2⟩, fun i h1 h3 => (h2.2 i h1 h3).trans (h.2 i h1 h3)⟩
theorem agW_of (h : agr (fun k => k = 1 ∨ k = 5 ∨ k = 6) ρ ρ1) : agW ρ ρ1 := ⟨fun k _ hk => h k hk, fun i _ _ => agr_mi h (by omega) i⟩
theorem agW_0 {i : Nat} {x : Int32} (h : i = 11 ∨ i = 12) : agW ρ (setI ρ 0 i x) := ⟨fun k hk _ => ⟨by simp [setI, hk], rfl, rfl⟩, fun j h1 h2 => by rw [mi_setI, if_neg (by omega)]⟩
theorem RG_0 {i : Nat} {x : Int32} {c : Nat} (h : RG ρ c G) (hc : c ≠ 0) : RG (setI ρ 0 i x) c G := h.agr (S := fun k => k = 0) (agr_setI rfl) hc
def wonR (G : Gm) (w : Nat) : Nat := sm (fun w => if lW G (dLE (fS G) w) = 0 then 1 else 0) w
def fewR (G : Gm) (w : Nat) : Nat := mnF (fun w => lW G (dLE (fS G) w)) w
theorem rX_ways_95 {v : Int32} (h4 : RG ρ 4 G) (hw : WF G) (hF : 50000 < F) (hR : RW ρ G 0) (hW : nways G ≤ 20000) (z11 : mi ρ 0 11 = 0) (z12 : mi ρ 0 12 = 4096) : ∃ ρ1, agW ρ ρ1 ∧ RG ρ1 1 G ∧ pX11_ways_95 F v F ρ 1 = some (if v = 1 then nI (wonR G (nways G)) else nI (fewR G (nways G)), ρ1) := by
  have hn := hw.n6
  have hWp : 0 < nways G := pw_pos (fun j _ h8 => Nat.pow_pos (hw.h1 (show j < Gn G by omega)))
  have hfp : ∀ j, j < bs G (Gn G) → 0 < fS G j := fun j hj => fS_pos hw hj
  refine lp_inv (fun fu (x : Mem × Int32) (_ : Nat) => pX11_ways_95 F v fu x.1 x.2) (fun x w => agW ρ x.1 ∧ (w < nways G → RW x.1 G w) ∧ mi x.1 0 11 = nI (wonR G w) ∧ mi x.1 0 12 = nI (fewR G w) ∧ x.2 = if w < nways G then 1 else 0) (nways G) (fun y => ∃ ρ1, agW ρ ρ1 ∧ RG ρ1 1 G ∧ y = some (if v = 1 then nI (wonR G (nways G)) else nI (fewR G (nways G)), ρ1)) (fun fu s hS => ?_) (fun fu s w hwl hS => ?_) F (ρ, 1) 0 (Nat.zero_le _) (by omega) ⟨agW_rfl, fun _ => hR, z11, z12, by rw [if_pos hWp]⟩
  · obtain ⟨b1, -, b3, b4, b5⟩ := hS
    rw [if_neg (Nat.lt_irrefl _)] at b5
    have hR4 : RG s.1 4 G := by
      have e : ∀ i, mi s.1 4 i = mi ρ 4 i := fun i => congrFun (b1.1 4 (by decide) (by decide)).1 i
      exact ⟨(e _).trans h4.1, fun p hp => (e _).trans (h4.h hp), fun p hp => (e _).trans (h4.s hp), fun p hp σ hs => (e _).trans (h4.t hp hs)⟩
    have e1 := rX_copies (r1 := 4) (r2 := 1) (F := F) (ρ := s.1) (by decide) rfl rfl (by omega)
    have hz : ∀ f : Nat → Int32, ∀ i, mi (setIA s.1 1 f) 0 i = mi s.1 0 i := fun f i => by rw [mi_setIA, if_neg (by decide)]
    refine ⟨_, agW_trans b1 (agW_of (agr_setIA (Or.inl rfl))), RG_copied (r2 := 1) hR4 hw, ?_⟩
    show pX11_ways_95 F v (fu + 1) s.1 s.2 = _
    rw [pX11_ways_95, b5]
    unfold pX11_ways_178
    rw [if_pos rfl, e1, Option.bind_some, hz, hz, b3, b4]
    by_cases y : v = 1
    · rw [if_pos y, if_pos y]
    · rw [if_neg y, if_neg y]
  · obtain ⟨b1, b2, b3, b4, b5⟩ := hS
    rw [if_pos hwl] at b5
    have hR1 := b2 hwl
    have hdg : ∀ j, j < bs G (Gn G) → dLE (fS G) w j < fS G j := fun j hj => Nat.mod_lt _ (hfp j hj)
    obtain ⟨s1, c1, -, c3⟩ := rX_lostNow (F := F) (G := withT G (tb G (dLE (fS G) w))) hR1 (WF_tb hw hdg) (by omega)
    have hl : lW G (dLE (fS G) w) ≤ 4096 := lst_le (WF_tb hw hdg)
    have hfl : fewR G w ≤ 4096 := (mnF_le _ _).1
    have k0 : ∀ i, mi s1 0 i = mi s.1 0 i := fun i => agr_mi c1 (by unfold r56; omega) i
    obtain ⟨s2, es2⟩ : ∃ s2, s2 = setI (setI s1 0 11 (nI (wonR G (w + 1)))) 0 12 (nI (fewR G (w + 1))) := ⟨_, rfl⟩
    have a2 : agW s.1 s2 := by rw [es2]; exact agW_trans (agW_of (agr_mono c1 (fun k hk => by unfold r56 at hk; omega))) (agW_trans (agW_0 (Or.inl rfl)) (agW_0 (Or.inr rfl)))
    have hR2 : RW s2 G w := by rw [es2]; exact RG_0 (RG_0 (RG.agr hR1 c1 (by unfold r56; omega)) (by decide)) (by decide)
    obtain ⟨s3, d1, d2, -, d4⟩ := rX_nextWay (F := F) hR2 hw (by omega) (by rw [← nways_S]; exact hwl)
    rw [← nways_S] at d2 d4
    have k3 : ∀ i, mi s3 0 i = mi s2 0 i := fun i => agr_mi d1 (by omega) i
    refine ⟨(s3, if w + 1 < nways G then 1 else 0), ⟨agW_trans b1 (agW_trans a2 (agW_of (agr_mono d1 (fun k hk => Or.inl hk)))), d2, ?_, ?_, rfl⟩, ?_⟩
    · show mi s3 0 11 = _
      rw [k3, es2, mi_setI, if_neg (by omega), mi_setI, if_pos ⟨rfl, rfl⟩]
    · show mi s3 0 12 = _
      rw [k3, es2, mi_setI, if_pos ⟨rfl, rfl⟩]
    · have ew : wonR G (w + 1) = wonR G w + if lW G (dLE (fS G) w) = 0 then 1 else 0 := rfl
      have ef : fewR G (w + 1) = if lW G (dLE (fS G) w) < fewR G w then lW G (dLE (fS G) w) else fewR G w := rfl
      have hc3 : pX11_lostNow F s.1 = some (nI (lW G (dLE (fS G) w)), s1) := c3
      show pX11_ways_95 F v (fu + 1) s.1 s.2 = pX11_ways_95 F v fu s3 (if w + 1 < nways G then 1 else 0)
      rw [pX11_ways_95, b5, if_neg (by decide), hc3, Option.bind_some]
      unfold pX11_ways_118 pX11_ways_139
      have zn : (nI (lW G (dLE (fS G) w)) = 0) = (lW G (dLE (fS G) w) = 0) := n_eq (a := lW G (dLE (fS G) w)) (b := 0) (by omega) (by decide)
      have ln : (nI (lW G (dLE (fS G) w)) < nI (fewR G w)) = (lW G (dLE (fS G) w) < fewR G w) := n_lt (by omega) (by omega)
      have fin : ∀ x : Int32, x = nI (wonR G (w + 1)) → (nm (setI s1 0 11 x) fun κ10 => if nI (lW G (dLE (fS G) w)) < (mi κ10 0 12) then nm (setI κ10 0 12 (nI (lW G (dLE (fS G) w)))) fun κ11 => (pX11_nextWay F κ11).bind fun t12 => pX11_ways_95 F v fu t12.2 t12.1 else nm (setI κ10 0 12 (mi κ10 0 12)) fun κ11 => (pX11_nextWay F κ11).bind fun t12 => pX11_ways_95 F v fu t12.2 t12.1) = pX11_ways_95 F v fu s3 (if w + 1 < nways G then 1 else 0) := fun x hx => by
        have e12 : mi (setI s1 0 11 (nI (wonR G (w + 1)))) 0 12 = nI (fewR G w) := by rw [mi_setI, if_neg (by omega), k0, b4]
        rw [hx]
        simp only [nm_def, e12, ln]
        by_cases y : lW G (dLE (fS G) w) < fewR G w
        · rw [if_pos y]
          rw [if_pos y] at ef
          rw [← ef, ← es2, d4]
          rfl
        · rw [if_neg y]
          rw [if_neg y] at ef
          rw [← ef, ← es2, d4]
          rfl
      have e11 : mi s1 0 11 = nI (wonR G w) := by rw [k0, b3]
      simp only [zn]
      by_cases y : lW G (dLE (fS G) w) = 0
      · rw [if_pos y]
        refine fin _ ?_
        rw [if_pos y] at ew
        show mi s1 0 11 + 1 = _
        rw [e11, ew]
        exact n_add _ 1
      · rw [if_neg y]
        refine fin _ ?_
        rw [if_neg y] at ew
        show mi s1 0 11 + 0 = _
        rw [e11, ew]
        exact n_add _ 0
end WM
