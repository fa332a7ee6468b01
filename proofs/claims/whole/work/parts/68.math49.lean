/-! RENUMBERINGS COUNTED: the reference; the call -/
section RHR
variable {ρ ρ1 ρ2 : Mem} {G : Gm} {F p q : Nat} {f : Nat → Nat} {k : Bool}
def agN (ρ ρ1 : Mem) : Prop := (∀ k, k ≠ 0 → ¬ (k = 9 ∨ r579 k) → ρ1.1 k = ρ.1 k ∧ ρ1.2.1 k = ρ.2.1 k ∧ ρ1.2.2 k = ρ.2.2 k) ∧ ∀ i, i ≠ 14 → i ≠ 15 → mi ρ1 0 i = mi ρ 0 i
theorem agN_rfl : agN ρ ρ := ⟨fun _ _ _ => ⟨rfl, rfl, rfl⟩, fun _ _ _ => rfl⟩
theorem agN_trans (h : agN ρ ρ1) (h2 : agN ρ1 ρ2) : agN ρ ρ2 := ⟨fun k h0 hk => ⟨(h2.1 k h0 hk).1.trans (h.1 k h0 hk).1, (h2.1 k h0 hk).2.1.trans (h.1 k h0 hk).2.1, (h2.1 k h0 hk).2.2.trans (h.1 k h0 hk).2.2⟩, fun i h1 h3 => (h2.2 i h1 h3).trans (h.2 i h1 h3)⟩
theorem agN_of (h : agr (fun k => k = 9 ∨ r579 k) ρ ρ1) : agN ρ ρ1 := ⟨fun k _ hk => h k hk, fun i _ _ => agr_mi h (by unfold r579; omega) i⟩
theorem agN_0 {i : Nat} {x : Int32} (h : i = 14 ∨ i = 15) : agN ρ (setI ρ 0 i x) := ⟨fun k hk _ => ⟨by simp [setI, hk], rfl, rfl⟩, fun j h1 h2 => by rw [mi_setI, if_neg (by omega)]⟩
theorem agN_agR (h : agN ρ ρ1) : agR ρ ρ1 := ⟨fun k h0 hk => h.1 k h0 (fun z => hk (by unfold scR; unfold r579 at z; omega)), fun i hi => h.2 i (by omega) (by omega)⟩
theorem agN_RG (h : RG ρ 1 G) (ha : agN ρ ρ1) : RG ρ1 1 G := by
  have e : ∀ i, mi ρ1 1 i = mi ρ 1 i := fun i => congrFun (ha.1 1 (by decide) (by unfold r579; omega)).1 i
  exact ⟨(e _).trans h.1, fun p hp => (e _).trans (h.h hp), fun p hp => (e _).trans (h.s hp), fun p hp σ hs => (e _).trans (h.t hp hs)⟩
theorem usd_upd {v k j : Nat} (f : Nat → Nat) : usd (updN f v k) (v + 1) j = (usd f v j || decide (k = j)) := by
  refine bool_iff ?_
  rw [usd_iff, Bool.or_eq_true, usd_iff]
  constructor
  · rintro ⟨i, h1, h2⟩
    unfold updN at h2
    by_cases z : i = v
    · rw [if_pos z] at h2
      exact Or.inr (decide_eq_true h2)
    · rw [if_neg z] at h2
      exact Or.inl ⟨i, by omega, h2⟩
  · rintro (⟨i, h1, h2⟩ | h)
    · exact ⟨i, by omega, by unfold updN; rw [if_neg (by omega)]; exact h2⟩
    · exact ⟨v, by omega, by unfold updN; rw [if_pos rfl]; exact of_decide_eq_true h⟩
theorem rX_renumbers (hw : WF G) (hF : 50000 < F) : ∀ d, d ≤ Gn G → ∀ (D : Nat) (ρ : Mem) (f : Nat → Nat) (u : Nat), d < D → RG ρ 1 G → (∀ i, i < Gn G - d → mi ρ 9 i = nI (f i)) → PJ (Gn G) (Gn G - d) f → u < 64 → (∀ k, u.testBit k = usd f (Gn G - d) k) → ∃ ρ1, agN ρ ρ1 ∧ (∀ i, i < Gn G - d → mi ρ1 9 i = nI (f i)) ∧ mi ρ1 0 14 = mi ρ 0 14 + nI (NN (Gn G) (Qk G false) d f) ∧ mi ρ1 0 15 = mi ρ 0 15 + nI (NN (Gn G) (Qk G true) d f) ∧ pX11_renumbers F D ρ (nI (Gn G - d)) (nI u) = some ρ1 := by
  have hn := hw.n6
  intro d
  induction d with
  | zero =>
    intro _ D ρ f u hD hR hI hJ hu hb
    obtain ⟨D, rfl⟩ : ∃ D', D = D' + 1 := ⟨D - 1, by omega⟩
    rw [Nat.sub_zero] at hI hJ ⊢
    have hPI : PI (Gn G) f := hJ
    have e1 := rX_isRenumbering (F := F) hR hw (by omega) hI hPI.1
    have eF : NN (Gn G) (Qk G false) 0 f = (fitB G f).toNat := by
      rw [NN]
      unfold Qk
      cases fitB G f <;> rfl
    have eT : NN (Gn G) (Qk G true) 0 f = (fitB G f && keepA G f).toNat := by
      rw [NN]
      unfold Qk
      cases fitB G f <;> cases keepA G f <;> rfl
    rw [eF, eT, pX11_renumbers]
    unfold pX11_renumbers_b
    rw [rX_players hR]
    unfold pX11_renumbers_43
    simp (disch := omega) only [n_0, n_1, n_2, n_3, n_4, n_5, n_6, n_7, n_8, n_9, n_10, n_12, n_13, n_14, n_20, n_31, n_32, n_63, n_64, n_600, n_1024, n_4096, n_6157, n_add, n_mul, nm_def, Option.bind_some, Option.some.injEq, ck_in, ck_nz, ck_p, n_cl, n_lt, n_le, n_eq, n_div, n_rem, if_pos, if_neg, if_true, if_false, eq_self, n_192, n_256, n_20000, m1_n0, m1_np, m1_n0p, m1_lt0, m1_lt0p, mi_setIA, mi_setI, ml_setIA, ml_setI, mr_setI, mr_setIA, e1]
    cases hf : fitB G f
    · refine ⟨ρ, agN_rfl, hI, ?_, ?_, ?_⟩
      · exact (Int32.add_zero _).symm
      · exact (Int32.add_zero _).symm
      · simp (disch := omega) only [n_0, n_1, n_2, n_3, n_4, n_5, n_6, n_7, n_8, n_9, n_10, n_12, n_13, n_14, n_20, n_31, n_32, n_63, n_64, n_600, n_1024, n_4096, n_6157, n_add, n_mul, nm_def, Option.bind_some, Option.some.injEq, ck_in, ck_nz, ck_p, n_cl, n_lt, n_le, n_eq, n_div, n_rem, if_pos, if_neg, if_true, if_false, eq_self, n_192, n_256, n_20000, m1_n0, m1_np, m1_n0p, m1_lt0, m1_lt0p, mi_setIA, mi_setI, ml_setIA, ml_setI, mr_setI, mr_setIA, Bool.toNat_false]
    · obtain ⟨ψ, hP⟩ := PI_Pm hPI
      have a0 : agN ρ (setI ρ 0 14 (mi ρ 0 14 + nI 1)) := agN_0 (Or.inl rfl)
      obtain ⟨ρ2, b1, b2⟩ := rX_isKeeping (F := F) (agN_RG hR a0) hw (by omega) (show IM9 (setI ρ 0 14 (mi ρ 0 14 + nI 1)) G f from fun i hi => by rw [mi_setI, if_neg (by omega)]; exact hI i hi) hf hP
      have g0 : ∀ i, mi ρ2 0 i = mi (setI ρ 0 14 (mi ρ 0 14 + nI 1)) 0 i := fun i => agr_mi b1 (by unfold r579; omega) i
      have g9 : ∀ i, mi ρ2 9 i = mi ρ 9 i := fun i => (agr_mi b1 (by unfold r579; omega) i).trans (by rw [mi_setI, if_neg (by omega)])
      refine ⟨setI ρ2 0 15 (mi ρ 0 15 + nI (keepA G f).toNat), agN_trans a0 (agN_trans (agN_of (agr_mono b1 (fun k hk => Or.inr hk))) (agN_0 (Or.inr rfl))), fun i hi => ?_, ?_, ?_, ?_⟩
      · rw [mi_setI, if_neg (by omega), g9]
        exact hI i hi
      · rw [mi_setI, if_neg (by omega), g0, mi_setI, if_pos ⟨rfl, rfl⟩]
        rfl
      · rw [mi_setI, if_pos ⟨rfl, rfl⟩, Bool.true_and]
      · simp (disch := omega) only [n_0, n_1, n_2, n_3, n_4, n_5, n_6, n_7, n_8, n_9, n_10, n_12, n_13, n_14, n_20, n_31, n_32, n_63, n_64, n_600, n_1024, n_4096, n_6157, n_add, n_mul, nm_def, Option.bind_some, Option.some.injEq, ck_in, ck_nz, ck_p, n_cl, n_lt, n_le, n_eq, n_div, n_rem, if_pos, if_neg, if_true, if_false, eq_self, n_192, n_256, n_20000, m1_n0, m1_np, m1_n0p, m1_lt0, m1_lt0p, mi_setIA, mi_setI, ml_setIA, ml_setI, mr_setI, mr_setIA, Bool.toNat_true, b2]
        cases keepA G f
        · simp (disch := omega) only [n_0, n_1, n_2, n_3, n_4, n_5, n_6, n_7, n_8, n_9, n_10, n_12, n_13, n_14, n_20, n_31, n_32, n_63, n_64, n_600, n_1024, n_4096, n_6157, n_add, n_mul, nm_def, Option.bind_some, Option.some.injEq, ck_in, ck_nz, ck_p, n_cl, n_lt, n_le, n_eq, n_div, n_rem, if_pos, if_neg, if_true, if_false, eq_self, n_192, n_256, n_20000, m1_n0, m1_np, m1_n0p, m1_lt0, m1_lt0p, mi_setIA, mi_setI, ml_setIA, ml_setI, mr_setI, mr_setIA, Bool.toNat_false]
        · simp (disch := omega) only [n_0, n_1, n_2, n_3, n_4, n_5, n_6, n_7, n_8, n_9, n_10, n_12, n_13, n_14, n_20, n_31, n_32, n_63, n_64, n_600, n_1024, n_4096, n_6157, n_add, n_mul, nm_def, Option.bind_some, Option.some.injEq, ck_in, ck_nz, ck_p, n_cl, n_lt, n_le, n_eq, n_div, n_rem, if_pos, if_neg, if_true, if_false, eq_self, n_192, n_256, n_20000, m1_n0, m1_np, m1_n0p, m1_lt0, m1_lt0p, mi_setIA, mi_setI, ml_setIA, ml_setI, mr_setI, mr_setIA, Bool.toNat_true]
  | succ d ih =>
    intro hd D ρ f u hD hR hI hJ hu hb
    obtain ⟨D, rfl⟩ : ∃ D', D = D' + 1 := ⟨D - 1, by omega⟩
    obtain ⟨v, ev⟩ : ∃ v, v = Gn G - (d + 1) := ⟨_, rfl⟩
    rw [← ev] at hI hJ hb ⊢
    have ev1 : Gn G - d = v + 1 := by omega
    have hv6 : v < 6 := by omega
    rw [ev1] at ih
    rw [pX11_renumbers]
    unfold pX11_renumbers_b
    rw [rX_players hR]
    simp (disch := omega) only [n_0, n_1, n_2, n_3, n_4, n_5, n_6, n_7, n_8, n_9, n_10, n_12, n_13, n_14, n_20, n_31, n_32, n_63, n_64, n_600, n_1024, n_4096, n_6157, n_add, n_mul, nm_def, Option.bind_some, Option.some.injEq, ck_in, ck_nz, ck_p, n_cl, n_lt, n_le, n_eq, n_div, n_rem, if_pos, if_neg, if_true, if_false, eq_self, n_192, n_256, n_20000, m1_n0, m1_np, m1_n0p, m1_lt0, m1_lt0p, mi_setIA, mi_setI, ml_setIA, ml_setI, mr_setI, mr_setIA, show ¬ v = Gn G by omega]
    obtain ⟨fN, efN⟩ : ∃ fN : Bool → Nat → Nat, fN = fun k j => if usd f v j then 0 else NN (Gn G) (Qk G k) d (updN f v j) := ⟨_, rfl⟩
    have eN : ∀ k, NN (Gn G) (Qk G k) (d + 1) f = sm (fN k) (Gn G) := fun k => by rw [NN, efN, ev]
    rw [eN, eN]
    refine lp_inv (fun fu (s : Mem) j => pX11_renumbers_50 F (pX11_renumbers F D) (nI v) (nI u) fu s (nI j)) (fun s j => agN ρ s ∧ (∀ i, i < v → mi s 9 i = nI (f i)) ∧ mi s 0 14 = mi ρ 0 14 + nI (sm (fN false) j) ∧ mi s 0 15 = mi ρ 0 15 + nI (sm (fN true) j)) (Gn G) (fun y => ∃ ρ1, agN ρ ρ1 ∧ (∀ i, i < v → mi ρ1 9 i = nI (f i)) ∧ mi ρ1 0 14 = mi ρ 0 14 + nI (sm (fN false) (Gn G)) ∧ mi ρ1 0 15 = mi ρ 0 15 + nI (sm (fN true) (Gn G)) ∧ y = some ρ1) (fun fu s hS => ?_) (fun fu s j hj hS => ?_) F ρ 0 (Nat.zero_le _) (by omega) ⟨agN_rfl, hI, (Int32.add_zero _).symm, (Int32.add_zero _).symm⟩
    · obtain ⟨b1, b2, b3, b4⟩ := hS
      refine ⟨s, b1, b2, b3, b4, ?_⟩
      show pX11_renumbers_50 F (pX11_renumbers F D) (nI v) (nI u) (fu + 1) s (nI (Gn G)) = _
      rw [pX11_renumbers_50, rX_players (agN_RG hR b1)]
      simp (disch := omega) only [n_0, n_1, n_2, n_3, n_4, n_5, n_6, n_7, n_8, n_9, n_10, n_12, n_13, n_14, n_20, n_31, n_32, n_63, n_64, n_600, n_1024, n_4096, n_6157, n_add, n_mul, nm_def, Option.bind_some, Option.some.injEq, ck_in, ck_nz, ck_p, n_cl, n_lt, n_le, n_eq, n_div, n_rem, if_pos, if_neg, if_true, if_false, eq_self, n_192, n_256, n_20000, m1_n0, m1_np, m1_n0p, m1_lt0, m1_lt0p, mi_setIA, mi_setI, ml_setIA, ml_setI, mr_setI, mr_setIA]
    · obtain ⟨b1, b2, b3, b4⟩ := hS
      have hR2 := agN_RG hR b1
      have eF : ∀ k, sm (fN k) (j + 1) = sm (fN k) j + fN k j := fun k => rfl
      cases hc : usd f v j
      · have a0 : agN s (setI s 9 v (nI j)) := agN_of (agr_setI (Or.inl rfl))
        obtain ⟨ρ1, c1, c2, c3, c4, c5⟩ := ih (by omega) D (setI s 9 v (nI j)) (updN f v j) (u ||| 2 ^ j) (by omega) (agN_RG hR2 a0) (fun i hi => by
          unfold updN
          rw [mi_setI]
          by_cases z : i = v
          · rw [if_pos ⟨rfl, z⟩, if_pos z]
          · rw [if_neg (fun w => z w.2), if_neg z]
            exact b2 i (by omega)) (PJ_upd hJ hj hc) (Nat.or_lt_two_pow (n := 6) hu (Nat.pow_lt_pow_right (by decide) (by omega))) (fun k => by
          rw [usd_upd, Nat.testBit_or, hb k, Nat.testBit_two_pow])
        have eff : ∀ k, fN k j = NN (Gn G) (Qk G k) d (updN f v j) := fun k => by
          rw [efN]
          show (if usd f v j = true then 0 else _) = _
          rw [hc, if_neg (by decide)]
        refine ⟨ρ1, ⟨agN_trans b1 (agN_trans a0 c1), fun i hi => ?_, ?_, ?_⟩, ?_⟩
        · rw [c2 i (by omega)]
          unfold updN
          rw [if_neg (by omega)]
        · rw [c3, mi_setI, if_neg (by omega), b3, eF, eff, ← n_add, Int32.add_assoc]
        · rw [c4, mi_setI, if_neg (by omega), b4, eF, eff, ← n_add, Int32.add_assoc]
        · show pX11_renumbers_50 F (pX11_renumbers F D) (nI v) (nI u) (fu + 1) s (nI j) = pX11_renumbers_50 F (pX11_renumbers F D) (nI v) (nI u) fu ρ1 (nI (j + 1))
          rw [pX11_renumbers_50, rX_players hR2]
          unfold pX11_renumbers_88
          simp (disch := omega) only [n_0, n_1, n_2, n_3, n_4, n_5, n_6, n_7, n_8, n_9, n_10, n_12, n_13, n_14, n_20, n_31, n_32, n_63, n_64, n_600, n_1024, n_4096, n_6157, n_add, n_mul, nm_def, Option.bind_some, Option.some.injEq, ck_in, ck_nz, ck_p, n_cl, n_lt, n_le, n_eq, n_div, n_rem, if_pos, if_neg, if_true, if_false, eq_self, n_192, n_256, n_20000, m1_n0, m1_np, m1_n0p, m1_lt0, m1_lt0p, mi_setIA, mi_setI, ml_setIA, ml_setI, mr_setI, mr_setIA, rX_has (ρ := s) (a := u) (k := j) (by omega) (by omega), hb, hc, Bool.toNat_false, n_shl1, n_or, c5]
      · have eff : ∀ k, fN k j = 0 := fun k => by
          rw [efN]
          show (if usd f v j = true then 0 else _) = _
          rw [hc, if_pos rfl]
        refine ⟨s, ⟨b1, b2, ?_, ?_⟩, ?_⟩
        · rw [eF, eff, Nat.add_zero]; exact b3
        · rw [eF, eff, Nat.add_zero]; exact b4
        · show pX11_renumbers_50 F (pX11_renumbers F D) (nI v) (nI u) (fu + 1) s (nI j) = pX11_renumbers_50 F (pX11_renumbers F D) (nI v) (nI u) fu s (nI (j + 1))
          rw [pX11_renumbers_50, rX_players hR2]
          unfold pX11_renumbers_88
          simp (disch := omega) only [n_0, n_1, n_2, n_3, n_4, n_5, n_6, n_7, n_8, n_9, n_10, n_12, n_13, n_14, n_20, n_31, n_32, n_63, n_64, n_600, n_1024, n_4096, n_6157, n_add, n_mul, nm_def, Option.bind_some, Option.some.injEq, ck_in, ck_nz, ck_p, n_cl, n_lt, n_le, n_eq, n_div, n_rem, if_pos, if_neg, if_true, if_false, eq_self, n_192, n_256, n_20000, m1_n0, m1_np, m1_n0p, m1_lt0, m1_lt0p, mi_setIA, mi_setI, ml_setIA, ml_setI, mr_setI, mr_setIA, rX_has (ρ := s) (a := u) (k := j) (by omega) (by omega), hb, hc, Bool.toNat_true]
end RHR
section CH
variable {κ κ1 ρ ρ1 : Mem} {G : Gm} {H : Nat → Gm} {m F p q : Nat}
theorem res_okR {v : Int32} (h : IV G H m κ ρ) (hx : agr scX κ κ1) (hr : agR ρ ρ1) (h0 : mi ρ1 0 0 = 0) : Res (some (v, setI κ1 0 12 0)) (some (v, ρ1)) := by
  refine ⟨v, _, _, ⟨G, H, m, h.fr (agX_trans (agX_of hx (fun _ z => z)) (agX_0 (by omega))) hr ?_⟩, rfl, rfl⟩
  rw [mi_setI, if_pos ⟨rfl, rfl⟩, h0]
theorem c_renumber (h : IV G H m κ ρ) (hF : 50000 < F) (a : Int32) : Res (pX10_renumber F κ a) (pX11_renumber F ρ a) := by
  have hw := h.W
  have hn := hw.n6
  unfold pX10_renumber pX11_renumber pX11_renumber_16 pX10_renumber_9 pX10_renumber_30 pX11_renumber_55
  rw [gd (c := 1) (k := 1) rfl (by decide), rX_inc ρ a (hi := 1) (by decide) (by decide)]
  by_cases d : ag a ≤ 1
  · obtain ⟨w, hw2, rfl⟩ := plc (n := 2) (a := a) (by omega) (by decide)
    rw [if_pos d, decide_eq_true d]
    obtain ⟨s0, es0⟩ : ∃ s0, s0 = setI (setI (st0 ρ 0) 0 14 0) 0 15 0 := ⟨_, rfl⟩
    have a0 : agN (st0 ρ 0) s0 := by rw [es0]; exact agN_trans (agN_0 (Or.inl rfl)) (agN_0 (Or.inr rfl))
    obtain ⟨ρ1, b1, -, b3, b4, b5⟩ := rX_renumbers (G := G) (F := F) hw hF (Gn G) (Nat.le_refl _) 8 s0 (fun i => i) 0 (by omega) (agN_RG (R0 h (k := 0)) a0) (fun i hi => by omega) ⟨fun i hi => by omega, fun i j hi => by omega⟩ (by decide) (fun k => by
      rw [Nat.sub_self]
      exact Nat.zero_testBit k)
    rw [Nat.sub_self] at b5
    have z14 : mi s0 0 14 = 0 := by rw [es0, mi_setI, if_neg (by omega), mi_setI, if_pos ⟨rfl, rfl⟩]
    have z15 : mi s0 0 15 = 0 := by rw [es0, mi_setI, if_pos ⟨rfl, rfl⟩]
    rw [z14, Int32.zero_add, NN_all (GQ_Qk hw false)] at b3
    rw [z15, Int32.zero_add, NN_all (GQ_Qk hw true)] at b4
    have q1 : agR ρ ρ1 := agR_trans agR_st0 (agN_agR (agN_trans a0 b1))
    have q2 : mi ρ1 0 0 = 0 := by rw [(agN_trans a0 b1).2 0 (by decide) (by decide)]; exact st0_0
    have key : ∀ k : Bool, Res ((pX7_howMany F κ (nI k.toNat)).bind fun t2 => (pX10_give t2.2 t2.1).bind fun t3 => some (t3.1, t3.2)) (some (nI (pl (Gn G) (Qk G k) (Gn G)), ρ1)) := fun k => by
      obtain ⟨κ1, c1, c2⟩ := sX7_howMany (F := F) (k := k) h.A.1 hw (by omega)
      rw [c2]
      exact res_okR h (agr_mono c1 (fun k hk => by unfold scX; omega)) q1 q2
    simp only [x_give, x_refuse, rX_refuse, rX_is0, rX_is1, rX_is2, rX_is3, rX_is4, rX_is5, rX_is7, nBt, nBf, o10, Bool.not_true, Bool.not_false, if_true, if_false, eq_self, Option.bind_some]
    rw [nm_def, nm_def, ← es0, show pX11_renumbers F 8 s0 0 0 = some ρ1 from b5, Option.bind_some]
    rcases (show w = 0 ∨ w = 1 by omega) with z | z
    · subst z
      rw [if_neg (show ¬ nI 0 = 1 by decide), if_pos (show nI 0 = 0 from rfl), b3]
      exact key false
    · subst z
      rw [if_pos (show nI 1 = 1 from rfl), if_neg (show ¬ nI 1 = 0 by decide), b4]
      exact key true
  · rw [if_neg d, decide_eq_false d]
    simp only [x_give, x_refuse, rX_refuse, rX_is0, rX_is1, rX_is2, rX_is3, rX_is4, rX_is5, rX_is7, nBt, nBf, o10, Bool.not_true, Bool.not_false, if_true, if_false, eq_self, Option.bind_some]
    exact res_no h agr_rfl agr_rfl
end CH
