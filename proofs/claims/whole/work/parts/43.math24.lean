/-! NETWORKS: sights, links, who is reached -/
theorem cnt_cut {f : Nat → Bool} {n : Nat} : ∀ {m : Nat}, n ≤ m → (∀ i, n ≤ i → i < m → f i = false) → cnt f m = cnt f n
  | 0, h, _ => by rw [show n = 0 by omega]
  | m + 1, h, hf => by
    rcases Nat.eq_or_lt_of_le h with z | z
    · rw [z]
    · rw [cnt_s, hf m (by omega) (by omega), cnt_cut (m := m) (by omega) (fun i h1 h2 => hf i h1 (by omega))]
      rfl
theorem sm_le_eq {f g : Nat → Nat} : ∀ {n : Nat}, (∀ i, i < n → f i ≤ g i) → sm f n = sm g n → ∀ i, i < n → f i = g i
  | 0, _, _, i, hi => by omega
  | n + 1, h, he, i, hi => by
    rw [sm, sm] at he
    have h1 := sm_le (f := f) (g := g) (n := n) (fun i hi => h i (by omega))
    have h2 := h n (by omega)
    rcases Nat.lt_succ_iff_lt_or_eq.mp hi with z | z
    · exact sm_le_eq (fun i hi => h i (by omega)) (by omega) i z
    · subst z; omega
theorem cnt_le_eq {p q : Nat → Bool} : ∀ {n : Nat}, (∀ i, i < n → p i = true → q i = true) → cnt p n = cnt q n → ∀ i, i < n → q i = true → p i = true
  | 0, _, _, i, hi, _ => by omega
  | n + 1, h, he, i, hi, hq => by
    rw [cnt_s, cnt_s] at he
    have h1 := cnt_mono (p := p) (q := q) (n := n) (fun i hi => h i (by omega))
    have h2 : (p n).toNat ≤ (q n).toNat := by
      cases hp : p n
      · exact Nat.zero_le _
      · rw [h n (by omega) hp]; exact Nat.le_refl _
    rcases Nat.lt_succ_iff_lt_or_eq.mp hi with z | z
    · exact cnt_le_eq (fun i hi => h i (by omega)) (by omega) i z hq
    · subst z
      cases hp : p i
      · rw [hp, hq] at he; simp at he; omega
      · rfl
/-- pairs told from both ends -/
theorem sm_pairs (R : Nat → Nat → Bool) (hs : ∀ p q, R p q = R q p) : ∀ n, (∀ p, p < n → R p p = false) → sm (fun p => cnt (R p) n) n = 2 * sm (fun p => cnt (R p) p) n
  | 0, _ => rfl
  | n + 1, h => by
    have ih := sm_pairs R hs n (fun p hp => h p (by omega))
    have e1 : sm (fun p => cnt (R p) (n + 1)) n = sm (fun p => cnt (R p) n) n + cnt (R n) n := by
      rw [sm_congr (g := fun p => cnt (R p) n + (R n p).toNat) (fun p _ => by rw [cnt_s, hs p n]), sm_add, ← cnt_sm]
    rw [sm, e1, ih, sm, cnt_s, h n (by omega)]
    simp only [Bool.toNat_false]
    omega
section NX
variable {κ ρ : Mem} {G : Gm} {F p q u r : Nat}
def sgt (G : Gm) : Nat := sm (fun p => pc (Gs G p)) (Gn G)
def lks (G : Gm) : Nat := sm (fun p => cnt (lk G p) p) (Gn G)
def mtl (G : Gm) : Bool := !exb (fun p => exb (fun q => decide (sees G p q ≠ sees G q p)) (Gn G)) (Gn G)
theorem pc_see (hw : WF G) (hp : p < Gn G) : pc (Gs G p) = cnt (sees G p) (Gn G) := by
  unfold pc
  exact cnt_cut hw.n6 (fun i h1 _ => by
    cases c : sees G p i
    · exact c
    · have := hw.see_lt hp c; omega)
theorem pc_lkd (hw : WF G) (hp : p < Gn G) : pc (lkd G p) = cnt (lk G p) (Gn G) := by
  unfold pc
  rw [cnt_congr (g := fun q => decide (q < Gn G) && lk G p q) (fun i _ => lkd_bit hw hp i), cnt_cut hw.n6 (fun i h1 _ => by simp; omega)]
  exact cnt_congr (fun i hi => by simp [hi])
theorem lks_2 (hw : WF G) : sm (fun p => pc (lkd G p)) (Gn G) = 2 * lks G := by
  unfold lks
  rw [← sm_pairs (lk G) lk_sym (Gn G) (fun p hp => lk_irr hw hp)]
  exact sm_congr (fun p hp => pc_lkd hw hp)
theorem mut_iff : mtl G = true ↔ ∀ p, p < Gn G → ∀ q, q < Gn G → sees G p q = sees G q p := by
  unfold mtl
  constructor
  · intro h p hp q hq
    by_cases c : sees G p q = sees G q p
    · exact c
    · have h1 : exb (fun q => decide (sees G p q ≠ sees G q p)) (Gn G) = true := (exb_iff _ _).mpr ⟨q, hq, by simpa using c⟩
      have h2 := (exb_iff (fun p => exb (fun q => decide (sees G p q ≠ sees G q p)) (Gn G)) (Gn G)).mpr ⟨p, hp, h1⟩
      rw [h2] at h; cases h
  · intro h
    cases c : exb (fun p => exb (fun q => decide (sees G p q ≠ sees G q p)) (Gn G)) (Gn G)
    · rfl
    · obtain ⟨p, hp, h1⟩ := (exb_iff _ _).mp c
      obtain ⟨q, hq, h2⟩ := (exb_iff _ _).mp h1
      exact absurd (h p hp q hq) (by simpa using h2)
theorem mut_sgt (hw : WF G) : decide (sgt G = 2 * lks G) = mtl G := by
  have e1 : sgt G = sm (fun p => cnt (sees G p) (Gn G)) (Gn G) := sm_congr (fun p hp => pc_see hw hp)
  have e2 : 2 * lks G = sm (fun p => cnt (lk G p) (Gn G)) (Gn G) := (sm_pairs (lk G) lk_sym (Gn G) (fun p hp => lk_irr hw hp)).symm
  have hl : ∀ p, p < Gn G → ∀ q, q < Gn G → lk G p q = true → sees G p q = true := fun p _ q _ h => by
    unfold lk at h; rw [Bool.and_eq_true] at h; exact h.1
  cases c : mtl G
  · refine decide_eq_false (fun he => ?_)
    rw [e1, e2] at he
    have h1 := sm_le_eq (f := fun p => cnt (lk G p) (Gn G)) (g := fun p => cnt (sees G p) (Gn G)) (fun p hp => cnt_mono (fun q hq h => hl p hp q hq h)) he.symm
    have h2 : mtl G = true := mut_iff.mpr (fun p hp q hq => by
      have a := cnt_le_eq (p := lk G p) (q := sees G p) (fun q hq h => hl p hp q hq h) (h1 p hp) q hq
      have b := cnt_le_eq (p := lk G q) (q := sees G q) (fun p hp h => hl q hq p hp h) (h1 q hq) p hp
      cases d : sees G p q
      · cases e : sees G q p
        · rfl
        · have := b e
          unfold lk at this
          rw [d, Bool.and_false] at this; cases this
      · have := a d
        unfold lk at this
        rw [Bool.and_eq_true] at this
        exact this.2.symm)
    rw [c] at h2; cases h2
  · refine decide_eq_true ?_
    rw [e1, e2]
    refine sm_congr (fun p hp => cnt_congr (fun q hq => ?_))
    unfold lk
    rw [← mut_iff.mp c p hp q hq, Bool.and_self]
theorem mut_lkd (hw : WF G) (hm : mtl G = true) (hp : p < Gn G) : lkd G p = Gs G p := by
  refine eq64 _ (lkd_64 hw hp) _ (hw.s64 hp) (fun i _ => ?_)
  rw [lkd_bit hw hp]
  by_cases c : i < Gn G
  · unfold lk
    rw [← mut_iff.mp hm p hp i c, Bool.and_self]
    simp [c]
    rfl
  · have : (Gs G p).testBit i = false := by
      cases d : (Gs G p).testBit i
      · rfl
      · exact absurd (hw.see_lt hp d) c
    rw [this]
    simp [c]
theorem sgt_le (hw : WF G) : sgt G ≤ 36 := by
  have hn := hw.n6
  have h1 : sgt G ≤ sm (fun _ => 6) (Gn G) := sm_le (fun i _ => pc_le _)
  rw [sm_const] at h1
  have h2 : Gn G * 6 ≤ 6 * 6 := Nat.mul_le_mul_right 6 hn
  omega
theorem lks_le (hw : WF G) : 2 * lks G ≤ 36 := by
  have hn := hw.n6
  rw [← lks_2 hw]
  have h1 : sm (fun p => pc (lkd G p)) (Gn G) ≤ sm (fun _ => 6) (Gn G) := sm_le (fun i _ => pc_le _)
  rw [sm_const] at h1
  have h2 : Gn G * 6 ≤ 6 * 6 := Nat.mul_le_mul_right 6 hn
  omega
theorem sX4_sights (h : AR κ G) (hw : WF G) (hF : 100 < F) : pX4_sights F κ = some (nI (sgt G)) := by
  have hn := hw.n6
  unfold pX4_sights sgt
  refine lp_upE F (fun fu i => pX4_sights_4 F κ fu (nI (sm (fun p => pc (Gs G p)) i)) (nI i)) (0) (Gn G) _ _ rfl (fun fu => ?_) (fun fu i hi1 hi2 => ?_) (by omega) (by omega)
  · show pX4_sights_4 F κ (fu + 1) (nI (sm (fun p => pc (Gs G p)) (Gn G))) (nI (Gn G)) = _
    rw [pX4_sights_4, h.n]
    simp (disch := omega) only [n_0, n_1, n_2, n_3, n_4, n_5, n_6, n_7, n_8, n_9, n_10, n_12, n_13, n_14, n_20, n_31, n_32, n_63, n_64, n_600, n_1024, n_4096, n_6157, n_add, n_mul, nm_def, Option.bind_some, Option.some.injEq, ck_in, ck_nz, ck_p, n_cl, n_lt, n_le, n_eq, n_div, n_rem, if_pos, if_neg, if_true, if_false, eq_self, n_192, n_256, n_20000, m1_n0, m1_np, m1_n0p, m1_lt0, m1_lt0p, mi_setIA, mi_setI, ml_setIA, ml_setI, mr_setI, mr_setIA]
  · show pX4_sights_4 F κ (fu + 1) (nI (sm (fun p => pc (Gs G p)) i)) (nI i) = pX4_sights_4 F κ fu (nI (sm (fun p => pc (Gs G p)) (i + 1))) (nI (i + 1))
    rw [pX4_sights_4, h.n]
    simp (disch := omega) only [n_0, n_1, n_2, n_3, n_4, n_5, n_6, n_7, n_8, n_9, n_10, n_12, n_13, n_14, n_20, n_31, n_32, n_63, n_64, n_600, n_1024, n_4096, n_6157, n_add, n_mul, nm_def, Option.bind_some, Option.some.injEq, ck_in, ck_nz, ck_p, n_cl, n_lt, n_le, n_eq, n_div, n_rem, if_pos, if_neg, if_true, if_false, eq_self, n_192, n_256, n_20000, m1_n0, m1_np, m1_n0p, m1_lt0, m1_lt0p, mi_setIA, mi_setI, ml_setIA, ml_setI, mr_setI, mr_setIA, h.s hi2, sJ_bitCount κ (hw.s64 hi2), sm]
theorem sX4_linked (h : AR κ G) (hw : WF G) (hF : 100 < F) (hp : p < Gn G) : pX4_linked F κ (nI p) = some (nI (lkd G p)) := by
  have hn := hw.n6
  have hp6 := hw_lt hw hp
  unfold pX4_linked
  rw [sX2_seenBy h.1 hw (by omega) (by omega)]
  simp (disch := omega) only [n_0, n_1, n_2, n_3, n_4, n_5, n_6, n_7, n_8, n_9, n_10, n_12, n_13, n_14, n_20, n_31, n_32, n_63, n_64, n_600, n_1024, n_4096, n_6157, n_add, n_mul, nm_def, Option.bind_some, Option.some.injEq, ck_in, ck_nz, ck_p, n_cl, n_lt, n_le, n_eq, n_div, n_rem, if_pos, if_neg, if_true, if_false, eq_self, n_192, n_256, n_20000, m1_n0, m1_np, m1_n0p, m1_lt0, m1_lt0p, mi_setIA, mi_setI, ml_setIA, ml_setI, mr_setI, mr_setIA, h.s hp, n_and]
  rfl
theorem sX4_links (h : AR κ G) (hw : WF G) (hF : 100 < F) : pX4_links F κ = some (nI (lks G)) := by
  have hn := hw.n6
  have hl := lks_le hw
  unfold pX4_links
  refine lp_upE F (fun fu i => pX4_links_4 F κ fu (nI (sm (fun p => pc (lkd G p)) i)) (nI i)) (0) (Gn G) _ _ rfl (fun fu => ?_) (fun fu i hi1 hi2 => ?_) (by omega) (by omega)
  · show pX4_links_4 F κ (fu + 1) (nI (sm (fun p => pc (lkd G p)) (Gn G))) (nI (Gn G)) = _
    rw [pX4_links_4, h.n, lks_2 hw]
    simp (disch := omega) only [n_0, n_1, n_2, n_3, n_4, n_5, n_6, n_7, n_8, n_9, n_10, n_12, n_13, n_14, n_20, n_31, n_32, n_63, n_64, n_600, n_1024, n_4096, n_6157, n_add, n_mul, nm_def, Option.bind_some, Option.some.injEq, ck_in, ck_nz, ck_p, n_cl, n_lt, n_le, n_eq, n_div, n_rem, if_pos, if_neg, if_true, if_false, eq_self, n_192, n_256, n_20000, m1_n0, m1_np, m1_n0p, m1_lt0, m1_lt0p, mi_setIA, mi_setI, ml_setIA, ml_setI, mr_setI, mr_setIA]
    rw [Nat.mul_div_cancel_left _ (by decide)]
  · show pX4_links_4 F κ (fu + 1) (nI (sm (fun p => pc (lkd G p)) i)) (nI i) = pX4_links_4 F κ fu (nI (sm (fun p => pc (lkd G p)) (i + 1))) (nI (i + 1))
    rw [pX4_links_4, h.n, sX4_linked h hw hF hi2]
    simp (disch := omega) only [n_0, n_1, n_2, n_3, n_4, n_5, n_6, n_7, n_8, n_9, n_10, n_12, n_13, n_14, n_20, n_31, n_32, n_63, n_64, n_600, n_1024, n_4096, n_6157, n_add, n_mul, nm_def, Option.bind_some, Option.some.injEq, ck_in, ck_nz, ck_p, n_cl, n_lt, n_le, n_eq, n_div, n_rem, if_pos, if_neg, if_true, if_false, eq_self, n_192, n_256, n_20000, m1_n0, m1_np, m1_n0p, m1_lt0, m1_lt0p, mi_setIA, mi_setI, ml_setIA, ml_setI, mr_setI, mr_setIA, sJ_bitCount κ (lkd_64 hw hi2), sm]
theorem sX4_isMutual (h : AR κ G) (hw : WF G) (hF : 100 < F) : pX4_isMutual F κ = some (nI (mtl G).toNat) := by
  have hl := lks_le hw
  have hg := sgt_le hw
  unfold pX4_isMutual pX4_isMutual_18
  rw [sX4_sights h hw hF, sX4_links h hw hF, ← mut_sgt hw]
  simp (disch := omega) only [n_0, n_1, n_2, n_3, n_4, n_5, n_6, n_7, n_8, n_9, n_10, n_12, n_13, n_14, n_20, n_31, n_32, n_63, n_64, n_600, n_1024, n_4096, n_6157, n_add, n_mul, nm_def, Option.bind_some, Option.some.injEq, ck_in, ck_nz, ck_p, n_cl, n_lt, n_le, n_eq, n_div, n_rem, if_pos, if_neg, if_true, if_false, eq_self, n_192, n_256, n_20000, m1_n0, m1_np, m1_n0p, m1_lt0, m1_lt0p, mi_setIA, mi_setI, ml_setIA, ml_setI, mr_setI, mr_setIA]
  by_cases c : sgt G = 2 * lks G
  · rw [if_pos c, decide_eq_true c]; rfl
  · rw [if_neg c, decide_eq_false c]; rfl
theorem sX4_isAcyclic (h : AR κ G) (hw : WF G) (hF : 100 < F) : pX4_isAcyclic F κ = some (nI (acy G).toNat) := by
  have hn := hw.n6
  have h64 := pow_le_64 hn
  have hpos := Nat.two_pow_pos (Gn G)
  have hall : 2 ^ Gn G - 1 < 64 := by omega
  have e1 : acy G = decide (akO G (2 ^ Gn G - 1) (Gn G) = 0) := by
    have := acy_ok hw
    cases c : acy G
    · exact (decide_eq_false (fun z => by rw [this.mp z] at c; cases c)).symm
    · exact (decide_eq_true (this.mpr c)).symm
  unfold pX4_isAcyclic
  rw [sX4_every h hw, Option.bind_some, e1]
  refine lp_upE F (fun fu i => pX4_isAcyclic_7 F κ fu (nI (akO G (2 ^ Gn G - 1) i)) (nI i)) (0) (Gn G) _ _ rfl (fun fu => ?_) (fun fu i hi1 hi2 => ?_) (by omega) (by omega)
  · show pX4_isAcyclic_7 F κ (fu + 1) (nI (akO G (2 ^ Gn G - 1) (Gn G))) (nI (Gn G)) = _
    have h1 := akO_ok hw hall (Gn G)
    rw [pX4_isAcyclic_7, h.n]
    unfold pX4_isAcyclic_74
    simp (disch := omega) only [n_0, n_1, n_2, n_3, n_4, n_5, n_6, n_7, n_8, n_9, n_10, n_12, n_13, n_14, n_20, n_31, n_32, n_63, n_64, n_600, n_1024, n_4096, n_6157, n_add, n_mul, nm_def, Option.bind_some, Option.some.injEq, ck_in, ck_nz, ck_p, n_cl, n_lt, n_le, n_eq, n_div, n_rem, if_pos, if_neg, if_true, if_false, eq_self, n_192, n_256, n_20000, m1_n0, m1_np, m1_n0p, m1_lt0, m1_lt0p, mi_setIA, mi_setI, ml_setIA, ml_setI, mr_setI, mr_setIA]
    by_cases c : akO G (2 ^ Gn G - 1) (Gn G) = 0
    · rw [if_pos c, decide_eq_true c]; rfl
    · rw [if_neg c, decide_eq_false c]; rfl
  · show pX4_isAcyclic_7 F κ (fu + 1) (nI (akO G (2 ^ Gn G - 1) i)) (nI i) = pX4_isAcyclic_7 F κ fu (nI (akO G (2 ^ Gn G - 1) (i + 1))) (nI (i + 1))
    have h1 := akO_ok hw hall i
    rw [pX4_isAcyclic_7, h.n, akO]
    generalize akO G (2 ^ Gn G - 1) i = r at h1
    simp (disch := omega) only [n_0, n_1, n_2, n_3, n_4, n_5, n_6, n_7, n_8, n_9, n_10, n_12, n_13, n_14, n_20, n_31, n_32, n_63, n_64, n_600, n_1024, n_4096, n_6157, n_add, n_mul, nm_def, Option.bind_some, Option.some.injEq, ck_in, ck_nz, ck_p, n_cl, n_lt, n_le, n_eq, n_div, n_rem, if_pos, if_neg, if_true, if_false, eq_self, n_192, n_256, n_20000, m1_n0, m1_np, m1_n0p, m1_lt0, m1_lt0p, mi_setIA, mi_setI, ml_setIA, ml_setI, mr_setI, mr_setIA]
    rw [← n_add i 1]
    generalize pX4_isAcyclic_7 F κ fu = k7
    generalize nI i = vi
    clear hi1 hi2
    refine lp_upE F (fun fu i => pX4_isAcyclic_20 F κ k7 vi fu (nI (akI G r i)) (nI i)) (0) (Gn G) _ _ rfl (fun fu => ?_) (fun fu i hi1 hi2 => ?_) (by omega) (by omega)
    · show pX4_isAcyclic_20 F κ k7 vi (fu + 1) (nI (akI G r (Gn G))) (nI (Gn G)) = _
      rw [pX4_isAcyclic_20, h.n]
      simp (disch := omega) only [n_0, n_1, n_2, n_3, n_4, n_5, n_6, n_7, n_8, n_9, n_10, n_12, n_13, n_14, n_20, n_31, n_32, n_63, n_64, n_600, n_1024, n_4096, n_6157, n_add, n_mul, nm_def, Option.bind_some, Option.some.injEq, ck_in, ck_nz, ck_p, n_cl, n_lt, n_le, n_eq, n_div, n_rem, if_pos, if_neg, if_true, if_false, eq_self, n_192, n_256, n_20000, m1_n0, m1_np, m1_n0p, m1_lt0, m1_lt0p, mi_setIA, mi_setI, ml_setIA, ml_setI, mr_setI, mr_setIA]
    · show pX4_isAcyclic_20 F κ k7 vi (fu + 1) (nI (akI G r i)) (nI i) = pX4_isAcyclic_20 F κ k7 vi fu (nI (akI G r (i + 1))) (nI (i + 1))
      have h2 := (akI_ok hw h1 i (by omega)).1
      have hs := hw.s64 hi2
      have ha : Gs G i &&& akI G r i ≤ akI G r i := Nat.and_le_right
      rw [pX4_isAcyclic_20, h.n]
      unfold pX4_isAcyclic_53
      simp (disch := omega) only [n_0, n_1, n_2, n_3, n_4, n_5, n_6, n_7, n_8, n_9, n_10, n_12, n_13, n_14, n_20, n_31, n_32, n_63, n_64, n_600, n_1024, n_4096, n_6157, n_add, n_mul, nm_def, Option.bind_some, Option.some.injEq, ck_in, ck_nz, ck_p, n_cl, n_lt, n_le, n_eq, n_div, n_rem, if_pos, if_neg, if_true, if_false, eq_self, n_192, n_256, n_20000, m1_n0, m1_np, m1_n0p, m1_lt0, m1_lt0p, mi_setIA, mi_setI, ml_setIA, ml_setI, mr_setI, mr_setIA, h.s hi2, n_shl1, n_clr2]
      simp (disch := omega) only [n_and, n_eq]
      rw [akI]
      by_cases c : Gs G i &&& akI G r i = 0
      · simp [c]
      · simp [c]
/-- who is reached in so many steps -/
def nxI (G : Gm) (r : Nat) : Nat → Nat
  | 0 => r
  | q + 1 => nxI G r q ||| (if r.testBit q then Gs G q else 0)
theorem nxI_ok (hw : WF G) (hr : r < 64) : ∀ q, q ≤ Gn G → nxI G r q < 64 ∧ sb r (nxI G r q)
  | 0, _ => ⟨hr, sb_rfl r⟩
  | q + 1, h => by
    obtain ⟨a, b⟩ := nxI_ok hw hr q (by omega)
    rw [nxI]
    refine ⟨or_lt64 a ?_, sb_trans b (sb_or1 _ _)⟩
    split
    · exact hw.s64 (by omega)
    · decide
theorem nxI_n (hw : WF G) (hr : r < 2 ^ Gn G) : ∀ q, q ≤ Gn G → nxI G r q < 2 ^ Gn G
  | 0, _ => hr
  | q + 1, h => by
    have ih := nxI_n hw hr q (by omega)
    rw [nxI]
    refine Nat.or_lt_two_pow ih ?_
    split
    · exact hw.s2 (by omega)
    · exact Nat.two_pow_pos _
def rch (G : Gm) (p k : Nat) : Nat := itr (fun r => nxI G r (Gn G)) k (2 ^ p)
theorem rch_64 (hw : WF G) (hp : p < Gn G) (k : Nat) : rch G p k < 64 := (itr_ok (fun r hr => nxI_ok hw hr _ (Nat.le_refl _)) k (2 ^ p) (two_lt64 (hw_lt hw hp))).1
theorem rch_n (hw : WF G) (hp : p < Gn G) : ∀ k, rch G p k < 2 ^ Gn G
  | 0 => two_lt hp
  | k + 1 => nxI_n hw (rch_n hw hp k) _ (Nat.le_refl _)
theorem rch_stop {k : Nat} (h : rch G p (k + 1) = rch G p k) : ∀ d, rch G p (k + d) = rch G p k
  | 0 => rfl
  | d + 1 => by
    have e : rch G p (k + (d + 1)) = nxI G (rch G p (k + d)) (Gn G) := rfl
    rw [e, rch_stop h d]
    exact h
/-- what is reached at all is reached in fewer steps than there are players -/
theorem far_eq (hw : WF G) (hp : p < Gn G) : (∃ k, k < 6 ∧ (rch G p k).testBit q = true) → ∃ k, k < Gn G ∧ (rch G p k).testBit q = true := by
  rintro ⟨k0, _, hk⟩
  have key : ∀ k, (rch G p k).testBit q = true → (∀ j, j < k → (rch G p j).testBit q = false) → k < Gn G := fun k hk hn => by
    have hpc : ∀ j, j ≤ k → j + 1 ≤ pc (rch G p j) := fun j => by
      induction j with
      | zero =>
        intro _
        have : pc (2 ^ p) ≠ 0 := fun z => by
          have h1 := pc_0 _ (two_lt64 (hw_lt hw hp)) z
          have h2 := Nat.two_pow_pos p
          omega
        show 1 ≤ pc (2 ^ p)
        omega
      | succ j ih =>
        intro hj
        have h1 := ih (by omega)
        have hne : rch G p j ≠ rch G p (j + 1) := fun z => by
          have h2 := rch_stop z.symm (k - j)
          rw [show j + (k - j) = k by omega] at h2
          rw [h2, hn j (by omega)] at hk
          cases hk
        have h3 := pc_lt (rch_64 hw hp j) (rch_64 hw hp (j + 1)) (nxI_ok hw (rch_64 hw hp j) _ (Nat.le_refl _)).2 hne
        omega
    have h4 := hpc k (Nat.le_refl _)
    have h5 := (pc_full (Gn G) hw.n6 _ (rch_n hw hp k)).1
    omega
  have hfirst : ∀ k, (rch G p k).testBit q = true → ∃ j, j ≤ k ∧ (rch G p j).testBit q = true ∧ ∀ i, i < j → (rch G p i).testBit q = false := fun k => by
    induction k using Nat.strongRecOn with
    | _ k ih =>
      intro hk
      by_cases c : ∃ i, i < k ∧ (rch G p i).testBit q = true
      · obtain ⟨i, h1, h2⟩ := c
        obtain ⟨j, a, b, d⟩ := ih i h1 h2
        exact ⟨j, by omega, b, d⟩
      · exact ⟨k, Nat.le_refl _, hk, fun i hi => by
          cases d : (rch G p i).testBit q
          · rfl
          · exact absurd ⟨i, hi, d⟩ c⟩
  obtain ⟨j, _, b, d⟩ := hfirst k0 hk
  exact ⟨j, key j b d, b⟩
theorem fnd_lt_iff (P : Nat → Bool) (n : Nat) : fnd P n < n ↔ ∃ i, i < n ∧ P i = true := by
  rw [← exb_iff, exb_fnd]
  simp
theorem fnd_spec {P : Nat → Bool} : ∀ {n : Nat}, fnd P n < n → P (fnd P n) = true ∧ ∀ j, j < fnd P n → P j = false
  | 0, h => by omega
  | n + 1, h => by
    rw [fnd] at h ⊢
    by_cases c : fnd P n < n
    · rw [if_pos c]
      exact fnd_spec c
    · rw [if_neg c] at h ⊢
      by_cases d : P n = true
      · rw [if_pos d]
        refine ⟨d, fun j hj => ?_⟩
        cases e : P j
        · rfl
        · exact absurd ((fnd_lt_iff P n).mpr ⟨j, hj, e⟩) c
      · rw [if_neg d] at h
        omega
theorem far_fnd (hw : WF G) (hp : p < Gn G) : (fnd (fun k => (rch G p k).testBit q) 6 < 6 ↔ fnd (fun k => (rch G p k).testBit q) (Gn G) < Gn G) ∧ (fnd (fun k => (rch G p k).testBit q) (Gn G) < Gn G → fnd (fun k => (rch G p k).testBit q) 6 = fnd (fun k => (rch G p k).testBit q) (Gn G)) := by
  have hn := hw.n6
  have h1 : fnd (fun k => (rch G p k).testBit q) (Gn G) < Gn G → fnd (fun k => (rch G p k).testBit q) 6 = fnd (fun k => (rch G p k).testBit q) (Gn G) := fun h => by
    obtain ⟨a, b⟩ := fnd_spec h
    exact fnd_eq (P := fun k => (rch G p k).testBit q) a b (by omega)
  refine ⟨⟨fun h => ?_, fun h => ?_⟩, h1⟩
  · obtain ⟨k, a, b⟩ := (fnd_lt_iff _ _).mp h
    exact (fnd_lt_iff _ _).mpr (far_eq hw hp ⟨k, a, b⟩)
  · rw [h1 h]; omega
theorem sX4_stepsTo (h : AR κ G) (hw : WF G) (hF : 100 < F) (hp : p < Gn G) (hq : q < 32) : pX4_stepsTo F κ (nI p) (nI q) = if fnd (fun k => (rch G p k).testBit q) (Gn G) < Gn G then some (nI (fnd (fun k => (rch G p k).testBit q) (Gn G))) else some (predI 0) := by
  have hn := hw.n6
  have hp6 := hw_lt hw hp
  unfold pX4_stepsTo
  rw [nm_def, n_1, n_31, n_shl1 (by omega)]
  refine lp_fst F (fun fu i => pX4_stepsTo_7 F κ (nI q) fu (nI (rch G p i)) (nI i)) (fun k => (rch G p k).testBit q) (Gn G) (fun i => some (nI i)) _ _ rfl (fun fu => ?_) (fun fu i hi => ?_) (by omega)
  · show pX4_stepsTo_7 F κ (nI q) (fu + 1) _ (nI (Gn G)) = _
    rw [pX4_stepsTo_7, h.n]
    simp (disch := omega) only [n_0, n_1, n_2, n_3, n_4, n_5, n_6, n_7, n_8, n_9, n_10, n_12, n_13, n_14, n_20, n_31, n_32, n_63, n_64, n_600, n_1024, n_4096, n_6157, n_add, n_mul, nm_def, Option.bind_some, Option.some.injEq, ck_in, ck_nz, ck_p, n_cl, n_lt, n_le, n_eq, n_div, n_rem, if_pos, if_neg, if_true, if_false, eq_self, n_192, n_256, n_20000, m1_n0, m1_np, m1_n0p, m1_lt0, m1_lt0p, mi_setIA, mi_setI, ml_setIA, ml_setI, mr_setI, mr_setIA]
  · show pX4_stepsTo_7 F κ (nI q) (fu + 1) (nI (rch G p i)) (nI i) = if (rch G p i).testBit q then some (nI i) else pX4_stepsTo_7 F κ (nI q) fu (nI (rch G p (i + 1))) (nI (i + 1))
    have h1 := rch_64 hw hp i
    have e : rch G p (i + 1) = nxI G (rch G p i) (Gn G) := rfl
    rw [pX4_stepsTo_7, h.n, e]
    generalize rch G p i = r at h1
    simp (disch := omega) only [n_0, n_1, n_2, n_3, n_4, n_5, n_6, n_7, n_8, n_9, n_10, n_12, n_13, n_14, n_20, n_31, n_32, n_63, n_64, n_600, n_1024, n_4096, n_6157, n_add, n_mul, nm_def, Option.bind_some, Option.some.injEq, ck_in, ck_nz, ck_p, n_cl, n_lt, n_le, n_eq, n_div, n_rem, if_pos, if_neg, if_true, if_false, eq_self, n_192, n_256, n_20000, m1_n0, m1_np, m1_n0p, m1_lt0, m1_lt0p, mi_setIA, mi_setI, ml_setIA, ml_setI, mr_setI, mr_setIA, n_hasbit]
    by_cases c : r.testBit q = true
    · rw [if_pos c, if_pos c]
    · rw [if_neg c, if_neg c]
      rw [← n_add i 1]
      generalize pX4_stepsTo_7 F κ (nI q) fu = k7
      generalize nI i = vi
      clear hi
      refine lp_upE F (fun fu i => pX4_stepsTo_37 F κ k7 (nI q) (nI r) vi fu (nI (nxI G r i)) (nI i)) (0) (Gn G) _ _ rfl (fun fu => ?_) (fun fu i hi1 hi2 => ?_) (by omega) (by omega)
      · show pX4_stepsTo_37 F κ k7 (nI q) (nI r) vi (fu + 1) (nI (nxI G r (Gn G))) (nI (Gn G)) = _
        rw [pX4_stepsTo_37, h.n]
        simp (disch := omega) only [n_0, n_1, n_2, n_3, n_4, n_5, n_6, n_7, n_8, n_9, n_10, n_12, n_13, n_14, n_20, n_31, n_32, n_63, n_64, n_600, n_1024, n_4096, n_6157, n_add, n_mul, nm_def, Option.bind_some, Option.some.injEq, ck_in, ck_nz, ck_p, n_cl, n_lt, n_le, n_eq, n_div, n_rem, if_pos, if_neg, if_true, if_false, eq_self, n_192, n_256, n_20000, m1_n0, m1_np, m1_n0p, m1_lt0, m1_lt0p, mi_setIA, mi_setI, ml_setIA, ml_setI, mr_setI, mr_setIA]
      · show pX4_stepsTo_37 F κ k7 (nI q) (nI r) vi (fu + 1) (nI (nxI G r i)) (nI i) = pX4_stepsTo_37 F κ k7 (nI q) (nI r) vi fu (nI (nxI G r (i + 1))) (nI (i + 1))
        have h2 := (nxI_ok hw h1 i (by omega)).1
        rw [pX4_stepsTo_37, h.n, nxI]
        unfold pX4_stepsTo_74
        simp (disch := omega) only [n_0, n_1, n_2, n_3, n_4, n_5, n_6, n_7, n_8, n_9, n_10, n_12, n_13, n_14, n_20, n_31, n_32, n_63, n_64, n_600, n_1024, n_4096, n_6157, n_add, n_mul, nm_def, Option.bind_some, Option.some.injEq, ck_in, ck_nz, ck_p, n_cl, n_lt, n_le, n_eq, n_div, n_rem, if_pos, if_neg, if_true, if_false, eq_self, n_192, n_256, n_20000, m1_n0, m1_np, m1_n0p, m1_lt0, m1_lt0p, mi_setIA, mi_setI, ml_setIA, ml_setI, mr_setI, mr_setIA, n_hasbit, h.s hi2, n_or]
        cases r.testBit i
        · simp
        · simp
def lwT (G : Gm) (u p : Nat) : Nat := itr (fun r => lwI G u r (Gn G)) (Gn G) (2 ^ p)
theorem sX4_linkedWith (h : AR κ G) (hw : WF G) (hF : 100 < F) (hp : p < Gn G) (hu : u < 64) : pX4_linkedWith F κ (nI p) (nI u) = some (nI (lwT G u p)) := by
  have hn := hw.n6
  have hp6 := hw_lt hw hp
  unfold pX4_linkedWith lwT
  rw [nm_def, n_1, n_31, n_shl1 (by omega)]
  refine lp_upE F (fun fu i => pX4_linkedWith_7 F κ (nI u) fu (nI (itr (fun r => lwI G u r (Gn G)) i (2 ^ p))) (nI i)) (0) (Gn G) _ _ rfl (fun fu => ?_) (fun fu i hi1 hi2 => ?_) (by omega) (by omega)
  · show pX4_linkedWith_7 F κ (nI u) (fu + 1) (nI (itr (fun r => lwI G u r (Gn G)) (Gn G) (2 ^ p))) (nI (Gn G)) = _
    rw [pX4_linkedWith_7, h.n]
    simp (disch := omega) only [n_0, n_1, n_2, n_3, n_4, n_5, n_6, n_7, n_8, n_9, n_10, n_12, n_13, n_14, n_20, n_31, n_32, n_63, n_64, n_600, n_1024, n_4096, n_6157, n_add, n_mul, nm_def, Option.bind_some, Option.some.injEq, ck_in, ck_nz, ck_p, n_cl, n_lt, n_le, n_eq, n_div, n_rem, if_pos, if_neg, if_true, if_false, eq_self, n_192, n_256, n_20000, m1_n0, m1_np, m1_n0p, m1_lt0, m1_lt0p, mi_setIA, mi_setI, ml_setIA, ml_setI, mr_setI, mr_setIA]
  · show pX4_linkedWith_7 F κ (nI u) (fu + 1) (nI (itr (fun r => lwI G u r (Gn G)) i (2 ^ p))) (nI i) = pX4_linkedWith_7 F κ (nI u) fu (nI (itr (fun r => lwI G u r (Gn G)) (i + 1) (2 ^ p))) (nI (i + 1))
    have h1 := (itr_ok (T := fun r => lwI G u r (Gn G)) (fun r hr => lwI_ok hw hr _ (Nat.le_refl _)) i (2 ^ p) (two_lt64 hp6)).1
    rw [pX4_linkedWith_7, h.n, itr]
    generalize itr (fun r => lwI G u r (Gn G)) i (2 ^ p) = r at h1
    simp (disch := omega) only [n_0, n_1, n_2, n_3, n_4, n_5, n_6, n_7, n_8, n_9, n_10, n_12, n_13, n_14, n_20, n_31, n_32, n_63, n_64, n_600, n_1024, n_4096, n_6157, n_add, n_mul, nm_def, Option.bind_some, Option.some.injEq, ck_in, ck_nz, ck_p, n_cl, n_lt, n_le, n_eq, n_div, n_rem, if_pos, if_neg, if_true, if_false, eq_self, n_192, n_256, n_20000, m1_n0, m1_np, m1_n0p, m1_lt0, m1_lt0p, mi_setIA, mi_setI, ml_setIA, ml_setI, mr_setI, mr_setIA]
    rw [← n_add i 1]
    generalize pX4_linkedWith_7 F κ (nI u) fu = k7
    generalize nI i = vi
    clear hi1 hi2
    refine lp_upE F (fun fu i => pX4_linkedWith_22 F κ k7 (nI u) vi fu (nI (lwI G u r i)) (nI i)) (0) (Gn G) _ _ rfl (fun fu => ?_) (fun fu i hi1 hi2 => ?_) (by omega) (by omega)
    · show pX4_linkedWith_22 F κ k7 (nI u) vi (fu + 1) (nI (lwI G u r (Gn G))) (nI (Gn G)) = _
      rw [pX4_linkedWith_22, h.n]
      simp (disch := omega) only [n_0, n_1, n_2, n_3, n_4, n_5, n_6, n_7, n_8, n_9, n_10, n_12, n_13, n_14, n_20, n_31, n_32, n_63, n_64, n_600, n_1024, n_4096, n_6157, n_add, n_mul, nm_def, Option.bind_some, Option.some.injEq, ck_in, ck_nz, ck_p, n_cl, n_lt, n_le, n_eq, n_div, n_rem, if_pos, if_neg, if_true, if_false, eq_self, n_192, n_256, n_20000, m1_n0, m1_np, m1_n0p, m1_lt0, m1_lt0p, mi_setIA, mi_setI, ml_setIA, ml_setI, mr_setI, mr_setIA]
    · show pX4_linkedWith_22 F κ k7 (nI u) vi (fu + 1) (nI (lwI G u r i)) (nI i) = pX4_linkedWith_22 F κ k7 (nI u) vi fu (nI (lwI G u r (i + 1))) (nI (i + 1))
      have h2 := (lwI_ok (u := u) hw h1 i (by omega)).1
      have h3 := lkd_64 hw hi2
      rw [pX4_linkedWith_22, h.n, lwI, sX4_linked h hw hF hi2]
      unfold pX4_linkedWith_55
      simp (disch := omega) only [n_0, n_1, n_2, n_3, n_4, n_5, n_6, n_7, n_8, n_9, n_10, n_12, n_13, n_14, n_20, n_31, n_32, n_63, n_64, n_600, n_1024, n_4096, n_6157, n_add, n_mul, nm_def, Option.bind_some, Option.some.injEq, ck_in, ck_nz, ck_p, n_cl, n_lt, n_le, n_eq, n_div, n_rem, if_pos, if_neg, if_true, if_false, eq_self, n_192, n_256, n_20000, m1_n0, m1_np, m1_n0p, m1_lt0, m1_lt0p, mi_setIA, mi_setI, ml_setIA, ml_setI, mr_setI, mr_setIA, n_hasbit]
      simp (disch := omega) only [n_and, n_or]
      cases (lwI G u r i).testBit i
      · simp
      · simp
end NX
