/-! THE REFERENCE: networks -/
section RN
variable {ρ : Mem} {G : Gm} {F p q u r : Nat}
theorem rX_seenBy (h : RG ρ 1 G) (hw : WF G) (hF : 100 < F) (hp : p < 32) : pX11_seenBy F ρ (nI p) = some (nI (msk (fun q => sees G q p) (Gn G))) := by
  have hn := hw.n6
  unfold pX11_seenBy
  refine lp_upE F (fun fu i => pX11_seenBy_4 F ρ (nI p) fu (nI (msk (fun q => sees G q p) i)) (nI i)) (0) (Gn G) _ _ rfl (fun fu => ?_) (fun fu i hi1 hi2 => ?_) (by omega) (by omega)
  · show pX11_seenBy_4 F ρ (nI p) (fu + 1) (nI (msk (fun q => sees G q p) (Gn G))) (nI (Gn G)) = _
    rw [pX11_seenBy_4, rX_players h]
    simp (disch := omega) only [n_0, n_1, n_2, n_3, n_4, n_5, n_6, n_7, n_8, n_9, n_10, n_12, n_13, n_14, n_20, n_31, n_32, n_63, n_64, n_600, n_1024, n_4096, n_6157, n_add, n_mul, nm_def, Option.bind_some, Option.some.injEq, ck_in, ck_nz, ck_p, n_cl, n_lt, n_le, n_eq, n_div, n_rem, if_pos, if_neg, if_true, if_false, eq_self, n_192, n_256, n_20000, m1_n0, m1_np, m1_n0p, m1_lt0, m1_lt0p, mi_setIA, mi_setI, ml_setIA, ml_setI, mr_setI, mr_setIA]
  · show pX11_seenBy_4 F ρ (nI p) (fu + 1) (nI (msk (fun q => sees G q p) i)) (nI i) = pX11_seenBy_4 F ρ (nI p) fu (nI (msk (fun q => sees G q p) (i + 1))) (nI (i + 1))
    rw [pX11_seenBy_4, rX_players h, rX_sees h hw hi2 hp, msk]
    unfold pX11_seenBy_29
    simp (disch := omega) only [n_0, n_1, n_2, n_3, n_4, n_5, n_6, n_7, n_8, n_9, n_10, n_12, n_13, n_14, n_20, n_31, n_32, n_63, n_64, n_600, n_1024, n_4096, n_6157, n_add, n_mul, nm_def, Option.bind_some, Option.some.injEq, ck_in, ck_nz, ck_p, n_cl, n_lt, n_le, n_eq, n_div, n_rem, if_pos, if_neg, if_true, if_false, eq_self, n_192, n_256, n_20000, m1_n0, m1_np, m1_n0p, m1_lt0, m1_lt0p, mi_setIA, mi_setI, ml_setIA, ml_setI, mr_setI, mr_setIA, n_shl1, n_or]
    cases sees G i p
    · simp [n_or]
    · simp [n_eq]
theorem rX_isMutual (h : RG ρ 1 G) (hw : WF G) (hF : 100 < F) : pX11_isMutual F ρ = some (nI (mtl G).toNat) := by
  have hn := hw.n6
  have hin : ∀ p, p < Gn G → ∀ k2 : Int32 → Option Int32, pX11_isMutual_12 F ρ k2 (nI p) F (nI 0) = if fnd (fun q => decide (sees G p q ≠ sees G q p)) (Gn G) < Gn G then some (nI 0) else k2 (nI (p + 1)) := fun p hp k2 => by
    refine lp_fst F (fun fu i => pX11_isMutual_12 F ρ k2 (nI p) fu (nI i)) (fun q => decide (sees G p q ≠ sees G q p)) (Gn G) (fun i => some (nI 0)) _ _ rfl (fun fu => ?_) (fun fu i hi => ?_) (by omega)
    · show pX11_isMutual_12 F ρ k2 (nI p) (fu + 1) (nI (Gn G)) = _
      rw [pX11_isMutual_12, rX_players h]
      simp (disch := omega) only [n_0, n_1, n_2, n_3, n_4, n_5, n_6, n_7, n_8, n_9, n_10, n_12, n_13, n_14, n_20, n_31, n_32, n_63, n_64, n_600, n_1024, n_4096, n_6157, n_add, n_mul, nm_def, Option.bind_some, Option.some.injEq, ck_in, ck_nz, ck_p, n_cl, n_lt, n_le, n_eq, n_div, n_rem, if_pos, if_neg, if_true, if_false, eq_self, n_192, n_256, n_20000, m1_n0, m1_np, m1_n0p, m1_lt0, m1_lt0p, mi_setIA, mi_setI, ml_setIA, ml_setI, mr_setI, mr_setIA]
    · show pX11_isMutual_12 F ρ k2 (nI p) (fu + 1) (nI i) = if decide (sees G p i ≠ sees G i p) then some (nI 0) else pX11_isMutual_12 F ρ k2 (nI p) fu (nI (i + 1))
      have hp6 := hw_lt hw hp
      rw [pX11_isMutual_12, rX_players h, rX_sees h hw hp (by omega), rX_sees h hw hi (by omega)]
      simp (disch := omega) only [n_0, n_1, n_2, n_3, n_4, n_5, n_6, n_7, n_8, n_9, n_10, n_12, n_13, n_14, n_20, n_31, n_32, n_63, n_64, n_600, n_1024, n_4096, n_6157, n_add, n_mul, nm_def, Option.bind_some, Option.some.injEq, ck_in, ck_nz, ck_p, n_cl, n_lt, n_le, n_eq, n_div, n_rem, if_pos, if_neg, if_true, if_false, eq_self, n_192, n_256, n_20000, m1_n0, m1_np, m1_n0p, m1_lt0, m1_lt0p, mi_setIA, mi_setI, ml_setIA, ml_setI, mr_setI, mr_setIA]
      cases sees G p i
      · cases sees G i p
        · simp
        · simp [n_eq]
      · cases sees G i p
        · simp [n_eq]
        · simp
  unfold mtl
  rw [← ex10]
  unfold pX11_isMutual
  refine lp_fst F (fun fu i => pX11_isMutual_2 F ρ fu (nI i)) (fun p => exb (fun q => decide (sees G p q ≠ sees G q p)) (Gn G)) (Gn G) (fun i => some (nI 0)) _ _ rfl (fun fu => ?_) (fun fu i hi => ?_) (by omega)
  · show pX11_isMutual_2 F ρ (fu + 1) (nI (Gn G)) = _
    rw [pX11_isMutual_2, rX_players h]
    simp (disch := omega) only [n_0, n_1, n_2, n_3, n_4, n_5, n_6, n_7, n_8, n_9, n_10, n_12, n_13, n_14, n_20, n_31, n_32, n_63, n_64, n_600, n_1024, n_4096, n_6157, n_add, n_mul, nm_def, Option.bind_some, Option.some.injEq, ck_in, ck_nz, ck_p, n_cl, n_lt, n_le, n_eq, n_div, n_rem, if_pos, if_neg, if_true, if_false, eq_self, n_192, n_256, n_20000, m1_n0, m1_np, m1_n0p, m1_lt0, m1_lt0p, mi_setIA, mi_setI, ml_setIA, ml_setI, mr_setI, mr_setIA]
  · show pX11_isMutual_2 F ρ (fu + 1) (nI i) = if exb (fun q => decide (sees G i q ≠ sees G q i)) (Gn G) then some (nI 0) else pX11_isMutual_2 F ρ fu (nI (i + 1))
    rw [pX11_isMutual_2, rX_players h]
    simp (disch := omega) only [n_0, n_1, n_2, n_3, n_4, n_5, n_6, n_7, n_8, n_9, n_10, n_12, n_13, n_14, n_20, n_31, n_32, n_63, n_64, n_600, n_1024, n_4096, n_6157, n_add, n_mul, nm_def, Option.bind_some, Option.some.injEq, ck_in, ck_nz, ck_p, n_cl, n_lt, n_le, n_eq, n_div, n_rem, if_pos, if_neg, if_true, if_false, eq_self, n_192, n_256, n_20000, m1_n0, m1_np, m1_n0p, m1_lt0, m1_lt0p, mi_setIA, mi_setI, ml_setIA, ml_setI, mr_setI, mr_setIA, hin i hi, exb_fnd]
    by_cases c : fnd (fun q => decide (sees G i q ≠ sees G q i)) (Gn G) < Gn G
    · rw [if_pos c, if_pos (decide_eq_true c)]
    · rw [if_neg c, if_neg (by simpa using c)]
theorem rX_isLink (h : RG ρ 1 G) (hw : WF G) (hp : p < Gn G) (hq : q < Gn G) : pX11_isLink ρ (nI p) (nI q) = some (nI (lk G p q).toNat) := by
  have hp6 := hw_lt hw hp
  have hq6 := hw_lt hw hq
  unfold pX11_isLink pX11_isLink_22 pX11_isLink_23 lk
  rw [rX_sees h hw hp (by omega), rX_sees h hw hq (by omega)]
  cases sees G p q
  · rfl
  · cases sees G q p
    · rfl
    · rfl
theorem rX_links (h : RG ρ 1 G) (hw : WF G) (hF : 100 < F) : pX11_links F ρ = some (nI (lks G)) := by
  have hn := hw.n6
  have hin : ∀ (k4 : Int32 → Int32 → Option Int32) (p v : Nat), p < Gn G → pX11_links_14 F ρ k4 (nI p) F (nI v) (nI 0) = k4 (nI (v + cnt (lk G p) p)) (nI (p + 1)) := fun k4 p v hp => by
    refine lp_upE F (fun fu i => pX11_links_14 F ρ k4 (nI p) fu (nI (v + cnt (lk G p) i)) (nI i)) (0) (p) _ _ rfl (fun fu => ?_) (fun fu i hi1 hi2 => ?_) (by omega) (by omega)
    · show pX11_links_14 F ρ k4 (nI p) (fu + 1) (nI (v + cnt (lk G p) (p))) (nI (p)) = _
      rw [pX11_links_14]
      simp (disch := omega) only [n_0, n_1, n_2, n_3, n_4, n_5, n_6, n_7, n_8, n_9, n_10, n_12, n_13, n_14, n_20, n_31, n_32, n_63, n_64, n_600, n_1024, n_4096, n_6157, n_add, n_mul, nm_def, Option.bind_some, Option.some.injEq, ck_in, ck_nz, ck_p, n_cl, n_lt, n_le, n_eq, n_div, n_rem, if_pos, if_neg, if_true, if_false, eq_self, n_192, n_256, n_20000, m1_n0, m1_np, m1_n0p, m1_lt0, m1_lt0p, mi_setIA, mi_setI, ml_setIA, ml_setI, mr_setI, mr_setIA]
    · show pX11_links_14 F ρ k4 (nI p) (fu + 1) (nI (v + cnt (lk G p) i)) (nI i) = pX11_links_14 F ρ k4 (nI p) fu (nI (v + cnt (lk G p) (i + 1))) (nI (i + 1))
      rw [pX11_links_14, rX_isLink h hw hp (show i < Gn G by omega), cnt_s]
      unfold pX11_links_34
      simp (disch := omega) only [n_0, n_1, n_2, n_3, n_4, n_5, n_6, n_7, n_8, n_9, n_10, n_12, n_13, n_14, n_20, n_31, n_32, n_63, n_64, n_600, n_1024, n_4096, n_6157, n_add, n_mul, nm_def, Option.bind_some, Option.some.injEq, ck_in, ck_nz, ck_p, n_cl, n_lt, n_le, n_eq, n_div, n_rem, if_pos, if_neg, if_true, if_false, eq_self, n_192, n_256, n_20000, m1_n0, m1_np, m1_n0p, m1_lt0, m1_lt0p, mi_setIA, mi_setI, ml_setIA, ml_setI, mr_setI, mr_setIA]
      cases lk G p i
      · simp
      · simp [n_eq, Nat.add_assoc]
  unfold pX11_links lks
  refine lp_upE F (fun fu i => pX11_links_4 F ρ fu (nI (sm (fun p => cnt (lk G p) p) i)) (nI i)) (0) (Gn G) _ _ rfl (fun fu => ?_) (fun fu i hi1 hi2 => ?_) (by omega) (by omega)
  · show pX11_links_4 F ρ (fu + 1) (nI (sm (fun p => cnt (lk G p) p) (Gn G))) (nI (Gn G)) = _
    rw [pX11_links_4, rX_players h]
    simp (disch := omega) only [n_0, n_1, n_2, n_3, n_4, n_5, n_6, n_7, n_8, n_9, n_10, n_12, n_13, n_14, n_20, n_31, n_32, n_63, n_64, n_600, n_1024, n_4096, n_6157, n_add, n_mul, nm_def, Option.bind_some, Option.some.injEq, ck_in, ck_nz, ck_p, n_cl, n_lt, n_le, n_eq, n_div, n_rem, if_pos, if_neg, if_true, if_false, eq_self, n_192, n_256, n_20000, m1_n0, m1_np, m1_n0p, m1_lt0, m1_lt0p, mi_setIA, mi_setI, ml_setIA, ml_setI, mr_setI, mr_setIA]
  · show pX11_links_4 F ρ (fu + 1) (nI (sm (fun p => cnt (lk G p) p) i)) (nI i) = pX11_links_4 F ρ fu (nI (sm (fun p => cnt (lk G p) p) (i + 1))) (nI (i + 1))
    rw [pX11_links_4, rX_players h]
    simp (disch := omega) only [n_0, n_1, n_2, n_3, n_4, n_5, n_6, n_7, n_8, n_9, n_10, n_12, n_13, n_14, n_20, n_31, n_32, n_63, n_64, n_600, n_1024, n_4096, n_6157, n_add, n_mul, nm_def, Option.bind_some, Option.some.injEq, ck_in, ck_nz, ck_p, n_cl, n_lt, n_le, n_eq, n_div, n_rem, if_pos, if_neg, if_true, if_false, eq_self, n_192, n_256, n_20000, m1_n0, m1_np, m1_n0p, m1_lt0, m1_lt0p, mi_setIA, mi_setI, ml_setIA, ml_setI, mr_setI, mr_setIA, hin _ i _ hi2, sm]
theorem rX_comesFrom {s : Nat} (h : RG ρ 1 G) (hw : WF G) (hF : 100 < F) (hs : s < 64) : pX11_comesFrom F ρ (nI s) = some (nI (cls G s)) := by
  have hn := hw.n6
  have hin : ∀ (k4 : Int32 → Int32 → Option Int32) (r : Nat) (v : Int32), r < 64 → pX11_comesFrom_13 F ρ k4 v F (nI r) (nI 0) = k4 (nI (cfI G r (Gn G))) (v + nI 1) := fun k4 r v hr => by
    refine lp_upE F (fun fu i => pX11_comesFrom_13 F ρ k4 v fu (nI (cfI G r i)) (nI i)) (0) (Gn G) _ _ rfl (fun fu => ?_) (fun fu i hi1 hi2 => ?_) (by omega) (by omega)
    · show pX11_comesFrom_13 F ρ k4 v (fu + 1) (nI (cfI G r (Gn G))) (nI (Gn G)) = _
      rw [pX11_comesFrom_13, rX_players h]
      simp (disch := omega) only [n_0, n_1, n_2, n_3, n_4, n_5, n_6, n_7, n_8, n_9, n_10, n_12, n_13, n_14, n_20, n_31, n_32, n_63, n_64, n_600, n_1024, n_4096, n_6157, n_add, n_mul, nm_def, Option.bind_some, Option.some.injEq, ck_in, ck_nz, ck_p, n_cl, n_lt, n_le, n_eq, n_div, n_rem, if_pos, if_neg, if_true, if_false, eq_self, n_192, n_256, n_20000, m1_n0, m1_np, m1_n0p, m1_lt0, m1_lt0p, mi_setIA, mi_setI, ml_setIA, ml_setI, mr_setI, mr_setIA]
    · show pX11_comesFrom_13 F ρ k4 v (fu + 1) (nI (cfI G r i)) (nI i) = pX11_comesFrom_13 F ρ k4 v fu (nI (cfI G r (i + 1))) (nI (i + 1))
      have h2 := (cfI_ok hw hr i (by omega)).1
      rw [pX11_comesFrom_13, rX_players h, cfI]
      unfold pX11_comesFrom_46
      simp (disch := omega) only [n_0, n_1, n_2, n_3, n_4, n_5, n_6, n_7, n_8, n_9, n_10, n_12, n_13, n_14, n_20, n_31, n_32, n_63, n_64, n_600, n_1024, n_4096, n_6157, n_add, n_mul, nm_def, Option.bind_some, Option.some.injEq, ck_in, ck_nz, ck_p, n_cl, n_lt, n_le, n_eq, n_div, n_rem, if_pos, if_neg, if_true, if_false, eq_self, n_192, n_256, n_20000, m1_n0, m1_np, m1_n0p, m1_lt0, m1_lt0p, mi_setIA, mi_setI, ml_setIA, ml_setI, mr_setI, mr_setIA, rX_has, h.s hi2, n_or]
      cases (cfI G r i).testBit i
      · simp
      · simp [n_eq]
  unfold pX11_comesFrom cls
  refine lp_upE F (fun fu i => pX11_comesFrom_4 F ρ fu (nI (itr (fun r => cfI G r (Gn G)) i s)) (nI i)) (0) (6) _ _ rfl (fun fu => ?_) (fun fu i hi1 hi2 => ?_) (by omega) (by omega)
  · show pX11_comesFrom_4 F ρ (fu + 1) (nI (itr (fun r => cfI G r (Gn G)) (6) s)) (nI (6)) = _
    rw [pX11_comesFrom_4]
    simp (disch := omega) only [n_0, n_1, n_2, n_3, n_4, n_5, n_6, n_7, n_8, n_9, n_10, n_12, n_13, n_14, n_20, n_31, n_32, n_63, n_64, n_600, n_1024, n_4096, n_6157, n_add, n_mul, nm_def, Option.bind_some, Option.some.injEq, ck_in, ck_nz, ck_p, n_cl, n_lt, n_le, n_eq, n_div, n_rem, if_pos, if_neg, if_true, if_false, eq_self, n_192, n_256, n_20000, m1_n0, m1_np, m1_n0p, m1_lt0, m1_lt0p, mi_setIA, mi_setI, ml_setIA, ml_setI, mr_setI, mr_setIA]
  · show pX11_comesFrom_4 F ρ (fu + 1) (nI (itr (fun r => cfI G r (Gn G)) i s)) (nI i) = pX11_comesFrom_4 F ρ fu (nI (itr (fun r => cfI G r (Gn G)) (i + 1) s)) (nI (i + 1))
    have h1 := (itr_ok (T := fun r => cfI G r (Gn G)) (fun r hr => cfI_ok hw hr _ (Nat.le_refl _)) i s hs).1
    rw [pX11_comesFrom_4, itr]
    simp (disch := omega) only [n_0, n_1, n_2, n_3, n_4, n_5, n_6, n_7, n_8, n_9, n_10, n_12, n_13, n_14, n_20, n_31, n_32, n_63, n_64, n_600, n_1024, n_4096, n_6157, n_add, n_mul, nm_def, Option.bind_some, Option.some.injEq, ck_in, ck_nz, ck_p, n_cl, n_lt, n_le, n_eq, n_div, n_rem, if_pos, if_neg, if_true, if_false, eq_self, n_192, n_256, n_20000, m1_n0, m1_np, m1_n0p, m1_lt0, m1_lt0p, mi_setIA, mi_setI, ml_setIA, ml_setI, mr_setI, mr_setIA]
    rw [hin _ _ _ h1, n_add]
theorem rX_isAcyclic (h : RG ρ 1 G) (hw : WF G) (hF : 100 < F) : pX11_isAcyclic F ρ = some (nI (acy G).toNat) := by
  have hn := hw.n6
  unfold acy
  rw [← ex10]
  unfold pX11_isAcyclic
  refine lp_fst F (fun fu i => pX11_isAcyclic_2 F ρ fu (nI i)) (fun p => (cls G (Gs G p)).testBit p) (Gn G) (fun i => some (nI 0)) _ _ rfl (fun fu => ?_) (fun fu i hi => ?_) (by omega)
  · show pX11_isAcyclic_2 F ρ (fu + 1) (nI (Gn G)) = _
    rw [pX11_isAcyclic_2, rX_players h]
    simp (disch := omega) only [n_0, n_1, n_2, n_3, n_4, n_5, n_6, n_7, n_8, n_9, n_10, n_12, n_13, n_14, n_20, n_31, n_32, n_63, n_64, n_600, n_1024, n_4096, n_6157, n_add, n_mul, nm_def, Option.bind_some, Option.some.injEq, ck_in, ck_nz, ck_p, n_cl, n_lt, n_le, n_eq, n_div, n_rem, if_pos, if_neg, if_true, if_false, eq_self, n_192, n_256, n_20000, m1_n0, m1_np, m1_n0p, m1_lt0, m1_lt0p, mi_setIA, mi_setI, ml_setIA, ml_setI, mr_setI, mr_setIA]
  · show pX11_isAcyclic_2 F ρ (fu + 1) (nI i) = if (cls G (Gs G i)).testBit i then some (nI 0) else pX11_isAcyclic_2 F ρ fu (nI (i + 1))
    have h1 := cls_64 hw (hw.s64 hi)
    rw [pX11_isAcyclic_2, rX_players h]
    simp (disch := omega) only [n_0, n_1, n_2, n_3, n_4, n_5, n_6, n_7, n_8, n_9, n_10, n_12, n_13, n_14, n_20, n_31, n_32, n_63, n_64, n_600, n_1024, n_4096, n_6157, n_add, n_mul, nm_def, Option.bind_some, Option.some.injEq, ck_in, ck_nz, ck_p, n_cl, n_lt, n_le, n_eq, n_div, n_rem, if_pos, if_neg, if_true, if_false, eq_self, n_192, n_256, n_20000, m1_n0, m1_np, m1_n0p, m1_lt0, m1_lt0p, mi_setIA, mi_setI, ml_setIA, ml_setI, mr_setI, mr_setIA, h.s hi, rX_comesFrom h hw hF (hw.s64 hi), rX_has]
    cases (cls G (Gs G i)).testBit i
    · simp
    · simp [n_eq]
theorem rX_along (h : RG ρ 1 G) (hw : WF G) (hF : 100 < F) (hp : p < Gn G) (hu : u < 64) : pX11_along F ρ (nI p) (nI u) = some (nI (lwT G u p)) := by
  have hn := hw.n6
  have hp6 := hw_lt hw hp
  have hin : ∀ (k17 : Int32 → Int32 → Option Int32) (q s : Nat) (v : Int32), q < Gn G → s < 64 → pX11_along_29 F ρ k17 (nI u) v (nI q) F (nI s) (nI 0) = k17 (nI (alI G u q s (Gn G))) (nI (q + 1)) := fun k17 q s v hq hs => by
    have hq6 := hw_lt hw hq
    refine lp_upE F (fun fu i => pX11_along_29 F ρ k17 (nI u) v (nI q) fu (nI (alI G u q s i)) (nI i)) (0) (Gn G) _ _ rfl (fun fu => ?_) (fun fu i hi1 hi2 => ?_) (by omega) (by omega)
    · show pX11_along_29 F ρ k17 (nI u) v (nI q) (fu + 1) (nI (alI G u q s (Gn G))) (nI (Gn G)) = _
      rw [pX11_along_29, rX_players h]
      simp (disch := omega) only [n_0, n_1, n_2, n_3, n_4, n_5, n_6, n_7, n_8, n_9, n_10, n_12, n_13, n_14, n_20, n_31, n_32, n_63, n_64, n_600, n_1024, n_4096, n_6157, n_add, n_mul, nm_def, Option.bind_some, Option.some.injEq, ck_in, ck_nz, ck_p, n_cl, n_lt, n_le, n_eq, n_div, n_rem, if_pos, if_neg, if_true, if_false, eq_self, n_192, n_256, n_20000, m1_n0, m1_np, m1_n0p, m1_lt0, m1_lt0p, mi_setIA, mi_setI, ml_setIA, ml_setI, mr_setI, mr_setIA]
    · show pX11_along_29 F ρ k17 (nI u) v (nI q) (fu + 1) (nI (alI G u q s i)) (nI i) = pX11_along_29 F ρ k17 (nI u) v (nI q) fu (nI (alI G u q s (i + 1))) (nI (i + 1))
      have h2 := (alI_ok (u := u) (q := q) hw hs i (by omega)).1
      rw [pX11_along_29, rX_players h, rX_isLink h hw hq hi2, alI]
      unfold pX11_along_81
      simp (disch := omega) only [n_0, n_1, n_2, n_3, n_4, n_5, n_6, n_7, n_8, n_9, n_10, n_12, n_13, n_14, n_20, n_31, n_32, n_63, n_64, n_600, n_1024, n_4096, n_6157, n_add, n_mul, nm_def, Option.bind_some, Option.some.injEq, ck_in, ck_nz, ck_p, n_cl, n_lt, n_le, n_eq, n_div, n_rem, if_pos, if_neg, if_true, if_false, eq_self, n_192, n_256, n_20000, m1_n0, m1_np, m1_n0p, m1_lt0, m1_lt0p, mi_setIA, mi_setI, ml_setIA, ml_setI, mr_setI, mr_setIA, rX_has, n_shl1, n_or]
      cases (alI G u q s i).testBit q
      · simp
      · cases u.testBit i
        · simp
        · by_cases c : q = i
          · simp [c]
          · cases lk G q i
            · simp [c]
            · simp [c, n_eq]
  have hmid : ∀ (k7 : Int32 → Int32 → Option Int32) (r : Nat) (v : Int32), r < 64 → pX11_along_17 F ρ k7 (nI u) v F (nI r) (nI 0) = k7 (nI (alO G u r (Gn G))) (v + nI 1) := fun k7 r v hr => by
    refine lp_upE F (fun fu i => pX11_along_17 F ρ k7 (nI u) v fu (nI (alO G u r i)) (nI i)) (0) (Gn G) _ _ rfl (fun fu => ?_) (fun fu i hi1 hi2 => ?_) (by omega) (by omega)
    · show pX11_along_17 F ρ k7 (nI u) v (fu + 1) (nI (alO G u r (Gn G))) (nI (Gn G)) = _
      rw [pX11_along_17, rX_players h]
      simp (disch := omega) only [n_0, n_1, n_2, n_3, n_4, n_5, n_6, n_7, n_8, n_9, n_10, n_12, n_13, n_14, n_20, n_31, n_32, n_63, n_64, n_600, n_1024, n_4096, n_6157, n_add, n_mul, nm_def, Option.bind_some, Option.some.injEq, ck_in, ck_nz, ck_p, n_cl, n_lt, n_le, n_eq, n_div, n_rem, if_pos, if_neg, if_true, if_false, eq_self, n_192, n_256, n_20000, m1_n0, m1_np, m1_n0p, m1_lt0, m1_lt0p, mi_setIA, mi_setI, ml_setIA, ml_setI, mr_setI, mr_setIA]
    · show pX11_along_17 F ρ k7 (nI u) v (fu + 1) (nI (alO G u r i)) (nI i) = pX11_along_17 F ρ k7 (nI u) v fu (nI (alO G u r (i + 1))) (nI (i + 1))
      have h2 := (alO_ok (u := u) hw hr i (by omega)).1
      rw [pX11_along_17, rX_players h, alO]
      simp (disch := omega) only [n_0, n_1, n_2, n_3, n_4, n_5, n_6, n_7, n_8, n_9, n_10, n_12, n_13, n_14, n_20, n_31, n_32, n_63, n_64, n_600, n_1024, n_4096, n_6157, n_add, n_mul, nm_def, Option.bind_some, Option.some.injEq, ck_in, ck_nz, ck_p, n_cl, n_lt, n_le, n_eq, n_div, n_rem, if_pos, if_neg, if_true, if_false, eq_self, n_192, n_256, n_20000, m1_n0, m1_np, m1_n0p, m1_lt0, m1_lt0p, mi_setIA, mi_setI, ml_setIA, ml_setI, mr_setI, mr_setIA]
      rw [hin _ i _ _ hi2 h2]
  unfold pX11_along lwT
  rw [along_same hw hp, nm_def, n_1, n_31, n_shl1 (by omega)]
  refine lp_upE F (fun fu i => pX11_along_7 F ρ (nI u) fu (nI (itr (fun r => alO G u r (Gn G)) i (2 ^ p))) (nI i)) (0) (6) _ _ rfl (fun fu => ?_) (fun fu i hi1 hi2 => ?_) (by omega) (by omega)
  · show pX11_along_7 F ρ (nI u) (fu + 1) (nI (itr (fun r => alO G u r (Gn G)) (6) (2 ^ p))) (nI (6)) = _
    rw [pX11_along_7]
    simp (disch := omega) only [n_0, n_1, n_2, n_3, n_4, n_5, n_6, n_7, n_8, n_9, n_10, n_12, n_13, n_14, n_20, n_31, n_32, n_63, n_64, n_600, n_1024, n_4096, n_6157, n_add, n_mul, nm_def, Option.bind_some, Option.some.injEq, ck_in, ck_nz, ck_p, n_cl, n_lt, n_le, n_eq, n_div, n_rem, if_pos, if_neg, if_true, if_false, eq_self, n_192, n_256, n_20000, m1_n0, m1_np, m1_n0p, m1_lt0, m1_lt0p, mi_setIA, mi_setI, ml_setIA, ml_setI, mr_setI, mr_setIA]
  · show pX11_along_7 F ρ (nI u) (fu + 1) (nI (itr (fun r => alO G u r (Gn G)) i (2 ^ p))) (nI i) = pX11_along_7 F ρ (nI u) fu (nI (itr (fun r => alO G u r (Gn G)) (i + 1) (2 ^ p))) (nI (i + 1))
    have h1 := (itr_ok (T := fun r => alO G u r (Gn G)) (fun r hr => alO_ok hw hr _ (Nat.le_refl _)) i (2 ^ p) (two_lt64 hp6)).1
    rw [pX11_along_7, itr]
    simp (disch := omega) only [n_0, n_1, n_2, n_3, n_4, n_5, n_6, n_7, n_8, n_9, n_10, n_12, n_13, n_14, n_20, n_31, n_32, n_63, n_64, n_600, n_1024, n_4096, n_6157, n_add, n_mul, nm_def, Option.bind_some, Option.some.injEq, ck_in, ck_nz, ck_p, n_cl, n_lt, n_le, n_eq, n_div, n_rem, if_pos, if_neg, if_true, if_false, eq_self, n_192, n_256, n_20000, m1_n0, m1_np, m1_n0p, m1_lt0, m1_lt0p, mi_setIA, mi_setI, ml_setIA, ml_setI, mr_setI, mr_setIA]
    rw [hmid _ _ _ h1, n_add]
theorem rX_isRing (h : RG ρ 1 G) (hw : WF G) (hF : 100 < F) (hm : mtl G = true) (hu : u < 2 ^ Gn G) : pX11_isRing F ρ (nI u) = some (nI (rng G u).toNat) := by
  have hn := hw.n6
  have h64 := pow_le_64 hn
  have hpu := pc_le u
  unfold pX11_isRing
  rw [rX_ones ρ hF (by omega)]
  simp (disch := omega) only [n_0, n_1, n_2, n_3, n_4, n_5, n_6, n_7, n_8, n_9, n_10, n_12, n_13, n_14, n_20, n_31, n_32, n_63, n_64, n_600, n_1024, n_4096, n_6157, n_add, n_mul, nm_def, Option.bind_some, Option.some.injEq, ck_in, ck_nz, ck_p, n_cl, n_lt, n_le, n_eq, n_div, n_rem, if_pos, if_neg, if_true, if_false, eq_self, n_192, n_256, n_20000, m1_n0, m1_np, m1_n0p, m1_lt0, m1_lt0p, mi_setIA, mi_setI, ml_setIA, ml_setI, mr_setI, mr_setIA]
  unfold rng
  by_cases c : pc u < 3
  · have c2 : ¬ 3 ≤ pc u := by omega
    rw [if_pos c, decide_eq_false c2]
    rfl
  · have c2 : 3 ≤ pc u := by omega
    have hu0 : u ≠ 0 := fun z => by rw [z, pc_z] at c2; omega
    obtain ⟨t1, t2⟩ := tz_ok u (by omega) hu0
    have t3 := bit_lt hu t1
    have hl := lwT_64 (u := u) hw t3
    rw [if_neg c, decide_eq_true c2, Bool.true_and]
    have key : pX11_isRing_28 F ρ (nI u) (nI (tz u)) F (nI 0) = if fnd (rnP G u) (Gn G) < Gn G then some (nI 0) else some (nI (decide (lwT G u (tz u) = u)).toNat) := by
      refine lp_fst F (fun fu i => pX11_isRing_28 F ρ (nI u) (nI (tz u)) fu (nI i)) (rnP G u) (Gn G) (fun i => some (nI 0)) _ _ rfl (fun fu => ?_) (fun fu i hi => ?_) (by omega)
      · show pX11_isRing_28 F ρ (nI u) (nI (tz u)) (fu + 1) (nI (Gn G)) = _
        rw [pX11_isRing_28, rX_players h]
        unfold pX11_isRing_85
        simp (disch := omega) only [n_0, n_1, n_2, n_3, n_4, n_5, n_6, n_7, n_8, n_9, n_10, n_12, n_13, n_14, n_20, n_31, n_32, n_63, n_64, n_600, n_1024, n_4096, n_6157, n_add, n_mul, nm_def, Option.bind_some, Option.some.injEq, ck_in, ck_nz, ck_p, n_cl, n_lt, n_le, n_eq, n_div, n_rem, if_pos, if_neg, if_true, if_false, eq_self, n_192, n_256, n_20000, m1_n0, m1_np, m1_n0p, m1_lt0, m1_lt0p, mi_setIA, mi_setI, ml_setIA, ml_setI, mr_setI, mr_setIA, rX_along h hw hF t3 (show u < 64 by omega)]
        by_cases d : lwT G u (tz u) = u
        · simp [d]; rfl
        · simp [d]; rfl
      · show pX11_isRing_28 F ρ (nI u) (nI (tz u)) (fu + 1) (nI i) = if rnP G u i then some (nI 0) else pX11_isRing_28 F ρ (nI u) (nI (tz u)) fu (nI (i + 1))
        have h3 := hw.s64 hi
        have h4 := pc_le (Gs G i &&& u)
        have h6 : Gs G i &&& u < 2147483648 := Nat.lt_of_le_of_lt Nat.and_le_left (by omega)
        rw [pX11_isRing_28, rX_players h]
        unfold pX11_isRing_64 rnP
        rw [mut_lkd hw hm hi]
        simp (disch := omega) only [n_0, n_1, n_2, n_3, n_4, n_5, n_6, n_7, n_8, n_9, n_10, n_12, n_13, n_14, n_20, n_31, n_32, n_63, n_64, n_600, n_1024, n_4096, n_6157, n_add, n_mul, nm_def, Option.bind_some, Option.some.injEq, ck_in, ck_nz, ck_p, n_cl, n_lt, n_le, n_eq, n_div, n_rem, if_pos, if_neg, if_true, if_false, eq_self, n_192, n_256, n_20000, m1_n0, m1_np, m1_n0p, m1_lt0, m1_lt0p, mi_setIA, mi_setI, ml_setIA, ml_setI, mr_setI, mr_setIA, rX_has, h.s hi, n_and, rX_ones ρ hF h6]
        cases u.testBit i
        · simp
        · by_cases d : pc (Gs G i &&& u) = 2
          · simp [d, n_eq]
          · simp [d, n_eq]
    have key2 : ∀ k fu, k ≤ tz u → tz u - k < fu → pX11_isRing_12 F ρ (nI u) fu (nI k) = pX11_isRing_28 F ρ (nI u) (nI (tz u)) F (nI 0) := by
      intro k fu
      induction fu generalizing k with
      | zero => intro _ h2; omega
      | succ fu ih =>
        intro h1 h2
        rw [pX11_isRing_12]
        simp (disch := omega) only [n_0, n_1, n_2, n_3, n_4, n_5, n_6, n_7, n_8, n_9, n_10, n_12, n_13, n_14, n_20, n_31, n_32, n_63, n_64, n_600, n_1024, n_4096, n_6157, n_add, n_mul, nm_def, Option.bind_some, Option.some.injEq, ck_in, ck_nz, ck_p, n_cl, n_lt, n_le, n_eq, n_div, n_rem, if_pos, if_neg, if_true, if_false, eq_self, n_192, n_256, n_20000, m1_n0, m1_np, m1_n0p, m1_lt0, m1_lt0p, mi_setIA, mi_setI, ml_setIA, ml_setI, mr_setI, mr_setIA, rX_has]
        rcases Nat.eq_or_lt_of_le h1 with z | z
        · subst z
          rw [t1]
          rfl
        · have e : u.testBit k = false := by
            have e2 : fnd (fun i => u.testBit i) 6 < 6 := t2
            exact (fnd_spec e2).2 k z
          rw [e]
          exact ih (k + 1) (by omega) (by omega)
    rw [key2 0 F (by omega) (by omega), key, exb_fnd]
    by_cases d : fnd (rnP G u) (Gn G) < Gn G
    · rw [if_pos d, decide_eq_true d]; rfl
    · rw [if_neg d, decide_eq_false d]; rfl
theorem rX_hubOf (h : RG ρ 1 G) (hw : WF G) (hF : 100 < F) : pX11_hubOf F ρ = if hub G < Gn G then some (nI (hub G)) else some (predI 0) := by
  have hn := hw.n6
  have h64 := pow_le_64 hn
  have hpos := Nat.two_pow_pos (Gn G)
  unfold pX11_hubOf hub
  rw [rX_isMutual h hw hF]
  cases c : mtl G
  · simp (disch := omega) only [n_0, n_1, n_2, n_3, n_4, n_5, n_6, n_7, n_8, n_9, n_10, n_12, n_13, n_14, n_20, n_31, n_32, n_63, n_64, n_600, n_1024, n_4096, n_6157, n_add, n_mul, nm_def, Option.bind_some, Option.some.injEq, ck_in, ck_nz, ck_p, n_cl, n_lt, n_le, n_eq, n_div, n_rem, if_pos, if_neg, if_true, if_false, eq_self, n_192, n_256, n_20000, m1_n0, m1_np, m1_n0p, m1_lt0, m1_lt0p, mi_setIA, mi_setI, ml_setIA, ml_setI, mr_setI, mr_setIA, Bool.toNat_false, Nat.lt_irrefl, Bool.false_eq_true]
  · simp (disch := omega) only [n_0, n_1, n_2, n_3, n_4, n_5, n_6, n_7, n_8, n_9, n_10, n_12, n_13, n_14, n_20, n_31, n_32, n_63, n_64, n_600, n_1024, n_4096, n_6157, n_add, n_mul, nm_def, Option.bind_some, Option.some.injEq, ck_in, ck_nz, ck_p, n_cl, n_lt, n_le, n_eq, n_div, n_rem, if_pos, if_neg, if_true, if_false, eq_self, n_192, n_256, n_20000, m1_n0, m1_np, m1_n0p, m1_lt0, m1_lt0p, mi_setIA, mi_setI, ml_setIA, ml_setI, mr_setI, mr_setIA, Bool.toNat_true]
    refine lp_fst F (fun fu i => pX11_hubOf_11 F ρ fu (nI i)) (hbP G) (Gn G) (fun i => some (nI i)) _ _ rfl (fun fu => ?_) (fun fu i hi => ?_) (by omega)
    · show pX11_hubOf_11 F ρ (fu + 1) (nI (Gn G)) = _
      rw [pX11_hubOf_11, rX_players h]
      simp (disch := omega) only [n_0, n_1, n_2, n_3, n_4, n_5, n_6, n_7, n_8, n_9, n_10, n_12, n_13, n_14, n_20, n_31, n_32, n_63, n_64, n_600, n_1024, n_4096, n_6157, n_add, n_mul, nm_def, Option.bind_some, Option.some.injEq, ck_in, ck_nz, ck_p, n_cl, n_lt, n_le, n_eq, n_div, n_rem, if_pos, if_neg, if_true, if_false, eq_self, n_192, n_256, n_20000, m1_n0, m1_np, m1_n0p, m1_lt0, m1_lt0p, mi_setIA, mi_setI, ml_setIA, ml_setI, mr_setI, mr_setIA]
    · show pX11_hubOf_11 F ρ (fu + 1) (nI i) = if hbP G i then some (nI i) else pX11_hubOf_11 F ρ fu (nI (i + 1))
      have h3 := hw.s64 hi
      have hcn := clr_n hw hi
      rw [pX11_hubOf_11, rX_players h, rX_all h hw]
      unfold pX11_hubOf_53 hbP
      rw [mut_lkd hw c hi]
      simp (disch := omega) only [n_0, n_1, n_2, n_3, n_4, n_5, n_6, n_7, n_8, n_9, n_10, n_12, n_13, n_14, n_20, n_31, n_32, n_63, n_64, n_600, n_1024, n_4096, n_6157, n_add, n_mul, nm_def, Option.bind_some, Option.some.injEq, ck_in, ck_nz, ck_p, n_cl, n_lt, n_le, n_eq, n_div, n_rem, if_pos, if_neg, if_true, if_false, eq_self, n_192, n_256, n_20000, m1_n0, m1_np, m1_n0p, m1_lt0, m1_lt0p, mi_setIA, mi_setI, ml_setIA, ml_setI, mr_setI, mr_setIA, n_shl1, n_clr2, h.s hi, rX_isRing h hw hF c hcn]
      by_cases d : Gs G i = clr (2 ^ Gn G - 1) i
      · cases rng G (clr (2 ^ Gn G - 1) i)
        · simp [d]
        · simp [d, n_eq]
      · simp [d]
theorem rX_isTree (h : RG ρ 1 G) (hw : WF G) (hF : 100 < F) (h0 : Gn G ≠ 0) : pX11_isTree F ρ = some (nI (decide (lwT G (2 ^ Gn G - 1) 0 = 2 ^ Gn G - 1) && decide (lks G = Gn G - 1)).toNat) := by
  have hn := hw.n6
  have h64 := pow_le_64 hn
  have hpos := Nat.two_pow_pos (Gn G)
  have hl := lwT_64 (u := 2 ^ Gn G - 1) (p := 0) hw (by omega)
  have hk := lks_le hw
  unfold pX11_isTree pX11_isTree_33 pX11_isTree_34
  have e1 := rX_along (F := F) (p := 0) (u := 2 ^ Gn G - 1) h hw hF (by omega) (by omega)
  rw [rX_all h hw, rX_links h hw hF, rX_players h]
  simp (disch := omega) only [n_0, n_1, n_2, n_3, n_4, n_5, n_6, n_7, n_8, n_9, n_10, n_12, n_13, n_14, n_20, n_31, n_32, n_63, n_64, n_600, n_1024, n_4096, n_6157, n_add, n_mul, nm_def, Option.bind_some, Option.some.injEq, ck_in, ck_nz, ck_p, n_cl, n_lt, n_le, n_eq, n_div, n_rem, if_pos, if_neg, if_true, if_false, eq_self, n_192, n_256, n_20000, m1_n0, m1_np, m1_n0p, m1_lt0, m1_lt0p, mi_setIA, mi_setI, ml_setIA, ml_setI, mr_setI, mr_setIA, e1, n_sub]
  by_cases c : lwT G (2 ^ Gn G - 1) 0 = 2 ^ Gn G - 1
  · by_cases d : lks G = Gn G - 1
    · simp [c, d, n_eq]
      rfl
    · simp [c, d, n_eq]
      rfl
  · simp [c]
    rfl
theorem rB_shape (h : RG ρ 1 G) (hw : WF G) (hF : 100 < F) (h0 : Gn G ≠ 0) : ((pX11_isMutual F ρ).bind fun t3 => if t3 = 0 then some (0, ρ) else (pX11_players ρ).bind fun t4 => if t4 ≤ 3 then pX11_shape_51 F ρ else (pX11_all ρ).bind fun t9 => (pX11_isClique F ρ t9).bind fun t10 => if t10 = 0 then pX11_shape_51 F ρ else some (4, ρ)) = some (nI (shp G), ρ) := by
  have hn := hw.n6
  have h64 := pow_le_64 hn
  have hpos := Nat.two_pow_pos (Gn G)
  rw [rX_isMutual h hw hF]
  unfold shp
  cases hm : mtl G
  · have h1 : ¬ (4 ≤ Gn G ∧ clq G (2 ^ Gn G - 1) = true) := fun z => by
      have h2 : mtl G = true := mut_iff.mpr (fun p hp q hq => by
        have hc : ∀ p, p < Gn G → (Gs G p ||| 2 ^ p) &&& (2 ^ Gn G - 1) = 2 ^ Gn G - 1 := fun p hp => by
          have z2 := z.2
          unfold clq at z2
          by_cases d : (Gs G p ||| 2 ^ p) &&& (2 ^ Gn G - 1) = 2 ^ Gn G - 1
          · exact d
          · have := (exb_iff (fun p => (2 ^ Gn G - 1).testBit p && !decide ((Gs G p ||| 2 ^ p) &&& (2 ^ Gn G - 1) = 2 ^ Gn G - 1)) (Gn G)).mpr ⟨p, hp, by have e := decide_eq_false d; simp only [all_bit hw hp, e]; rfl⟩
            rw [this] at z2; cases z2
        have hs : ∀ p, p < Gn G → ∀ q, q < Gn G → q ≠ p → sees G p q = true := fun p hp q hq hne => by
          have := congrArg (fun z => z.testBit q) (hc p hp)
          simp only [Nat.testBit_and, Nat.testBit_or, all_bit hw hq, Bool.and_true, Nat.testBit_two_pow] at this
          have e : decide (p = q) = false := by simp; exact fun z => hne z.symm
          rw [e, Bool.or_false] at this
          exact this
        by_cases e : q = p
        · subst e; rfl
        · rw [hs p hp q hq e, hs q hq p hp (fun z => e z.symm)])
      rw [hm] at h2; cases h2
    have h3 : ¬ hub G < Gn G := by unfold hub; rw [hm]; simp
    have h4 : tre G = false := by unfold tre; rw [hm]; rfl
    rw [if_neg h1, if_neg h3, h4]
    simp
    rfl
  · have e51 : pX11_shape_51 F ρ = some (nI (if hub G < Gn G then 3 else if rng G (2 ^ Gn G - 1) = true then 2 else if tre G = true then 1 else 0), ρ) := by
      have h4 : tre G = (decide (lwT G (2 ^ Gn G - 1) 0 = 2 ^ Gn G - 1) && decide (lks G = Gn G - 1)) := by unfold tre; rw [hm]; rfl
      unfold pX11_shape_51 pX11_shape_89
      rw [rX_hubOf h hw hF, rX_all h hw, rX_isTree h hw hF h0, ← h4]
      by_cases c : hub G < Gn G
      · rw [if_pos c, if_pos c]
        simp (disch := omega) only [n_0, n_1, n_2, n_3, n_4, n_5, n_6, n_7, n_8, n_9, n_10, n_12, n_13, n_14, n_20, n_31, n_32, n_63, n_64, n_600, n_1024, n_4096, n_6157, n_add, n_mul, nm_def, Option.bind_some, Option.some.injEq, ck_in, ck_nz, ck_p, n_cl, n_lt, n_le, n_eq, n_div, n_rem, if_pos, if_neg, if_true, if_false, eq_self, n_192, n_256, n_20000, m1_n0, m1_np, m1_n0p, m1_lt0, m1_lt0p, mi_setIA, mi_setI, ml_setIA, ml_setI, mr_setI, mr_setIA]
      · rw [if_neg c, if_neg c]
        simp (disch := omega) only [n_0, n_1, n_2, n_3, n_4, n_5, n_6, n_7, n_8, n_9, n_10, n_12, n_13, n_14, n_20, n_31, n_32, n_63, n_64, n_600, n_1024, n_4096, n_6157, n_add, n_mul, nm_def, Option.bind_some, Option.some.injEq, ck_in, ck_nz, ck_p, n_cl, n_lt, n_le, n_eq, n_div, n_rem, if_pos, if_neg, if_true, if_false, eq_self, n_192, n_256, n_20000, m1_n0, m1_np, m1_n0p, m1_lt0, m1_lt0p, mi_setIA, mi_setI, ml_setIA, ml_setI, mr_setI, mr_setIA, rX_isRing h hw hF hm (show 2 ^ Gn G - 1 < 2 ^ Gn G by omega)]
        cases rng G (2 ^ Gn G - 1)
        · cases tre G
          · simp
          · simp [n_eq]
        · simp [n_eq]
    rw [rX_players h, rX_all h hw, e51]
    simp (disch := omega) only [n_0, n_1, n_2, n_3, n_4, n_5, n_6, n_7, n_8, n_9, n_10, n_12, n_13, n_14, n_20, n_31, n_32, n_63, n_64, n_600, n_1024, n_4096, n_6157, n_add, n_mul, nm_def, Option.bind_some, Option.some.injEq, ck_in, ck_nz, ck_p, n_cl, n_lt, n_le, n_eq, n_div, n_rem, if_pos, if_neg, if_true, if_false, eq_self, n_192, n_256, n_20000, m1_n0, m1_np, m1_n0p, m1_lt0, m1_lt0p, mi_setIA, mi_setI, ml_setIA, ml_setI, mr_setI, mr_setIA, rX_isClique h hw hF (show 2 ^ Gn G - 1 < 64 by omega), Bool.toNat_true]
    by_cases c : Gn G ≤ 3
    · have c2 : ¬ (4 ≤ Gn G ∧ clq G (2 ^ Gn G - 1) = true) := by omega
      rw [if_pos c, if_neg c2]
      simp
    · have c2 : 4 ≤ Gn G := by omega
      rw [if_neg c]
      cases clq G (2 ^ Gn G - 1)
      · simp
      · simp [c2, n_eq]
theorem rB_far (h : RG ρ 1 G) (hw : WF G) (hF : 100 < F) (hp : p < Gn G) (hq : q < Gn G) : pX11_far_37 F ρ (nI q) F (nI (2 ^ p)) 0 = if fnd (fun k => (rch G p k).testBit q) 6 < 6 then some (nI (fnd (fun k => (rch G p k).testBit q) 6), ρ) else some (-1, setI ρ 0 0 5) := by
  have hn := hw.n6
  have hp6 := hw_lt hw hp
  have hq6 := hw_lt hw hq
  have hin : ∀ (k37 : Int32 → Int32 → Option (Int32 × Mem)) (r : Nat) (v : Int32), r < 64 → pX11_far_61 F k37 ρ (nI q) (nI r) v F (nI r) (nI 0) = k37 (nI (nxI G r (Gn G))) (v + nI 1) := fun k37 r v hr => by
    refine lp_upE F (fun fu i => pX11_far_61 F k37 ρ (nI q) (nI r) v fu (nI (nxI G r i)) (nI i)) (0) (Gn G) _ _ rfl (fun fu => ?_) (fun fu i hi1 hi2 => ?_) (by omega) (by omega)
    · show pX11_far_61 F k37 ρ (nI q) (nI r) v (fu + 1) (nI (nxI G r (Gn G))) (nI (Gn G)) = _
      rw [pX11_far_61, rX_players h]
      simp (disch := omega) only [n_0, n_1, n_2, n_3, n_4, n_5, n_6, n_7, n_8, n_9, n_10, n_12, n_13, n_14, n_20, n_31, n_32, n_63, n_64, n_600, n_1024, n_4096, n_6157, n_add, n_mul, nm_def, Option.bind_some, Option.some.injEq, ck_in, ck_nz, ck_p, n_cl, n_lt, n_le, n_eq, n_div, n_rem, if_pos, if_neg, if_true, if_false, eq_self, n_192, n_256, n_20000, m1_n0, m1_np, m1_n0p, m1_lt0, m1_lt0p, mi_setIA, mi_setI, ml_setIA, ml_setI, mr_setI, mr_setIA]
    · show pX11_far_61 F k37 ρ (nI q) (nI r) v (fu + 1) (nI (nxI G r i)) (nI i) = pX11_far_61 F k37 ρ (nI q) (nI r) v fu (nI (nxI G r (i + 1))) (nI (i + 1))
      have h2 := (nxI_ok hw hr i (by omega)).1
      rw [pX11_far_61, rX_players h, nxI]
      unfold pX11_far_95
      simp (disch := omega) only [n_0, n_1, n_2, n_3, n_4, n_5, n_6, n_7, n_8, n_9, n_10, n_12, n_13, n_14, n_20, n_31, n_32, n_63, n_64, n_600, n_1024, n_4096, n_6157, n_add, n_mul, nm_def, Option.bind_some, Option.some.injEq, ck_in, ck_nz, ck_p, n_cl, n_lt, n_le, n_eq, n_div, n_rem, if_pos, if_neg, if_true, if_false, eq_self, n_192, n_256, n_20000, m1_n0, m1_np, m1_n0p, m1_lt0, m1_lt0p, mi_setIA, mi_setI, ml_setIA, ml_setI, mr_setI, mr_setIA, rX_has, h.s hi2, n_or]
      cases r.testBit i
      · simp
      · simp [n_eq]
  refine lp_fst F (fun fu i => pX11_far_37 F ρ (nI q) fu (nI (rch G p i)) (nI i)) (fun k => (rch G p k).testBit q) 6 (fun i => some (nI i, ρ)) _ _ rfl (fun fu => ?_) (fun fu i hi => ?_) (by omega)
  · show pX11_far_37 F ρ (nI q) (fu + 1) _ (nI 6) = _
    rw [pX11_far_37, rX_refuse]
    simp (disch := omega) only [n_0, n_1, n_2, n_3, n_4, n_5, n_6, n_7, n_8, n_9, n_10, n_12, n_13, n_14, n_20, n_31, n_32, n_63, n_64, n_600, n_1024, n_4096, n_6157, n_add, n_mul, nm_def, Option.bind_some, Option.some.injEq, ck_in, ck_nz, ck_p, n_cl, n_lt, n_le, n_eq, n_div, n_rem, if_pos, if_neg, if_true, if_false, eq_self, n_192, n_256, n_20000, m1_n0, m1_np, m1_n0p, m1_lt0, m1_lt0p, mi_setIA, mi_setI, ml_setIA, ml_setI, mr_setI, mr_setIA]
  · show pX11_far_37 F ρ (nI q) (fu + 1) (nI (rch G p i)) (nI i) = if (rch G p i).testBit q then some (nI i, ρ) else pX11_far_37 F ρ (nI q) fu (nI (rch G p (i + 1))) (nI (i + 1))
    have h1 := rch_64 hw hp i
    have e : rch G p (i + 1) = nxI G (rch G p i) (Gn G) := rfl
    rw [pX11_far_37, e]
    simp (disch := omega) only [n_0, n_1, n_2, n_3, n_4, n_5, n_6, n_7, n_8, n_9, n_10, n_12, n_13, n_14, n_20, n_31, n_32, n_63, n_64, n_600, n_1024, n_4096, n_6157, n_add, n_mul, nm_def, Option.bind_some, Option.some.injEq, ck_in, ck_nz, ck_p, n_cl, n_lt, n_le, n_eq, n_div, n_rem, if_pos, if_neg, if_true, if_false, eq_self, n_192, n_256, n_20000, m1_n0, m1_np, m1_n0p, m1_lt0, m1_lt0p, mi_setIA, mi_setI, ml_setIA, ml_setI, mr_setI, mr_setIA, rX_has]
    cases (rch G p i).testBit q
    · simp (disch := omega) only [n_0, n_1, n_2, n_3, n_4, n_5, n_6, n_7, n_8, n_9, n_10, n_12, n_13, n_14, n_20, n_31, n_32, n_63, n_64, n_600, n_1024, n_4096, n_6157, n_add, n_mul, nm_def, Option.bind_some, Option.some.injEq, ck_in, ck_nz, ck_p, n_cl, n_lt, n_le, n_eq, n_div, n_rem, if_pos, if_neg, if_true, if_false, eq_self, n_192, n_256, n_20000, m1_n0, m1_np, m1_n0p, m1_lt0, m1_lt0p, mi_setIA, mi_setI, ml_setIA, ml_setI, mr_setI, mr_setIA, Bool.toNat_false, Bool.false_eq_true]
      rw [hin _ _ _ h1, n_add]
    · simp [n_eq]
end RN
