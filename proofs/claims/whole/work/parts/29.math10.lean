/-! COLOURINGS OF THE CLASS: tables taken -/
def tk (G : Gm) (p : Nat) : Gm := withT G (fun q σ => if q = p then bst G p σ else Gt G q σ)
theorem Gn_tk (G : Gm) (p : Nat) : Gn (tk G p) = Gn G := rfl
theorem Gh_tk (G : Gm) (p : Nat) : Gh (tk G p) = Gh G := rfl
theorem Gs_tk (G : Gm) (p : Nat) : Gs (tk G p) = Gs G := rfl
section X1t
variable {κ : Mem} {G : Gm} {F p q x : Nat} {t : Nat → Nat → Nat}
theorem Gn_T : Gn (withT G t) = Gn G := rfl
theorem Gh_T : Gh (withT G t) = Gh G := rfl
theorem Gs_T : Gs (withT G t) = Gs G := rfl
theorem Gt_T : Gt (withT G t) = t := rfl
theorem sees_T : sees (withT G t) = sees G := rfl
theorem fac_T : fac (withT G t) = fac G := rfl
theorem wB_T : wB (withT G t) = wB G := rfl
theorem sit_T : sit (withT G t) = sit G := rfl
theorem ncol_T : ncol (withT G t) = ncol G := rfl
theorem col_T : col (withT G t) = col G := rfl
theorem sOf_T : sOf (withT G t) = sOf G := rfl
theorem AR_T {κ1 : Mem} {S : Nat → Prop} (h : AR κ G) (hw : WF G) (hx : XG κ1 1 (withT G t)) (ha : agr S κ κ1) (hs : ∀ k, S k → k < 41 ∨ 49 < k) : AR κ1 (withT G t) := by
  have q : ∀ k, 41 ≤ k ∧ k ≤ 49 → ¬ S k := fun k hk z => by have := hs k z; omega
  refine ⟨hx, ?_, fun p hp => ?_, fun p hp x hx => ?_⟩
  · rw [agr_mi ha (q _ (by omega))]; exact h.c
  · rw [agr_mi ha (q _ (by omega))]; exact h.pl hp
  · have := hw_lt hw (show p < Gn G from hp)
    rw [agr_mi ha (q _ (by omega))]; exact h.si hp hx
/-- another game with the same tables, as far as they are asked for -/
theorem rgt_same (hw : WF G) (h : ∀ p, p < Gn G → ∀ σ, σ < sit G p → t p σ = Gt G p σ) (x : Nat) : rgt (withT G t) x = rgt G x := by
  unfold rgt
  refine msk_congr (fun p hp => ?_)
  unfold isR
  have h1 : p < Gn G := hp
  have h2 := sOf_lt (p := p) (x := x) hw
  have e : Gt (withT G t) p (sOf (withT G t) p x) = Gt G p (sOf G p x) := h p h1 _ h2
  rw [e]
  rfl
theorem JD_same (hw : WF G) (hj : JD κ G) (h : ∀ p, p < Gn G → ∀ σ, σ < sit G p → t p σ = Gt G p σ) : JD κ (withT G t) := by
  have e : rgt (withT G t) = rgt G := funext (rgt_same hw h)
  refine ⟨fun x hx => ?_, fun w hw2 => ?_⟩
  · rw [e]; exact hj.1 x hx
  · rw [e]; exact hj.2 w hw2
theorem WF_tk (hw : WF G) (hp : p < Gn G) : WF (tk G p) := WF_withT hw (fun q hq σ hs => by
  by_cases c : q = p
  · subst c; rw [if_pos rfl]; exact bst_lt hw hp σ
  · rw [if_neg c]; exact hw.t hq hs)
theorem rgt_bit (hw : WF G) {i : Nat} (x : Nat) : (rgt G x).testBit i = (decide (i < Gn G) && isR G i x) := msk_bit _ _ _
/-- how many entries taking one's best table changes -/
def tkc (G : Gm) (p : Nat) : Nat := cnt (fun s => decide (Gt G p s ≠ bst G p s)) (sit G p)
theorem sX1_takeBest (h : AR κ G) (hj : JD κ G) (hw : WF G) (hF : 5000 < F) (hp : p < Gn G) (hb : ∀ s, s < sit G p → mi κ 52 s = nI (bst G p s)) : ∃ κ1, agr (fun k => k = 4 ∨ cS k) κ κ1 ∧ AR κ1 (tk G p) ∧ JD κ1 (tk G p) ∧ pX1_takeBest F κ (nI p) = some (nI (tkc G p), κ1) := by
  have hp6 := hw_lt hw hp
  have h4 := hw.h4 hp
  have hsl := sit_le hw hp
  have key := lp_inv (fun fu (s : Mem) i => pX1_takeBest_14 F (nI p) (nI (sit G p)) fu s (nI (cnt (fun s => decide (Gt G p s ≠ bst G p s)) i)) (nI i))
    (fun s i => agr (fun k => k = 4) κ s ∧ (∀ q σ, σ < 1024 → tol s 1 q σ = if q = p ∧ σ < i then bst G p σ else tol κ 1 q σ) ∧ (cnt (fun s => decide (Gt G p s ≠ bst G p s)) i = 0 → s = κ)) (sit G p)
    (fun r => ∃ κ1, agr (fun k => k = 4 ∨ cS k) κ κ1 ∧ AR κ1 (tk G p) ∧ JD κ1 (tk G p) ∧ r = some (nI (tkc G p), κ1))
    (fun fu s hI => by
      obtain ⟨b1, b2, b3⟩ := hI
      have hx : XG s 1 (tk G p) := XG_withT h.1 b1 (fun q hq σ hs => by
        have hs2 := sit_le hw hq
        rw [b2 q σ (by omega)]
        by_cases c : q = p
        · subst c; rw [if_pos ⟨rfl, hs⟩, if_pos rfl]
        · rw [if_neg (fun z => c z.1), if_neg c]; exact h.1.t hq hs)
      have hA : AR s (tk G p) := AR_T h hw hx b1 (fun k hk => Or.inl (by omega))
      have hcl : tkc G p ≤ sit G p := cnt_le _ _
      have e0 : cnt (fun s => decide (Gt G p s ≠ bst G p s)) (sit G p) = tkc G p := rfl
      by_cases c : tkc G p = 0
      · have e := b3 c
        subst e
        refine ⟨s, agr_rfl, hA, JD_same hw hj (fun q hq σ hs => ?_), ?_⟩
        · by_cases c2 : q = p
          · subst c2
            rw [if_pos rfl]
            by_cases c3 : Gt G q σ = bst G q σ
            · exact c3.symm
            · have := cnt_pos (p := fun s => decide (Gt G q s ≠ bst G q s)) hs (by simp [c3])
              unfold tkc at c
              omega
          · rw [if_neg c2]
        · show pX1_takeBest_14 F (nI p) (nI (sit G p)) (fu + 1) s (nI (cnt (fun s => decide (Gt G p s ≠ bst G p s)) (sit G p))) (nI (sit G p)) = _
          rw [pX1_takeBest_14, e0]
          unfold pX1_takeBest_75
          simp (disch := omega) only [n_0, n_1, n_2, n_3, n_4, n_5, n_6, n_7, n_8, n_9, n_10, n_12, n_13, n_14, n_20, n_31, n_32, n_63, n_64, n_600, n_1024, n_4096, n_6157, n_add, n_mul, nm_def, Option.bind_some, Option.some.injEq, ck_in, ck_nz, ck_p, n_cl, n_lt, n_le, n_eq, n_div, n_rem, if_pos, if_neg, if_true, if_false, eq_self, n_192, n_256, n_20000, m1_n0, m1_np, m1_n0p, m1_lt0, m1_lt0p, mi_setIA, mi_setI, ml_setIA, ml_setI, mr_setI, mr_setIA, c, Nat.le_refl]
      · obtain ⟨κ1, c1, c2, c3⟩ := sX1_judgeAgain (a := rgt G) hA (WF_tk hw hp) hF hp (fun x hx => ⟨by rw [agr_mi b1 (by omega)]; exact hj.r hx, rgt_lt hw, fun i hi6 hi => by
          rw [rgt_bit hw, rgt_bit (WF_tk hw hp)]
          have e : isR (tk G p) i x = isR G i x := by
            unfold isR
            have e2 : Gt (tk G p) i (sOf (tk G p) i x) = Gt G i (sOf G i x) := if_neg hi
            rw [e2]
            rfl
          rw [e]
          rfl⟩)
        refine ⟨κ1, agr_trans (agr_mono b1 (fun k hk => Or.inl hk)) (agr_mono c1 (fun k hk => Or.inr hk)), hA.agr (WF_tk hw hp) c1 (fun k hk => by unfold cS at hk; omega), c2, ?_⟩
        show pX1_takeBest_14 F (nI p) (nI (sit G p)) (fu + 1) s (nI (cnt (fun s => decide (Gt G p s ≠ bst G p s)) (sit G p))) (nI (sit G p)) = _
        rw [pX1_takeBest_14, e0, c3]
        unfold pX1_takeBest_75
        have c4 : ¬ tkc G p ≤ 0 := by omega
        simp (disch := omega) only [n_0, n_1, n_2, n_3, n_4, n_5, n_6, n_7, n_8, n_9, n_10, n_12, n_13, n_14, n_20, n_31, n_32, n_63, n_64, n_600, n_1024, n_4096, n_6157, n_add, n_mul, nm_def, Option.bind_some, Option.some.injEq, ck_in, ck_nz, ck_p, n_cl, n_lt, n_le, n_eq, n_div, n_rem, if_pos, if_neg, if_true, if_false, eq_self, n_192, n_256, n_20000, m1_n0, m1_np, m1_n0p, m1_lt0, m1_lt0p, mi_setIA, mi_setI, ml_setIA, ml_setI, mr_setI, mr_setIA, c4])
    (fun fu s i hi hI => by
      obtain ⟨b1, b2, b3⟩ := hI
      have hb1 := bst_lt hw hp i
      have ht : tol s 1 p i = Gt G p i := by
        rw [b2 p i (by omega), if_neg (by omega)]; exact h.1.t hp hi
      have hm : mi s 52 i = nI (bst G p i) := (agr_mi b1 (by omega) i).trans (hb i hi)
      have htl := hw.t hp hi
      have hcl := cnt_le (fun s => decide (Gt G p s ≠ bst G p s)) i
      by_cases c : Gt G p i = bst G p i
      · refine ⟨s, ⟨b1, fun q σ hs => ?_, fun hz => b3 (by rw [cnt_s] at hz; omega)⟩, ?_⟩
        · rw [b2 q σ hs]
          by_cases d : q = p ∧ σ = i
          · obtain ⟨d1, d2⟩ := d
            subst d1; subst d2
            rw [if_neg (by omega), if_pos ⟨rfl, by omega⟩, ← c]
            exact h.1.t hp hi
          · by_cases d2 : q = p ∧ σ < i
            · rw [if_pos d2, if_pos ⟨d2.1, by omega⟩]
            · rw [if_neg d2, if_neg (by omega)]
        · show pX1_takeBest_14 F (nI p) (nI (sit G p)) (fu + 1) s _ (nI i) = pX1_takeBest_14 F (nI p) (nI (sit G p)) fu s _ (nI (i + 1))
          rw [pX1_takeBest_14]
          unfold pX1_takeBest_60
          simp (disch := omega) only [n_0, n_1, n_2, n_3, n_4, n_5, n_6, n_7, n_8, n_9, n_10, n_12, n_13, n_14, n_20, n_31, n_32, n_63, n_64, n_600, n_1024, n_4096, n_6157, n_add, n_mul, nm_def, Option.bind_some, Option.some.injEq, ck_in, ck_nz, ck_p, n_cl, n_lt, n_le, n_eq, n_div, n_rem, if_pos, if_neg, if_true, if_false, eq_self, n_192, n_256, n_20000, m1_n0, m1_np, m1_n0p, m1_lt0, m1_lt0p, mi_setIA, mi_setI, ml_setIA, ml_setI, mr_setI, mr_setIA, sX2_told s 1 hp6, ht, hm, cnt_s]
          simp [c]
      · refine ⟨telK s 1 p i (bst G p i), ⟨agr_trans b1 (agr_telK rfl), fun q σ hs => ?_, fun hz => ?_⟩, ?_⟩
        · rw [tol_telK s 1 (by omega) hs (by omega), b2 q σ hs]
          by_cases d : q = p ∧ σ = i
          · rw [if_pos d, if_pos ⟨d.1, by omega⟩, d.2]
          · rw [if_neg d]
            by_cases d2 : q = p ∧ σ < i
            · rw [if_pos d2, if_pos ⟨d2.1, by omega⟩]
            · rw [if_neg d2, if_neg (by omega)]
        · rw [cnt_s] at hz
          simp [c] at hz
        · show pX1_takeBest_14 F (nI p) (nI (sit G p)) (fu + 1) s _ (nI i) = pX1_takeBest_14 F (nI p) (nI (sit G p)) fu (telK s 1 p i (bst G p i)) _ (nI (i + 1))
          rw [pX1_takeBest_14]
          unfold pX1_takeBest_60
          simp (disch := omega) only [n_0, n_1, n_2, n_3, n_4, n_5, n_6, n_7, n_8, n_9, n_10, n_12, n_13, n_14, n_20, n_31, n_32, n_63, n_64, n_600, n_1024, n_4096, n_6157, n_add, n_mul, nm_def, Option.bind_some, Option.some.injEq, ck_in, ck_nz, ck_p, n_cl, n_lt, n_le, n_eq, n_div, n_rem, if_pos, if_neg, if_true, if_false, eq_self, n_192, n_256, n_20000, m1_n0, m1_np, m1_n0p, m1_lt0, m1_lt0p, mi_setIA, mi_setI, ml_setIA, ml_setI, mr_setI, mr_setIA, sX2_told s 1 hp6, ht, hm, cnt_s, sX2_tell s 1 hp6]
          simp [c])
    F κ 0 (by omega) (by omega) ⟨agr_rfl, fun q σ _ => by rw [if_neg (by omega)], fun _ => rfl⟩
  obtain ⟨κ1, a1, a2, a3, a4⟩ := key
  refine ⟨κ1, a1, a2, a3, ?_⟩
  unfold pX1_takeBest
  rw [sX2_situations h.1 hw (by omega) hp, Option.bind_some]
  exact a4
end X1t
