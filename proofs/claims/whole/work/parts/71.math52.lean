/-! TABLES OF A CLIQUE: the reference; the call -/
section CLS
variable {ρ ρ1 : Mem} {G : Gm} {F p q u s : Nat} {t : Nat → Nat → Nat}
/-- of a clique each sees the others -/
theorem clq_sees (hw : WF G) (h : clq G u = true) (hp : p < Gn G) (hb : u.testBit p = true) (hq : q < Gn G) (hc : u.testBit q = true) (hqp : q ≠ p) : sees G p q = true := by
  unfold clq at h
  rw [Bool.not_eq_true', ← Bool.not_eq_true, exb_iff] at h
  have h1 : (Gs G p ||| 2 ^ p) &&& u = u := by
    apply Classical.byContradiction
    intro z
    exact h ⟨p, hp, by rw [hb, decide_eq_false z]; rfl⟩
  have h2 : ((Gs G p ||| 2 ^ p) &&& u).testBit q = true := by rw [h1]; exact hc
  rw [Nat.testBit_and, Nat.testBit_or, Nat.testBit_two_pow, hc, decide_eq_false (fun z => hqp z.symm), Bool.or_false, Bool.and_true] at h2
  exact h2
/-- and the heads too -/
def RH2 (ρ : Mem) (G : Gm) (t : Nat → Nat → Nat) : Prop := RH ρ G t ∧ ∀ k, k < 13 → mi ρ 1 k = mi ρ 4 k
theorem RH2_enter {s : Nat} (h : RH2 ρ G t) (hw : WF G) (hp : p < Gn G) (hs : s < sit G p) (c : Nat) : RH2 (setI ρ 1 (13 + 1024 * p + s) (nI c)) G (fun q σ => if q = p ∧ σ = s then c else t q σ) := ⟨RH_enter h.1 hw hp hs c, fun k hk => by
  rw [mi_setI, if_neg (by omega), mi_setI, if_neg (by omega)]
  exact h.2 k hk⟩
theorem RH2_same {t2 : Nat → Nat → Nat} (h : RH2 ρ G t) (ht : ∀ p, p < Gn G → ∀ σ, σ < sit G p → t2 p σ = t p σ) : RH2 ρ G t2 := ⟨RH_same h.1 ht, h.2⟩
theorem RH2.agr {S : Nat → Prop} (h : RH2 ρ G t) (ha : agr S ρ ρ1) (h1 : ¬ S 1) (h4 : ¬ S 4) : RH2 ρ1 G t := ⟨h.1.agr ha h1 h4, fun k hk => by rw [agr_mi ha h1, agr_mi ha h4]; exact h.2 k hk⟩
theorem RH2_copies (hR : RG ρ 1 G) (hw : WF G) (hF : 7000 < F) : ∃ ρ1, pX11_copies F 1 4 ρ = some ρ1 ∧ agr (fun k => k = 4) ρ ρ1 ∧ RH2 ρ1 G (Gt G) := by
  refine ⟨_, rX_copies (by decide) rfl rfl hF, agr_setIA rfl, ⟨hR.set (by decide), RG_copied hR hw, fun r σ hr hσ _ => ?_⟩, fun k hk => ?_⟩
  · rw [mi_setIA, if_neg (by decide), mi_setIA, if_pos rfl, wr_in (Nat.zero_le _) (by omega)]
    rfl
  · rw [mi_setIA, if_neg (by decide), mi_setIA, if_pos rfl, wr_in (Nat.zero_le _) (by omega)]
    rfl
theorem rX_isOther (h : RH2 ρ G t) (hw : WF G) (ht : ∀ r, r < Gn G → ∀ σ, σ < sit G r → t r σ < 4) (hF : 7000 < F) : ∃ b : Bool, pX11_isOther F ρ = some (nI (!b).toNat) ∧ (b = true ↔ ∀ p, p < Gn G → ∀ s, s < sit G p → t p s = Gt G p s) := by
  refine ⟨alb (fun k => decide (mi ρ 1 k = mi ρ 4 k)) 6157, ?_, ?_⟩
  · unfold pX11_isOther
    refine (lp_all (fun fu k => pX11_isOther_2 F ρ fu (nI k)) (fun k => decide (mi ρ 1 k = mi ρ 4 k)) 6157 (some 0) (some 1) (fun fu => by
      show pX11_isOther_2 F ρ (fu + 1) (nI 6157) = _
      rw [pX11_isOther_2]
      simp (disch := omega) only [n_0, n_1, n_2, n_3, n_4, n_5, n_6, n_7, n_8, n_9, n_10, n_12, n_13, n_14, n_20, n_31, n_32, n_63, n_64, n_600, n_1024, n_4096, n_6157, n_add, n_mul, nm_def, Option.bind_some, Option.some.injEq, ck_in, ck_nz, ck_p, n_cl, n_lt, n_le, n_eq, n_div, n_rem, if_pos, if_neg, if_true, if_false, eq_self, n_192, n_256, n_20000, m1_n0, m1_np, m1_n0p, m1_lt0, m1_lt0p, mi_setIA, mi_setI, ml_setIA, ml_setI, mr_setI, mr_setIA]) (fun fu k hk => by
      show pX11_isOther_2 F ρ (fu + 1) (nI k) = if decide (mi ρ 1 k = mi ρ 4 k) = true then pX11_isOther_2 F ρ fu (nI (k + 1)) else some 1
      rw [pX11_isOther_2]
      simp (disch := omega) only [n_0, n_1, n_2, n_3, n_4, n_5, n_6, n_7, n_8, n_9, n_10, n_12, n_13, n_14, n_20, n_31, n_32, n_63, n_64, n_600, n_1024, n_4096, n_6157, n_add, n_mul, nm_def, Option.bind_some, Option.some.injEq, ck_in, ck_nz, ck_p, n_cl, n_lt, n_le, n_eq, n_div, n_rem, if_pos, if_neg, if_true, if_false, eq_self, n_192, n_256, n_20000, m1_n0, m1_np, m1_n0p, m1_lt0, m1_lt0p, mi_setIA, mi_setI, ml_setIA, ml_setI, mr_setI, mr_setIA]
      by_cases z : mi ρ 1 k = mi ρ 4 k
      · rw [if_pos z, decide_eq_true z, if_pos rfl]
      · rw [if_neg z, decide_eq_false z, if_neg (by decide)]) F (by omega)).trans ?_
    cases alb (fun k => decide (mi ρ 1 k = mi ρ 4 k)) 6157 <;> rfl
  · rw [alb_iff]
    constructor
    · intro k r hr σ hσ
      have hr6 := hw_lt hw hr
      have hl := sit_le hw hr
      have b1 : mi ρ 1 (13 + 1024 * r + σ) = nI (t r σ) := h.1.1.2.2.2 r hr σ hσ
      have b2 := h.1.2.1.t hr hσ
      have b3 := ht r hr σ hσ
      have b4 := hw.t hr hσ
      have b5 := hw.h4 hr
      have b6 := of_decide_eq_true (k (13 + 1024 * r + σ) (by omega))
      rw [b1, b2] at b6
      exact (n_eq (by omega) (by omega)).mp b6
    · intro k i hi
      refine decide_eq_true ?_
      rcases Nat.lt_or_ge i 13 with z | z
      · exact h.2 i z
      · obtain ⟨r, σ, hr, hσ, rfl⟩ : ∃ r σ, r < 6 ∧ σ < 1024 ∧ i = 13 + 1024 * r + σ := ⟨(i - 13) / 1024, (i - 13) % 1024, by omega, by omega, by omega⟩
        by_cases c : r < Gn G ∧ σ < sit G r
        · have b1 : mi ρ 1 (13 + 1024 * r + σ) = nI (t r σ) := h.1.1.2.2.2 r c.1 σ c.2
          rw [b1, h.1.2.1.t c.1 c.2, k r c.1 σ c.2]
        · exact h.1.2.2 r σ hr hσ c
theorem rX_build_124 {k100 : Mem → Int32 → Int32 → Option (Int32 × Mem)} (hR : RH2 ρ G t) (hw : WF G) (hF : 5000 < F) (hp : p < Gn G) (hu : u < 64) (hk : clq G u = true) (hb : u.testBit p = true) : ∃ ρ1, agr (fun k => k = 1 ∨ k = 5) ρ ρ1 ∧ RH2 ρ1 G (fun r σ => if r = p then gss G u p σ else t r σ) ∧ pX11_build_124 F k100 (nI u) (nI (aT G u)) (nI (fA G u p % aT G u)) (nI p) F ρ 0 = k100 ρ1 (nI (fA G u (p + 1) % aT G u)) (nI (p + 1)) := by
  have hp6 := hw_lt hw hp
  have hsl := sit_le hw hp
  obtain ⟨a1, a2, a3, a4⟩ := lcT_ok (u := u) hw (Gn G) (Nat.le_refl _)
  have a1 : 1 ≤ aT G u := a1
  have a2 : aT G u ≤ 12 := a2
  have hfm : fA G u p % aT G u < aT G u := Nat.mod_lt _ a1
  have h1 := hw.h1 hp
  have h4 := hw.h4 hp
  have ef : fA G u (p + 1) = fA G u p + aT G u / Gh G p := by
    show fA G u p + (if u.testBit p = true then aT G u / Gh G p else 0) = _
    rw [if_pos hb]
  refine lp_inv (fun fu (x : Mem) i => pX11_build_124 F k100 (nI u) (nI (aT G u)) (nI (fA G u p % aT G u)) (nI p) fu x (nI i)) (fun x i => agr (fun k => k = 1 ∨ k = 5) ρ x ∧ RH2 x G (fun r σ => if r = p ∧ σ < i then gss G u p σ else t r σ)) (sit G p) (fun y => ∃ ρ1, agr (fun k => k = 1 ∨ k = 5) ρ ρ1 ∧ RH2 ρ1 G (fun r σ => if r = p then gss G u p σ else t r σ) ∧ y = k100 ρ1 (nI (fA G u (p + 1) % aT G u)) (nI (p + 1))) (fun fu s hS => ?_) (fun fu s i hi hS => ?_) F ρ 0 (Nat.zero_le _) (by omega) ⟨agr_rfl, RH2_same hR (fun r hr σ hσ => if_neg (fun w => Nat.not_lt_zero _ w.2))⟩
  · obtain ⟨b1, b2⟩ := hS
    refine ⟨s, b1, RH2_same b2 (fun r hr σ hσ => ?_), ?_⟩
    · by_cases e : r = p
      · subst e
        rw [if_pos rfl, if_pos ⟨rfl, hσ⟩]
      · rw [if_neg e, if_neg (fun w => e w.1)]
    · show pX11_build_124 F k100 (nI u) (nI (aT G u)) (nI (fA G u p % aT G u)) (nI p) (fu + 1) s (nI (sit G p)) = _
      have e8 := Nat.div_le_self (aT G u) (Gh G p)
      rw [pX11_build_124, rH_situations b2.1.1 hw (by omega) hp, rH_hats b2.1.1 hw hp]
      unfold pX11_build_179
      simp (disch := omega) only [n_0, n_1, n_2, n_3, n_4, n_5, n_6, n_7, n_8, n_9, n_10, n_12, n_13, n_14, n_20, n_31, n_32, n_63, n_64, n_600, n_1024, n_4096, n_6157, n_add, n_mul, nm_def, Option.bind_some, Option.some.injEq, ck_in, ck_nz, ck_p, n_cl, n_lt, n_le, n_eq, n_div, n_rem, if_pos, if_neg, if_true, if_false, eq_self, n_192, n_256, n_20000, m1_n0, m1_np, m1_n0p, m1_lt0, m1_lt0p, mi_setIA, mi_setI, ml_setIA, ml_setI, mr_setI, mr_setIA]
      rw [ef, Nat.mod_add_mod]
  · obtain ⟨b1, b2⟩ := hS
    obtain ⟨s1, c1, c2, c3⟩ := rH_laysSeen (F := F) (s := i) b2.1.1 hw (by omega) hp (by omega)
    have b3 := b2.agr c1 (by omega) (by omega)
    have e1 := rX_cliqueGuess (F := F) (s := i) b3.1.1 hw (by omega) hp hu hb (fun q hq hqp hbq => by
      rw [c2 q hq, if_pos (clq_sees hw hk hp hb hq hbq hqp)])
    refine ⟨setI s1 1 (13 + 1024 * p + i) (nI (gss G u p i)), ⟨agr_trans b1 (agr_trans (agr_mono c1 (fun k hk => Or.inr hk)) (agr_setI (Or.inl rfl))), RH2_same (RH2_enter b3 hw hp hi (gss G u p i)) (fun r hr σ hσ => ?_)⟩, ?_⟩
    · by_cases e : r = p ∧ σ = i
      · rw [if_pos (show r = p ∧ σ < i + 1 from ⟨e.1, by omega⟩), if_pos e, e.2]
      · rw [if_neg e]
        by_cases z : r = p ∧ σ < i
        · rw [if_pos z, if_pos ⟨z.1, by omega⟩]
        · rw [if_neg z, if_neg (fun w => z ⟨w.1, by have : σ ≠ i := fun y => e ⟨w.1, y⟩; omega⟩)]
    · show pX11_build_124 F k100 (nI u) (nI (aT G u)) (nI (fA G u p % aT G u)) (nI p) (fu + 1) s (nI i) = pX11_build_124 F k100 (nI u) (nI (aT G u)) (nI (fA G u p % aT G u)) (nI p) fu _ (nI (i + 1))
      rw [pX11_build_124, rH_situations b2.1.1 hw (by omega) hp]
      simp (disch := omega) only [n_0, n_1, n_2, n_3, n_4, n_5, n_6, n_7, n_8, n_9, n_10, n_12, n_13, n_14, n_20, n_31, n_32, n_63, n_64, n_600, n_1024, n_4096, n_6157, n_add, n_mul, nm_def, Option.bind_some, Option.some.injEq, ck_in, ck_nz, ck_p, n_cl, n_lt, n_le, n_eq, n_div, n_rem, if_pos, if_neg, if_true, if_false, eq_self, n_192, n_256, n_20000, m1_n0, m1_np, m1_n0p, m1_lt0, m1_lt0p, mi_setIA, mi_setI, ml_setIA, ml_setI, mr_setI, mr_setIA, c3, e1, rX_enters s1 hp6 (show i < 1024 by omega)]
theorem rX_build_100 (hR : RH2 ρ G (Gt G)) (hw : WF G) (hF : 7000 < F) (hu : u < 64) (hk : clq G u = true) : ∃ ρ1, agr (fun k => k = 1 ∨ k = 5) ρ ρ1 ∧ RG ρ1 1 (withT G (bT G u)) ∧ RG ρ1 4 G ∧ pX11_build_100 F (nI u) (nI (aT G u)) F ρ 0 0 = if nB G u (Gn G) = 0 then (pX11_refuse ρ1 4).bind fun t18 => some (t18.1, t18.2) else (pX11_isAct F ρ1).bind fun t19 => (pX11_lostNow F t19).bind fun t20 => some (t20.1, t20.2) := by
  have hn := hw.n6
  have a0 : 0 % aT G u = 0 := Nat.zero_mod _
  refine lp_inv (fun fu (x : Mem × Int32) i => pX11_build_100 F (nI u) (nI (aT G u)) fu x.1 x.2 (nI i)) (fun x i => agr (fun k => k = 1 ∨ k = 5) ρ x.1 ∧ RH2 x.1 G (fun r σ => if r < i ∧ u.testBit r = true then gss G u r σ else Gt G r σ) ∧ x.2 = nI (fA G u i % aT G u)) (Gn G) (fun y => ∃ ρ1, agr (fun k => k = 1 ∨ k = 5) ρ ρ1 ∧ RG ρ1 1 (withT G (bT G u)) ∧ RG ρ1 4 G ∧ y = if nB G u (Gn G) = 0 then (pX11_refuse ρ1 4).bind fun t18 => some (t18.1, t18.2) else (pX11_isAct F ρ1).bind fun t19 => (pX11_lostNow F t19).bind fun t20 => some (t20.1, t20.2)) (fun fu s hS => ?_) (fun fu s i hi hS => ?_) F (ρ, 0) 0 (Nat.zero_le _) (by omega) ⟨agr_rfl, RH2_same hR (fun r hr σ hσ => if_neg (fun w => Nat.not_lt_zero _ w.1)), by
    show (0 : Int32) = nI (0 % aT G u)
    rw [a0]
    rfl⟩
  · obtain ⟨b1, b2, b3⟩ := hS
    have hR2 : RH2 s.1 G (bT G u) := RH2_same b2 (fun r hr σ hσ => by
      unfold bT
      by_cases c : u.testBit r = true
      · rw [if_pos c, if_pos ⟨hr, c⟩]
      · rw [if_neg c, if_neg (fun w => c w.2)])
    obtain ⟨b, c1, c2⟩ := rX_isOther (F := F) hR2 hw (fun r hr σ hσ => Nat.lt_of_lt_of_le ((WF_bT (u := u) hw).t (p := r) hr hσ) (hw.h4 hr)) hF
    refine ⟨s.1, b1, hR2.1.1, hR2.1.2.1, ?_⟩
    show pX11_build_100 F (nI u) (nI (aT G u)) (fu + 1) s.1 s.2 (nI (Gn G)) = _
    rw [pX11_build_100, rH_players b2.1.1]
    simp (disch := omega) only [n_0, n_1, n_2, n_3, n_4, n_5, n_6, n_7, n_8, n_9, n_10, n_12, n_13, n_14, n_20, n_31, n_32, n_63, n_64, n_600, n_1024, n_4096, n_6157, n_add, n_mul, nm_def, Option.bind_some, Option.some.injEq, ck_in, ck_nz, ck_p, n_cl, n_lt, n_le, n_eq, n_div, n_rem, if_pos, if_neg, if_true, if_false, eq_self, n_192, n_256, n_20000, m1_n0, m1_np, m1_n0p, m1_lt0, m1_lt0p, mi_setIA, mi_setI, ml_setIA, ml_setI, mr_setI, mr_setIA, c1]
    rw [← nB_0] at c2
    cases b
    · rw [if_neg (show ¬ nB G u (Gn G) = 0 from fun w => by have := c2.mpr w; cases this)]
      simp (disch := omega) only [n_0, n_1, n_2, n_3, n_4, n_5, n_6, n_7, n_8, n_9, n_10, n_12, n_13, n_14, n_20, n_31, n_32, n_63, n_64, n_600, n_1024, n_4096, n_6157, n_add, n_mul, nm_def, Option.bind_some, Option.some.injEq, ck_in, ck_nz, ck_p, n_cl, n_lt, n_le, n_eq, n_div, n_rem, if_pos, if_neg, if_true, if_false, eq_self, n_192, n_256, n_20000, m1_n0, m1_np, m1_n0p, m1_lt0, m1_lt0p, mi_setIA, mi_setI, ml_setIA, ml_setI, mr_setI, mr_setIA, Bool.not_false, Bool.toNat_true]
    · rw [if_pos (c2.mp rfl)]
      simp (disch := omega) only [n_0, n_1, n_2, n_3, n_4, n_5, n_6, n_7, n_8, n_9, n_10, n_12, n_13, n_14, n_20, n_31, n_32, n_63, n_64, n_600, n_1024, n_4096, n_6157, n_add, n_mul, nm_def, Option.bind_some, Option.some.injEq, ck_in, ck_nz, ck_p, n_cl, n_lt, n_le, n_eq, n_div, n_rem, if_pos, if_neg, if_true, if_false, eq_self, n_192, n_256, n_20000, m1_n0, m1_np, m1_n0p, m1_lt0, m1_lt0p, mi_setIA, mi_setI, ml_setIA, ml_setI, mr_setI, mr_setIA, Bool.not_true, Bool.toNat_false]
  · obtain ⟨b1, b2, b3⟩ := hS
    by_cases c : u.testBit i = true
    · obtain ⟨ρ1, d1, d2, d3⟩ := rX_build_124 (F := F) (k100 := pX11_build_100 F (nI u) (nI (aT G u)) fu) b2 hw (by omega) hi hu hk c
      refine ⟨(ρ1, nI (fA G u (i + 1) % aT G u)), ⟨agr_trans b1 d1, RH2_same d2 (fun r hr σ hσ => ?_), rfl⟩, ?_⟩
      · by_cases e : r = i
        · rw [if_pos e, if_pos ⟨by omega, by rw [e]; exact c⟩, e]
        · rw [if_neg e]
          by_cases z : r < i ∧ u.testBit r = true
          · rw [if_pos z, if_pos ⟨by omega, z.2⟩]
          · rw [if_neg z, if_neg (fun w => z ⟨by omega, w.2⟩)]
      · show pX11_build_100 F (nI u) (nI (aT G u)) (fu + 1) s.1 s.2 (nI i) = pX11_build_100 F (nI u) (nI (aT G u)) fu ρ1 (nI (fA G u (i + 1) % aT G u)) (nI (i + 1))
        rw [pX11_build_100, rH_players b2.1.1, b3]
        simp (disch := omega) only [n_0, n_1, n_2, n_3, n_4, n_5, n_6, n_7, n_8, n_9, n_10, n_12, n_13, n_14, n_20, n_31, n_32, n_63, n_64, n_600, n_1024, n_4096, n_6157, n_add, n_mul, nm_def, Option.bind_some, Option.some.injEq, ck_in, ck_nz, ck_p, n_cl, n_lt, n_le, n_eq, n_div, n_rem, if_pos, if_neg, if_true, if_false, eq_self, n_192, n_256, n_20000, m1_n0, m1_np, m1_n0p, m1_lt0, m1_lt0p, mi_setIA, mi_setI, ml_setIA, ml_setI, mr_setI, mr_setIA, rX_has (ρ := s.1) (a := u) (k := i) (by omega) (by omega), c, Bool.toNat_true]
        exact d3
    · have c2 : u.testBit i = false := by simpa using c
      have ef : fA G u (i + 1) = fA G u i := by
        show fA G u i + (if u.testBit i = true then aT G u / Gh G i else 0) = _
        rw [if_neg c, Nat.add_zero]
      refine ⟨s, ⟨b1, RH2_same b2 (fun r hr σ hσ => ?_), by rw [ef]; exact b3⟩, ?_⟩
      · by_cases z : r < i ∧ u.testBit r = true
        · rw [if_pos z, if_pos ⟨by omega, z.2⟩]
        · rw [if_neg z, if_neg (fun w => z ⟨by
            have : r ≠ i := fun y => c (by rw [← y]; exact w.2)
            omega, w.2⟩)]
      · show pX11_build_100 F (nI u) (nI (aT G u)) (fu + 1) s.1 s.2 (nI i) = pX11_build_100 F (nI u) (nI (aT G u)) fu s.1 s.2 (nI (i + 1))
        rw [pX11_build_100, rH_players b2.1.1]
        unfold pX11_build_179
        simp (disch := omega) only [n_0, n_1, n_2, n_3, n_4, n_5, n_6, n_7, n_8, n_9, n_10, n_12, n_13, n_14, n_20, n_31, n_32, n_63, n_64, n_600, n_1024, n_4096, n_6157, n_add, n_mul, nm_def, Option.bind_some, Option.some.injEq, ck_in, ck_nz, ck_p, n_cl, n_lt, n_le, n_eq, n_div, n_rem, if_pos, if_neg, if_true, if_false, eq_self, n_192, n_256, n_20000, m1_n0, m1_np, m1_n0p, m1_lt0, m1_lt0p, mi_setIA, mi_setI, ml_setIA, ml_setI, mr_setI, mr_setIA, rX_has (ρ := s.1) (a := u) (k := i) (by omega) (by omega), c2, Bool.toNat_false]
theorem rX_build_51 (h : RG ρ 1 G) (hw : WF G) (hF : 7000 < F) (hu : u < 64) : pX11_build_51 F ρ (nI u) F 1 0 = pX11_build_100 F (nI u) (nI (aT G u)) F ρ 0 0 := by
  have hn := hw.n6
  refine lp_upE F (fun fu i => pX11_build_51 F ρ (nI u) fu (nI (lcT G u i)) (nI i)) (0) (Gn G) _ _ rfl (fun fu => ?_) (fun fu i hi1 hi2 => ?_) (by omega) (by omega)
  · show pX11_build_51 F ρ (nI u) (fu + 1) (nI (lcT G u (Gn G))) (nI (Gn G)) = _
    rw [pX11_build_51, rX_players h]
    simp (disch := omega) only [n_0, n_1, n_2, n_3, n_4, n_5, n_6, n_7, n_8, n_9, n_10, n_12, n_13, n_14, n_20, n_31, n_32, n_63, n_64, n_600, n_1024, n_4096, n_6157, n_add, n_mul, nm_def, Option.bind_some, Option.some.injEq, ck_in, ck_nz, ck_p, n_cl, n_lt, n_le, n_eq, n_div, n_rem, if_pos, if_neg, if_true, if_false, eq_self, n_192, n_256, n_20000, m1_n0, m1_np, m1_n0p, m1_lt0, m1_lt0p, mi_setIA, mi_setI, ml_setIA, ml_setI, mr_setI, mr_setIA]
    rfl
  · show pX11_build_51 F ρ (nI u) (fu + 1) (nI (lcT G u i)) (nI i) = pX11_build_51 F ρ (nI u) fu (nI (lcT G u (i + 1))) (nI (i + 1))
    obtain ⟨a1, a2, a3, -⟩ := lcT_ok (u := u) hw i (by omega)
    have h1 := hw.h1 hi2
    have h4 := hw.h4 hi2
    obtain ⟨g1, g2, g3, -⟩ := lc_fin _ a2 _ h4 a1 a3 h1
    have g4 : Nat.gcd (lcT G u i) (Gh G i) ≤ 12 := Nat.le_trans (Nat.gcd_le_left _ a1) a2
    rw [pX11_build_51, rX_players h, lcT]
    unfold pX11_build_88
    cases c : u.testBit i
    · simp (disch := omega) only [n_0, n_1, n_2, n_3, n_4, n_5, n_6, n_7, n_8, n_9, n_10, n_12, n_13, n_14, n_20, n_31, n_32, n_63, n_64, n_600, n_1024, n_4096, n_6157, n_add, n_mul, nm_def, Option.bind_some, Option.some.injEq, ck_in, ck_nz, ck_p, n_cl, n_lt, n_le, n_eq, n_div, n_rem, if_pos, if_neg, if_true, if_false, eq_self, n_192, n_256, n_20000, m1_n0, m1_np, m1_n0p, m1_lt0, m1_lt0p, mi_setIA, mi_setI, ml_setIA, ml_setI, mr_setI, mr_setIA, rX_has (ρ := ρ) (a := u) (k := i) (by omega) (by omega), c, Bool.toNat_false, Bool.false_eq_true]
    · simp (disch := omega) only [n_0, n_1, n_2, n_3, n_4, n_5, n_6, n_7, n_8, n_9, n_10, n_12, n_13, n_14, n_20, n_31, n_32, n_63, n_64, n_600, n_1024, n_4096, n_6157, n_add, n_mul, nm_def, Option.bind_some, Option.some.injEq, ck_in, ck_nz, ck_p, n_cl, n_lt, n_le, n_eq, n_div, n_rem, if_pos, if_neg, if_true, if_false, eq_self, n_192, n_256, n_20000, m1_n0, m1_np, m1_n0p, m1_lt0, m1_lt0p, mi_setIA, mi_setI, ml_setIA, ml_setI, mr_setI, mr_setIA, rX_has (ρ := ρ) (a := u) (k := i) (by omega) (by omega), c, Bool.toNat_true, rX_hats h hw hi2, rX_common ρ (show 100 < F by omega) a2 h4 a1 h1]
end CLS
section CI
variable {κ ρ : Mem} {G : Gm} {H : Nat → Gm} {m F p q : Nat}
theorem c_build (h : IV G H m κ ρ) (hF : 50000 < F) (a : Int32) : Res (pX10_build F κ a) (pX11_build F ρ a) := by
  have hw := h.W
  have hn := hw.n6
  have h64 := pow_le_64 hn
  unfold pX10_build pX11_build pX11_build_27
  rw [x_noSet h.A hw, rX_isSet h.R hw]
  cases hc : isSt G a
  · simp only [x_give, x_refuse, rX_refuse, rX_is0, rX_is1, rX_is2, rX_is3, rX_is4, rX_is5, rX_is7, nBt, nBf, o10, Bool.not_true, Bool.not_false, if_true, if_false, eq_self, Option.bind_some]
    exact res_no h agr_rfl agr_rfl
  · obtain ⟨u, hu1, hu2, rfl⟩ := isSt_t hw hc
    have hu : u < 64 := by omega
    simp only [x_give, x_refuse, rX_refuse, rX_is0, rX_is1, rX_is2, rX_is3, rX_is4, rX_is5, rX_is7, nBt, nBf, o10, Bool.not_true, Bool.not_false, if_true, if_false, eq_self, Option.bind_some, sX4_clique1 h.A hw (show 100 < F by omega) hu, rX_isClique h.R hw (show 100 < F by omega) hu]
    cases hk : clq G u
    · simp only [x_give, x_refuse, rX_refuse, rX_is0, rX_is1, rX_is2, rX_is3, rX_is4, rX_is5, rX_is7, nBt, nBf, o10, Bool.not_true, Bool.not_false, if_true, if_false, eq_self, Option.bind_some]
      exact res_no h agr_rfl agr_rfl
    · obtain ⟨κ1, a1, a2, a3⟩ := x_note h.2.1.2.1 h.m6 h.A.1 hw
      have hA1 : AR κ1 G := h.A.agr hw a1 (fun k hk => by unfold hC at hk; omega)
      obtain ⟨κ2, b1, b2, b3⟩ := sX0_tellClique (F := F) hA1.1 hw (by omega) hu
      have hw2 := WF_bT (u := u) hw
      have hA2 : AR κ2 (withT G (bT G u)) := AR_T hA1 hw b2 b1 (fun k hk => Or.inl (by omega))
      have hHN := a2.fr b1 (fun k hk => by unfold hC; omega)
      obtain ⟨ρ1, g1, g2, g3⟩ := RH2_copies (F := F) (R0 h (k := 0)) hw (by omega)
      obtain ⟨ρ2, i1, i2, i3, i4⟩ := rX_build_100 (F := F) g3 hw (by omega) hu hk
      have q2 : agr (fun k => k = 1 ∨ k = 4 ∨ k = 5) (st0 ρ 0) ρ2 := agr_trans (agr_mono g2 (fun k hk => Or.inr (Or.inl hk))) (agr_mono i1 (fun k hk => by omega))
      have hh2 := (h.2.1.2.2.st (k := 0)).kp h.HW q2 (by omega) (by omega)
      have e51 := rX_build_51 (F := F) (G := G) (ρ := ρ1) g3.1.1 hw (by omega) hu
      simp only [x_give, x_refuse, rX_refuse, rX_is0, rX_is1, rX_is2, rX_is3, rX_is4, rX_is5, rX_is7, nBt, nBf, o10, Bool.not_true, Bool.not_false, if_true, if_false, eq_self, Option.bind_some, a3, b3, g1, e51, i4]
      have hx2 : kpX κ κ2 := kpX_trans (kpX_of a1 (fun k hk => by unfold hC at hk; omega)) (kpX_of b1 (fun k hk => by omega))
      by_cases z : nB G u (Gn G) = 0
      · have zn : (nI (nB G u (Gn G)) = 0) = True := by rw [z]; exact eq_true rfl
        rw [if_pos z]
        simp only [x_give, x_refuse, rX_refuse, rX_is0, rX_is1, rX_is2, rX_is3, rX_is4, rX_is5, rX_is7, nBt, nBf, o10, Bool.not_true, Bool.not_false, if_true, if_false, eq_self, Option.bind_some, zn]
        have zz := nB_0.mp z
        have hb4 : JD κ2 (withT G (bT G u)) := JD_same hw ((h.J.ag a1 (by unfold hC; omega) (by unfold hC; omega)).ag b1 (by omega) (by omega)) zz
        exact act_re (G2 := withT G (bT G u)) (H2 := H) (m2 := m) h ⟨hw2, hA2, hb4, i2⟩ ⟨h.2.1.1, hHN.drop, hh2⟩ hx2 (kpR_of q2 (fun k hk => by omega))
      · have hle : nB G u (Gn G) < 2147483648 := by
          have : nB G u (Gn G) ≤ Gn G * 1024 := by
            unfold nB
            refine sm_bound (fun p hp => ?_)
            show (if u.testBit p = true then sm (fun s => if Gt G p s = gss G u p s then 0 else 1) (sit G p) else 0) ≤ 1024
            have hsl := sit_le hw hp
            by_cases c : u.testBit p = true
            · rw [if_pos c]
              refine Nat.le_trans (sm_bound (c := 1) (fun s _ => ?_)) (by omega)
              show (if Gt G p s = gss G u p s then 0 else 1) ≤ 1
              by_cases y : Gt G p s = gss G u p s
              · rw [if_pos y]; exact Nat.zero_le _
              · rw [if_neg y]; exact Nat.le_refl _
            · rw [if_neg c]; exact Nat.zero_le _
          omega
        have zn : (nI (nB G u (Gn G)) = 0) = False := eq_false (nI_nz hle z)
        rw [if_neg z]
        obtain ⟨κ3, d1, d2, d3⟩ := x_keep hHN h.m6
        have hA3 := hA2.agr hw2 d1 (fun k hk => by omega)
        obtain ⟨κ4, e1, e2, e3⟩ := sX1_judgeAll (F := F) hA3 hw2 (by omega)
        have hA4 := hA3.agr hw2 e1 (fun k hk => by unfold cS at hk; omega)
        obtain ⟨ρ3, j1, j2, j3, j4⟩ := rX_isAct (F := F) i2 hw2 i3 hw hh2 h.m6 h.HW (by omega)
        obtain ⟨ρ4, l1, l2, l3⟩ := rX_lostNow (F := F) j2 hw2 (by omega)
        simp only [x_give, x_refuse, rX_refuse, rX_is0, rX_is1, rX_is2, rX_is3, rX_is4, rX_is5, rX_is7, nBt, nBf, o10, Bool.not_true, Bool.not_false, if_true, if_false, eq_self, Option.bind_some, zn, d3, e3, sX1_lostInAll e2, j1, l3]
        exact act_ok (G2 := withT G (bT G u)) (H2 := hpush H m G) (m2 := hm1 m) h ⟨hw2, hA4, e2, j2.agr l1 (by unfold r56; omega)⟩ ⟨hpush_WF hw h.HW h.m6, d2.ag e1 (fun k hk => by unfold cS at hk; unfold hC; omega), j3.kp (hpush_WF hw h.HW h.m6).2 l1 (by unfold r56; omega) (by unfold r56; omega)⟩ (kpX_trans hx2 (kpX_trans (kpX_of d1 (fun k hk => by omega)) (kpX_of e1 (fun k hk => by unfold cS at hk; omega)))) (kpR_trans (kpR_trans (kpR_of q2 (fun k hk => by omega)) j4) (kpR_of l1 (fun k hk => by unfold r56 at hk; omega)))
end CI
