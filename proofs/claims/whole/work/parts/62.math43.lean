/-! COLOURS RENAMED: the reference; the call -/
theorem sm_cut {f : Nat → Nat} {m n : Nat} (hm : m ≤ n) (h : ∀ i, m ≤ i → i < n → f i = 0) : sm f n = sm f m := by
  obtain ⟨k, rfl⟩ : ∃ k, n = m + k := ⟨n - m, by omega⟩
  rw [sm_app, sm_zero (f := fun i => f (m + i)) (fun i hi => h (m + i) (by omega) (by omega)), Nat.add_zero]
section RNR
variable {ρ ρ1 : Mem} {G : Gm} {F p q c d : Nat} {t : Nat → Nat → Nat}
theorem rH_entry (h : RG ρ 1 (withT G t)) (hw : WF G) (hp : p < Gn G) {σ : Nat} (hs : σ < sit G p) : pX11_entry ρ (nI p) (nI σ) = some (nI (t p σ)) := by
  have hp6 := hw_lt hw hp
  have hs2 := sit_le hw hp
  have e : mi ρ 1 (13 + 1024 * p + σ) = nI (t p σ) := h.2.2.2 p hp σ hs
  unfold pX11_entry
  simp (disch := omega) only [n_0, n_1, n_2, n_3, n_4, n_5, n_6, n_7, n_8, n_9, n_10, n_12, n_13, n_14, n_20, n_31, n_32, n_63, n_64, n_600, n_1024, n_4096, n_6157, n_add, n_mul, nm_def, Option.bind_some, Option.some.injEq, ck_in, ck_nz, ck_p, n_cl, n_lt, n_le, n_eq, n_div, n_rem, if_pos, if_neg, if_true, if_false, eq_self, n_192, n_256, n_20000, m1_n0, m1_np, m1_n0p, m1_lt0, m1_lt0p, mi_setIA, mi_setI, ml_setIA, ml_setI, mr_setI, mr_setIA, e]
theorem rH_situationOf {d : Nat → Nat} (h : RG ρ 1 (withT G t)) (hw : WF G) (hF : 100 < F) (hp : p < Gn G) (hd : ∀ q, q < Gn G → sees G p q = true → mi ρ 5 q = nI (d q)) : pX11_situationOf F ρ (nI p) = some (nI (sO G p d)) := by
  have hn := hw.n6
  have hp6 := hw_lt hw hp
  unfold pX11_situationOf sO
  refine lp_upE F (fun fu i => pX11_situationOf_4 F ρ (nI p) fu (nI (hor (fac G p) (fun q => if sees G p q then d q else 0) i)) (nI i)) (0) (Gn G) _ _ rfl (fun fu => ?_) (fun fu i hi1 hi2 => ?_) (by omega) (by omega)
  · show pX11_situationOf_4 F ρ (nI p) (fu + 1) (nI (hor (fac G p) (fun q => if sees G p q then d q else 0) (Gn G))) (nI (Gn G)) = _
    rw [pX11_situationOf_4, rH_players h]
    simp (disch := omega) only [n_0, n_1, n_2, n_3, n_4, n_5, n_6, n_7, n_8, n_9, n_10, n_12, n_13, n_14, n_20, n_31, n_32, n_63, n_64, n_600, n_1024, n_4096, n_6157, n_add, n_mul, nm_def, Option.bind_some, Option.some.injEq, ck_in, ck_nz, ck_p, n_cl, n_lt, n_le, n_eq, n_div, n_rem, if_pos, if_neg, if_true, if_false, eq_self, n_192, n_256, n_20000, m1_n0, m1_np, m1_n0p, m1_lt0, m1_lt0p, mi_setIA, mi_setI, ml_setIA, ml_setI, mr_setI, mr_setIA]
  · show pX11_situationOf_4 F ρ (nI p) (fu + 1) (nI (hor (fac G p) (fun q => if sees G p q then d q else 0) i)) (nI i) = pX11_situationOf_4 F ρ (nI p) fu (nI (hor (fac G p) (fun q => if sees G p q then d q else 0) (i + 1))) (nI (i + 1))
    rw [pX11_situationOf_4, rH_players h, rH_sees h hw hp (by omega), rH_hats h hw hi2]
    unfold pX11_situationOf_39
    cases hc : sees G p i
    · simp (disch := omega) only [n_0, n_1, n_2, n_3, n_4, n_5, n_6, n_7, n_8, n_9, n_10, n_12, n_13, n_14, n_20, n_31, n_32, n_63, n_64, n_600, n_1024, n_4096, n_6157, n_add, n_mul, nm_def, Option.bind_some, Option.some.injEq, ck_in, ck_nz, ck_p, n_cl, n_lt, n_le, n_eq, n_div, n_rem, if_pos, if_neg, if_true, if_false, eq_self, n_192, n_256, n_20000, m1_n0, m1_np, m1_n0p, m1_lt0, m1_lt0p, mi_setIA, mi_setI, ml_setIA, ml_setI, mr_setI, mr_setIA, hor]
      rw [hc, fac_f hc]
      simp (disch := omega) only [n_0, n_1, n_2, n_3, n_4, n_5, n_6, n_7, n_8, n_9, n_10, n_12, n_13, n_14, n_20, n_31, n_32, n_63, n_64, n_600, n_1024, n_4096, n_6157, n_add, n_mul, nm_def, Option.bind_some, Option.some.injEq, ck_in, ck_nz, ck_p, n_cl, n_lt, n_le, n_eq, n_div, n_rem, if_pos, if_neg, if_true, if_false, eq_self, n_192, n_256, n_20000, m1_n0, m1_np, m1_n0p, m1_lt0, m1_lt0p, mi_setIA, mi_setI, ml_setIA, ml_setI, mr_setI, mr_setIA, Bool.toNat_false, Nat.mul_one]
      rfl
    · have e1 := hd i hi2 hc
      simp (disch := omega) only [n_0, n_1, n_2, n_3, n_4, n_5, n_6, n_7, n_8, n_9, n_10, n_12, n_13, n_14, n_20, n_31, n_32, n_63, n_64, n_600, n_1024, n_4096, n_6157, n_add, n_mul, nm_def, Option.bind_some, Option.some.injEq, ck_in, ck_nz, ck_p, n_cl, n_lt, n_le, n_eq, n_div, n_rem, if_pos, if_neg, if_true, if_false, eq_self, n_192, n_256, n_20000, m1_n0, m1_np, m1_n0p, m1_lt0, m1_lt0p, mi_setIA, mi_setI, ml_setIA, ml_setI, mr_setI, mr_setIA, e1, hor]
      rw [fac_t hc]
      simp (disch := omega) only [n_0, n_1, n_2, n_3, n_4, n_5, n_6, n_7, n_8, n_9, n_10, n_12, n_13, n_14, n_20, n_31, n_32, n_63, n_64, n_600, n_1024, n_4096, n_6157, n_add, n_mul, nm_def, Option.bind_some, Option.some.injEq, ck_in, ck_nz, ck_p, n_cl, n_lt, n_le, n_eq, n_div, n_rem, if_pos, if_neg, if_true, if_false, eq_self, n_192, n_256, n_20000, m1_n0, m1_np, m1_n0p, m1_lt0, m1_lt0p, mi_setIA, mi_setI, ml_setIA, ml_setI, mr_setI, mr_setIA, Bool.toNat_true]
/-- a table of another network of the same heads, and beside it the first -/
def RH (ρ : Mem) (G : Gm) (t : Nat → Nat → Nat) : Prop := RG ρ 1 (withT G t) ∧ RG ρ 4 G ∧ ∀ r σ, r < 6 → σ < 1024 → ¬ (r < Gn G ∧ σ < sit G r) → mi ρ 1 (13 + 1024 * r + σ) = mi ρ 4 (13 + 1024 * r + σ)
theorem RH_enter {s : Nat} (h : RH ρ G t) (hw : WF G) (hp : p < Gn G) (hs : s < sit G p) (c : Nat) : RH (setI ρ 1 (13 + 1024 * p + s) (nI c)) G (fun q σ => if q = p ∧ σ = s then c else t q σ) := by
  have hsl := sit_le hw hp
  refine ⟨RG_enter h.1 hw hp hs c, h.2.1.agr (S := fun k => k = 1) (agr_setI rfl) (by omega), fun r σ hr hσ hz => ?_⟩
  have hne : ¬ (13 + 1024 * r + σ = 13 + 1024 * p + s) := fun z => by
    have : r = p := by omega
    subst this
    have : σ = s := by omega
    subst this
    exact hz ⟨hp, hs⟩
  rw [mi_setI, if_neg (fun z => hne z.2), mi_setI, if_neg (by omega)]
  exact h.2.2 r σ hr hσ hz
theorem RH_same {t2 : Nat → Nat → Nat} (h : RH ρ G t) (ht : ∀ p, p < Gn G → ∀ σ, σ < sit G p → t2 p σ = t p σ) : RH ρ G t2 := ⟨RG_same h.1 ht, h.2⟩
theorem RH.agr {S : Nat → Prop} (h : RH ρ G t) (ha : agr S ρ ρ1) (h1 : ¬ S 1) (h4 : ¬ S 4) : RH ρ1 G t := ⟨h.1.agr ha h1, h.2.1.agr ha h4, fun r σ hr hσ hz => by rw [agr_mi ha h1, agr_mi ha h4]; exact h.2.2 r σ hr hσ hz⟩
theorem RH_copies (hR : RG ρ 1 G) (hw : WF G) (hF : 7000 < F) : ∃ ρ1, pX11_copies F 1 4 ρ = some ρ1 ∧ agr (fun k => k = 4) ρ ρ1 ∧ RH ρ1 G (Gt G) := by
  refine ⟨_, rX_copies (by decide) rfl rfl hF, agr_setIA rfl, hR.set (by decide), RG_copied hR hw, fun r σ hr hσ _ => ?_⟩
  rw [mi_setIA, if_neg (by decide), mi_setIA, if_pos rfl, wr_in (Nat.zero_le _) (by omega)]
  rfl
/-- how many cells are other ones -/
theorem rH_count (h : RH ρ G t) (hw : WF G) (ht : ∀ r, r < Gn G → ∀ σ, σ < sit G r → t r σ < 4) (hF : 7000 < F) : pX11_rename_203 F ρ F 0 13 = (pX11_isAct F ρ).bind fun t17 => some (nI (sm (fun r => sm (dif G t r) (sit G r)) (Gn G)), t17) := by
  have hn := hw.n6
  obtain ⟨f, ef⟩ : ∃ f : Nat → Nat, f = fun k => if k < 13 then 0 else if mi ρ 1 k = mi ρ 4 k then 0 else 1 := ⟨_, rfl⟩
  have e0 : sm f 13 = 0 := sm_zero (fun i hi => by rw [ef]; exact if_pos hi)
  have e1 : sm f 6157 = sm (fun r => sm (dif G t r) (sit G r)) (Gn G) := by
    rw [show (6157 : Nat) = 13 + 6 * 1024 from rfl, sm_app, e0, Nat.zero_add, sm_grid]
    rw [sm_cut (m := Gn G) hn (fun r h1 h2 => sm_zero (fun σ hσ => ?_))]
    · refine sm_congr (fun r hr => ?_)
      have hl := sit_le hw hr
      rw [sm_cut (m := sit G r) hl (fun σ h1 h2 => ?_)]
      · refine sm_congr (fun σ hσ => ?_)
        have b1 : mi ρ 1 (13 + 1024 * r + σ) = nI (t r σ) := h.1.2.2.2 r hr σ hσ
        have b2 := h.2.1.t hr hσ
        have b3 := ht r hr σ hσ
        have b4 := hw.t hr hσ
        have b5 := hw.h4 hr
        have b6 : (nI (t r σ) = nI (Gt G r σ)) = (t r σ = Gt G r σ) := n_eq (by omega) (by omega)
        rw [ef]
        show (if 13 + (r * 1024 + σ) < 13 then 0 else if mi ρ 1 (13 + (r * 1024 + σ)) = mi ρ 4 (13 + (r * 1024 + σ)) then 0 else 1) = _
        rw [if_neg (by omega), show 13 + (r * 1024 + σ) = 13 + 1024 * r + σ by omega, b1, b2]
        unfold dif
        simp only [b6]
      · rw [ef]
        show (if 13 + (r * 1024 + σ) < 13 then 0 else if mi ρ 1 (13 + (r * 1024 + σ)) = mi ρ 4 (13 + (r * 1024 + σ)) then 0 else 1) = _
        rw [if_neg (by omega), show 13 + (r * 1024 + σ) = 13 + 1024 * r + σ by omega, h.2.2 r σ (by omega) h2 (by omega), if_pos rfl]
    · rw [ef]
      show (if 13 + (r * 1024 + σ) < 13 then 0 else if mi ρ 1 (13 + (r * 1024 + σ)) = mi ρ 4 (13 + (r * 1024 + σ)) then 0 else 1) = _
      rw [if_neg (by omega), show 13 + (r * 1024 + σ) = 13 + 1024 * r + σ by omega, h.2.2 r σ h2 hσ (by omega), if_pos rfl]
  rw [← e1]
  refine lp_upE F (fun fu i => pX11_rename_203 F ρ fu (nI (sm f i)) (nI i)) (13) (6157) _ _ ?_ (fun fu => ?_) (fun fu i hi1 hi2 => ?_) (by omega) (by omega)
  · rw [e0]
    rfl
  · show pX11_rename_203 F ρ (fu + 1) (nI (sm f (6157))) (nI (6157)) = _
    rw [pX11_rename_203]
    simp (disch := omega) only [n_0, n_1, n_2, n_3, n_4, n_5, n_6, n_7, n_8, n_9, n_10, n_12, n_13, n_14, n_20, n_31, n_32, n_63, n_64, n_600, n_1024, n_4096, n_6157, n_add, n_mul, nm_def, Option.bind_some, Option.some.injEq, ck_in, ck_nz, ck_p, n_cl, n_lt, n_le, n_eq, n_div, n_rem, if_pos, if_neg, if_true, if_false, eq_self, n_192, n_256, n_20000, m1_n0, m1_np, m1_n0p, m1_lt0, m1_lt0p, mi_setIA, mi_setI, ml_setIA, ml_setI, mr_setI, mr_setIA]
  · show pX11_rename_203 F ρ (fu + 1) (nI (sm f i)) (nI i) = pX11_rename_203 F ρ fu (nI (sm f (i + 1))) (nI (i + 1))
    rw [pX11_rename_203]
    unfold pX11_rename_235
    have e2 : sm f (i + 1) = sm f i + if mi ρ 1 i = mi ρ 4 i then 0 else 1 := by
      rw [sm, ef]
      show _ + (if i < 13 then 0 else if mi ρ 1 i = mi ρ 4 i then 0 else 1) = _
      rw [if_neg (by omega)]
    rw [e2]
    by_cases z : mi ρ 1 i = mi ρ 4 i
    · simp (disch := omega) only [n_0, n_1, n_2, n_3, n_4, n_5, n_6, n_7, n_8, n_9, n_10, n_12, n_13, n_14, n_20, n_31, n_32, n_63, n_64, n_600, n_1024, n_4096, n_6157, n_add, n_mul, nm_def, Option.bind_some, Option.some.injEq, ck_in, ck_nz, ck_p, n_cl, n_lt, n_le, n_eq, n_div, n_rem, if_pos, if_neg, if_true, if_false, eq_self, n_192, n_256, n_20000, m1_n0, m1_np, m1_n0p, m1_lt0, m1_lt0p, mi_setIA, mi_setI, ml_setIA, ml_setI, mr_setI, mr_setIA, z]
    · simp (disch := omega) only [n_0, n_1, n_2, n_3, n_4, n_5, n_6, n_7, n_8, n_9, n_10, n_12, n_13, n_14, n_20, n_31, n_32, n_63, n_64, n_600, n_1024, n_4096, n_6157, n_add, n_mul, nm_def, Option.bind_some, Option.some.injEq, ck_in, ck_nz, ck_p, n_cl, n_lt, n_le, n_eq, n_div, n_rem, if_pos, if_neg, if_true, if_false, eq_self, n_192, n_256, n_20000, m1_n0, m1_np, m1_n0p, m1_lt0, m1_lt0p, mi_setIA, mi_setI, ml_setIA, ml_setI, mr_setI, mr_setIA, z]
theorem rX_renamed {x : Nat} (ρ : Mem) (hx : x < 4) (hc : c < 4) (hd : d < 4) : pX11_renamed ρ (nI x) (nI c) (nI d) = some (nI (rn c d x)) := by
  have e1 : (nI x = nI c) = (x = c) := n_eq (by omega) (by omega)
  have e2 : (nI x = nI d) = (x = d) := n_eq (by omega) (by omega)
  unfold pX11_renamed pX11_renamed_19 rn
  simp only [e1, e2]
  by_cases h1 : x = c
  · rw [if_pos h1, if_pos h1]
  · rw [if_neg h1, if_neg h1]
    by_cases h2 : x = d
    · rw [if_pos h2, if_pos h2]
    · rw [if_neg h2, if_neg h2]
/-- one who sees p -/
theorem rX_rename_119 {k94 : Mem → Int32 → Option (Int32 × Mem)} (hR : RH ρ G t) (hw : WF G) (hF : 5000 < F) (hp : p < Gn G) (hq : q < Gn G) (hs : sees G q p = true) (hc : c < Gh G p) (hd : d < Gh G p) (ht : ∀ σ, σ < sit G q → t q σ = Gt G q σ) : ∃ ρ1, agr (fun k => k = 1 ∨ k = 5) ρ ρ1 ∧ RH ρ1 G (fun r σ => if r = q then Gt G q (mv G q p c d σ) else t r σ) ∧ pX11_rename_119 F k94 (nI p) (nI c) (nI d) (nI q) F ρ 0 = k94 ρ1 (nI (q + 1)) := by
  have hp6 := hw_lt hw hp
  have hq6 := hw_lt hw hq
  have h4 := hw.h4 hp
  have hsl := sit_le hw hq
  refine lp_inv (fun fu (s : Mem) i => pX11_rename_119 F k94 (nI p) (nI c) (nI d) (nI q) fu s (nI i)) (fun s i => agr (fun k => k = 1 ∨ k = 5) ρ s ∧ RH s G (fun r σ => if r = q then (if mv G q p c d σ < i then Gt G q (mv G q p c d σ) else Gt G q σ) else t r σ)) (sit G q) (fun x => ∃ ρ1, agr (fun k => k = 1 ∨ k = 5) ρ ρ1 ∧ RH ρ1 G (fun r σ => if r = q then Gt G q (mv G q p c d σ) else t r σ) ∧ x = k94 ρ1 (nI (q + 1))) (fun fu s hI => ?_) (fun fu s i hi hI => ?_) F ρ 0 (Nat.zero_le _) (by omega) ⟨agr_rfl, RH_same hR (fun r hr σ hσ => ?_)⟩
  · refine ⟨s, hI.1, RH_same hI.2 (fun r hr σ hσ => ?_), ?_⟩
    · by_cases e : r = q
      · subst e
        rw [if_pos rfl, if_pos rfl, if_pos (mv_lt hw hr hs hc hd hσ)]
      · rw [if_neg e, if_neg e]
    · show pX11_rename_119 F k94 (nI p) (nI c) (nI d) (nI q) (fu + 1) s (nI (sit G q)) = _
      rw [pX11_rename_119, rH_situations hI.2.1 hw (by omega) hq]
      unfold pX11_rename_190
      simp (disch := omega) only [n_0, n_1, n_2, n_3, n_4, n_5, n_6, n_7, n_8, n_9, n_10, n_12, n_13, n_14, n_20, n_31, n_32, n_63, n_64, n_600, n_1024, n_4096, n_6157, n_add, n_mul, nm_def, Option.bind_some, Option.some.injEq, ck_in, ck_nz, ck_p, n_cl, n_lt, n_le, n_eq, n_div, n_rem, if_pos, if_neg, if_true, if_false, eq_self, n_192, n_256, n_20000, m1_n0, m1_np, m1_n0p, m1_lt0, m1_lt0p, mi_setIA, mi_setI, ml_setIA, ml_setI, mr_setI, mr_setIA]
  · obtain ⟨b1, b2⟩ := hI
    have hcl := cIn_lt (p := q) hw hp i
    obtain ⟨s1, a1, a2, a3⟩ := rH_laysSeen (F := F) (s := i) b2.1 hw (by omega) hq (by omega)
    have e5 : mi s1 5 p = nI (cIn G q p i) := by rw [a2 p hp, if_pos hs]
    have e6 := rX_renamed s1 (x := cIn G q p i) (c := c) (d := d) (by omega) (by omega) (by omega)
    have a4 : agr (fun k => k = 5) s (setI s1 5 p (nI (rn c d (cIn G q p i)))) := agr_trans a1 (agr_setI rfl)
    have hb := b2.agr a4 (by omega) (by omega)
    have e7 := rH_situationOf (F := F) (d := fun r => if r = p then rn c d (cIn G q p i) else cIn G q r i) hb.1 hw (by omega) hq (fun r hr hsr => by
      rw [mi_setI]
      show _ = nI (if r = p then rn c d (cIn G q p i) else cIn G q r i)
      by_cases e : r = p
      · rw [if_pos ⟨rfl, e⟩, if_pos e]
      · rw [if_neg (fun z => e z.2), if_neg e, a2 r hr, if_pos hsr])
    have e8 : sO G q (fun r => if r = p then rn c d (cIn G q p i) else cIn G q r i) = mv G q p c d i := by
      rw [sO_chg hw hq hs hi (fun r hr hne => if_neg hne), if_pos rfl]
      rfl
    rw [e8] at e7
    have hm := mv_lt hw hq hs hc hd hi
    have e9 : mi s1 4 (13 + 1024 * q + i) = nI (Gt G q i) := (b2.agr a1 (by omega) (by omega)).2.1.t hq hi
    refine ⟨setI (setI s1 5 p (nI (rn c d (cIn G q p i)))) 1 (13 + 1024 * q + mv G q p c d i) (nI (Gt G q i)), ⟨agr_trans b1 (agr_trans (agr_mono a4 (fun k hk => Or.inr hk)) (agr_setI (Or.inl rfl))), RH_same (RH_enter hb hw hq hm (Gt G q i)) (fun r hr σ hσ => ?_)⟩, ?_⟩
    · by_cases e : r = q
      · subst e
        rw [if_pos rfl]
        have hmm := mv_mv hw hr hs hc hd hσ
        by_cases z : σ = mv G r p c d i
        · have z2 : mv G r p c d σ = i := by rw [z]; exact mv_mv hw hr hs hc hd hi
          rw [if_pos (show mv G r p c d σ < i + 1 by omega), if_pos ⟨rfl, z⟩, z2]
        · have z2 : mv G r p c d σ ≠ i := fun w => z (by rw [← w, hmm])
          rw [if_neg (show ¬ (r = r ∧ σ = mv G r p c d i) from fun w => z w.2), if_pos rfl]
          by_cases z3 : mv G r p c d σ < i
          · rw [if_pos z3, if_pos (by omega)]
          · rw [if_neg z3, if_neg (by omega)]
      · rw [if_neg e, if_neg (fun w => e w.1), if_neg e]
    · show pX11_rename_119 F k94 (nI p) (nI c) (nI d) (nI q) (fu + 1) s (nI i) = pX11_rename_119 F k94 (nI p) (nI c) (nI d) (nI q) fu _ (nI (i + 1))
      rw [pX11_rename_119, rH_situations b2.1 hw (by omega) hq]
      simp (disch := omega) only [n_0, n_1, n_2, n_3, n_4, n_5, n_6, n_7, n_8, n_9, n_10, n_12, n_13, n_14, n_20, n_31, n_32, n_63, n_64, n_600, n_1024, n_4096, n_6157, n_add, n_mul, nm_def, Option.bind_some, Option.some.injEq, ck_in, ck_nz, ck_p, n_cl, n_lt, n_le, n_eq, n_div, n_rem, if_pos, if_neg, if_true, if_false, eq_self, n_192, n_256, n_20000, m1_n0, m1_np, m1_n0p, m1_lt0, m1_lt0p, mi_setIA, mi_setI, ml_setIA, ml_setI, mr_setI, mr_setIA, a3, e5, e6, e7, e9, rX_enters (setI s1 5 p (nI (rn c d (cIn G q p i)))) hq6 (show mv G q p c d i < 1024 by omega)]
  · by_cases e : r = q
    · subst e
      rw [if_pos rfl, if_neg (Nat.not_lt_zero _), ht σ hσ]
    · rw [if_neg e]
theorem rX_rename_94 (hR : RH ρ G (fun r σ => if r = p then rn c d (Gt G p σ) else Gt G r σ)) (hw : WF G) (hF : 7000 < F) (hp : p < Gn G) (hc : c < Gh G p) (hd : d < Gh G p) (hcd : c ≠ d) : ∃ ρ1, agr (fun k => k = 1 ∨ k = 5) ρ ρ1 ∧ RG ρ1 1 (renG G p c d) ∧ RG ρ1 4 G ∧ pX11_rename_94 F (nI p) (nI c) (nI d) F ρ 0 = (pX11_isAct F ρ1).bind fun t17 => some (nI (nRen G p c d), t17) := by
  have hp6 := hw_lt hw hp
  have hn := hw.n6
  refine lp_inv (fun fu (s : Mem) i => pX11_rename_94 F (nI p) (nI c) (nI d) fu s (nI i)) (fun s i => agr (fun k => k = 1 ∨ k = 5) ρ s ∧ RH s G (fun r σ => if r = p then rn c d (Gt G p σ) else if r < i ∧ sees G r p = true then Gt G r (mv G r p c d σ) else Gt G r σ)) (Gn G) (fun x => ∃ ρ1, agr (fun k => k = 1 ∨ k = 5) ρ ρ1 ∧ RG ρ1 1 (renG G p c d) ∧ RG ρ1 4 G ∧ x = (pX11_isAct F ρ1).bind fun t17 => some (nI (nRen G p c d), t17)) (fun fu s hI => ?_) (fun fu s i hi hI => ?_) F ρ 0 (Nat.zero_le _) (by omega) ⟨agr_rfl, RH_same hR (fun r hr σ hσ => ?_)⟩
  · obtain ⟨b1, b2⟩ := hI
    have hR2 : RH s G (tR G p c d) := RH_same b2 (fun r hr σ hσ => by
      unfold tR
      by_cases e : r = p
      · rw [if_pos e, if_pos e]
      · rw [if_neg e, if_neg e]
        by_cases hs : sees G r p = true
        · rw [if_pos hs, if_pos ⟨hr, hs⟩]
        · rw [if_neg hs, if_neg (fun w => hs w.2)])
    refine ⟨s, b1, hR2.1, hR2.2.1, ?_⟩
    show pX11_rename_94 F (nI p) (nI c) (nI d) (fu + 1) s (nI (Gn G)) = _
    rw [pX11_rename_94, rH_players b2.1]
    simp (disch := omega) only [n_0, n_1, n_2, n_3, n_4, n_5, n_6, n_7, n_8, n_9, n_10, n_12, n_13, n_14, n_20, n_31, n_32, n_63, n_64, n_600, n_1024, n_4096, n_6157, n_add, n_mul, nm_def, Option.bind_some, Option.some.injEq, ck_in, ck_nz, ck_p, n_cl, n_lt, n_le, n_eq, n_div, n_rem, if_pos, if_neg, if_true, if_false, eq_self, n_192, n_256, n_20000, m1_n0, m1_np, m1_n0p, m1_lt0, m1_lt0p, mi_setIA, mi_setI, ml_setIA, ml_setI, mr_setI, mr_setIA]
    show pX11_rename_203 F s F 0 13 = _
    rw [rH_count hR2 hw (fun r hr σ hσ => Nat.lt_of_lt_of_le (tR_lt hw hp hc hd r hr σ hσ) (hw.h4 hr)) (by omega), dif_all hw hp hcd hc hd]
  · obtain ⟨b1, b2⟩ := hI
    have hi6 : i < 6 := by omega
    have e1 := rH_sees b2.1 hw hi (show p < 32 by omega)
    cases hs : sees G i p
    · refine ⟨s, ⟨b1, RH_same b2 (fun r hr σ hσ => ?_)⟩, ?_⟩
      · by_cases e : r = p
        · rw [if_pos e, if_pos e]
        · rw [if_neg e, if_neg e]
          by_cases z : r < i ∧ sees G r p = true
          · rw [if_pos z, if_pos ⟨by omega, z.2⟩]
          · rw [if_neg z, if_neg (fun w => z ⟨by
              have : r ≠ i := fun y => by rw [y, hs] at w; cases w.2
              omega, w.2⟩)]
      · show pX11_rename_94 F (nI p) (nI c) (nI d) (fu + 1) s (nI i) = pX11_rename_94 F (nI p) (nI c) (nI d) fu s (nI (i + 1))
        rw [pX11_rename_94, rH_players b2.1, e1, hs]
        unfold pX11_rename_190
        simp (disch := omega) only [n_0, n_1, n_2, n_3, n_4, n_5, n_6, n_7, n_8, n_9, n_10, n_12, n_13, n_14, n_20, n_31, n_32, n_63, n_64, n_600, n_1024, n_4096, n_6157, n_add, n_mul, nm_def, Option.bind_some, Option.some.injEq, ck_in, ck_nz, ck_p, n_cl, n_lt, n_le, n_eq, n_div, n_rem, if_pos, if_neg, if_true, if_false, eq_self, n_192, n_256, n_20000, m1_n0, m1_np, m1_n0p, m1_lt0, m1_lt0p, mi_setIA, mi_setI, ml_setIA, ml_setI, mr_setI, mr_setIA, Bool.toNat_false]
    · have hip : i ≠ p := fun z => by rw [z, (hw.2 p hp).2.2.1] at hs; cases hs
      obtain ⟨ρ1, c1, c2, c3⟩ := rX_rename_119 (F := F) (k94 := pX11_rename_94 F (nI p) (nI c) (nI d) fu) b2 hw (by omega) hp hi hs hc hd (fun σ hσ => by rw [if_neg hip, if_neg (fun w => Nat.lt_irrefl _ w.1)])
      refine ⟨ρ1, ⟨agr_trans b1 c1, RH_same c2 (fun r hr σ hσ => ?_)⟩, ?_⟩
      · by_cases e2 : r = i
        · rw [if_pos e2, if_neg (by omega), if_pos ⟨by omega, by rw [e2]; exact hs⟩, e2]
        · rw [if_neg e2]
          by_cases e : r = p
          · rw [if_pos e, if_pos e]
          · rw [if_neg e, if_neg e]
            by_cases z : r < i ∧ sees G r p = true
            · rw [if_pos z, if_pos ⟨by omega, z.2⟩]
            · rw [if_neg z, if_neg (fun w => z ⟨by omega, w.2⟩)]
      · show pX11_rename_94 F (nI p) (nI c) (nI d) (fu + 1) s (nI i) = pX11_rename_94 F (nI p) (nI c) (nI d) fu ρ1 (nI (i + 1))
        rw [pX11_rename_94, rH_players b2.1, e1, hs]
        simp (disch := omega) only [n_0, n_1, n_2, n_3, n_4, n_5, n_6, n_7, n_8, n_9, n_10, n_12, n_13, n_14, n_20, n_31, n_32, n_63, n_64, n_600, n_1024, n_4096, n_6157, n_add, n_mul, nm_def, Option.bind_some, Option.some.injEq, ck_in, ck_nz, ck_p, n_cl, n_lt, n_le, n_eq, n_div, n_rem, if_pos, if_neg, if_true, if_false, eq_self, n_192, n_256, n_20000, m1_n0, m1_np, m1_n0p, m1_lt0, m1_lt0p, mi_setIA, mi_setI, ml_setIA, ml_setI, mr_setI, mr_setIA, Bool.toNat_true]
        exact c3
  · by_cases e : r = p
    · rw [if_pos e, if_pos e]
    · rw [if_neg e, if_neg e, if_neg (fun w => Nat.not_lt_zero _ w.1)]
theorem rX_rename_56 (hR : RH ρ G (Gt G)) (hw : WF G) (hF : 7000 < F) (hp : p < Gn G) (hc : c < Gh G p) (hd : d < Gh G p) (hcd : c ≠ d) : ∃ ρ1, agr (fun k => k = 1 ∨ k = 5) ρ ρ1 ∧ RG ρ1 1 (renG G p c d) ∧ RG ρ1 4 G ∧ pX11_rename_56 F (nI p) (nI c) (nI d) F ρ 0 = (pX11_isAct F ρ1).bind fun t17 => some (nI (nRen G p c d), t17) := by
  have hp6 := hw_lt hw hp
  have h4 := hw.h4 hp
  have hsl := sit_le hw hp
  refine lp_inv (fun fu (s : Mem) i => pX11_rename_56 F (nI p) (nI c) (nI d) fu s (nI i)) (fun s i => agr (fun k => k = 1 ∨ k = 5) ρ s ∧ RH s G (fun r σ => if r = p ∧ σ < i then rn c d (Gt G p σ) else Gt G r σ)) (sit G p) (fun x => ∃ ρ1, agr (fun k => k = 1 ∨ k = 5) ρ ρ1 ∧ RG ρ1 1 (renG G p c d) ∧ RG ρ1 4 G ∧ x = (pX11_isAct F ρ1).bind fun t17 => some (nI (nRen G p c d), t17)) (fun fu s hI => ?_) (fun fu s i hi hI => ?_) F ρ 0 (Nat.zero_le _) (by omega) ⟨agr_rfl, RH_same hR (fun r hr σ hσ => if_neg (fun w => Nat.not_lt_zero _ w.2))⟩
  · obtain ⟨b1, b2⟩ := hI
    obtain ⟨ρ1, c1, c2, c3, c4⟩ := rX_rename_94 (F := F) (ρ := s) (RH_same b2 (fun r hr σ hσ => by
      by_cases e : r = p
      · subst e
        rw [if_pos rfl, if_pos ⟨rfl, hσ⟩]
      · rw [if_neg e, if_neg (fun w => e w.1)])) hw hF hp hc hd hcd
    refine ⟨ρ1, agr_trans b1 c1, c2, c3, ?_⟩
    show pX11_rename_56 F (nI p) (nI c) (nI d) (fu + 1) s (nI (sit G p)) = _
    rw [pX11_rename_56, rH_situations b2.1 hw (by omega) hp]
    simp (disch := omega) only [n_0, n_1, n_2, n_3, n_4, n_5, n_6, n_7, n_8, n_9, n_10, n_12, n_13, n_14, n_20, n_31, n_32, n_63, n_64, n_600, n_1024, n_4096, n_6157, n_add, n_mul, nm_def, Option.bind_some, Option.some.injEq, ck_in, ck_nz, ck_p, n_cl, n_lt, n_le, n_eq, n_div, n_rem, if_pos, if_neg, if_true, if_false, eq_self, n_192, n_256, n_20000, m1_n0, m1_np, m1_n0p, m1_lt0, m1_lt0p, mi_setIA, mi_setI, ml_setIA, ml_setI, mr_setI, mr_setIA]
    exact c4
  · obtain ⟨b1, b2⟩ := hI
    have htp := hw.t hp hi
    have e1 := rH_entry b2.1 hw hp hi
    rw [if_neg (show ¬ (p = p ∧ i < i) from fun w => Nat.lt_irrefl _ w.2)] at e1
    refine ⟨setI s 1 (13 + 1024 * p + i) (nI (rn c d (Gt G p i))), ⟨agr_trans b1 (agr_setI (Or.inl rfl)), RH_same (RH_enter b2 hw hp hi (rn c d (Gt G p i))) (fun r hr σ hσ => ?_)⟩, ?_⟩
    · by_cases e : r = p ∧ σ = i
      · rw [if_pos (show r = p ∧ σ < i + 1 from ⟨e.1, by omega⟩), if_pos e, e.2]
      · rw [if_neg e]
        by_cases z : r = p ∧ σ < i
        · rw [if_pos z, if_pos ⟨z.1, by omega⟩]
        · rw [if_neg z, if_neg (fun w => z ⟨w.1, by have : σ ≠ i := fun y => e ⟨w.1, y⟩; omega⟩)]
    · show pX11_rename_56 F (nI p) (nI c) (nI d) (fu + 1) s (nI i) = pX11_rename_56 F (nI p) (nI c) (nI d) fu _ (nI (i + 1))
      rw [pX11_rename_56, rH_situations b2.1 hw (by omega) hp]
      simp (disch := omega) only [n_0, n_1, n_2, n_3, n_4, n_5, n_6, n_7, n_8, n_9, n_10, n_12, n_13, n_14, n_20, n_31, n_32, n_63, n_64, n_600, n_1024, n_4096, n_6157, n_add, n_mul, nm_def, Option.bind_some, Option.some.injEq, ck_in, ck_nz, ck_p, n_cl, n_lt, n_le, n_eq, n_div, n_rem, if_pos, if_neg, if_true, if_false, eq_self, n_192, n_256, n_20000, m1_n0, m1_np, m1_n0p, m1_lt0, m1_lt0p, mi_setIA, mi_setI, ml_setIA, ml_setI, mr_setI, mr_setIA, e1, rX_renamed s (show Gt G p i < 4 by omega) (show c < 4 by omega) (show d < 4 by omega), rX_enters s hp6 (show i < 1024 by omega)]
end RNR
section CF
variable {κ ρ : Mem} {G : Gm} {H : Nat → Gm} {m F p q : Nat}
theorem c_rename (h : IV G H m κ ρ) (hF : 50000 < F) (a b b2 : Int32) : Res (pX10_rename F κ a b b2) (pX11_rename F ρ a b b2) := by
  have hw := h.W
  have hn := hw.n6
  unfold pX10_rename pX11_rename pX11_rename_33 pX11_rename_19 pX10_rename_18 pX11_rename_33
  rw [x_noColour h.A hw, x_noColour h.A hw, rX_isColour h.R hw, rX_isColour h.R hw]
  cases hc : isC G a b
  · simp only [x_give, x_refuse, rX_refuse, rX_is0, rX_is1, rX_is2, rX_is3, rX_is4, rX_is5, rX_is7, nBt, nBf, o10, Bool.not_true, Bool.not_false, if_true, if_false, eq_self, Option.bind_some]
    exact res_no h agr_rfl agr_rfl
  · cases hd : isC G a b2
    · simp only [x_give, x_refuse, rX_refuse, rX_is0, rX_is1, rX_is2, rX_is3, rX_is4, rX_is5, rX_is7, nBt, nBf, o10, Bool.not_true, Bool.not_false, if_true, if_false, eq_self, Option.bind_some]
      exact res_no h agr_rfl agr_rfl
    · obtain ⟨p, c, hp, hc0, rfl, rfl⟩ := isC_t hw hc
      obtain ⟨p2, d, hp2, hd0, hpe, rfl⟩ := isC_t hw hd
      have hpp : p2 = p := by
        have := hw_lt hw hp
        have := hw_lt hw hp2
        exact ((n_eq (a := p) (b := p2) (by omega) (by omega)).mp hpe).symm
      subst hpp
      have hp6 := hw_lt hw hp
      have h4 := hw.h4 hp
      have en : (nI c = nI d) = (c = d) := n_eq (by omega) (by omega)
      simp only [x_give, x_refuse, rX_refuse, rX_is0, rX_is1, rX_is2, rX_is3, rX_is4, rX_is5, rX_is7, nBt, nBf, o10, Bool.not_true, Bool.not_false, if_true, if_false, eq_self, Option.bind_some, en]
      by_cases c3 : c = d
      · rw [if_pos c3, if_pos c3]
        exact res_no h agr_rfl agr_rfl
      · rw [if_neg c3, if_neg c3]
        have hw2 := WF_renG (c := c) (d := d) hw hp hc0 hd0
        obtain ⟨κ1, a1, a2, a3⟩ := x_note h.2.1.2.1 h.m6 h.A.1 hw
        have hA1 : AR κ1 G := h.A.agr hw a1 (fun k hk => by unfold hC at hk; omega)
        obtain ⟨κ2, b1, b2, b3⟩ := sX0_swapNames (F := F) hA1.1 hw (by omega) hp hc0 hd0 c3
        have hA2 : AR κ2 (renG G p2 c d) := AR_T hA1 hw b2 b1 (fun k hk => Or.inl (by omega))
        obtain ⟨κ3, d1, d2, d3⟩ := x_keep (a2.fr b1 (fun k hk => by unfold hC; omega)) h.m6
        have hA3 := hA2.agr hw2 d1 (fun k hk => by omega)
        obtain ⟨κ4, e1, e2, e3⟩ := sX1_judgeAll (F := F) hA3 hw2 (by omega)
        have hA4 := hA3.agr hw2 e1 (fun k hk => by unfold cS at hk; omega)
        obtain ⟨ρ1, g1, g2, g3⟩ := RH_copies (F := F) (R0 h (k := 0)) hw (by omega)
        obtain ⟨ρ2, i1, i2, i3, i4⟩ := rX_rename_56 (F := F) g3 hw (by omega) hp hc0 hd0 c3
        have q2 : agr (fun k => k = 1 ∨ k = 4 ∨ k = 5) (st0 ρ 0) ρ2 := agr_trans (agr_mono g2 (fun k hk => Or.inr (Or.inl hk))) (agr_mono i1 (fun k hk => by omega))
        obtain ⟨ρ3, j1, j2, j3, j4⟩ := rX_isAct (F := F) i2 hw2 i3 hw ((h.2.1.2.2.st (k := 0)).kp h.HW q2 (by omega) (by omega)) h.m6 h.HW (by omega)
        simp only [x_give, x_refuse, rX_refuse, rX_is0, rX_is1, rX_is2, rX_is3, rX_is4, rX_is5, rX_is7, nBt, nBf, o10, Bool.not_true, Bool.not_false, if_true, if_false, eq_self, Option.bind_some, a3, b3, d3, e3, g1, i4, j1]
        exact act_ok (G2 := renG G p2 c d) (H2 := hpush H m G) (m2 := hm1 m) h ⟨hw2, hA4, e2, j2⟩ ⟨hpush_WF hw h.HW h.m6, d2.ag e1 (fun k hk => by unfold cS at hk; unfold hC; omega), j3⟩ (kpX_trans (kpX_of a1 (fun k hk => by unfold hC at hk; omega)) (kpX_trans (kpX_of b1 (fun k hk => by omega)) (kpX_trans (kpX_of d1 (fun k hk => by omega)) (kpX_of e1 (fun k hk => by unfold cS at hk; omega))))) (kpR_trans (kpR_of q2 (fun k hk => by omega)) j4)
end CF
