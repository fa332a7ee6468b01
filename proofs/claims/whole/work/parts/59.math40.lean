/-! SIGHT GIVEN AND TAKEN: the reference; the call -/
section RS
variable {ρ ρ1 : Mem} {G : Gm} {F p q r c : Nat} {y : Bool} {t : Nat → Nat → Nat}
-- what asks the heads of a game alone
theorem rH_players (h : RG ρ 1 (withT G t)) : pX11_players ρ = some (nI (Gn G)) := rX_players (G := withT G t) h
theorem rH_hats (h : RG ρ 1 (withT G t)) (hw : WF G) (hp : p < Gn G) : pX11_hats ρ (nI p) = some (nI (Gh G p)) := by
  have hp6 := hw_lt hw hp
  have e : mi ρ 1 (1 + p) = nI (Gh G p) := h.2.1 p hp
  unfold pX11_hats
  simp (disch := omega) only [n_0, n_1, n_2, n_3, n_4, n_5, n_6, n_7, n_8, n_9, n_10, n_12, n_13, n_14, n_20, n_31, n_32, n_63, n_64, n_600, n_1024, n_4096, n_6157, n_add, n_mul, nm_def, Option.bind_some, Option.some.injEq, ck_in, ck_nz, ck_p, n_cl, n_lt, n_le, n_eq, n_div, n_rem, if_pos, if_neg, if_true, if_false, eq_self, n_192, n_256, n_20000, m1_n0, m1_np, m1_n0p, m1_lt0, m1_lt0p, mi_setIA, mi_setI, ml_setIA, ml_setI, mr_setI, mr_setIA, e]
theorem rH_sees (h : RG ρ 1 (withT G t)) (hw : WF G) (hp : p < Gn G) (hq : q < 32) : pX11_sees ρ (nI p) (nI q) = some (nI (sees G p q).toNat) := by
  have hp6 := hw_lt hw hp
  have hs := hw.s64 hp
  have e : mi ρ 1 (7 + p) = nI (Gs G p) := h.2.2.1 p hp
  unfold pX11_sees
  simp (disch := omega) only [n_0, n_1, n_2, n_3, n_4, n_5, n_6, n_7, n_8, n_9, n_10, n_12, n_13, n_14, n_20, n_31, n_32, n_63, n_64, n_600, n_1024, n_4096, n_6157, n_add, n_mul, nm_def, Option.bind_some, Option.some.injEq, ck_in, ck_nz, ck_p, n_cl, n_lt, n_le, n_eq, n_div, n_rem, if_pos, if_neg, if_true, if_false, eq_self, n_192, n_256, n_20000, m1_n0, m1_np, m1_n0p, m1_lt0, m1_lt0p, mi_setIA, mi_setI, ml_setIA, ml_setI, mr_setI, mr_setIA, e, rX_has, isB_b]
  rfl
theorem rH_situations0 (h : RG ρ c (withT G t)) (hw : WF G) (hF : 100 < F) (hp : p < Gn G) (hl : lenM c = 6157) : pX11_situations F c ρ (nI p) = some (nI (sit G p)) := by
  have hn := hw.n6
  have hp6 := hw_lt hw hp
  have hs := hw.s64 hp
  have e0 : mi ρ c 0 = nI (Gn G) := h.1
  have e1 : mi ρ c (7 + p) = nI (Gs G p) := h.2.2.1 p hp
  unfold pX11_situations sit wB
  rw [Nat.sub_zero]
  refine lp_upE F (fun fu i => pX11_situations_4 F c ρ (nI p) fu (nI (pw (fac G p) 0 i)) (nI i)) (0) (Gn G) _ _ rfl (fun fu => ?_) (fun fu i hi1 hi2 => ?_) (by omega) (by omega)
  · show pX11_situations_4 F c ρ (nI p) (fu + 1) (nI (pw (fac G p) 0 (Gn G))) (nI (Gn G)) = _
    rw [pX11_situations_4, hl]
    simp (disch := omega) only [n_0, n_1, n_2, n_3, n_4, n_5, n_6, n_7, n_8, n_9, n_10, n_12, n_13, n_14, n_20, n_31, n_32, n_63, n_64, n_600, n_1024, n_4096, n_6157, n_add, n_mul, nm_def, Option.bind_some, Option.some.injEq, ck_in, ck_nz, ck_p, n_cl, n_lt, n_le, n_eq, n_div, n_rem, if_pos, if_neg, if_true, if_false, eq_self, n_192, n_256, n_20000, m1_n0, m1_np, m1_n0p, m1_lt0, m1_lt0p, mi_setIA, mi_setI, ml_setIA, ml_setI, mr_setI, mr_setIA, e0]
  · show pX11_situations_4 F c ρ (nI p) (fu + 1) (nI (pw (fac G p) 0 i)) (nI i) = pX11_situations_4 F c ρ (nI p) fu (nI (pw (fac G p) 0 (i + 1))) (nI (i + 1))
    have e2 : mi ρ c (1 + i) = nI (Gh G i) := h.2.1 i hi2
    rw [pX11_situations_4, hl]
    unfold pX11_situations_34
    simp (disch := omega) only [n_0, n_1, n_2, n_3, n_4, n_5, n_6, n_7, n_8, n_9, n_10, n_12, n_13, n_14, n_20, n_31, n_32, n_63, n_64, n_600, n_1024, n_4096, n_6157, n_add, n_mul, nm_def, Option.bind_some, Option.some.injEq, ck_in, ck_nz, ck_p, n_cl, n_lt, n_le, n_eq, n_div, n_rem, if_pos, if_neg, if_true, if_false, eq_self, n_192, n_256, n_20000, m1_n0, m1_np, m1_n0p, m1_lt0, m1_lt0p, mi_setIA, mi_setI, ml_setIA, ml_setI, mr_setI, mr_setIA, e0, e1, rX_has, e2, pw, Nat.zero_add]
    have e3 : (Gs G p).testBit i = sees G p i := rfl
    rw [e3]
    cases hc : sees G p i
    · rw [fac_f hc]
      simp (disch := omega) only [n_0, n_1, n_2, n_3, n_4, n_5, n_6, n_7, n_8, n_9, n_10, n_12, n_13, n_14, n_20, n_31, n_32, n_63, n_64, n_600, n_1024, n_4096, n_6157, n_add, n_mul, nm_def, Option.bind_some, Option.some.injEq, ck_in, ck_nz, ck_p, n_cl, n_lt, n_le, n_eq, n_div, n_rem, if_pos, if_neg, if_true, if_false, eq_self, n_192, n_256, n_20000, m1_n0, m1_np, m1_n0p, m1_lt0, m1_lt0p, mi_setIA, mi_setI, ml_setIA, ml_setI, mr_setI, mr_setIA, Bool.toNat_false, Nat.mul_one]
    · rw [fac_t hc]
      simp (disch := omega) only [n_0, n_1, n_2, n_3, n_4, n_5, n_6, n_7, n_8, n_9, n_10, n_12, n_13, n_14, n_20, n_31, n_32, n_63, n_64, n_600, n_1024, n_4096, n_6157, n_add, n_mul, nm_def, Option.bind_some, Option.some.injEq, ck_in, ck_nz, ck_p, n_cl, n_lt, n_le, n_eq, n_div, n_rem, if_pos, if_neg, if_true, if_false, eq_self, n_192, n_256, n_20000, m1_n0, m1_np, m1_n0p, m1_lt0, m1_lt0p, mi_setIA, mi_setI, ml_setIA, ml_setI, mr_setI, mr_setIA, Bool.toNat_true]
theorem rH_situations (h : RG ρ 1 (withT G t)) (hw : WF G) (hF : 100 < F) (hp : p < Gn G) : pX11_situations_ F ρ (nI p) = some (nI (sit G p)) := by
  unfold pX11_situations_
  rw [rH_situations0 h hw hF hp rfl]
  rfl
theorem rH_laysSeen {s : Nat} (h : RG ρ 1 (withT G t)) (hw : WF G) (hF : 100 < F) (hp : p < Gn G) (hs : s < 2147483648) : ∃ ρ1, agr (fun k => k = 5) ρ ρ1 ∧ (∀ q, q < Gn G → mi ρ1 5 q = if sees G p q then nI (cIn G p q s) else mi ρ 5 q) ∧ pX11_laysSeen F ρ (nI p) (nI s) = some ρ1 := by
  have hn := hw.n6
  refine ⟨setIA ρ 5 (wr (ρ.1 5) 0 (Gn G) (fun q => if sees G p q then nI (cIn G p q s) else mi ρ 5 q)), agr_setIA rfl, fun q hq => by rw [mi_setIA, if_pos rfl, wr_in (Nat.zero_le _) hq], ?_⟩
  unfold pX11_laysSeen
  rw [rH_players h]
  simp (disch := omega) only [n_0, n_1, n_2, n_3, n_4, n_5, n_6, n_7, n_8, n_9, n_10, n_12, n_13, n_14, n_20, n_31, n_32, n_63, n_64, n_600, n_1024, n_4096, n_6157, n_add, n_mul, nm_def, Option.bind_some, Option.some.injEq, ck_in, ck_nz, ck_p, n_cl, n_lt, n_le, n_eq, n_div, n_rem, if_pos, if_neg, if_true, if_false, eq_self, n_192, n_256, n_20000, m1_n0, m1_np, m1_n0p, m1_lt0, m1_lt0p, mi_setIA, mi_setI, ml_setIA, ml_setI, mr_setI, mr_setIA, n_sub1]
  refine lp_dnE F (fun fu i => pX11_laysSeen_10 F (nI p) fu (setIA ρ 5 (wr (ρ.1 5) i (Gn G) (fun q => if sees G p q then nI (cIn G p q s) else mi ρ 5 q))) (nI (s / wB G p i)) (predI i)) (Gn G) _ _ ?_ (fun fu => ?_) (fun fu i hi => ?_) (by omega)
  · rw [setIA_wr0, wB_end _ (Nat.le_refl _), Nat.div_one]
  · show pX11_laysSeen_10 F (nI p) (fu + 1) (setIA ρ 5 (wr (ρ.1 5) 0 (Gn G) (fun q => if sees G p q then nI (cIn G p q s) else mi ρ 5 q))) (nI (s / wB G p 0)) (predI 0) = _
    rw [pX11_laysSeen_10]
    simp (disch := omega) only [n_0, n_1, n_2, n_3, n_4, n_5, n_6, n_7, n_8, n_9, n_10, n_12, n_13, n_14, n_20, n_31, n_32, n_63, n_64, n_600, n_1024, n_4096, n_6157, n_add, n_mul, nm_def, Option.bind_some, Option.some.injEq, ck_in, ck_nz, ck_p, n_cl, n_lt, n_le, n_eq, n_div, n_rem, if_pos, if_neg, if_true, if_false, eq_self, n_192, n_256, n_20000, m1_n0, m1_np, m1_n0p, m1_lt0, m1_lt0p, mi_setIA, mi_setI, ml_setIA, ml_setI, mr_setI, mr_setIA]
  · show pX11_laysSeen_10 F (nI p) (fu + 1) (setIA ρ 5 (wr (ρ.1 5) (i + 1) (Gn G) (fun q => if sees G p q then nI (cIn G p q s) else mi ρ 5 q))) (nI (s / wB G p (i + 1))) (predI (i + 1)) = pX11_laysSeen_10 F (nI p) fu (setIA ρ 5 (wr (ρ.1 5) i (Gn G) (fun q => if sees G p q then nI (cIn G p q s) else mi ρ 5 q))) (nI (s / wB G p i)) (predI i)
    have h1 := hw.h1 hi
    have h4 := hw.h4 hi
    have e1 := Nat.div_le_self s (wB G p (i + 1))
    have hR : ∀ f, RG (setIA ρ 5 f) 1 (withT G t) := fun f => h.set (by decide)
    have e0 : wr (ρ.1 5) (i + 1) (Gn G) (fun q => if sees G p q then nI (cIn G p q s) else mi ρ 5 q) i = mi ρ 5 i := wr_out (Or.inl (Nat.lt_succ_self i))
    rw [pX11_laysSeen_10, predI_s, rH_sees (hR _) hw hp (by omega)]
    unfold pX11_laysSeen_52
    cases hc : sees G p i
    · simp (disch := omega) only [n_0, n_1, n_2, n_3, n_4, n_5, n_6, n_7, n_8, n_9, n_10, n_12, n_13, n_14, n_20, n_31, n_32, n_63, n_64, n_600, n_1024, n_4096, n_6157, n_add, n_mul, nm_def, Option.bind_some, Option.some.injEq, ck_in, ck_nz, ck_p, n_cl, n_lt, n_le, n_eq, n_div, n_rem, if_pos, if_neg, if_true, if_false, eq_self, n_192, n_256, n_20000, m1_n0, m1_np, m1_n0p, m1_lt0, m1_lt0p, mi_setIA, mi_setI, ml_setIA, ml_setI, mr_setI, mr_setIA, Bool.toNat_false]
      have e2 : wr (ρ.1 5) (i + 1) (Gn G) (fun q => if sees G p q then nI (cIn G p q s) else mi ρ 5 q) = wr (ρ.1 5) i (Gn G) (fun q => if sees G p q then nI (cIn G p q s) else mi ρ 5 q) := by
        funext y
        unfold wr
        by_cases z : y = i
        · subst z
          rw [if_neg (by omega), if_pos ⟨Nat.le_refl _, hi⟩]
          show _ = if sees G p y = true then nI (cIn G p y s) else mi ρ 5 y
          rw [hc]
          rfl
        · by_cases z2 : i + 1 ≤ y ∧ y < Gn G
          · rw [if_pos z2, if_pos ⟨by omega, z2.2⟩]
          · rw [if_neg z2, if_neg (by omega)]
      rw [e2, wB_step i hi, fac_f hc, Nat.one_mul]
    · simp (disch := omega) only [n_0, n_1, n_2, n_3, n_4, n_5, n_6, n_7, n_8, n_9, n_10, n_12, n_13, n_14, n_20, n_31, n_32, n_63, n_64, n_600, n_1024, n_4096, n_6157, n_add, n_mul, nm_def, Option.bind_some, Option.some.injEq, ck_in, ck_nz, ck_p, n_cl, n_lt, n_le, n_eq, n_div, n_rem, if_pos, if_neg, if_true, if_false, eq_self, n_192, n_256, n_20000, m1_n0, m1_np, m1_n0p, m1_lt0, m1_lt0p, mi_setIA, mi_setI, ml_setIA, ml_setI, mr_setI, mr_setIA, Bool.toNat_true, rH_hats (hR _) hw hi]
      rw [show s / wB G p (i + 1) % Gh G i = cIn G p i s from rfl, setI_wr_dn hi (v := fun q => if sees G p q then nI (cIn G p q s) else mi ρ 5 q) (by rw [hc]; rfl), rH_hats (hR _) hw hi]
      simp (disch := omega) only [n_0, n_1, n_2, n_3, n_4, n_5, n_6, n_7, n_8, n_9, n_10, n_12, n_13, n_14, n_20, n_31, n_32, n_63, n_64, n_600, n_1024, n_4096, n_6157, n_add, n_mul, nm_def, Option.bind_some, Option.some.injEq, ck_in, ck_nz, ck_p, n_cl, n_lt, n_le, n_eq, n_div, n_rem, if_pos, if_neg, if_true, if_false, eq_self, n_192, n_256, n_20000, m1_n0, m1_np, m1_n0p, m1_lt0, m1_lt0p, mi_setIA, mi_setI, ml_setIA, ml_setI, mr_setI, mr_setIA]
      rw [Nat.div_div_eq_div_mul, Nat.mul_comm _ (Gh G i), wB_step i hi, fac_t hc]
theorem nI_self (x : Int32) : nI x.toBitVec.toNat = x := by
  apply Int32.toBitVec_inj.mp
  show BitVec.ofNat 32 x.toBitVec.toNat = x.toBitVec
  simp
theorem xor_bit : ∀ s, s < 64 → ∀ q, q < 6 → s ^^^ 2 ^ q = if s.testBit q then clr s q else s ||| 2 ^ q := by decide +kernel
/-- whatever lies in the tables -/
def grb (ρ : Mem) (p σ : Nat) : Nat := (mi ρ 1 (13 + 1024 * p + σ)).toBitVec.toNat
theorem RG_flip (h : RG ρ 1 G) (hw : WF G) (hp : p < Gn G) (hq : q < Gn G) (hs : sees G p q = !y) (t : Nat → Nat → Nat) : RG (setI ρ 1 (7 + p) (nI (Gs G p ^^^ 2 ^ q))) 1 (withT (sG G p q y t) (grb ρ)) := by
  have hp6 := hw_lt hw hp
  have hq6 := hw_lt hw hq
  refine ⟨by rw [mi_setI, if_neg (by omega)]; exact h.1, fun r hr => ?_, fun r hr => ?_, fun r hr σ hσ => ?_⟩
  · have hr6 : r < 6 := hw_lt hw (show r < Gn G from hr)
    rw [mi_setI, if_neg (by omega)]; exact h.h hr
  · rw [mi_setI]
    show _ = nI (if r = p then (if y then Gs G p ||| 2 ^ q else clr (Gs G p) q) else Gs G r)
    by_cases e : r = p
    · rw [if_pos ⟨rfl, by rw [e]⟩, if_pos e, xor_bit _ (hw.s64 hp) q hq6]
      have hs2 : (Gs G p).testBit q = !y := hs
      rw [hs2]
      cases y <;> rfl
    · rw [if_neg (fun z => e (by omega)), if_neg e]
      exact h.s hr
  · have hr6 : r < 6 := hw_lt hw (show r < Gn G from hr)
    rw [mi_setI, if_neg (by omega)]
    exact (nI_self _).symm
/-- the number that one had had -/
theorem had_eq (hw : WF G) (hp : p < Gn G) (hq : q < Gn G) (hpq : p ≠ q) (hs : sees G p q = !y) {s : Nat} (hσ : s < sit (seG G p q y) p) {d : Nat → Nat} (hd : ∀ r, r < Gn G → sees G p r = true → d r = if r = q then 0 else cIn (seG G p q y) p r s) : sO G p d = if y then drX (sG G p q true (Gt G)) p q s else drY G p q s := by
  cases y
  · have hdr : drp (seG G p q false) G p q := sG_drp0 hw hp hq hs
    have hx := drY_lt hw hdr hq hσ
    show sO G p d = drY G p q s
    rw [← sO_cIn hp hx]
    unfold sO
    refine hor_congr (fun _ _ => rfl) (fun r hr => ?_)
    cases c : sees G p r
    · rfl
    · show d r = cIn G p r (drY G p q s)
      rw [hd r hr c]
      by_cases e : r = q
      · subst e
        rw [if_pos rfl, drY_0 hw hq]
      · rw [if_neg e]
        have h1 := drp_cIn hw hdr hq hr e (by rw [hdr.2.2.1 r hr e]; exact c) (drY G p q s)
        rw [drX_Y hw hq] at h1
        exact h1
  · have hB := WF_sG0 (y := true) hw hp hq hpq
    have hdr : drp G (sG G p q true (fun _ _ => 0)) p q := sG_drp1 hw hp hq hs
    have hx := drX_lt hB hdr hq hσ
    show sO G p d = drX (sG G p q true (fun _ _ => 0)) p q s
    rw [← sO_cIn hp hx]
    unfold sO
    refine hor_congr (fun _ _ => rfl) (fun r hr => ?_)
    cases c : sees G p r
    · rfl
    · show d r = cIn G p r (drX (sG G p q true (fun _ _ => 0)) p q s)
      have e : r ≠ q := fun z => by subst z; rw [hs] at c; cases c
      rw [hd r hr c, if_neg e]
      exact (drp_cIn hB hdr hq hr e c s).symm
theorem rX_see_113 {k86 : Mem → Int32 → Option (Int32 × Mem)} {s : Nat} {d : Nat → Nat} {v : Int32} (hR : RG ρ 1 (withT (seG G p q y) t)) (h4 : RG ρ 4 G) (hw : WF G) (hw2 : WF (seG G p q y)) (hF : 100 < F) (hp : p < Gn G) (hd : ∀ r, r < Gn G → sees G p r = true → mi ρ 5 r = nI (d r)) (hs : s < sit (seG G p q y) p) (hh : sO G p d < sit G p) (ht : Gt G p (sO G p d) = seT G p q y p s) : pX11_see_113 F k86 ρ (nI p) v (nI (sit (seG G p q y) p)) (nI s) F 0 0 = k86 (setI ρ 1 (13 + 1024 * p + s) (nI (seT G p q y p s))) (nI (s + 1)) := by
  have hn := hw.n6
  have hp6 := hw_lt hw hp
  have hsl := sit_le (p := p) hw2 hp
  have hsl1 := sit_le hw hp
  have hS : mi ρ 4 (7 + p) = nI (Gs G p) := h4.s hp
  have hs64 := hw.s64 hp
  have e0 : pX11_players ρ = some (nI (Gn G)) := rH_players (G := seG G p q y) (t := t) hR
  refine lp_upE F (fun fu i => pX11_see_113 F k86 ρ (nI p) v (nI (sit (seG G p q y) p)) (nI s) fu (nI (hor (fac G p) (fun q => if sees G p q then d q else 0) i)) (nI i)) (0) (Gn G) _ _ rfl (fun fu => ?_) (fun fu i hi1 hi2 => ?_) (by omega) (by omega)
  · show pX11_see_113 F k86 ρ (nI p) v (nI (sit (seG G p q y) p)) (nI s) (fu + 1) (nI (hor (fac G p) (fun q => if sees G p q then d q else 0) (Gn G))) (nI (Gn G)) = _
    have e1 : mi ρ 4 (13 + 1024 * p + sO G p d) = nI (Gt G p (sO G p d)) := h4.t hp hh
    rw [pX11_see_113, e0]
    rw [show hor (fac G p) (fun q => if sees G p q then d q else 0) (Gn G) = sO G p d from rfl]
    simp (disch := omega) only [n_0, n_1, n_2, n_3, n_4, n_5, n_6, n_7, n_8, n_9, n_10, n_12, n_13, n_14, n_20, n_31, n_32, n_63, n_64, n_600, n_1024, n_4096, n_6157, n_add, n_mul, nm_def, Option.bind_some, Option.some.injEq, ck_in, ck_nz, ck_p, n_cl, n_lt, n_le, n_eq, n_div, n_rem, if_pos, if_neg, if_true, if_false, eq_self, n_192, n_256, n_20000, m1_n0, m1_np, m1_n0p, m1_lt0, m1_lt0p, mi_setIA, mi_setI, ml_setIA, ml_setI, mr_setI, mr_setIA, rX_enters ρ hp6, e1, ht]
  · show pX11_see_113 F k86 ρ (nI p) v (nI (sit (seG G p q y) p)) (nI s) (fu + 1) (nI (hor (fac G p) (fun q => if sees G p q then d q else 0) i)) (nI i) = pX11_see_113 F k86 ρ (nI p) v (nI (sit (seG G p q y) p)) (nI s) fu (nI (hor (fac G p) (fun q => if sees G p q then d q else 0) (i + 1))) (nI (i + 1))
    have e2 : pX11_hats ρ (nI i) = some (nI (Gh G i)) := rH_hats (G := seG G p q y) (t := t) hR hw2 hi2
    rw [pX11_see_113, e0]
    unfold pX11_see_161
    have e3 : (Gs G p).testBit i = sees G p i := rfl
    cases hc : sees G p i
    · simp (disch := omega) only [n_0, n_1, n_2, n_3, n_4, n_5, n_6, n_7, n_8, n_9, n_10, n_12, n_13, n_14, n_20, n_31, n_32, n_63, n_64, n_600, n_1024, n_4096, n_6157, n_add, n_mul, nm_def, Option.bind_some, Option.some.injEq, ck_in, ck_nz, ck_p, n_cl, n_lt, n_le, n_eq, n_div, n_rem, if_pos, if_neg, if_true, if_false, eq_self, n_192, n_256, n_20000, m1_n0, m1_np, m1_n0p, m1_lt0, m1_lt0p, mi_setIA, mi_setI, ml_setIA, ml_setI, mr_setI, mr_setIA, hS, rX_has, e3, hc, hor, Bool.toNat_false]
      rw [fac_f hc, Nat.mul_one]
      rfl
    · have e4 := hd i hi2 hc
      simp (disch := omega) only [n_0, n_1, n_2, n_3, n_4, n_5, n_6, n_7, n_8, n_9, n_10, n_12, n_13, n_14, n_20, n_31, n_32, n_63, n_64, n_600, n_1024, n_4096, n_6157, n_add, n_mul, nm_def, Option.bind_some, Option.some.injEq, ck_in, ck_nz, ck_p, n_cl, n_lt, n_le, n_eq, n_div, n_rem, if_pos, if_neg, if_true, if_false, eq_self, n_192, n_256, n_20000, m1_n0, m1_np, m1_n0p, m1_lt0, m1_lt0p, mi_setIA, mi_setI, ml_setIA, ml_setI, mr_setI, mr_setIA, hS, rX_has, e3, hc, hor, Bool.toNat_true, e2, e4]
      rw [fac_t hc]
theorem rB_see (h1 : RG ρ 1 G) (h4 : RG ρ 4 G) (hw : WF G) (hF : 50000 < F) (hp : p < Gn G) (hq : q < Gn G) (hpq : p ≠ q) (hs : sees G p q = !y) {H : Nat → Gm} {m : Nat} (hh : IHr ρ H m) (hm : m ≤ 6) (hH : ∀ j, j < m → WF (H j)) : ∃ ρ1, RG ρ1 1 (seG G p q y) ∧ IHr ρ1 (hpush H m G) (hm1 m) ∧ kpR ρ ρ1 ∧ (ckI (7 + nI p) 6157 (ckI (7 + nI p) 6157 (nm (setI ρ 1 (7 + nI p).toNatClampNeg ((mi ρ 1 (7 + nI p).toNatClampNeg) ^^^ (1 <<< (nI q &&& 31)))) fun κ5 => (pX11_situations_ F κ5 (nI p)).bind fun t6 => pX11_see_86 F (nI p) (nI q) t6 F κ5 0))) = some (nI (sit (seG G p q y) p), ρ1) := by
  have hp6 := hw_lt hw hp
  have hq6 := hw_lt hw hq
  have hw2 := WF_seG hw hp hq hpq hs
  have hsl := sit_le (p := p) hw2 hp
  have hR0 : RG (setI ρ 1 (7 + p) (nI (Gs G p ^^^ 2 ^ q))) 1 (withT (seG G p q y) (grb ρ)) := RG_flip h1 hw hp hq hs _
  obtain ⟨s0, es0⟩ : ∃ s0, s0 = setI ρ 1 (7 + p) (nI (Gs G p ^^^ 2 ^ q)) := ⟨_, rfl⟩
  rw [← es0] at hR0
  have a0 : agr (fun k => k = 1 ∨ k = 5) ρ s0 := by rw [es0]; exact agr_setI (Or.inl rfl)
  have key := lp_inv (fun fu (s : Mem) i => pX11_see_86 F (nI p) (nI q) (nI (sit (seG G p q y) p)) fu s (nI i)) (fun s i => agr (fun k => k = 1 ∨ k = 5) ρ s ∧ RG s 1 (withT (seG G p q y) (fun r σ => if r = p ∧ σ < i then seT G p q y p σ else grb ρ r σ))) (sit (seG G p q y) p) (fun x => ∃ ρ1, RG ρ1 1 (seG G p q y) ∧ IHr ρ1 (hpush H m G) (hm1 m) ∧ kpR ρ ρ1 ∧ x = some (nI (sit (seG G p q y) p), ρ1))
    (fun fu s hI => by
      obtain ⟨b1, b2⟩ := hI
      have hG2 : RG s 1 (seG G p q y) := by
        have : RG s 1 (withT (seG G p q y) (seT G p q y)) := ⟨b2.1, b2.2.1, b2.2.2.1, fun r hr σ hσ => by
          rw [b2.2.2.2 r hr σ hσ]
          show nI (if r = p ∧ σ < sit (seG G p q y) p then seT G p q y p σ else grb ρ r σ) = nI (seT G p q y r σ)
          by_cases e : r = p
          · subst e
            rw [if_pos ⟨rfl, hσ⟩]
          · rw [if_neg (fun z => e z.1)]
            have hσ2 : σ < sit G r := by rw [← sG_sit (y := y) (t := seT G p q y) hw hp hq e]; exact hσ
            unfold grb
            rw [nI_self, h1.t hr hσ2]
            unfold seT
            rw [if_neg e]⟩
        exact this
      have hz : ∃ s2, agr (fun k => k = 1) s s2 ∧ RG s2 1 (seG G p q y) ∧ pX11_see_202 F (nI p) (nI (sit (seG G p q y) p)) F s (nI (sit (seG G p q y) p)) = (pX11_isAct F s2).bind fun t14 => some (nI (sit (seG G p q y) p), t14) := by
        refine lp_inv (fun fu (s2 : Mem) i => pX11_see_202 F (nI p) (nI (sit (seG G p q y) p)) fu s2 (nI i)) (fun s2 i => sit (seG G p q y) p ≤ i ∧ agr (fun k => k = 1) s s2 ∧ RG s2 1 (seG G p q y)) 1024 (fun x => ∃ s2, agr (fun k => k = 1) s s2 ∧ RG s2 1 (seG G p q y) ∧ x = (pX11_isAct F s2).bind fun t14 => some (nI (sit (seG G p q y) p), t14)) (fun fu s2 hI => ?_) (fun fu s2 i hi hI => ?_) F s (sit (seG G p q y) p) hsl (by omega) ⟨Nat.le_refl _, agr_rfl, hG2⟩
        · refine ⟨s2, hI.2.1, hI.2.2, ?_⟩
          show pX11_see_202 F (nI p) _ (fu + 1) s2 (nI 1024) = _
          rw [pX11_see_202]
          simp (disch := omega) only [n_0, n_1, n_2, n_3, n_4, n_5, n_6, n_7, n_8, n_9, n_10, n_12, n_13, n_14, n_20, n_31, n_32, n_63, n_64, n_600, n_1024, n_4096, n_6157, n_add, n_mul, nm_def, Option.bind_some, Option.some.injEq, ck_in, ck_nz, ck_p, n_cl, n_lt, n_le, n_eq, n_div, n_rem, if_pos, if_neg, if_true, if_false, eq_self, n_192, n_256, n_20000, m1_n0, m1_np, m1_n0p, m1_lt0, m1_lt0p, mi_setIA, mi_setI, ml_setIA, ml_setI, mr_setI, mr_setIA]
        · obtain ⟨c0, c1, c2⟩ := hI
          refine ⟨setI s2 1 (13 + 1024 * p + i) (nI 0), ⟨by omega, agr_trans c1 (agr_setI rfl), ⟨?_, fun r hr => ?_, fun r hr => ?_, fun r hr σ hσ => ?_⟩⟩, ?_⟩
          · rw [mi_setI, if_neg (by omega)]; exact c2.1
          · have hr6 : r < 6 := hw_lt hw2 hr
            rw [mi_setI, if_neg (by omega)]; exact c2.h hr
          · have hr6 : r < 6 := hw_lt hw2 hr
            rw [mi_setI, if_neg (by omega)]; exact c2.s hr
          · have hr6 : r < 6 := hw_lt hw2 hr
            have hl := sit_le hw2 hr
            have hne : ¬ (13 + 1024 * r + σ = 13 + 1024 * p + i) := fun z => by
              have : r = p := by omega
              subst this
              omega
            rw [mi_setI, if_neg (fun z => hne z.2)]; exact c2.t hr hσ
          · show pX11_see_202 F (nI p) _ (fu + 1) s2 (nI i) = pX11_see_202 F (nI p) _ fu _ (nI (i + 1))
            rw [pX11_see_202]
            simp (disch := omega) only [n_0, n_1, n_2, n_3, n_4, n_5, n_6, n_7, n_8, n_9, n_10, n_12, n_13, n_14, n_20, n_31, n_32, n_63, n_64, n_600, n_1024, n_4096, n_6157, n_add, n_mul, nm_def, Option.bind_some, Option.some.injEq, ck_in, ck_nz, ck_p, n_cl, n_lt, n_le, n_eq, n_div, n_rem, if_pos, if_neg, if_true, if_false, eq_self, n_192, n_256, n_20000, m1_n0, m1_np, m1_n0p, m1_lt0, m1_lt0p, mi_setIA, mi_setI, ml_setIA, ml_setI, mr_setI, mr_setIA, rX_enters s2 hp6]
      obtain ⟨s2, d1, d2, d3⟩ := hz
      have q2 : agr (fun k => k = 1 ∨ k = 5) ρ s2 := agr_trans b1 (agr_mono d1 (fun k hk => Or.inl hk))
      obtain ⟨ρ1, e1, e2, e3, e4⟩ := rX_isAct (F := F) d2 hw2 (h4.agr q2 (by omega)) hw (hh.kp hH q2 (by omega) (by omega)) hm hH (by omega)
      refine ⟨ρ1, e2, e3, kpR_trans (kpR_of q2 (fun k hk => by omega)) e4, ?_⟩
      show pX11_see_86 F (nI p) (nI q) _ (fu + 1) s (nI (sit (seG G p q y) p)) = _
      rw [pX11_see_86]
      simp (disch := omega) only [n_0, n_1, n_2, n_3, n_4, n_5, n_6, n_7, n_8, n_9, n_10, n_12, n_13, n_14, n_20, n_31, n_32, n_63, n_64, n_600, n_1024, n_4096, n_6157, n_add, n_mul, nm_def, Option.bind_some, Option.some.injEq, ck_in, ck_nz, ck_p, n_cl, n_lt, n_le, n_eq, n_div, n_rem, if_pos, if_neg, if_true, if_false, eq_self, n_192, n_256, n_20000, m1_n0, m1_np, m1_n0p, m1_lt0, m1_lt0p, mi_setIA, mi_setI, ml_setIA, ml_setI, mr_setI, mr_setIA]
      rw [d3, e1]
      rfl)
    (fun fu s i hi hI => by
      obtain ⟨b1, b2⟩ := hI
      have hR5 : RG (setI s 5 q (nI 0)) 1 (withT (seG G p q y) (fun r σ => if r = p ∧ σ < i then seT G p q y p σ else grb ρ r σ)) := b2.agr (S := fun k => k = 5) (agr_setI rfl) (by omega)
      obtain ⟨s1, a1, a2, a3⟩ := rH_laysSeen (F := F) (s := i) hR5 hw2 (by omega) hp (by omega)
      have a12 : agr (fun k => k = 5) s s1 := agr_trans (agr_setI rfl) a1
      have hR1 := b2.agr a12 (by omega)
      have q1 : agr (fun k => k = 1 ∨ k = 5) ρ s1 := agr_trans b1 (agr_mono a12 (fun k hk => Or.inr hk))
      have hdig : ∀ r, r < Gn G → sees G p r = true → mi s1 5 r = nI (if r = q then 0 else cIn (seG G p q y) p r i) := fun r hr hsr => by
        have e1 : mi s1 5 r = if sees (seG G p q y) p r then nI (cIn (seG G p q y) p r i) else mi (setI s 5 q (nI 0)) 5 r := a2 r hr
        have e2 : sees (seG G p q y) p r = if p = p ∧ r = q then y else sees G p r := sG_sees hw hp hq (hw_lt hw hr)
        rw [e1]
        by_cases e : r = q
        · subst e
          have hy : y = false := by
            rw [hsr] at hs
            cases y
            · rfl
            · cases hs
          rw [if_pos ⟨rfl, rfl⟩] at e2
          have e3 : sees (seG G p r y) p r = false := by rw [e2, hy]
          rw [if_neg (by rw [e3]; decide), mi_setI, if_pos ⟨rfl, rfl⟩, if_pos rfl]
        · rw [if_neg (fun z => e z.2)] at e2
          have e3 : sees (seG G p q y) p r = true := by rw [e2, hsr]
          rw [if_pos e3, if_neg e]
      have hhad := had_eq (s := i) hw hp hq hpq hs hi (d := fun r => if r = q then 0 else cIn (seG G p q y) p r i) (fun r hr hsr => rfl)
      have hlt : sO G p (fun r => if r = q then 0 else cIn (seG G p q y) p r i) < sit G p := by
        rw [hhad]
        cases y
        · exact drY_lt hw (sG_drp0 (t := fun _ _ => 0) hw hp hq hs) hq hi
        · exact drX_lt (WF_sG0 (y := true) hw hp hq hpq) (sG_drp1 (t := fun _ _ => 0) hw hp hq hs) hq hi
      have htt : Gt G p (sO G p (fun r => if r = q then 0 else cIn (seG G p q y) p r i)) = seT G p q y p i := by
        rw [hhad]
        unfold seT
        rw [if_pos rfl]
      have e113 := rX_see_113 (F := F) (k86 := pX11_see_86 F (nI p) (nI q) (nI (sit (seG G p q y) p)) fu) (v := nI q) hR1 (h4.agr q1 (by omega)) hw hw2 (by omega) hp hdig hi hlt htt
      refine ⟨setI s1 1 (13 + 1024 * p + i) (nI (seT G p q y p i)), ⟨agr_trans q1 (agr_setI (Or.inl rfl)), ?_⟩, ?_⟩
      · refine RG_same (RG_enter hR1 hw2 hp hi (seT G p q y p i)) (fun r hr σ hσ => ?_)
        show (if r = p ∧ σ < i + 1 then seT G p q y p σ else grb ρ r σ) = if r = p ∧ σ = i then seT G p q y p i else if r = p ∧ σ < i then seT G p q y p σ else grb ρ r σ
        by_cases e : r = p ∧ σ = i
        · rw [if_pos e, if_pos ⟨e.1, by omega⟩, e.2]
        · rw [if_neg e]
          by_cases e2 : r = p ∧ σ < i
          · rw [if_pos e2, if_pos ⟨e2.1, by omega⟩]
          · rw [if_neg e2, if_neg (by omega)]
      · show pX11_see_86 F (nI p) (nI q) _ (fu + 1) s (nI i) = pX11_see_86 F (nI p) (nI q) _ fu _ (nI (i + 1))
        rw [pX11_see_86]
        simp (disch := omega) only [n_0, n_1, n_2, n_3, n_4, n_5, n_6, n_7, n_8, n_9, n_10, n_12, n_13, n_14, n_20, n_31, n_32, n_63, n_64, n_600, n_1024, n_4096, n_6157, n_add, n_mul, nm_def, Option.bind_some, Option.some.injEq, ck_in, ck_nz, ck_p, n_cl, n_lt, n_le, n_eq, n_div, n_rem, if_pos, if_neg, if_true, if_false, eq_self, n_192, n_256, n_20000, m1_n0, m1_np, m1_n0p, m1_lt0, m1_lt0p, mi_setIA, mi_setI, ml_setIA, ml_setI, mr_setI, mr_setIA, a3]
        exact e113)
    F s0 0 (Nat.zero_le _) (by omega) ⟨a0, RG_same hR0 (fun r hr σ hσ => by
      show (if r = p ∧ σ < 0 then seT G p q y p σ else grb ρ r σ) = grb ρ r σ
      rw [if_neg (by omega)])⟩
  obtain ⟨ρ1, k1, k2, k3, k4⟩ := key
  refine ⟨ρ1, k1, k2, k3, ?_⟩
  have hs64 := hw.s64 hp
  have e6 : pX11_situations_ F s0 (nI p) = some (nI (sit (seG G p q y) p)) := rH_situations hR0 hw2 (by omega) hp
  simp (disch := omega) only [n_0, n_1, n_2, n_3, n_4, n_5, n_6, n_7, n_8, n_9, n_10, n_12, n_13, n_14, n_20, n_31, n_32, n_63, n_64, n_600, n_1024, n_4096, n_6157, n_add, n_mul, nm_def, Option.bind_some, Option.some.injEq, ck_in, ck_nz, ck_p, n_cl, n_lt, n_le, n_eq, n_div, n_rem, if_pos, if_neg, if_true, if_false, eq_self, n_192, n_256, n_20000, m1_n0, m1_np, m1_n0p, m1_lt0, m1_lt0p, mi_setIA, mi_setI, ml_setIA, ml_setI, mr_setI, mr_setIA, h1.s hp, n_shl1, n_xor, ← es0, e6]
  exact k4
end RS
section CE
variable {κ ρ : Mem} {G : Gm} {H : Nat → Gm} {m F p q : Nat}
theorem b2n (b : Bool) (c : Bool) : (nI b.toNat = nI c.toNat) = (b = c) := by cases b <;> cases c <;> simp [n_eq]
theorem c_see (h : IV G H m κ ρ) (hF : 50000 < F) (a b : Int32) (y : Bool) : Res (pX10_see F κ a b (nI y.toNat)) (pX11_see F ρ a b (nI y.toNat)) := by
  have hw := h.W
  have hn := hw.n6
  unfold pX10_see pX11_see pX11_see_17 pX11_see_36 pX11_see_41 pX10_see_75
  rw [x_pairTrouble h.A hw, rX_isPlayer h.R hw, rX_isPlayer h.R hw]
  by_cases c1 : ag a < Gn G
  · by_cases c2 : ag b < Gn G
    · obtain ⟨p, hp, rfl, e1⟩ := ply hw c1
      obtain ⟨q, hq, rfl, e2⟩ := ply hw c2
      have hp6 := hw_lt hw hp
      have hq6 := hw_lt hw hq
      have ep : prT G (nI p) (nI q) = if p = q then 4 else 0 := by
        unfold prT
        rw [if_pos ⟨c1, c2⟩, e1, e2]
      have en : (nI p = nI q) = (p = q) := n_eq (by omega) (by omega)
      rw [ep, decide_eq_true c1, decide_eq_true c2, sX2_watches h.A.1 hw hp (by omega), rX_sees h.R hw hp (by omega)]
      simp only [x_give, x_refuse, rX_refuse, rX_is0, rX_is1, rX_is2, rX_is3, rX_is4, rX_is5, rX_is7, nBt, nBf, o10, Bool.not_true, Bool.not_false, if_true, if_false, eq_self, Option.bind_some, en, b2n]
      by_cases c3 : p = q
      · rw [if_pos c3, if_pos c3]
        simp only [x_give, x_refuse, rX_refuse, rX_is0, rX_is1, rX_is2, rX_is3, rX_is4, rX_is5, rX_is7, nBt, nBf, o10, Bool.not_true, Bool.not_false, if_true, if_false, eq_self, Option.bind_some, show (nI 4 = (0 : Int32)) = False from by decide, show nI 4 = 4 from rfl]
        exact res_no h agr_rfl agr_rfl
      · rw [if_neg c3, if_neg c3]
        simp only [x_give, x_refuse, rX_refuse, rX_is0, rX_is1, rX_is2, rX_is3, rX_is4, rX_is5, rX_is7, nBt, nBf, o10, Bool.not_true, Bool.not_false, if_true, if_false, eq_self, Option.bind_some, show (nI 0 = (0 : Int32)) = True from eq_true rfl]
        by_cases c4 : sees G p q = y
        · rw [if_pos c4, if_pos c4]
          exact res_no h agr_rfl agr_rfl
        · rw [if_neg c4, if_neg c4]
          have hs : sees G p q = !y := by
            cases hx : sees G p q <;> cases y <;> simp_all
          have hw2 := WF_seG (y := y) hw hp hq c3 hs
          obtain ⟨κ1, a1, a2, a3⟩ := x_note h.2.1.2.1 h.m6 h.A.1 hw
          have hG1 : XG κ1 1 G := (h.A.agr hw a1 (fun k hk => by unfold hC at hk; omega)).1
          have hey : ∃ κ2, agr (fun k => k = 3 ∨ k = 4) κ1 κ2 ∧ XG κ2 1 (seG G p q y) ∧ (if nI y.toNat = 0 then (pX0_closeEyes F κ1 (nI p) (nI q)).bind fun t5 => (pX3_keep t5).bind fun t6 => (pX1_arrange F t6).bind fun t7 => (pX2_situations F 1 t7 (nI p)).bind fun t8 => some (t8, setI t7 0 12 0) else (pX0_openEyes F κ1 (nI p) (nI q)).bind fun t10 => (pX3_keep t10).bind fun t6 => (pX1_arrange F t6).bind fun t7 => (pX2_situations F 1 t7 (nI p)).bind fun t8 => some (t8, setI t7 0 12 0)) = (pX3_keep κ2).bind fun t6 => (pX1_arrange F t6).bind fun t7 => (pX2_situations F 1 t7 (nI p)).bind fun t8 => some (t8, setI t7 0 12 0) := by
            cases y
            · obtain ⟨κ2, d1, d2, d3⟩ := sX0_closeEyes (F := F) hG1 hw (by omega) hp hq c3 hs
              refine ⟨κ2, d1, d2, ?_⟩
              rw [if_pos (by decide), d3]
              rfl
            · obtain ⟨κ2, d1, d2, d3⟩ := sX0_openEyes (F := F) hG1 hw (by omega) hp hq c3 hs
              refine ⟨κ2, d1, d2, ?_⟩
              rw [if_neg (by decide), d3]
              rfl
          obtain ⟨κ2, d1, d2, d3⟩ := hey
          obtain ⟨κ3, e3, e4, e5⟩ := x_keep (a2.fr d1 (fun k hk => by unfold hC; omega)) h.m6
          obtain ⟨κ4, f1, f2, f3, f4⟩ := sX1_arrange (F := F) (d2.agr e3 (by omega) (by omega) (by omega) (by omega)) hw2 (by omega)
          obtain ⟨ρ1, g1, g2, g3, g4⟩ := RG4 (F := F) (R0 h (k := 0)) hw (by omega)
          obtain ⟨ρ2, i1, i2, i3, i4⟩ := rB_see (F := F) (y := y) g3 g4 hw hF hp hq c3 hs ((h.2.1.2.2.st (k := 0)).kp h.HW g2 (by omega) (by omega)) h.m6 h.HW
          simp only [x_give, x_refuse, rX_refuse, rX_is0, rX_is1, rX_is2, rX_is3, rX_is4, rX_is5, rX_is7, nBt, nBf, o10, Bool.not_true, Bool.not_false, if_true, if_false, eq_self, Option.bind_some, a3, g1]
          rw [d3, e5, Option.bind_some, f4, Option.bind_some, sX2_situations f2.1 hw2 (by omega) hp, Option.bind_some, nm_def, i4]
          exact act_ok (G2 := seG G p q y) (H2 := hpush H m G) (m2 := hm1 m) h ⟨hw2, f2, f3, i1⟩ ⟨hpush_WF hw h.HW h.m6, e4.ag f1 (fun k hk => by unfold cA at hk; unfold hC; omega), i2⟩ (kpX_trans (kpX_of a1 (fun k hk => by unfold hC at hk; omega)) (kpX_trans (kpX_of d1 (fun k hk => by omega)) (kpX_trans (kpX_of e3 (fun k hk => by omega)) (kpX_of f1 (fun k hk => by unfold cA at hk; omega))))) (kpR_trans (kpR_of g2 (fun k hk => by omega)) i3)
    · have ep : prT G a b = 2 := if_neg (fun z => c2 z.2)
      rw [ep, decide_eq_true c1, decide_eq_false c2]
      simp only [x_give, x_refuse, rX_refuse, rX_is0, rX_is1, rX_is2, rX_is3, rX_is4, rX_is5, rX_is7, nBt, nBf, o10, Bool.not_true, Bool.not_false, if_true, if_false, eq_self, Option.bind_some, show (nI 2 = (0 : Int32)) = False from by decide, show nI 2 = 2 from rfl]
      exact res_no h agr_rfl agr_rfl
  · have ep : prT G a b = 2 := if_neg (fun z => c1 z.1)
    rw [ep, decide_eq_false c1]
    simp only [x_give, x_refuse, rX_refuse, rX_is0, rX_is1, rX_is2, rX_is3, rX_is4, rX_is5, rX_is7, nBt, nBf, o10, Bool.not_true, Bool.not_false, if_true, if_false, eq_self, Option.bind_some, show (nI 2 = (0 : Int32)) = False from by decide, show nI 2 = 2 from rfl]
    exact res_no h agr_rfl agr_rfl
end CE
