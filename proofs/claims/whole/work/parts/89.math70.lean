/-! LOAD: tables by rules in the reference; tables entry by entry -/
section LDV
variable {κ κ1 κ2 ρ ρ1 ρ2 : Mem} {b : Nat → Int32} {n k f pl lo hi F p q j v bm r K i : Nat} {G : Gm} {x c w : Int32} {hm gm : Nat} {g : Nat → Nat}
theorem rL_has (hg : GR ρ G) (hw : WF G) (hp : p < 6) (hp2 : p < Gn G) (hq : q < 32) : pX11_has ρ (mi ρ 2 (7 + p)) (nI q) = some (nI (sees G p q).toNat) := by
  have h64 := hw.s64 hp2
  rw [(hg.2 p hp).2.1, rX_has (by omega) hq]
  rfl
theorem rL_situations (hg : GR ρ G) (hw : WF G) (hF : 5000 < F) (hp : p < Gn G) : pX11_situations F 2 ρ (nI p) = some (nI (sit G p)) := by
  have hn := hw.n6
  have hp6 := hw_lt hw hp
  have hs := hw.s64 hp
  have h0 : mi ρ 2 0 = nI (Gn G) := hg.1
  have h3 : mi ρ 2 (7 + p) = nI (Gs G p) := (hg.2 p hp6).2.1
  unfold pX11_situations
  unfold sit wB
  rw [Nat.sub_zero]
  refine lp_upE F (fun fu i => pX11_situations_4 F 2 ρ (nI p) fu (nI (pw (fac G p) 0 i)) (nI i)) (0) (Gn G) _ _ rfl (fun fu => ?_) (fun fu i hi1 hi2 => ?_) (by omega) (by omega)
  · show pX11_situations_4 F 2 ρ (nI p) (fu + 1) (nI (pw (fac G p) 0 (Gn G))) (nI (Gn G)) = _
    rw [pX11_situations_4, lenM_2]
    simp (disch := omega) only [n_0, n_1, n_2, n_3, n_4, n_5, n_6, n_7, n_8, n_9, n_10, n_12, n_13, n_14, n_20, n_31, n_32, n_63, n_64, n_600, n_1024, n_4096, n_6157, n_add, n_mul, nm_def, Option.bind_some, Option.some.injEq, ck_in, ck_nz, ck_p, n_cl, n_lt, n_le, n_eq, n_div, n_rem, if_pos, if_neg, if_true, if_false, eq_self, n_192, n_256, n_20000, m1_n0, m1_np, m1_n0p, m1_lt0, m1_lt0p, mi_setIA, mi_setI, ml_setIA, ml_setI, mr_setI, mr_setIA, h0]
  · show pX11_situations_4 F 2 ρ (nI p) (fu + 1) (nI (pw (fac G p) 0 i)) (nI i) = pX11_situations_4 F 2 ρ (nI p) fu (nI (pw (fac G p) 0 (i + 1))) (nI (i + 1))
    have e2 : mi ρ 2 (1 + i) = nI (Gh G i) := (hg.2 i (by omega)).1 (by omega)
    rw [pX11_situations_4, lenM_2]
    unfold pX11_situations_34
    simp (disch := omega) only [n_0, n_1, n_2, n_3, n_4, n_5, n_6, n_7, n_8, n_9, n_10, n_12, n_13, n_14, n_20, n_31, n_32, n_63, n_64, n_600, n_1024, n_4096, n_6157, n_add, n_mul, nm_def, Option.bind_some, Option.some.injEq, ck_in, ck_nz, ck_p, n_cl, n_lt, n_le, n_eq, n_div, n_rem, if_pos, if_neg, if_true, if_false, eq_self, n_192, n_256, n_20000, m1_n0, m1_np, m1_n0p, m1_lt0, m1_lt0p, mi_setIA, mi_setI, ml_setIA, ml_setI, mr_setI, mr_setIA, h0, h3, rX_has, e2, pw, Nat.zero_add]
    have e3 : (Gs G p).testBit i = sees G p i := rfl
    rw [e3]
    cases hc : sees G p i
    · rw [fac_f hc]
      simp (disch := omega) only [n_0, n_1, n_2, n_3, n_4, n_5, n_6, n_7, n_8, n_9, n_10, n_12, n_13, n_14, n_20, n_31, n_32, n_63, n_64, n_600, n_1024, n_4096, n_6157, n_add, n_mul, nm_def, Option.bind_some, Option.some.injEq, ck_in, ck_nz, ck_p, n_cl, n_lt, n_le, n_eq, n_div, n_rem, if_pos, if_neg, if_true, if_false, eq_self, n_192, n_256, n_20000, m1_n0, m1_np, m1_n0p, m1_lt0, m1_lt0p, mi_setIA, mi_setI, ml_setIA, ml_setI, mr_setI, mr_setIA, Bool.toNat_false, Nat.mul_one]
    · rw [fac_t hc]
      simp (disch := omega) only [n_0, n_1, n_2, n_3, n_4, n_5, n_6, n_7, n_8, n_9, n_10, n_12, n_13, n_14, n_20, n_31, n_32, n_63, n_64, n_600, n_1024, n_4096, n_6157, n_add, n_mul, nm_def, Option.bind_some, Option.some.injEq, ck_in, ck_nz, ck_p, n_cl, n_lt, n_le, n_eq, n_div, n_rem, if_pos, if_neg, if_true, if_false, eq_self, n_192, n_256, n_20000, m1_n0, m1_np, m1_n0p, m1_lt0, m1_lt0p, mi_setIA, mi_setI, ml_setIA, ml_setI, mr_setI, mr_setIA, Bool.toNat_true]
/-- where a reading of one situation ends -/
def fE (F : Nat) (k3 : Mem → Int32 → Option Mem) (κ : Mem) (v1 v2 v3 v4 v6 v7 : Int32) : Option Mem := ckI (1 + v1) 6157 (nm (mi κ 2 (1 + v1).toNatClampNeg) fun x3 => if v2 = 5 then pX11_fills_169 F k3 κ v1 v2 v3 v4 x3 ((v3 - v6) + (20 * x3)) else if v2 = 8 then pX11_fills_169 F k3 κ v1 v2 v3 v4 x3 v3 else if v2 = 7 then pX11_fills_168 F k3 κ v1 v2 v3 v4 x3 1 v7 else pX11_fills_168 F k3 κ v1 v2 v3 v4 x3 0 v7)
theorem rL_36 {k3 : Mem → Int32 → Option Mem} {v2 v4 : Int32} (hg : GR ρ G) (hw : WF G) (hp : p < Gn G) (hK : K < 100) : ∀ (q fu x S i : Nat), q ≤ Gn G → q < fu → x < 2147483648 → pX11_fills_36 F k3 ρ (nI p) v2 (nI K) v4 fu (nI x) (nI S) (nI i) (predI q) = fE F k3 ρ (nI p) v2 (nI K) v4 (nI (S + cw G p (fun _ => 1) q x)) (nI (itR G p K q x i)) := by
  have hn := hw.n6
  have hp6 := hw_lt hw hp
  intro q
  induction q with
  | zero =>
    intro fu x S i hq hf hx
    obtain ⟨fu, rfl⟩ : ∃ f, fu = f + 1 := ⟨fu - 1, by omega⟩
    rw [pX11_fills_36, predI_0, if_pos (show (-1 : Int32) < 0 by decide), cw, itR, Nat.add_zero]
    rfl
  | succ q ih =>
    intro fu x S i hq hf hx
    obtain ⟨fu, rfl⟩ : ∃ f, fu = f + 1 := ⟨fu - 1, by omega⟩
    have hq2 : q < Gn G := by omega
    have h1 := hw.h1 hq2
    have h4 := hw.h4 hq2
    have hd := Nat.div_le_self x (Gh G q)
    have e2 : mi ρ 2 (1 + q) = nI (Gh G q) := (hg.2 q (by omega)).1 (by omega)
    have e7 : (7 : Int32) + nI p = nI (7 + p) := n_add 7 p
    have e1 : (1 : Int32) + nI q = nI (1 + q) := n_add 1 q
    rw [pX11_fills_36, predI_s, show (0 : Int32) = nI 0 from rfl, i_lt (by omega) (by decide), if_neg (by omega), e7, ck_in (by omega) (by decide), n_cl (by omega), rL_has hg hw hp6 hp (by omega), Option.bind_some, e1, ck_in (by omega) (by decide), n_cl (by omega), e2, ck_nz (by omega) (by omega), nm_def, n_div hx (by omega) (by omega), n_mul, n_rem, cw, itR]
    unfold pX11_fills_109 pX11_fills_111
    cases hc : sees G p q
    · rw [if_pos (show nI false.toNat = nI 0 from rfl), n_dec, ih fu x S i (by omega) (by omega) hx, if_neg (by decide), if_neg (by decide)]
    · rw [if_neg (show ¬ nI true.toNat = nI 0 by decide), if_pos rfl, if_pos rfl, ck_in (by omega) (by decide), ck_nz (by omega) (by omega), nm_def, nm_def, n_add, i_eq (by omega) (by omega), n_dec, Nat.mul_one]
      have hS : S + x % Gh G q + cw G p (fun _ => 1) q (x / Gh G q) = S + (cw G p (fun _ => 1) q (x / Gh G q) + x % Gh G q) := by omega
      by_cases e : q = K
      · rw [if_pos e, if_pos e, ih fu _ _ _ (by omega) (by omega) (by omega), hS]
      · rw [if_neg e, if_neg e, ih fu _ _ _ (by omega) (by omega) (by omega), hS]
theorem rL_fE {k3 : Mem → Int32 → Option Mem} {s : Nat} (hg : GR ρ G) (hw : WF G) (hp : p < Gn G) (hr : 6 ≤ r ∧ r ≤ 9) (hK : K < 100) (hs : s < 1024) (hk : r = 7 ∨ r = 8 → sees G p K = true) : fE F k3 ρ (nI p) (nI (r - 1)) (nI K) (nI s) (nI (0 + cw G p (fun _ => 1) (Gn G) s)) (nI (itR G p K (Gn G) s 0)) = k3 (setI ρ 2 (13 + 1024 * p + s) (nI (gv G p r K s))) (nI (s + 1)) := by
  have hn := hw.n6
  have hp6 := hw_lt hw hp
  have h1 := hw.h1 hp
  have h4 := hw.h4 hp
  have l1 := cw_le (p := p) hw (u := fun _ => 1) (fun _ => Nat.le_refl _) (Gn G) s (Nat.le_refl _)
  have l2 := cw_le (p := p) hw (u := delta K) delta_le (Gn G) s (Nat.le_refl _)
  have e2 : mi ρ 2 (1 + p) = nI (Gh G p) := (hg.2 p hp6).1 (by omega)
  have e1 : (1 : Int32) + nI p = nI (1 + p) := n_add 1 p
  have e13 : ((13 : Int32) + (1024 * nI p)) + nI s = nI (13 + 1024 * p + s) := by
    rw [show (13 : Int32) = nI 13 from rfl, show (1024 : Int32) = nI 1024 from rfl, n_mul, n_add, n_add]
  have fin : ∀ Y : Nat, Y < 2147483648 → pX11_fills_169 F k3 ρ (nI p) (nI (r - 1)) (nI K) (nI s) (nI (Gh G p)) (nI Y) = k3 (setI ρ 2 (13 + 1024 * p + s) (nI (Y % Gh G p))) (nI (s + 1)) := fun Y hY => by
    unfold pX11_fills_169
    rw [ck_nz (by omega) (by omega), e13, ck_in (by omega) (by decide), n_cl (by omega), n_div hY (by omega) (by omega), n_mul, n_rem, nm_def, show nI s + 1 = nI (s + 1) from n_add s 1]
  unfold fE gv
  rw [e1, ck_in (by omega) (by decide), n_cl (by omega), e2, nm_def, Nat.zero_add]
  rcases (show r = 6 ∨ r = 9 ∨ r = 7 ∨ r = 8 by omega) with e | e | e | e
  · subst e
    have e20 : (nI K - nI (cw G p (fun _ => 1) (Gn G) s)) + (20 * nI (Gh G p)) = nI (K + 20 * Gh G p - cw G p (fun _ => 1) (Gn G) s) := by
      rw [show (20 : Int32) = nI 20 from rfl, n_mul, Int32.sub_eq_add_neg, Int32.add_assoc, Int32.add_comm (-nI _), ← Int32.add_assoc, ← Int32.sub_eq_add_neg, n_add, n_sub (by omega)]
    rw [if_pos (show nI (6 - 1) = 5 from rfl), e20, fin _ (by omega), if_pos rfl]
  · subst e
    rw [if_neg (show ¬ nI (9 - 1) = 5 by decide), if_pos (show nI (9 - 1) = 8 from rfl), fin _ (by omega), if_neg (show ¬ (9 = 6) by decide), if_pos rfl]
  · subst e
    have hs2 := hk (Or.inl rfl)
    have hKn : K < Gn G := hw.see_lt hp hs2
    have ei : itR G p K (Gn G) s 0 = cw G p (delta K) (Gn G) s := by rw [itR_eq, if_pos ⟨hKn, hs2⟩]
    rw [if_neg (show ¬ nI (7 - 1) = 5 by decide), if_neg (show ¬ nI (7 - 1) = 8 by decide), if_neg (show ¬ nI (7 - 1) = 7 by decide), ei]
    unfold pX11_fills_168
    rw [show nI (cw G p (delta K) (Gn G) s) + 0 = nI (0 + cw G p (delta K) (Gn G) s) by rw [Nat.zero_add]; exact Int32.add_zero _, fin _ (by omega), if_neg (show ¬ (7 = 6) by decide), if_neg (show ¬ (7 = 9) by decide), if_neg (show ¬ (7 = 8) by decide)]
  · subst e
    have hs2 := hk (Or.inr rfl)
    have hKn : K < Gn G := hw.see_lt hp hs2
    have ei : itR G p K (Gn G) s 0 = cw G p (delta K) (Gn G) s := by rw [itR_eq, if_pos ⟨hKn, hs2⟩]
    rw [if_neg (show ¬ nI (8 - 1) = 5 by decide), if_neg (show ¬ nI (8 - 1) = 8 by decide), if_pos (show nI (8 - 1) = 7 from rfl), ei]
    unfold pX11_fills_168
    rw [show nI (cw G p (delta K) (Gn G) s) + 1 = nI (1 + cw G p (delta K) (Gn G) s) by rw [Nat.add_comm]; exact n_add _ 1, fin _ (by omega), if_neg (show ¬ (8 = 6) by decide), if_neg (show ¬ (8 = 9) by decide), if_pos rfl]
theorem cw_tt {u : Nat → Nat} : ∀ q x, cw (sTT G p i g) p u q x = cw G p u q x
  | 0, _ => rfl
  | q + 1, x => by
    rw [cw, cw, cw_tt q, cw_tt q]
    rfl
theorem gv_tt : gv (sTT G p i g) p r K j = gv G p r K j := by
  unfold gv
  rw [cw_tt, cw_tt]
  rfl
theorem rL_fills (hg : GR ρ G) (hw : WF G) (hF : 6000 < F) (hp : p < Gn G) (hr : 6 ≤ r ∧ r ≤ 9) (hK : K < 100) (hk : r = 7 ∨ r = 8 → sees G p K = true) : ∃ ρ1, agr (fun c => c = 2) ρ ρ1 ∧ GR ρ1 (sTT G p (sit G p) (gv G p r K)) ∧ pX11_fills F ρ (nI p) (nI (r - 1)) (nI K) = some ρ1 := by
  have hp6 := hw_lt hw hp
  have hsl := sit_le hw hp
  have hn := hw.n6
  unfold pX11_fills
  refine lp_inv (fun fu (s : Mem) i => pX11_fills_3 F (nI p) (nI (r - 1)) (nI K) fu s (nI i)) (fun s i => agr (fun c => c = 2) ρ s ∧ GR s (sTT G p i (gv G p r K))) (sit G p) (fun x => ∃ ρ1, agr (fun c => c = 2) ρ ρ1 ∧ GR ρ1 (sTT G p (sit G p) (gv G p r K)) ∧ x = some ρ1) (fun fu s hI => ?_) (fun fu s i hi hI => ?_) F ρ 0 (Nat.zero_le _) (by omega) ⟨agr_rfl, by rw [sTT_0]; exact hg⟩
  · have hw2 := WF_sTT (p := p) (i := sit G p) hw (fun σ _ => gv_lt (r := r) (K := K) hw hp σ)
    have es := rL_situations (F := F) hI.2 hw2 (by omega) hp
    rw [sit_tt] at es
    refine ⟨s, hI.1, hI.2, ?_⟩
    show pX11_fills_3 F (nI p) (nI (r - 1)) (nI K) (fu + 1) s (nI (sit G p)) = _
    rw [pX11_fills_3, es, Option.bind_some, i_lt (by omega) (by omega), if_neg (Nat.lt_irrefl _)]
  · have hw2 := WF_sTT (p := p) (i := i) hw (fun σ _ => gv_lt (r := r) (K := K) hw hp σ)
    have es := rL_situations (F := F) hI.2 hw2 (by omega) hp
    rw [sit_tt] at es
    have e0 : mi s 2 (0 : Int32).toNatClampNeg = nI (Gn G) := hI.2.1
    have h36 := rL_36 (F := F) (k3 := pX11_fills_3 F (nI p) (nI (r - 1)) (nI K) fu) (v2 := nI (r - 1)) (v4 := nI i) (p := p) (K := K) hI.2 hw2 hp hK (Gn G) F i 0 0 (Nat.le_refl _) (by omega) (by omega)
    have hfe := rL_fE (F := F) (k3 := pX11_fills_3 F (nI p) (nI (r - 1)) (nI K) fu) (p := p) (r := r) (K := K) (s := i) hI.2 hw2 hp hr hK (by omega) hk
    refine ⟨setI s 2 (13 + 1024 * p + i) (nI (gv G p r K i)), ⟨agr_trans hI.1 (agr_setI rfl), GR_tt hI.2 (by omega) hp6⟩, ?_⟩
    show pX11_fills_3 F (nI p) (nI (r - 1)) (nI K) (fu + 1) s (nI i) = pX11_fills_3 F (nI p) (nI (r - 1)) (nI K) fu _ (nI (i + 1))
    rw [pX11_fills_3, es, Option.bind_some, i_lt (by omega) (by omega), if_pos hi, show ckI (0 : Int32) 6157 = ckI (nI 0) 6157 from rfl, ck_in (by decide) (by decide), e0, show nI (Gn G) - 1 = predI (Gn G) from n_sub1 _, nm_def]
    rw [gv_tt] at hfe
    exact h36.trans hfe
-- entry by entry
def OUT2 (b : Nat → Int32) (n : Nat) (κ ρ : Mem) (x : Option (Int32 × Mem)) (y : Option Mem) (k : Nat) : Prop := ∃ κ1 ρ1, agr fX κ κ1 ∧ frR ρ ρ1 ∧ y = some ρ1 ∧ ((x = some (nI 1, κ1) ∧ ∃ k1 G1, k ≤ k1 ∧ AT b n κ1 ρ1 k1 ∧ (GX κ1 G1 ∧ GR ρ1 G1) ∧ (WF G1 ∧ 0 < Gn G1) ∧ (mi κ1 138 7 = mi κ 138 7 ∧ mi κ1 138 8 = mi κ 138 8) ∧ mi ρ1 0 32 = mi ρ 0 32 ∧ mi ρ1 0 33 = mi ρ 0 33) ∨ (x = some (nI 0, κ1) ∧ BAD κ1 ρ1))
theorem sTT_s {v : Nat} : sTT (sTT G p i g) p (i + 1) (fun _ => v) = sTT (sTT G p i g) p (i + 1) (fun _ => v) := rfl
/-- one entry more -/
def sE (G : Gm) (p i v : Nat) : Gm := (Gn G, Gh G, Gs G, fun r s => if r = p ∧ s = i then v else Gt G r s)
theorem WF_sE (hw : WF G) (hv : v < Gh G p) : WF (sE G p i v) := by
  refine ⟨hw.1, fun r hr => ?_⟩
  have hr2 : r < Gn G := hr
  obtain ⟨a1, a2, a3, a4⟩ := hw.2 r hr2
  refine ⟨a1, a2, a3, fun σ hσ => ?_⟩
  show (if r = p ∧ σ = i then v else Gt G r σ) < Gh G r
  by_cases e : r = p ∧ σ = i
  · rw [if_pos e, e.1]; exact hv
  · rw [if_neg e]; exact a4 σ hσ
theorem GX_e (h : GX κ G) (hi : i < 1024) (hc : v < 4) : GX (telK κ 9 p i v) (sE G p i v) := ⟨by rw [mi_telK]; exact h.1, fun r hr => ⟨by rw [mi_telK]; exact (h.2 r hr).1, by rw [mi_telK]; exact (h.2 r hr).2.1, fun σ hσ => by
  rw [tol_telK κ 9 hi hσ hc, (h.2 r hr).2.2 σ hσ]
  rfl⟩⟩
theorem GR_e (h : GR ρ G) (hi : i < 1024) (hp : p < 6) : GR (setI ρ 2 (13 + 1024 * p + i) (nI v)) (sE G p i v) := ⟨by rw [mi_setI, if_neg (by omega)]; exact h.1, fun r hr => ⟨fun z => by rw [mi_setI, if_neg (by omega)]; exact (h.2 r hr).1 z, by rw [mi_setI, if_neg (by omega)]; exact (h.2 r hr).2.1, fun σ hσ => by
  show _ = nI (if r = p ∧ σ = i then v else Gt G r σ)
  rw [mi_setI]
  by_cases e : r = p ∧ σ = i
  · rw [if_pos ⟨rfl, by rw [e.1, e.2]⟩, if_pos e]
  · rw [if_neg (fun z => e (by omega)), if_neg e]; exact (h.2 r hr).2.2 σ hσ⟩⟩
theorem sL_entries (hF : 5000 < F) (hp6 : p < 6) : ∀ (d fu fu2 s : Nat) (κ ρ : Mem) (G : Gm) (k A : Nat), s + d = A → A = sit G p → d < fu → d < fu2 → ST b n κ ρ → AT b n κ ρ k → GX κ G → GR ρ G → WF G → p < Gn G → OUT2 b n κ ρ (pX6_readTable_11 F (nI p) (nI A) fu κ (nI s)) (pX11_readsTable_6 F (nI p) fu2 ρ (nI s)) k := by
  intro d
  induction d with
  | zero =>
    intro fu fu2 s κ ρ G k A hs hA hf hf2 hst hat hgx hgr hw hp
    obtain ⟨fu, rfl⟩ : ∃ f, fu = f + 1 := ⟨fu - 1, by omega⟩
    obtain ⟨fu2, rfl⟩ : ∃ f, fu2 = f + 1 := ⟨fu2 - 1, by omega⟩
    have hsl := sit_le hw hp
    refine ⟨κ, ρ, agr_rfl, frR_rfl, ?_, Or.inl ⟨?_, k, G, Nat.le_refl _, hat, ⟨hgx, hgr⟩, ⟨hw, by omega⟩, ⟨rfl, rfl⟩, rfl, rfl⟩⟩
    · rw [pX11_readsTable_6, rL_situations hgr hw hF hp, Option.bind_some, i_lt (by omega) (by omega), if_neg (by omega)]
      rfl
    · rw [pX6_readTable_11, i_lt (by omega) (by omega), if_neg (by omega)]
      rfl
  | succ d ih =>
    intro fu fu2 s κ ρ G k A hs hA hf hf2 hst hat hgx hgr hw hp
    obtain ⟨fu, rfl⟩ : ∃ f, fu = f + 1 := ⟨fu - 1, by omega⟩
    obtain ⟨fu2, rfl⟩ : ∃ f, fu2 = f + 1 := ⟨fu2 - 1, by omega⟩
    have hsl := sit_le hw hp
    have hn := hw.n6
    have h1 := hw.h1 hp
    have h4 := hw.h4 hp
    obtain ⟨⟨hk, ha4, hc⟩, h25, x1, x2⟩ := hat
    have hP := tP_le (k := k) hst
    have eh : mi κ 10 p = nI (Gh G p) := (hgx.2 p hp6).1
    have er : mi ρ 2 (1 + p) = nI (Gh G p) := (hgr.2 p hp6).1 (by omega)
    have e1 : (1 : Int32) + nI p = nI (1 + p) := n_add 1 p
    have e13 : ((13 : Int32) + (1024 * nI p)) + nI s = nI (13 + 1024 * p + s) := by
      rw [show (13 : Int32) = nI 13 from rfl, show (1024 : Int32) = nI 1024 from rfl, n_mul, n_add, n_add]
    rw [pX6_readTable_11, i_lt (by omega) (by omega), if_pos (show s < A by omega), ck_in hp6 (by decide), n_cl (by omega), eh, pX11_readsTable_6, rL_situations hgr hw hF hp, Option.bind_some, i_lt (by omega) (by omega), if_pos (show s < sit G p by omega), rL_good_t h25, Option.bind_some, if_neg (show ¬ nI 1 = 0 by decide), e1, ck_in (by omega) (by decide), n_cl (by omega), er, show nI (Gh G p) - 1 = nI (Gh G p - 1) from n_sub h1]
    by_cases c : tK b n k = 2 ∧ 0 ≤ tV b n k ∧ tV b n k ≤ Gh G p - 1
    · obtain ⟨c1, c2, c3⟩ := c
      obtain ⟨V, eV⟩ : ∃ V, V = tV b n k := ⟨_, rfl⟩
      obtain ⟨ρ1, b1, b2, b3, b4, b5⟩ := rL_number_t hst hF hk hc h25 c1 c2 c3 (by omega)
      obtain ⟨κa, eκa⟩ : ∃ κa, κa = setI (setI κ 138 5 (nI V)) 138 4 (nI (k + 1)) := ⟨_, rfl⟩
      have ac : agr (fun c => c = 138 ∨ c = 139) κ κa := by rw [eκa]; exact agr_trans (agr_setI (Or.inl rfl)) (agr_setI (Or.inl rfl))
      have ma : ∀ i, i ≠ 4 → i ≠ 5 → mi κa 138 i = mi κ 138 i := fun i i4 i5 => by rw [eκa, mi_setI, if_neg (fun z => i4 z.2), mi_setI, if_neg (fun z => i5 z.2)]
      have ma4 : mi κa 138 4 = nI (k + 1) := by rw [eκa, mi_setI, if_pos ⟨rfl, rfl⟩]
      have ma5 : mi κa 138 5 = nI V := by rw [eκa, mi_setI, if_neg (by omega), mi_setI, if_pos ⟨rfl, rfl⟩]
      have xa : pX6_readNumber κ 0 (nI (Gh G p - 1)) = some (nI 1, κa) := by
        rw [eκa, eV]
        exact xL_number_t hst hk ha4 c1 c2 c3 (by omega)
      have ra : pX11_takesNumber F ρ 0 (nI (Gh G p - 1)) = some (nI V, ρ1) := by rw [eV]; exact b5
      have hsL : s < 1024 := by omega
      have hgx2 : GX (telK κa 9 p s V) (sE G p s V) := GX_e (hgx.fr ac) hsL (by omega)
      have hgr2 : GR (setI ρ1 2 (13 + 1024 * p + s) (nI V)) (sE G p s V) := GR_e (hgr.fr b1) hsL hp6
      have aK : agr fX κ (telK κa 9 p s V) := agr_trans (agr_mono ac (fun c hc => Or.inr hc)) (agr_telK (Or.inl (by omega)))
      have aR : frR ρ (setI ρ1 2 (13 + 1024 * p + s) (nI V)) := frR_trans (frR_L b1) frR_2
      have hat2 : AT b n (telK κa 9 p s V) (setI ρ1 2 (13 + 1024 * p + s) (nI V)) (k + 1) := ⟨⟨b3, by rw [mi_telK]; exact ma4, CUR_mv b2 (fun i hi => by rw [mi_setI, if_neg (by omega)]) rfl⟩, by rw [mi_setI, if_neg (by omega)]; exact b4, by rw [mi_telK, ma 1 (by decide) (by decide)]; exact x1, by rw [mi_telK, ma 2 (by decide) (by decide)]; exact x2⟩
      obtain ⟨κ1, ρ2, g1, g2, g3, g4⟩ := ih fu fu2 (s + 1) (telK κa 9 p s V) (setI ρ1 2 (13 + 1024 * p + s) (nI V)) (sE G p s V) (k + 1) A (by omega) hA (by omega) (by omega) (hst.fr aK aR) hat2 hgx2 hgr2 (WF_sE hw (by omega)) hp
      rw [xa, Option.bind_some, ra, Option.bind_some]
      dsimp only
      rw [if_neg (show ¬ nI 1 = 0 by decide), ma5, sX2_tell κa 9 hp6 hsL, Option.bind_some, e13, ck_in (by omega) (by decide), n_cl (by omega), nm_def, show nI s + 1 = nI (s + 1) from n_add s 1]
      refine ⟨κ1, ρ2, agr_trans aK g1, frR_trans aR g2, g3, ?_⟩
      rcases g4 with ⟨j1, k1, G1, j2, j3, j4, j5, j6, j7, j8⟩ | g4
      · refine Or.inl ⟨j1, k1, G1, by omega, j3, j4, j5, ⟨j6.1.trans ?_, j6.2.trans ?_⟩, j7.trans ?_, j8.trans ?_⟩
        · rw [mi_telK, ma 7 (by decide) (by decide)]
        · rw [mi_telK, ma 8 (by decide) (by decide)]
        · rw [mi_setI, if_neg (by omega), b1.2 32 (by omega)]
        · rw [mi_setI, if_neg (by omega), b1.2 33 (by omega)]
      · exact Or.inr g4
    · obtain ⟨κ1, a1, a2, a3⟩ := xL_number_f hst hk ha4 c (by decide) (by omega)
      obtain ⟨ρ1, b1, b2, b3⟩ := rL_number_f (F := F) hst hk hc h25 c (by decide) (by omega)
      have hgr2 : GR (setI ρ1 2 (13 + 1024 * p + s) (nI 0)) (sE G p s 0) := GR_e (hgr.mv (fun i => b1.mi2 (by decide) i)) (by omega) hp6
      have hRB : RB (setI ρ1 2 (13 + 1024 * p + s) (nI 0)) (erf (tK b n k)) (tkP b n k) := ⟨b2.1, by rw [mi_setI, if_neg (by omega)]; exact b2.2.1, by rw [mi_setI, if_neg (by omega)]; exact b2.2.2⟩
      rw [show pX6_readNumber κ 0 (nI (Gh G p - 1)) = _ from a3, Option.bind_some, show pX11_takesNumber F ρ 0 (nI (Gh G p - 1)) = _ from b3, Option.bind_some]
      dsimp only
      rw [if_pos (show nI 0 = 0 from rfl), e13, ck_in (by omega) (by decide), n_cl (by omega), nm_def, show nI s + 1 = nI (s + 1) from n_add s 1]
      refine ⟨κ1, setI ρ1 2 (13 + 1024 * p + s) (nI 0), a1, frR_trans b1.R frR_2, ?_, Or.inr ⟨rfl, _, _, hP, a2, hRB⟩⟩
      obtain ⟨fu2, rfl⟩ : ∃ f, fu2 = f + 1 := ⟨fu2 - 1, by omega⟩
      have es := rL_situations (F := F) (p := p) hgr2 (WF_sE (v := 0) hw (by omega)) hF hp
      rw [pX11_readsTable_6, es, Option.bind_some, rL_good_b hRB]
      unfold pX11_readsTable_61
      split <;> rfl
end LDV
