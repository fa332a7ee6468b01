/-! LOAD: tables by rules -/
def cwJ (G : Gm) (p : Nat) (w : Nat → Int32) (B : Int32) : Nat → Nat → Int32
  | 0, _ => B
  | q + 1, x => if sees G p q then cwJ G p w B q (x / Gh G q) + nI (x % Gh G q) * w q else cwJ G p w B q x
def delta (K r : Nat) : Nat := if r = K then 1 else 0
def itR (G : Gm) (p K : Nat) : Nat → Nat → Nat → Nat
  | 0, _, i => i
  | q + 1, x, i => if sees G p q then itR G p K q (x / Gh G q) (if q = K then x % Gh G q else i) else itR G p K q x i
/-- what a rule lets guess -/
def gv (G : Gm) (p r K σ : Nat) : Nat := (if r = 6 then K + 20 * Gh G p - cw G p (fun _ => 1) (Gn G) σ else if r = 9 then K else (if r = 8 then 1 else 0) + cw G p (delta K) (Gn G) σ) % Gh G p
def rW (r K q : Nat) : Int32 := if r = 6 then -1 else if (r = 7 ∨ r = 8) ∧ q = K then 1 else 0
def rB (r K : Nat) : Int32 := if r = 7 then nI 0 else if r = 8 then nI 1 else nI K
/-- a table laid down to some place -/
def sTT (G : Gm) (p i : Nat) (f : Nat → Nat) : Gm := (Gn G, Gh G, Gs G, fun r s => if r = p ∧ s < i then f s else Gt G r s)
section LDU
variable {κ κ1 κ2 ρ ρ1 ρ2 : Mem} {b : Nat → Int32} {n k f pl lo hi F p q j v bm r K i : Nat} {G : Gm} {x c w : Int32} {hm gm : Nat} {g : Nat → Nat}
theorem fmS : ∀ K, K < 100 → ∀ S, S < 20 → ∀ m, m < 5 → m ≠ 0 → pJ9_floorMod_7cf53 mem0 (nI K - nI S) (nI m) = some (nI ((K + 20 * m - S) % m)) := by decide +kernel
theorem cw_le (hw : WF G) {u : Nat → Nat} (hu : ∀ r, u r ≤ 1) : ∀ q x, q ≤ Gn G → cw G p u q x ≤ 3 * q
  | 0, _, _ => Nat.le_refl _
  | q + 1, x, hq => by
    rw [cw]
    have h1 := cw_le hw hu q (x / Gh G q) (by omega)
    have h2 := cw_le hw hu q x (by omega)
    have h3 := Nat.mod_lt x (show 0 < Gh G q from hw.h1 (by omega))
    have h4 := hw.h4 (p := q) (by omega)
    have h5 := Nat.mul_le_mul_left (x % Gh G q) (hu q)
    split <;> omega
theorem cw_0 {u : Nat → Nat} : ∀ q x, (∀ r, r < q → u r = 0) → cw G p u q x = 0
  | 0, _, _ => rfl
  | q + 1, x, h => by
    rw [cw, cw_0 q _ (fun r hr => h r (by omega)), cw_0 q _ (fun r hr => h r (by omega)), h q (by omega), Nat.mul_zero]
    split <;> rfl
theorem delta_le (r : Nat) : delta K r ≤ 1 := by unfold delta; split <;> omega
theorem itR_eq : ∀ q x i, itR G p K q x i = if K < q ∧ sees G p K = true then cw G p (delta K) q x else i
  | 0, _, i => by rw [itR, if_neg (fun z => Nat.not_lt_zero _ z.1)]
  | q + 1, x, i => by
    rw [itR, cw, itR_eq q, itR_eq q]
    by_cases e : q = K
    · subst e
      have h0 : cw G p (delta q) q (x / Gh G q) = 0 := cw_0 q _ (fun r hr => if_neg (by omega))
      have h1 : delta q q = 1 := if_pos rfl
      have h2 : ¬ (q < q ∧ sees G p q = true) := fun z => Nat.lt_irrefl _ z.1
      by_cases d : sees G p q = true
      · rw [if_pos d, if_neg h2, if_pos rfl, if_pos (show q < q + 1 ∧ sees G p q = true from ⟨Nat.lt_succ_self q, d⟩), if_pos d, h0, h1]; omega
      · rw [if_neg d, if_neg h2, if_neg (show ¬ (q < q + 1 ∧ sees G p q = true) from fun z => d z.2)]
    · have h1 : delta K q = 0 := if_neg e
      rw [if_neg e, h1, Nat.mul_zero, Nat.add_zero]
      by_cases d : K < q ∧ sees G p K = true
      · rw [if_pos d, if_pos d, if_pos (show K < q + 1 ∧ sees G p K = true from ⟨by omega, d.2⟩)]
        split <;> rfl
      · rw [if_neg d, if_neg d, if_neg (show ¬ (K < q + 1 ∧ sees G p K = true) from fun z => d ⟨by omega, z.2⟩)]
        split <;> rfl
theorem cwJ_nat {u : Nat → Nat} {B : Nat} {wt : Nat → Int32} (hu : ∀ q, wt q = nI (u q)) : ∀ q x, cwJ G p wt (nI B) q x = nI (B + cw G p u q x)
  | 0, _ => rfl
  | q + 1, x => by
    rw [cwJ, cw, cwJ_nat hu q, cwJ_nat hu q, hu]
    by_cases d : sees G p q = true
    · rw [if_pos d, if_pos d, n_mul, n_add, Nat.add_assoc]
    · rw [if_neg d, if_neg d]
theorem cwJ_sum {wt : Nat → Int32} (hu : ∀ q, wt q = -1) : ∀ q x, cwJ G p wt (nI K) q x = nI K - nI (cw G p (fun _ => 1) q x)
  | 0, x => by rw [cwJ, cw, Int32.sub_eq_add_neg]; exact (Int32.add_zero _).symm
  | q + 1, x => by
    rw [cwJ, cw, cwJ_sum hu q, cwJ_sum hu q, hu]
    by_cases d : sees G p q = true
    · rw [if_pos d, if_pos d, Nat.mul_one, ← n_add, Int32.mul_neg, Int32.mul_one, Int32.sub_eq_add_neg, Int32.sub_eq_add_neg, Int32.neg_add, Int32.add_assoc, Int32.sub_eq_add_neg]
    · rw [if_neg d, if_neg d]
theorem rule_val (hw : WF G) (hp : p < Gn G) (hr : 6 ≤ r ∧ r ≤ 9) (hK : K < 100) (σ : Nat) : pJ9_floorMod_7cf53 κ (cwJ G p (rW r K) (rB r K) (Gn G) σ) (nI (Gh G p)) = some (nI (gv G p r K σ)) := by
  have h1 := hw.h1 hp
  have h4 := hw.h4 hp
  have hn := hw.n6
  have l1 := cw_le (p := p) hw (u := fun _ => 1) (fun _ => Nat.le_refl _) (Gn G) σ (Nat.le_refl _)
  have l2 := cw_le (p := p) hw (u := delta K) delta_le (Gn G) σ (Nat.le_refl _)
  have fm : ∀ K S, K < 100 → S < 20 → pJ9_floorMod_7cf53 κ (nI K - nI S) (nI (Gh G p)) = some (nI ((K + 20 * Gh G p - S) % Gh G p)) := fun K S hK hS => fmS K hK S hS (Gh G p) (by omega) (by omega)
  have fm0 : ∀ K, K < 100 → pJ9_floorMod_7cf53 κ (nI K) (nI (Gh G p)) = some (nI (K % Gh G p)) := fun K hK => by
    have h := fm K 0 hK (by decide)
    rw [Nat.sub_zero, Nat.add_mul_mod_self_right] at h
    rw [show nI K - nI 0 = nI K from n_sub (Nat.zero_le _)] at h
    exact h
  unfold gv
  rcases (show r = 6 ∨ r = 9 ∨ r = 7 ∨ r = 8 by omega) with e | e | e | e
  · subst e
    rw [if_pos rfl, show rB 6 K = nI K from rfl, cwJ_sum (wt := rW 6 K) (fun q => if_pos rfl)]
    exact fm K _ hK (by omega)
  · subst e
    rw [if_neg (by decide), if_pos rfl, show rB 9 K = nI K from rfl, cwJ_nat (wt := rW 9 K) (u := fun _ => 0) (fun q => by unfold rW; rw [if_neg (by decide), if_neg (by omega)]; rfl), cw_0 _ _ (fun _ _ => rfl)]
    exact fm0 K hK
  · subst e
    rw [if_neg (by decide), if_neg (by decide), if_neg (by decide), show rB 7 K = nI 0 from rfl, cwJ_nat (wt := rW 7 K) (u := delta K) (fun q => by
      unfold rW delta
      rw [if_neg (by decide)]
      by_cases y : q = K
      · rw [if_pos ⟨Or.inl rfl, y⟩, if_pos y]; rfl
      · rw [if_neg (fun z => y z.2), if_neg y]; rfl)]
    exact fm0 _ (by omega)
  · subst e
    rw [if_neg (by decide), if_neg (by decide), if_pos rfl, show rB 8 K = nI 1 from rfl, cwJ_nat (wt := rW 8 K) (u := delta K) (fun q => by
      unfold rW delta
      rw [if_neg (by decide)]
      by_cases y : q = K
      · rw [if_pos ⟨Or.inr rfl, y⟩, if_pos y]; rfl
      · rw [if_neg (fun z => y z.2), if_neg y]; rfl)]
    exact fm0 _ (by omega)
theorem gv_lt (hw : WF G) (hp : p < Gn G) (σ : Nat) : gv G p r K σ < Gh G p := Nat.mod_lt _ (hw.h1 hp)
-- tables that grow
theorem WF_sTT (hw : WF G) (hg : ∀ σ, σ < i → g σ < Gh G p) : WF (sTT G p i g) := by
  refine ⟨hw.1, fun r hr => ?_⟩
  have hr2 : r < Gn G := hr
  obtain ⟨a1, a2, a3, a4⟩ := hw.2 r hr2
  refine ⟨a1, a2, a3, fun σ hσ => ?_⟩
  show (if r = p ∧ σ < i then g σ else Gt G r σ) < Gh G r
  by_cases e : r = p ∧ σ < i
  · rw [if_pos e, e.1]; exact hg σ e.2
  · rw [if_neg e]; exact a4 σ hσ
theorem GX_tt (h : GX κ (sTT G p i g)) (hi : i < 1024) (hp : p < 6) (hc : g i < 4) : GX (telK κ 9 p i (g i)) (sTT G p (i + 1) g) := ⟨by rw [mi_telK]; exact h.1, fun r hr => ⟨by rw [mi_telK]; exact (h.2 r hr).1, by rw [mi_telK]; exact (h.2 r hr).2.1, fun σ hσ => by
  rw [tol_telK κ 9 hi hσ hc]
  show _ = if r = p ∧ σ < i + 1 then g σ else Gt G r σ
  have h2 : tol κ 9 r σ = if r = p ∧ σ < i then g σ else Gt G r σ := (h.2 r hr).2.2 σ hσ
  by_cases e : r = p ∧ σ = i
  · rw [if_pos e, if_pos ⟨e.1, by omega⟩, e.2]
  · rw [if_neg e, h2]
    by_cases d : r = p ∧ σ < i
    · rw [if_pos d, if_pos ⟨d.1, by omega⟩]
    · rw [if_neg d, if_neg (fun z => e ⟨z.1, by have := z.1; omega⟩)]⟩⟩
theorem GR_tt (h : GR ρ (sTT G p i g)) (hi : i < 1024) (hp : p < 6) : GR (setI ρ 2 (13 + 1024 * p + i) (nI (g i))) (sTT G p (i + 1) g) := ⟨by rw [mi_setI, if_neg (by omega)]; exact h.1, fun r hr => ⟨fun z => by rw [mi_setI, if_neg (by omega)]; exact (h.2 r hr).1 z, by rw [mi_setI, if_neg (by omega)]; exact (h.2 r hr).2.1, fun σ hσ => by
  show _ = nI (if r = p ∧ σ < i + 1 then g σ else Gt G r σ)
  have h2 : mi ρ 2 (13 + 1024 * r + σ) = nI (if r = p ∧ σ < i then g σ else Gt G r σ) := (h.2 r hr).2.2 σ hσ
  rw [mi_setI]
  by_cases e : r = p ∧ σ = i
  · rw [if_pos ⟨rfl, by rw [e.1, e.2]⟩, if_pos ⟨e.1, by omega⟩, e.2]
  · rw [if_neg (fun z => e (by omega)), h2]
    by_cases d : r = p ∧ σ < i
    · rw [if_pos d, if_pos ⟨d.1, by omega⟩]
    · rw [if_neg d, if_neg (fun z => e ⟨z.1, by have := z.1; omega⟩)]⟩⟩
theorem sTT_0 : sTT G p 0 g = G := by
  unfold sTT
  refine Prod.ext rfl (Prod.ext rfl (Prod.ext rfl ?_))
  funext r s
  show (if r = p ∧ s < 0 then g s else Gt G r s) = Gt G r s
  rw [if_neg (fun z => Nat.not_lt_zero _ z.2)]
theorem sit_tt : sit (sTT G p i g) q = sit G q := rfl
-- the class lays a rule
theorem xL_56 (hg : GX κ G) (hw : WF G) (hF : 6000 < F) (hp : p < Gn G) (hr : 6 ≤ r ∧ r ≤ 9) (h0 : mi κ 139 0 = rB r K) (h5 : mi κ 138 5 = nI K) (hK : K < 100) : ∃ κ1, agr (fun c => c = 139) κ κ1 ∧ (∀ y, y < sit G p → mi κ1 139 y = cwJ G p (rW r K) (rB r K) (Gn G) y) ∧ pX6_tellByRule_56 F (nI p) (nI r) (nI (if r = 7 ∨ r = 8 then 1 else 0)) F κ 1 0 = pX6_tellByRule_143 F (nI p) (nI (sit G p)) F κ1 0 := by
  have hn := hw.n6
  have hp6 := hw_lt hw hp
  have hsl := sit_le hw hp
  have hsit : pw (fac G p) 0 (Gn G) = sit G p := by unfold sit wB; rw [Nat.sub_zero]
  refine lp_inv (fun fu (s : Mem × Nat) i => pX6_tellByRule_56 F (nI p) (nI r) (nI (if r = 7 ∨ r = 8 then 1 else 0)) fu s.1 (nI s.2) (nI i)) (fun s i => agr (fun c => c = 139) κ s.1 ∧ s.2 = pw (fac G p) 0 i ∧ ∀ y, y < pw (fac G p) 0 i → mi s.1 139 y = cwJ G p (rW r K) (rB r K) i y) (Gn G) (fun x => ∃ κ1, agr (fun c => c = 139) κ κ1 ∧ (∀ y, y < sit G p → mi κ1 139 y = cwJ G p (rW r K) (rB r K) (Gn G) y) ∧ x = pX6_tellByRule_143 F (nI p) (nI (sit G p)) F κ1 0) (fun fu s hI => ?_) (fun fu s i hi hI => ?_) F (κ, 1) 0 (Nat.zero_le _) (by omega) ⟨agr_rfl, rfl, fun y hy => ?_⟩
  · obtain ⟨b1, b2, b3⟩ := hI
    have e0 : mi s.1 9 0 = nI (Gn G) := (agr_mi b1 (by decide) 0).trans hg.1
    refine ⟨s.1, b1, by rw [← hsit]; exact b3, ?_⟩
    show pX6_tellByRule_56 F (nI p) (nI r) _ (fu + 1) s.1 (nI s.2) (nI (Gn G)) = _
    rw [pX6_tellByRule_56, e0, i_lt (by omega) (by omega), if_neg (Nat.lt_irrefl _), b2, hsit]
  · obtain ⟨b1, b2, b3⟩ := hI
    have hgs : GX s.1 G := hg.fr (agr_mono b1 (fun c hc => Or.inr hc))
    have e0 : mi s.1 9 0 = nI (Gn G) := hgs.1
    have e5 : mi s.1 138 5 = nI K := (agr_mi b1 (by decide) 5).trans h5
    have hi6 := hw_lt hw hi
    have hl1 := pfac_le (q := i) hw hp (by omega)
    have hl2 := pfac_le (q := i + 1) hw hp (by omega)
    rw [pw, Nat.zero_add] at hl2
    have ew := sX2_watches (hgs.xg hw) hw hp (show i < 32 by omega)
    cases hc : sees G p i
    · refine ⟨s, ⟨b1, ?_, fun y hy => ?_⟩, ?_⟩
      · rw [b2, pw, Nat.zero_add, fac_f hc, Nat.mul_one]
      · rw [pw, Nat.zero_add, fac_f hc, Nat.mul_one] at hy
        rw [b3 y hy, cwJ, hc]
        rfl
      · show pX6_tellByRule_56 F (nI p) (nI r) _ (fu + 1) s.1 (nI s.2) (nI i) = pX6_tellByRule_56 F (nI p) (nI r) _ fu s.1 (nI s.2) (nI (i + 1))
        rw [pX6_tellByRule_56, e0, i_lt (by omega) (by omega), if_pos hi, ew, hc, Option.bind_some, if_pos (show nI false.toNat = 0 from rfl)]
        unfold pX6_tellByRule_134
        rw [show nI i + 1 = nI (i + 1) from n_add i 1]
    · rw [fac_t hc] at hl2
      have e1 := sX10_lengthen (r0 := 139) (F := F) (κ := s.1) (sz := pw (fac G p) 0 i) (h := Gh G i) (w := rW r K i) (by omega) (hw.h1 hi) (hw.h4 hi) hl2 (show (1024 : Nat) ≤ 4096 by decide) (by omega)
      have eh := (hgs.2 i hi6).1
      refine ⟨(setIA s.1 139 (lenF (s.1.1 139) 0 (pw (fac G p) 0 i * Gh G i) (Gh G i) (rW r K i)), pw (fac G p) 0 i * Gh G i), ⟨agr_trans b1 (agr_setIA rfl), ?_, fun y hy => ?_⟩, ?_⟩
      · show _ = pw (fac G p) 0 (i + 1)
        rw [pw, Nat.zero_add, fac_t hc]
      · rw [pw, Nat.zero_add, fac_t hc] at hy
        rw [mi_setIA, if_pos rfl, lenF, if_pos ⟨Nat.zero_le _, hy⟩, cwJ, hc, if_pos rfl]
        have hd : y / Gh G i < pw (fac G p) 0 i := Nat.div_lt_of_lt_mul (by rw [Nat.mul_comm]; exact hy)
        rw [show s.1.1 139 (y / Gh G i) = mi s.1 139 (y / Gh G i) from rfl, b3 _ hd]
      · show pX6_tellByRule_56 F (nI p) (nI r) (nI (if r = 7 ∨ r = 8 then 1 else 0)) (fu + 1) s.1 (nI s.2) (nI i) = pX6_tellByRule_56 F (nI p) (nI r) (nI (if r = 7 ∨ r = 8 then 1 else 0)) fu (setIA s.1 139 (lenF (s.1.1 139) 0 (pw (fac G p) 0 i * Gh G i) (Gh G i) (rW r K i))) (nI (pw (fac G p) 0 i * Gh G i)) (nI (i + 1))
        have e129 : ∀ y0, y0 = rW r K i → pX6_tellByRule_129 F (pX6_tellByRule_56 F (nI p) (nI r) (nI (if r = 7 ∨ r = 8 then 1 else 0)) fu) s.1 (nI p) (nI r) (nI (if r = 7 ∨ r = 8 then 1 else 0)) (nI i) y0 (nI (Gh G i)) (nI s.2) = pX6_tellByRule_56 F (nI p) (nI r) (nI (if r = 7 ∨ r = 8 then 1 else 0)) fu (setIA s.1 139 (lenF (s.1.1 139) 0 (pw (fac G p) 0 i * Gh G i) (Gh G i) (rW r K i))) (nI (pw (fac G p) 0 i * Gh G i)) (nI (i + 1)) := fun y0 hy0 => by
          unfold pX6_tellByRule_129 pX6_tellByRule_134
          rw [hy0, b2, e1, Option.bind_some, show nI i + 1 = nI (i + 1) from n_add i 1]
        have e99 : ∀ y0, (r ≠ 6 → y0 = rW r K i) → pX6_tellByRule_99 F (pX6_tellByRule_56 F (nI p) (nI r) (nI (if r = 7 ∨ r = 8 then 1 else 0)) fu) s.1 (nI p) (nI r) (nI (if r = 7 ∨ r = 8 then 1 else 0)) (nI s.2) (nI i) y0 = pX6_tellByRule_56 F (nI p) (nI r) (nI (if r = 7 ∨ r = 8 then 1 else 0)) fu (setIA s.1 139 (lenF (s.1.1 139) 0 (pw (fac G p) 0 i * Gh G i) (Gh G i) (rW r K i))) (nI (pw (fac G p) 0 i * Gh G i)) (nI (i + 1)) := fun y0 hy0 => by
          unfold pX6_tellByRule_99
          rw [ck_in hi6 (by decide), n_cl (by omega), eh, show (6 : Int32) = nI 6 from rfl, i_eq (by omega) (by decide)]
          by_cases d : r = 6
          · rw [if_pos d]; exact e129 _ (by unfold rW; rw [if_pos d])
          · rw [if_neg d]; exact e129 _ (hy0 d)
        have e98 : (r ≠ 6 → (0 : Int32) = rW r K i) → pX6_tellByRule_98 F (pX6_tellByRule_56 F (nI p) (nI r) (nI (if r = 7 ∨ r = 8 then 1 else 0)) fu) s.1 (nI p) (nI r) (nI (if r = 7 ∨ r = 8 then 1 else 0)) (nI s.2) (nI i) = pX6_tellByRule_56 F (nI p) (nI r) (nI (if r = 7 ∨ r = 8 then 1 else 0)) fu (setIA s.1 139 (lenF (s.1.1 139) 0 (pw (fac G p) 0 i * Gh G i) (Gh G i) (rW r K i))) (nI (pw (fac G p) 0 i * Gh G i)) (nI (i + 1)) := fun h => e99 0 h
        rw [pX6_tellByRule_56, e0, i_lt (by omega) (by omega), if_pos hi, ew, hc, Option.bind_some, if_neg (show ¬ nI true.toNat = 0 by decide), e5, i_eq (by omega) (by omega)]
        by_cases d : r = 7 ∨ r = 8
        · have d6 : r ≠ 6 := by omega
          have e3 : ¬ nI (if r = 7 ∨ r = 8 then 1 else 0) = 0 := by rw [if_pos d]; decide
          rw [if_neg e3]
          by_cases y : i = K
          · rw [if_pos y, e99 1 (fun _ => by unfold rW; rw [if_neg d6, if_pos ⟨d, y⟩])]
          · rw [if_neg y, e98 (fun _ => by unfold rW; rw [if_neg d6, if_neg (fun z => y z.2)])]
        · have e3 : nI (if r = 7 ∨ r = 8 then 1 else 0) = 0 := by rw [if_neg d]; rfl
          rw [if_pos e3, e98 (fun d6 => by unfold rW; rw [if_neg d6, if_neg (fun z => d z.1)])]
  · rw [pw] at hy
    have : y = 0 := by omega
    subst this
    exact h0
theorem xL_143 (hg : GX κ G) (hw : WF G) (hF : 6000 < F) (hp : p < Gn G) (hr : 6 ≤ r ∧ r ≤ 9) (hK : K < 100) (hv : ∀ y, y < sit G p → mi κ 139 y = cwJ G p (rW r K) (rB r K) (Gn G) y) : ∃ κ1, agr (fun c => c = 12) κ κ1 ∧ GX κ1 (sTT G p (sit G p) (gv G p r K)) ∧ pX6_tellByRule_143 F (nI p) (nI (sit G p)) F κ 0 = some κ1 := by
  have hp6 := hw_lt hw hp
  have hsl := sit_le hw hp
  have h4 := hw.h4 hp
  refine lp_inv (fun fu (s : Mem) i => pX6_tellByRule_143 F (nI p) (nI (sit G p)) fu s (nI i)) (fun s i => agr (fun c => c = 12) κ s ∧ GX s (sTT G p i (gv G p r K))) (sit G p) (fun x => ∃ κ1, agr (fun c => c = 12) κ κ1 ∧ GX κ1 (sTT G p (sit G p) (gv G p r K)) ∧ x = some κ1) (fun fu s hI => ?_) (fun fu s i hi hI => ?_) F κ 0 (Nat.zero_le _) (by omega) ⟨agr_rfl, by rw [sTT_0]; exact hg⟩
  · refine ⟨s, hI.1, hI.2, ?_⟩
    show pX6_tellByRule_143 F (nI p) (nI (sit G p)) (fu + 1) s (nI (sit G p)) = _
    rw [pX6_tellByRule_143, i_lt (by omega) (by omega), if_neg (Nat.lt_irrefl _)]
  · have hgl := gv_lt (r := r) (K := K) hw hp i
    refine ⟨telK s 9 p i (gv G p r K i), ⟨agr_trans hI.1 (agr_telK rfl), GX_tt hI.2 (by omega) hp6 (by omega)⟩, ?_⟩
    show pX6_tellByRule_143 F (nI p) (nI (sit G p)) (fu + 1) s (nI i) = pX6_tellByRule_143 F (nI p) (nI (sit G p)) fu _ (nI (i + 1))
    have e9 : mi s 139 i = cwJ G p (rW r K) (rB r K) (Gn G) i := (agr_mi hI.1 (by decide) i).trans (hv i hi)
    have eh : mi s 10 p = nI (Gh G p) := (hI.2.2 p hp6).1
    rw [pX6_tellByRule_143, i_lt (by omega) (by omega), if_pos hi, ck_in (by omega) (by decide), ck_in hp6 (by decide), n_cl (by omega), n_cl (by omega), e9, eh, rule_val hw hp hr hK, Option.bind_some, sX2_tell s 9 hp6 (by omega), Option.bind_some, show nI i + 1 = nI (i + 1) from n_add i 1]
theorem xL_tell (hg : GX κ G) (hw : WF G) (hF : 6000 < F) (hp : p < Gn G) (hr : 6 ≤ r ∧ r ≤ 9) (h5 : mi κ 138 5 = nI K) (hK : K < 100) : ∃ κ1, agr (fun c => c = 12 ∨ c = 139) κ κ1 ∧ GX κ1 (sTT G p (sit G p) (gv G p r K)) ∧ pX6_tellByRule F κ (nI p) (nI r) = some κ1 := by
  obtain ⟨s0, es0⟩ : ∃ s0, s0 = setI κ 139 0 (rB r K) := ⟨_, rfl⟩
  have a0 : agr (fun c => c = 139) κ s0 := by rw [es0]; exact agr_setI rfl
  have g0 : GX s0 G := hg.fr (agr_mono a0 (fun c hc => Or.inr hc))
  obtain ⟨s1, b1, b2, b3⟩ := xL_56 (F := F) (r := r) (K := K) g0 hw hF hp hr (by rw [es0, mi_setI, if_pos ⟨rfl, rfl⟩]) ((agr_mi a0 (by decide) 5).trans h5) hK
  obtain ⟨s2, c1, c2, c3⟩ := xL_143 (F := F) (g0.fr (agr_mono b1 (fun c hc => Or.inr hc))) hw hF hp hr hK b2
  refine ⟨s2, agr_trans (agr_mono a0 (fun c hc => Or.inr hc)) (agr_trans (agr_mono b1 (fun c hc => Or.inr hc)) (agr_mono c1 (fun c hc => Or.inl hc))), c2, ?_⟩
  rw [← c3, ← b3]
  have e52 : ∀ v3 y0, v3 = nI (if r = 7 ∨ r = 8 then 1 else 0) → y0 = rB r K → pX6_tellByRule_52 F κ (nI p) (nI r) v3 1 y0 0 = pX6_tellByRule_56 F (nI p) (nI r) (nI (if r = 7 ∨ r = 8 then 1 else 0)) F s0 1 0 := fun v3 y0 h1 h2 => by
    unfold pX6_tellByRule_52
    rw [h1, h2, show ckI (0 : Int32) 1024 = ckI (nI 0) 1024 from rfl, ck_in (by decide) (by decide), show (0 : Int32).toNatClampNeg = 0 from rfl, nm_def, ← es0]
  unfold pX6_tellByRule pX6_tellByRule_12 pX6_tellByRule_17 pX6_tellByRule_29
  rcases (show r = 6 ∨ r = 9 ∨ r = 7 ∨ r = 8 by omega) with e | e | e | e
  · subst e
    rw [if_neg (show ¬ nI 6 = 7 by decide), if_neg (show ¬ nI 6 = 8 by decide), if_neg (show ¬ nI 6 = 8 by decide), if_pos (show (0 : Int32) = 0 from rfl)]
    exact e52 _ _ rfl h5
  · subst e
    rw [if_neg (show ¬ nI 9 = 7 by decide), if_neg (show ¬ nI 9 = 8 by decide), if_neg (show ¬ nI 9 = 8 by decide), if_pos (show (0 : Int32) = 0 from rfl)]
    exact e52 _ _ rfl h5
  · subst e
    rw [if_pos (show nI 7 = 7 from rfl), if_neg (show ¬ nI 7 = 8 by decide), if_neg (show ¬ (1 : Int32) = 0 by decide)]
    exact e52 _ _ rfl rfl
  · subst e
    rw [if_neg (show ¬ nI 8 = 7 by decide), if_pos (show nI 8 = 8 from rfl), if_pos (show nI 8 = 8 from rfl), if_neg (show ¬ (1 : Int32) = 0 by decide)]
    exact e52 _ _ rfl rfl
end LDU
