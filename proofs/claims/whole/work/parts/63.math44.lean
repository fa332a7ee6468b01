/-! RENUMBERINGS: what one fits and keeps; the class -/
def alb (f : Nat → Bool) (n : Nat) : Bool := !exb (fun i => !f i) n
theorem alb_iff (f : Nat → Bool) (n : Nat) : alb f n = true ↔ ∀ i, i < n → f i = true := by
  unfold alb
  rw [Bool.not_eq_true', ← Bool.not_eq_true, exb_iff]
  constructor
  · intro h i hi
    cases c : f i
    · exact absurd ⟨i, hi, by rw [c]; rfl⟩ h
    · rfl
  · rintro h ⟨i, hi, h2⟩
    rw [h i hi] at h2
    cases h2
theorem alb_no {f : Nat → Bool} {n i : Nat} (hi : i < n) (h : f i = false) : alb f n = false := by
  cases c : alb f n
  · rfl
  · have := (alb_iff f n).mp c i hi
    rw [h] at this
    cases this
/-- until one fails; what the state holds stays -/
theorem lp_allS {σ β : Type} (f : Nat → σ → Nat → β) (I : σ → Prop) (P : Nat → Bool) (n : Nat) (yes no : σ → β) (he : ∀ fu s, I s → f (fu + 1) s n = yes s) (hs : ∀ fu s i, i < n → I s → ∃ s', I s' ∧ f (fu + 1) s i = if P i then f fu s' (i + 1) else no s') (F : Nat) (s : σ) (hF : n < F) (h : I s) : ∃ s', I s' ∧ f F s 0 = if alb P n then yes s' else no s' := by
  have key : ∀ fu s i, i ≤ n → n - i < fu → I s → (∀ j, j < i → P j = true) → ∃ s', I s' ∧ f fu s i = if alb P n then yes s' else no s' := by
    intro fu
    induction fu with
    | zero => intro s i _ h1; omega
    | succ fu ih =>
      intro s i h1 h2 hI hP
      rcases Nat.lt_or_ge i n with q | q
      · obtain ⟨s', a1, a2⟩ := hs fu s i q hI
        rw [a2]
        cases c : P i
        · exact ⟨s', a1, by rw [alb_no q c, if_neg (by decide), if_neg (by decide)]⟩
        · rw [if_pos rfl]
          refine ih s' (i + 1) q (by omega) a1 (fun j hj => ?_)
          rcases Nat.lt_or_ge j i with z | z
          · exact hP j z
          · have : j = i := by omega
            subst this
            exact c
      · have : i = n := by omega
        subst this
        exact ⟨s, hI, by rw [he fu s hI, (alb_iff P i).mpr hP, if_pos rfl]⟩
  exact key F s 0 (Nat.zero_le _) (by omega) h (fun j hj => absurd hj (Nat.not_lt_zero _))
theorem lp_all {β : Type} (f : Nat → Nat → β) (P : Nat → Bool) (n : Nat) (yes no : β) (he : ∀ fu, f (fu + 1) n = yes) (hs : ∀ fu i, i < n → f (fu + 1) i = if P i then f fu (i + 1) else no) (F : Nat) (hF : n < F) : f F 0 = if alb P n then yes else no := by
  obtain ⟨_, _, h⟩ := lp_allS (σ := Unit) (fun fu _ i => f fu i) (fun _ => True) P n (fun _ => yes) (fun _ => no) (fun fu _ _ => he fu) (fun fu _ i hi _ => ⟨(), trivial, hs fu i hi⟩) F () hF trivial
  exact h
/-- a renumbering and the one back -/
def Pm (n : Nat) (π ψ : Nat → Nat) : Prop := (∀ i, i < n → π i < n) ∧ ∀ i, i < n → ψ i < n ∧ ψ (π i) = i ∧ π (ψ i) = i
theorem sm_perm {f π ψ : Nat → Nat} {n : Nat} (h : Pm n π ψ) : sm (fun i => f (π i)) n = sm f n := by
  have e1 : ∀ i, i < n → f (π i) = sm (fun j => if j = π i then f j else 0) n := fun i hi => by
    rw [sm_one (k := π i) (h.1 i hi) (fun j _ hj => if_neg hj), if_pos rfl]
  have e2 : ∀ j, j < n → f j = sm (fun i => if j = π i then f j else 0) n := fun j hj => by
    rw [sm_one (k := ψ j) (h.2 j hj).1 (fun i hi hne => if_neg (fun z => hne (by rw [z, (h.2 i hi).2.1]))), if_pos (h.2 j hj).2.2.symm]
  rw [sm_congr e1, sm_comm (fun i j => if j = π i then f j else 0) n n]
  exact (sm_congr e2).symm
section RNB
variable {G : Gm} {π ψ : Nat → Nat} {p q : Nat}
def fitB (G : Gm) (π : Nat → Nat) : Bool := alb (fun p => decide (Gh G p = Gh G (π p)) && alb (fun q => decide (sees G p q = sees G (π p) (π q))) (Gn G)) (Gn G)
/-- where one's situation is brought -/
def carr (G : Gm) (π : Nat → Nat) (p s : Nat) : Nat := sm (fun r => if sees G p r then cIn G p r s * wgt G (π p) (π r) else 0) (Gn G)
def keepP (G : Gm) (π : Nat → Nat) (p : Nat) : Bool := alb (fun s => decide (Gt G p s = Gt G (π p) (carr G π p s))) (sit G p)
def keepA (G : Gm) (π : Nat → Nat) : Bool := alb (keepP G π) (Gn G)
def keepR (G : Gm) (π ψ : Nat → Nat) : Bool := alb (fun x => alb (fun p => decide (Gt G (π p) (sO G (π p) (fun r => col G (ψ r) x)) = Gt G p (sOf G p x))) (Gn G)) (ncol G)
theorem fitB_h (h : fitB G π = true) (hp : p < Gn G) : Gh G p = Gh G (π p) := by
  have := (alb_iff _ _).mp h p hp
  rw [Bool.and_eq_true] at this
  exact of_decide_eq_true this.1
theorem fitB_s (h : fitB G π = true) (hp : p < Gn G) (hq : q < Gn G) : sees G p q = sees G (π p) (π q) := by
  have := (alb_iff _ _).mp h p hp
  rw [Bool.and_eq_true] at this
  exact of_decide_eq_true ((alb_iff _ _).mp this.2 q hq)
theorem carr_sO (h : fitB G π = true) (hP : Pm (Gn G) π ψ) (hp : p < Gn G) (s : Nat) : carr G π p s = sO G (π p) (fun r => cIn G p (ψ r) s) := by
  rw [sO_sum, ← sm_perm hP]
  unfold carr
  refine sm_congr (fun r hr => ?_)
  show _ = cIn G p (ψ (π r)) s * wgt G (π p) (π r)
  rw [(hP.2 r hr).2.1]
  cases c : sees G p r
  · rw [wgt_f (by rw [← fitB_s h hp hr]; exact c), Nat.mul_zero]
    rfl
  · rfl
theorem carr_lt (hw : WF G) (h : fitB G π = true) (hP : Pm (Gn G) π ψ) (hp : p < Gn G) (s : Nat) : carr G π p s < sit G (π p) := by
  rw [carr_sO h hP hp]
  refine sO_lt hw (fun q hq => ?_)
  have h1 := (hP.2 q hq).1
  have h2 := fitB_h h h1
  rw [(hP.2 q hq).2.2] at h2
  rw [← h2]
  exact cIn_lt hw h1 s
theorem sO_seen {d e : Nat → Nat} (h : ∀ q, q < Gn G → sees G p q = true → d q = e q) : sO G p d = sO G p e := by
  unfold sO
  refine hor_congr (fun _ _ => rfl) (fun q hq => ?_)
  cases c : sees G p q
  · rfl
  · show d q = e q
    exact h q hq c
theorem sOf_onto (hw : WF G) (hp : p < Gn G) {s : Nat} (hs : s < sit G p) : ∃ x, x < ncol G ∧ sOf G p x = s := by
  refine ⟨hor (Gh G) (fun q => cIn G p q s) (Gn G), ?_, ?_⟩
  · rw [ncol_pw (by omega)]
    exact hor_lt (fun i hi => cIn_lt hw hi s)
  · rw [← sO_col]
    exact (sO_seen (e := fun q => cIn G p q s) (fun q hq _ => dig_hor (d := fun q => cIn G p q s) (f := Gh G) (fun i hi => cIn_lt hw hi s) hq)).trans (sO_cIn hp hs)
theorem keep_eq (hw : WF G) (h : fitB G π = true) (hP : Pm (Gn G) π ψ) : keepA G π = keepR G π ψ := by
  have e0 : ∀ p, p < Gn G → ∀ x, carr G π p (sOf G p x) = sO G (π p) (fun r => col G (ψ r) x) := fun p hp x => by
    rw [carr_sO h hP hp]
    refine sO_seen (fun q hq hs => ?_)
    have h1 := (hP.2 q hq).1
    have h2 := fitB_s h hp h1
    rw [(hP.2 q hq).2.2, hs] at h2
    exact cIn_sOf hw hp h2 x
  have e1 : keepA G π = true ↔ keepR G π ψ = true := by
    unfold keepA keepR
    rw [alb_iff, alb_iff]
    constructor
    · intro k x hx
      rw [alb_iff]
      intro p hp
      have := of_decide_eq_true ((alb_iff _ _).mp (k p hp) (sOf G p x) (sOf_lt hw))
      rw [e0 p hp x] at this
      exact decide_eq_true this.symm
    · intro k p hp
      unfold keepP
      rw [alb_iff]
      intro s hs
      obtain ⟨x, hx, rfl⟩ := sOf_onto hw hp hs
      have := of_decide_eq_true ((alb_iff _ _).mp (k x hx) p hp)
      rw [← e0 p hp x] at this
      exact decide_eq_true this.symm
  cases c : keepA G π <;> cases c2 : keepR G π ψ
  · rfl
  · rw [c, c2] at e1; exact absurd (e1.mpr rfl) (by decide)
  · rw [c, c2] at e1; exact absurd (e1.mp rfl) (by decide)
  · rfl
/-- the same from the front, digit by digit -/
def cw (G : Gm) (p : Nat) (w : Nat → Nat) : Nat → Nat → Nat
  | 0, _ => 0
  | q + 1, x => if sees G p q then cw G p w q (x / Gh G q) + x % Gh G q * w q else cw G p w q x
theorem cw_sm (p : Nat) (w : Nat → Nat) : ∀ q x, cw G p w q x = sm (fun r => if sees G p r then x / pw (fac G p) (r + 1) (q - (r + 1)) % Gh G r * w r else 0) q
  | 0, _ => rfl
  | q + 1, x => by
    rw [cw, sm]
    cases c : sees G p q
    · rw [if_neg (by decide), if_neg (by decide), Nat.add_zero, cw_sm p w q x]
      refine sm_congr (fun r hr => ?_)
      show (if sees G p r = true then _ else 0) = (if sees G p r = true then _ else 0)
      rw [show q + 1 - (r + 1) = (q - (r + 1)) + 1 by omega, pw, show r + 1 + (q - (r + 1)) = q by omega, fac_f c, Nat.mul_one]
    · rw [if_pos rfl, if_pos rfl, cw_sm p w q (x / Gh G q), Nat.sub_self, pw, Nat.div_one]
      congr 1
      refine sm_congr (fun r hr => ?_)
      show (if sees G p r = true then _ else 0) = (if sees G p r = true then _ else 0)
      rw [show q + 1 - (r + 1) = (q - (r + 1)) + 1 by omega, pw, show r + 1 + (q - (r + 1)) = q by omega, fac_t c, Nat.div_div_eq_div_mul, Nat.mul_comm (Gh G q)]
theorem cw_carr (p s : Nat) (π : Nat → Nat) : cw G p (fun r => wgt G (π p) (π r)) (Gn G) s = carr G π p s := by
  rw [cw_sm]
  rfl
end RNB
section RNX
variable {κ κ1 : Mem} {G : Gm} {F p q : Nat} {π ψ : Nat → Nat}
/-- the class's renumbering -/
def IM (κ : Mem) (G : Gm) (π : Nat → Nat) : Prop := ∀ p, p < Gn G → mi κ 56 p = nI (π p)
theorem sX7_fits (hG : XG κ 1 G) (hw : WF G) (hF : 100 < F) (hI : IM κ G π) (hP : ∀ i, i < Gn G → π i < Gn G) : pX7_fits F κ = some (nI (fitB G π).toNat) := by
  have hn := hw.n6
  have e0 : mi κ 1 0 = nI (Gn G) := hG.1
  unfold pX7_fits
  have key := lp_all (fun fu i => pX7_fits_2 F κ fu (nI i)) (fun p => decide (Gh G p = Gh G (π p)) && alb (fun q => decide (sees G p q = sees G (π p) (π q))) (Gn G)) (Gn G) (some 1) (some 0) (fun fu => by
    show pX7_fits_2 F κ (fu + 1) (nI (Gn G)) = _
    rw [pX7_fits_2]
    simp (disch := omega) only [n_0, n_1, n_2, n_3, n_4, n_5, n_6, n_7, n_8, n_9, n_10, n_12, n_13, n_14, n_20, n_31, n_32, n_63, n_64, n_600, n_1024, n_4096, n_6157, n_add, n_mul, nm_def, Option.bind_some, Option.some.injEq, ck_in, ck_nz, ck_p, n_cl, n_lt, n_le, n_eq, n_div, n_rem, if_pos, if_neg, if_true, if_false, eq_self, n_192, n_256, n_20000, m1_n0, m1_np, m1_n0p, m1_lt0, m1_lt0p, mi_setIA, mi_setI, ml_setIA, ml_setI, mr_setI, mr_setIA, e0]) (fun fu p hp => by
    show pX7_fits_2 F κ (fu + 1) (nI p) = if _ then pX7_fits_2 F κ fu (nI (p + 1)) else _
    have hp6 := hw_lt hw hp
    have hpp := hP p hp
    have hpp6 := hw_lt hw hpp
    have h1 := hG.h hp
    have h2 := hG.h hpp
    have h3 := hI p hp
    have h4 := hw.h4 hp
    have h5 := hw.h4 hpp
    have in1 := lp_all (fun fu2 q => pX7_fits_43 F κ (pX7_fits_2 F κ fu) (nI p) fu2 (nI q)) (fun q => decide (sees G p q = sees G (π p) (π q))) (Gn G) (pX7_fits_2 F κ fu (nI (p + 1))) (some 0) (fun fu2 => by
      show pX7_fits_43 F κ (pX7_fits_2 F κ fu) (nI p) (fu2 + 1) (nI (Gn G)) = _
      rw [pX7_fits_43]
      simp (disch := omega) only [n_0, n_1, n_2, n_3, n_4, n_5, n_6, n_7, n_8, n_9, n_10, n_12, n_13, n_14, n_20, n_31, n_32, n_63, n_64, n_600, n_1024, n_4096, n_6157, n_add, n_mul, nm_def, Option.bind_some, Option.some.injEq, ck_in, ck_nz, ck_p, n_cl, n_lt, n_le, n_eq, n_div, n_rem, if_pos, if_neg, if_true, if_false, eq_self, n_192, n_256, n_20000, m1_n0, m1_np, m1_n0p, m1_lt0, m1_lt0p, mi_setIA, mi_setI, ml_setIA, ml_setI, mr_setI, mr_setIA, e0]) (fun fu2 q hq => by
      show pX7_fits_43 F κ (pX7_fits_2 F κ fu) (nI p) (fu2 + 1) (nI q) = if _ then pX7_fits_43 F κ (pX7_fits_2 F κ fu) (nI p) fu2 (nI (q + 1)) else _
      have hq6 := hw_lt hw hq
      have hqq6 := hw_lt hw (hP q hq)
      rw [pX7_fits_43]
      simp (disch := omega) only [n_0, n_1, n_2, n_3, n_4, n_5, n_6, n_7, n_8, n_9, n_10, n_12, n_13, n_14, n_20, n_31, n_32, n_63, n_64, n_600, n_1024, n_4096, n_6157, n_add, n_mul, nm_def, Option.bind_some, Option.some.injEq, ck_in, ck_nz, ck_p, n_cl, n_lt, n_le, n_eq, n_div, n_rem, if_pos, if_neg, if_true, if_false, eq_self, n_192, n_256, n_20000, m1_n0, m1_np, m1_n0p, m1_lt0, m1_lt0p, mi_setIA, mi_setI, ml_setIA, ml_setI, mr_setI, mr_setIA, e0, sX2_watches hG hw hp (show q < 32 by omega), h3, hI q hq, sX2_watches hG hw hpp (show π q < 32 by omega), b2n]
      by_cases z : sees G p q = sees G (π p) (π q)
      · simp [z]
      · simp [z]) F (by omega)
    rw [pX7_fits_2]
    simp (disch := omega) only [n_0, n_1, n_2, n_3, n_4, n_5, n_6, n_7, n_8, n_9, n_10, n_12, n_13, n_14, n_20, n_31, n_32, n_63, n_64, n_600, n_1024, n_4096, n_6157, n_add, n_mul, nm_def, Option.bind_some, Option.some.injEq, ck_in, ck_nz, ck_p, n_cl, n_lt, n_le, n_eq, n_div, n_rem, if_pos, if_neg, if_true, if_false, eq_self, n_192, n_256, n_20000, m1_n0, m1_np, m1_n0p, m1_lt0, m1_lt0p, mi_setIA, mi_setI, ml_setIA, ml_setI, mr_setI, mr_setIA, e0, h1, h3, h2]
    by_cases z : Gh G p = Gh G (π p)
    · rw [if_pos z, decide_eq_true z, Bool.true_and]
      exact in1
    · rw [if_neg z, decide_eq_false z]
      rfl) F (by omega)
  refine key.trans ?_
  show (if fitB G π = true then _ else _) = _
  cases fitB G π <;> rfl
end RNX
