/-! SIGHT GIVEN AND TAKEN -/
theorem lp_dinv {σ ρ : Type} (f : Nat → σ → Nat → ρ) (I : σ → Nat → Prop) (n : Nat) (Q : ρ → Prop) (he : ∀ fu s, I s 0 → Q (f (fu + 1) s 0)) (hs : ∀ fu s i, i < n → I s (i + 1) → ∃ s', I s' i ∧ f (fu + 1) s (i + 1) = f fu s' i) : ∀ fu s a, a ≤ n → a < fu → I s a → Q (f fu s a) := by
  intro fu
  induction fu with
  | zero => intro s a _ h _; omega
  | succ fu ih =>
    intro s a h1 h2 h3
    cases a with
    | zero => exact he fu s h3
    | succ a =>
      obtain ⟨s', h4, h5⟩ := hs fu s a h1 h3
      rw [h5]
      exact ih s' a (by omega) (by omega) h4
/-- B is as A, but for one sight more -/
def drp (A B : Gm) (p q : Nat) : Prop := Gn A = Gn B ∧ Gh A = Gh B ∧ (∀ r, r < Gn B → r ≠ q → sees A p r = sees B p r) ∧ sees A p q = false ∧ sees B p q = true
section DR
variable {A B : Gm} {p q r : Nat}
theorem drp_fac (h : drp A B p q) (hr : r < Gn B) (hne : r ≠ q) : fac A p r = fac B p r := by
  unfold fac
  rw [h.2.2.1 r hr hne, h.2.1]
theorem drp_wB (h : drp A B p q) {a : Nat} (ha : q < a) : wB A p a = wB B p a := by
  unfold wB
  rw [h.1]
  exact pw_congr (fun i h1 h2 => drp_fac h (by omega) (by omega))
theorem drp_lo (h : drp A B p q) (hq : q < Gn B) {a : Nat} (ha : a ≤ q) : wB A p a = pw (fac A p) a (q - a) * wB B p (q + 1) ∧ wB B p a = pw (fac A p) a (q - a) * (Gh B q * wB B p (q + 1)) := by
  have e1 : ∀ C : Gm, Gn C = Gn B → wB C p a = pw (fac C p) a (q - a) * (fac C p q * wB C p (q + 1)) := fun C hC => by
    rw [← wB_step q (by omega)]
    unfold wB
    have := pw_split (fac C p) a (q - a) (Gn C - q)
    rw [show q - a + (Gn C - q) = Gn C - a by omega, show a + (q - a) = q by omega] at this
    exact this
  constructor
  · rw [e1 A h.1, fac_f h.2.2.2.1, Nat.one_mul, drp_wB h (Nat.lt_succ_self q)]
  · rw [e1 B rfl, fac_t h.2.2.2.2, pw_congr (g := fac A p) (fun i h1 h2 => (drp_fac h (by omega) (by omega)).symm)]
theorem drp_sit (h : drp A B p q) (hq : q < Gn B) : sit A p = pw (fac A p) 0 q * wB B p (q + 1) ∧ sit B p = pw (fac A p) 0 q * (Gh B q * wB B p (q + 1)) := by
  have := drp_lo (a := 0) h hq (Nat.zero_le _)
  rw [Nat.sub_zero] at this
  exact this
def drX (B : Gm) (p q x : Nat) : Nat := x / (Gh B q * wB B p (q + 1)) * wB B p (q + 1) + x % wB B p (q + 1)
theorem div_mod_mul {k P h V z : Nat} (hV : 0 < V) : (k * (P * (h * V)) + z) / V % h = z / V % h := by
  have e : k * (P * (h * V)) = V * (k * P * h) := by
    rw [← Nat.mul_assoc, ← Nat.mul_assoc, Nat.mul_comm _ V]
  rw [e, Nat.mul_add_div hV, Nat.mul_add_mod_self_right]
theorem drp_cIn (hB : WF B) (h : drp A B p q) (hq : q < Gn B) (hr : r < Gn B) (hne : r ≠ q) (hs : sees A p r = true) (x : Nat) : cIn A p r (drX B p q x) = cIn B p r x := by
  have hW := wB_pos (p := p) hB (q + 1)
  unfold cIn drX
  rw [h.2.1]
  rcases Nat.lt_or_ge r q with c | c
  · obtain ⟨l1, l2⟩ := drp_lo (a := r + 1) h hq (by omega)
    rw [l1, l2]
    generalize pw (fac A p) (r + 1) (q - (r + 1)) = P
    have hm := Nat.mod_lt x hW
    generalize Gh B q * wB B p (q + 1) = M
    generalize wB B p (q + 1) = W at hW hm
    have e1 : (x / M * W + x % W) / (P * W) = x / M / P := by
      rw [Nat.mul_comm P W, ← Nat.div_div_eq_div_mul, Nat.mul_comm (x / M) W, Nat.mul_add_div hW, Nat.div_eq_of_lt hm, Nat.add_zero]
    have e2 : x / (P * M) = x / M / P := by rw [Nat.mul_comm P M, ← Nat.div_div_eq_div_mul]
    rw [e1, e2]
  · have hV := wB_pos (p := p) hB (r + 1)
    have e1 : wB B p (q + 1) = pw (fac B p) (q + 1) (r - (q + 1)) * (Gh B r * wB B p (r + 1)) := by
      have e2 : wB B p r = Gh B r * wB B p (r + 1) := by
        rw [wB_step r hr, fac_t (by rw [← h.2.2.1 r hr hne]; exact hs)]
      rw [← e2]
      unfold wB
      have := pw_split (fac B p) (q + 1) (r - (q + 1)) (Gn B - r)
      rw [show r - (q + 1) + (Gn B - r) = Gn B - (q + 1) by omega, show q + 1 + (r - (q + 1)) = r by omega] at this
      exact this
    rw [drp_wB h (show q < r + 1 by omega)]
    generalize hz : x % wB B p (q + 1) = z
    have hx : x = x / wB B p (q + 1) * wB B p (q + 1) + z := by rw [← hz]; exact (Nat.div_add_mod' _ _).symm
    generalize x / (Gh B q * wB B p (q + 1)) = k1
    generalize x / wB B p (q + 1) = k2 at hx
    rw [hx, e1, div_mod_mul hV, div_mod_mul hV]
theorem drX_lt (hB : WF B) (h : drp A B p q) (hq : q < Gn B) {x : Nat} (hx : x < sit B p) : drX B p q x < sit A p := by
  have hW := wB_pos (p := p) hB (q + 1)
  have hh := hB.h1 hq
  obtain ⟨l1, l2⟩ := drp_sit h hq
  rw [l2] at hx
  rw [l1]
  unfold drX
  refine mul_add_lt ?_ (Nat.mod_lt _ hW)
  rw [Nat.div_lt_iff_lt_mul (Nat.mul_pos hh hW)]
  exact hx
theorem drX_le (x : Nat) (hB : WF B) (hq : q < Gn B) : drX B p q x ≤ x := by
  have hh := hB.h1 hq
  unfold drX
  generalize wB B p (q + 1) = W
  have h1 : x / (Gh B q * W) * W ≤ x / W * W := Nat.mul_le_mul_right W (by
    rw [Nat.mul_comm, ← Nat.div_div_eq_div_mul]
    exact Nat.div_le_self _ _)
  have h2 := Nat.div_add_mod' x W
  omega
/-- the other way: a situation with colour 0 of one more -/
def drY (B : Gm) (p q s : Nat) : Nat := s / wB B p (q + 1) * (Gh B q * wB B p (q + 1)) + s % wB B p (q + 1)
theorem drX_Y (hB : WF B) (hq : q < Gn B) (s : Nat) : drX B p q (drY B p q s) = s := by
  have hW := wB_pos (p := p) hB (q + 1)
  have hh := hB.h1 hq
  have hm := Nat.mod_lt s hW
  unfold drX drY
  have hle : s % wB B p (q + 1) < Gh B q * wB B p (q + 1) := Nat.lt_of_lt_of_le hm (Nat.le_mul_of_pos_left _ hh)
  have e1 : (s / wB B p (q + 1) * (Gh B q * wB B p (q + 1)) + s % wB B p (q + 1)) / (Gh B q * wB B p (q + 1)) = s / wB B p (q + 1) := by
    rw [Nat.mul_comm, Nat.mul_add_div (Nat.mul_pos hh hW), Nat.div_eq_of_lt hle, Nat.add_zero]
  have e2 : (s / wB B p (q + 1) * (Gh B q * wB B p (q + 1)) + s % wB B p (q + 1)) % wB B p (q + 1) = s % wB B p (q + 1) := by
    rw [← Nat.mul_assoc, Nat.mul_comm, Nat.mul_add_mod, Nat.mod_mod]
  rw [e1, e2]
  exact Nat.div_add_mod' _ _
theorem drY_0 (hB : WF B) (hq : q < Gn B) (s : Nat) : cIn B p q (drY B p q s) = 0 := by
  have hW := wB_pos (p := p) hB (q + 1)
  unfold cIn drY
  have e : (s / wB B p (q + 1) * (Gh B q * wB B p (q + 1)) + s % wB B p (q + 1)) / wB B p (q + 1) = s / wB B p (q + 1) * Gh B q := by
    rw [← Nat.mul_assoc, Nat.mul_comm, Nat.mul_add_div hW, Nat.div_eq_of_lt (Nat.mod_lt _ hW), Nat.add_zero]
  rw [e, Nat.mul_mod_left]
theorem drY_lt (hB : WF B) (h : drp A B p q) (hq : q < Gn B) {s : Nat} (hs : s < sit A p) : drY B p q s < sit B p := by
  have hW := wB_pos (p := p) hB (q + 1)
  have hh := hB.h1 hq
  obtain ⟨l1, l2⟩ := drp_sit h hq
  rw [l1] at hs
  rw [l2]
  unfold drY
  refine mul_add_lt ?_ (Nat.lt_of_lt_of_le (Nat.mod_lt _ hW) (Nat.le_mul_of_pos_left _ hh))
  rw [Nat.div_lt_iff_lt_mul hW]
  exact hs
theorem drY_ge (hB : WF B) (hq : q < Gn B) (s : Nat) : s ≤ drY B p q s := by
  have hh := hB.h1 hq
  unfold drY
  generalize wB B p (q + 1) = W
  have h1 : s / W * W ≤ s / W * (Gh B q * W) := Nat.mul_le_mul_left _ (Nat.le_mul_of_pos_left _ hh)
  have h2 := Nat.div_add_mod' s W
  omega
end DR
/-- another sight, other tables -/
def sG (G : Gm) (p q : Nat) (y : Bool) (t : Nat → Nat → Nat) : Gm := (Gn G, Gh G, (fun r => if r = p then (if y then Gs G p ||| 2 ^ q else clr (Gs G p) q) else Gs G r), t)
section SG
variable {G : Gm} {p q r : Nat} {y : Bool} {t : Nat → Nat → Nat}
theorem sG_sees (hw : WF G) (hp : p < Gn G) (hq : q < Gn G) {x : Nat} (hx : x < 6) : sees (sG G p q y t) r x = if r = p ∧ x = q then y else sees G r x := by
  have hq6 := hw_lt hw hq
  show Nat.testBit (if r = p then (if y then Gs G p ||| 2 ^ q else clr (Gs G p) q) else Gs G r) x = _
  by_cases e : r = p
  · subst e
    rw [if_pos rfl]
    cases y
    · show Nat.testBit (clr (Gs G r) q) x = _
      rw [clr_bit _ (hw.s64 hp) q hq6 x hx]
      by_cases c : x = q
      · rw [if_pos c, if_pos ⟨rfl, c⟩]
      · rw [if_neg c, if_neg (fun z => c z.2)]; rfl
    · show Nat.testBit (Gs G r ||| 2 ^ q) x = _
      rw [Nat.testBit_or, Nat.testBit_two_pow]
      by_cases c : x = q
      · subst c
        rw [if_pos ⟨rfl, rfl⟩]
        simp
      · rw [if_neg (fun z => c z.2)]
        have e : decide (q = x) = false := by simp; exact fun z => c z.symm
        rw [e, Bool.or_false]
        rfl
  · rw [if_neg e, if_neg (fun z => e z.1)]; rfl
theorem sG_fac (hw : WF G) (hp : p < Gn G) (hq : q < Gn G) (hr : r ≠ p) : ∀ x, x < Gn G → fac (sG G p q y t) r x = fac G r x := fun x hx => by
  have e : sees (sG G p q y t) r x = sees G r x := by rw [sG_sees hw hp hq (hw_lt hw hx), if_neg (fun z => hr z.1)]
  unfold fac
  rw [e]
  rfl
theorem sG_wB (hw : WF G) (hp : p < Gn G) (hq : q < Gn G) (hr : r ≠ p) (a : Nat) : wB (sG G p q y t) r a = wB G r a := by
  unfold wB
  show pw (fac (sG G p q y t) r) a (Gn G - a) = _
  exact pw_congr (fun i h1 h2 => sG_fac hw hp hq hr i (by omega))
theorem sG_sit (hw : WF G) (hp : p < Gn G) (hq : q < Gn G) (hr : r ≠ p) : sit (sG G p q y t) r = sit G r := sG_wB hw hp hq hr 0
theorem sG_s (hw : WF G) (hp : p < Gn G) (hq : q < Gn G) (hr : r < Gn G) : Gs (sG G p q y t) r < 2 ^ Gn G := by
  show (if r = p then (if y then Gs G p ||| 2 ^ q else clr (Gs G p) q) else Gs G r) < 2 ^ Gn G
  by_cases e : r = p
  · rw [if_pos e]
    cases y
    · exact Nat.lt_of_le_of_lt Nat.and_le_left (hw.s2 hp)
    · exact Nat.or_lt_two_pow (hw.s2 hp) (two_lt hq)
  · rw [if_neg e]; exact hw.s2 hr
theorem WF_sG (hw : WF G) (hp : p < Gn G) (hq : q < Gn G) (hpq : p ≠ q) (ht : ∀ r, r < Gn G → ∀ σ, σ < sit (sG G p q y t) r → t r σ < Gh G r) : WF (sG G p q y t) :=
  ⟨hw.1, fun r hr => ⟨(hw.2 r hr).1, sG_s hw hp hq hr, by
    rw [sG_sees hw hp hq (hw_lt hw hr), if_neg (fun z => hpq (z.1.symm.trans z.2))]
    exact hw.irr hr, ht r hr⟩⟩
theorem sG_drp1 (hw : WF G) (hp : p < Gn G) (hq : q < Gn G) (hs : sees G p q = false) : drp G (sG G p q true t) p q :=
  ⟨rfl, rfl, fun r hr hne => by rw [sG_sees hw hp hq (hw_lt hw hr), if_neg (fun z => hne z.2)], hs, by rw [sG_sees hw hp hq (hw_lt hw hq), if_pos ⟨rfl, rfl⟩]⟩
theorem sG_drp0 (hw : WF G) (hp : p < Gn G) (hq : q < Gn G) (hs : sees G p q = true) : drp (sG G p q false t) G p q :=
  ⟨rfl, rfl, fun r hr hne => by rw [sG_sees hw hp hq (hw_lt hw hr), if_neg (fun z => hne z.2)], by rw [sG_sees hw hp hq (hw_lt hw hq), if_pos ⟨rfl, rfl⟩], hs⟩
/-- the tables then -/
def seT (G : Gm) (p q : Nat) (y : Bool) : Nat → Nat → Nat := fun r σ => if r = p then Gt G p (if y then drX (sG G p q true (Gt G)) p q σ else drY G p q σ) else Gt G r σ
def seG (G : Gm) (p q : Nat) (y : Bool) : Gm := sG G p q y (seT G p q y)
theorem sit_seG (G : Gm) (p q : Nat) (y : Bool) (t : Nat → Nat → Nat) : sit (seG G p q y) = sit (sG G p q y t) := rfl
theorem WF_sG0 (hw : WF G) (hp : p < Gn G) (hq : q < Gn G) (hpq : p ≠ q) : WF (sG G p q y (fun _ _ => 0)) := WF_sG hw hp hq hpq (fun r hr σ _ => hw.h1 hr)
theorem WF_seG (hw : WF G) (hp : p < Gn G) (hq : q < Gn G) (hpq : p ≠ q) (hs : sees G p q = !y) : WF (seG G p q y) := by
  refine WF_sG hw hp hq hpq (fun r hr σ hσ => ?_)
  unfold seT
  by_cases e : r = p
  · subst e
    rw [if_pos rfl]
    cases y
    · exact hw.t hr (drY_lt hw (sG_drp0 (t := seT G r q false) hw hp hq hs) hq hσ)
    · exact hw.t hr (drX_lt (WF_sG0 (y := true) hw hp hq hpq) (sG_drp1 (t := fun _ _ => 0) hw hp hq hs) hq hσ)
  · rw [if_neg e]
    have hσ2 : σ < sit G r := by rw [← sG_sit (y := y) (t := seT G p q y) hw hp hq e]; exact hσ
    exact hw.t hr hσ2
end SG
