/-! NETWORKS: sets that grow -/
def sb (a b : Nat) : Prop := ∀ i, i < 6 → a.testBit i = true → b.testBit i = true
theorem sb_rfl (a : Nat) : sb a a := fun _ _ h => h
theorem sb_trans {a b c : Nat} (h : sb a b) (h2 : sb b c) : sb a c := fun i hi hb => h2 i hi (h i hi hb)
theorem sb_anti {a b : Nat} (ha : a < 64) (hb : b < 64) (h : sb a b) (h2 : sb b a) : a = b := eq64 a ha b hb (fun i hi => by
  cases c : b.testBit i
  · cases d : a.testBit i
    · rfl
    · rw [h i hi d] at c; cases c
  · exact h2 i hi c)
theorem pc_lt0 : ∀ a, a < 64 → ∀ b, b < 64 → a &&& b = a → a ≠ b → pc a < pc b := by decide +kernel
theorem sb_and {a b : Nat} (ha : a < 64) (h : sb a b) : a &&& b = a := by
  refine eq64 _ (Nat.lt_of_le_of_lt Nat.and_le_left ha) a ha (fun i hi => ?_)
  rw [Nat.testBit_and]
  cases c : a.testBit i
  · rfl
  · rw [h i hi c]; rfl
theorem pc_lt {a b : Nat} (ha : a < 64) (hb : b < 64) (h : sb a b) (hne : a ≠ b) : pc a < pc b := pc_lt0 a ha b hb (sb_and ha h) hne
theorem pc_sb {a b : Nat} (ha : a < 64) (hb : b < 64) (h : sb a b) : pc a ≤ pc b := by
  by_cases c : a = b
  · rw [c]; exact Nat.le_refl _
  · exact Nat.le_of_lt (pc_lt ha hb h c)
theorem or_lt64 {a b : Nat} (ha : a < 64) (hb : b < 64) : a ||| b < 64 := Nat.or_lt_two_pow (n := 6) ha hb
theorem sb_or1 (a b : Nat) : sb a (a ||| b) := fun i _ h => by rw [Nat.testBit_or, h]; rfl
theorem sb_or2 (a b : Nat) : sb b (a ||| b) := fun i _ h => by rw [Nat.testBit_or, h, Bool.or_true]
theorem sb_or {a b c : Nat} (h : sb a c) (h2 : sb b c) : sb (a ||| b) c := fun i hi hb => by
  rw [Nat.testBit_or, Bool.or_eq_true] at hb
  rcases hb with z | z
  · exact h i hi z
  · exact h2 i hi z
def itr (T : Nat → Nat) : Nat → Nat → Nat
  | 0, r => r
  | k + 1, r => T (itr T k r)
/-- in so many rounds nothing more is found -/
theorem itr_ok {T : Nat → Nat} (hT : ∀ r, r < 64 → T r < 64 ∧ sb r (T r)) : ∀ k r, r < 64 → itr T k r < 64 ∧ sb r (itr T k r) ∧ (T (itr T k r) = itr T k r ∨ pc r + k ≤ pc (itr T k r))
  | 0, r, h => ⟨h, sb_rfl r, Or.inr (Nat.le_refl _)⟩
  | k + 1, r, h => by
    obtain ⟨h1, h2, h3⟩ := itr_ok hT k r h
    obtain ⟨h4, h5⟩ := hT _ h1
    rw [itr]
    refine ⟨h4, sb_trans h2 h5, ?_⟩
    by_cases c : T (itr T k r) = itr T k r
    · left; rw [c, c]
    · right
      rcases h3 with z | z
      · exact absurd z c
      · have := pc_lt h1 h4 h5 (fun y => c y.symm)
        omega
theorem pc_full : ∀ n, n ≤ 6 → ∀ a, a < 2 ^ n → pc a ≤ n ∧ (pc a = n → a = 2 ^ n - 1) := by decide +kernel
theorem itr_fix {T : Nat → Nat} {n k r : Nat} (hT : ∀ r, r < 64 → T r < 64 ∧ sb r (T r)) (hn : n ≤ 6) (hTn : ∀ r, r < 2 ^ n → T r < 2 ^ n) (hr : r < 2 ^ n) (hk : n ≤ k) : T (itr T k r) = itr T k r := by
  have h64 := pow_le_64 hn
  obtain ⟨h1, h2, h3⟩ := itr_ok hT k r (by omega)
  rcases h3 with z | z
  · exact z
  · have hb : ∀ j, itr T j r < 2 ^ n := fun j => by
      induction j with
      | zero => exact hr
      | succ j ih => rw [itr]; exact hTn _ ih
    have h4 := pc_full n hn _ (hb k)
    have h5 := h4.2 (by omega)
    have h6 := pc_full n hn _ (hTn _ (hb k))
    have h7 := pc_sb h1 (hT _ h1).1 (hT _ h1).2
    have h8 := h6.2 (by omega)
    rw [h8, h5]
theorem itr_sub {T : Nat → Nat} {D : Nat} (h : ∀ r, r < 64 → sb r D → sb (T r) D) (hT : ∀ r, r < 64 → T r < 64 ∧ sb r (T r)) : ∀ k r, r < 64 → sb r D → sb (itr T k r) D
  | 0, _, _, h2 => h2
  | k + 1, r, h1, h2 => h _ (itr_ok hT k r h1).1 (itr_sub h hT k r h1 h2)
/-- two ways to grow that stop at the same sets end in the same -/
theorem itr_same {T T2 : Nat → Nat} {n k k2 r : Nat} (C : Nat → Prop) (hn : n ≤ 6) (hT : ∀ r, r < 64 → T r < 64 ∧ sb r (T r)) (hT2 : ∀ r, r < 64 → T2 r < 64 ∧ sb r (T2 r)) (hTn : ∀ r, r < 2 ^ n → T r < 2 ^ n) (hTn2 : ∀ r, r < 2 ^ n → T2 r < 2 ^ n) (hr : r < 2 ^ n) (hk : n ≤ k) (hk2 : n ≤ k2) (hC : ∀ r, r < 64 → T r = r → C r) (hC2 : ∀ r, r < 64 → T2 r = r → C r) (hs : ∀ D, D < 64 → C D → ∀ r, r < 64 → sb r D → sb (T r) D) (hs2 : ∀ D, D < 64 → C D → ∀ r, r < 64 → sb r D → sb (T2 r) D) : itr T k r = itr T2 k2 r := by
  have h64 := pow_le_64 hn
  have a1 := (itr_ok hT k r (by omega)).1
  have a2 := (itr_ok hT2 k2 r (by omega)).1
  have b1 := hC _ a1 (itr_fix hT hn hTn hr hk)
  have b2 := hC2 _ a2 (itr_fix hT2 hn hTn2 hr hk2)
  refine sb_anti a1 a2 ?_ ?_
  · exact itr_sub (hs _ a2 b2) hT k r (by omega) (itr_ok hT2 k2 r (by omega)).2.1
  · exact itr_sub (hs2 _ a1 b1) hT2 k2 r (by omega) (itr_ok hT k r (by omega)).2.1
theorem and_lt64 {a b : Nat} (ha : a < 64) : a &&& b < 64 := Nat.lt_of_le_of_lt Nat.and_le_left ha
theorem or_fix {a b : Nat} (ha : a < 64) (h : a ||| b = a) : sb b a := fun i hi hb => by
  have := congrArg (fun z => z.testBit i) h
  simp only [Nat.testBit_or, hb, Bool.or_true] at this
  exact this.symm
theorem two_lt64 {p : Nat} (hp : p < 6) : 2 ^ p < 64 := Nat.lt_of_lt_of_le (Nat.pow_lt_pow_right (by decide) hp) (Nat.le_refl _)
theorem two_lt {p n : Nat} (hp : p < n) : 2 ^ p < 2 ^ n := Nat.pow_lt_pow_right (by decide) hp
section NW
variable {G : Gm} {p q u r n : Nat}
def lk (G : Gm) (p q : Nat) : Bool := sees G p q && sees G q p
def lkd (G : Gm) (p : Nat) : Nat := Gs G p &&& msk (fun q => sees G q p) (Gn G)
theorem lk_sym (p q : Nat) : lk G p q = lk G q p := Bool.and_comm _ _
theorem lk_irr (hw : WF G) (hp : p < Gn G) : lk G p p = false := by unfold lk; rw [hw.irr hp]; rfl
theorem lkd_bit (hw : WF G) (hp : p < Gn G) (q : Nat) : (lkd G p).testBit q = (decide (q < Gn G) && lk G p q) := by
  unfold lkd lk
  rw [Nat.testBit_and, msk_bit]
  by_cases c : q < Gn G
  · simp [c]; rfl
  · have : sees G p q = false := by
      cases d : sees G p q
      · rfl
      · exact absurd (hw.see_lt hp d) c
    simp [c]
theorem lkd_lt (hw : WF G) (hp : p < Gn G) : lkd G p < 2 ^ Gn G := Nat.lt_of_le_of_lt Nat.and_le_left (hw.s2 hp)
theorem lkd_64 (hw : WF G) (hp : p < Gn G) : lkd G p < 64 := Nat.lt_of_le_of_lt Nat.and_le_left (hw.s64 hp)
/-- along links, as the class goes -/
def lwI (G : Gm) (u r : Nat) : Nat → Nat
  | 0 => r
  | q + 1 => if (lwI G u r q).testBit q then lwI G u r q ||| (lkd G q &&& u) else lwI G u r q
def alI (G : Gm) (u q s : Nat) : Nat → Nat
  | 0 => s
  | o + 1 => if (alI G u q s o).testBit q && (u.testBit o && (decide (q ≠ o) && lk G q o)) then alI G u q s o ||| 2 ^ o else alI G u q s o
def alO (G : Gm) (u r : Nat) : Nat → Nat
  | 0 => r
  | q + 1 => alI G u q (alO G u r q) (Gn G)
/-- along what one sees -/
def cfI (G : Gm) (r : Nat) : Nat → Nat
  | 0 => r
  | q + 1 => cfI G r q ||| (if (cfI G r q).testBit q then Gs G q else 0)
def clL (G : Gm) (u r : Nat) : Prop := ∀ q, q < Gn G → r.testBit q = true → ∀ o, o < Gn G → lk G q o = true → u.testBit o = true → r.testBit o = true
def clS (G : Gm) (r : Nat) : Prop := ∀ q, q < Gn G → r.testBit q = true → sb (Gs G q) r
theorem lwI_ok (hw : WF G) (hr : r < 64) : ∀ q, q ≤ Gn G → lwI G u r q < 64 ∧ sb r (lwI G u r q)
  | 0, _ => ⟨hr, sb_rfl r⟩
  | q + 1, h => by
    obtain ⟨a, b⟩ := lwI_ok hw hr q (by omega)
    rw [lwI]
    split
    · exact ⟨or_lt64 a (and_lt64 (lkd_64 hw (by omega))), sb_trans b (sb_or1 _ _)⟩
    · exact ⟨a, b⟩
theorem lwI_mono (hw : WF G) (hr : r < 64) : ∀ q, q < Gn G → sb (lwI G u r q) (lwI G u r (q + 1)) := fun q h => by
  rw [lwI]; split
  · exact sb_or1 _ _
  · exact sb_rfl _
theorem chain_fix {f : Nat → Nat} {n : Nat} (h64 : ∀ q, q ≤ n → f q < 64) (hm : ∀ q, q < n → sb (f q) (f (q + 1))) (he : f n = f 0) : ∀ q, q ≤ n → f q = f 0 := by
  have h1 : ∀ q, q ≤ n → sb (f 0) (f q) := fun q => by
    induction q with
    | zero => intro _; exact sb_rfl _
    | succ q ih => intro h; exact sb_trans (ih (by omega)) (hm q (by omega))
  have h2 : ∀ d q, q + d = n → sb (f q) (f n) := fun d => by
    induction d with
    | zero => intro q h; rw [show q = n by omega]; exact sb_rfl _
    | succ d ih => intro q h; exact sb_trans (hm q (by omega)) (ih (q + 1) (by omega))
  intro q h
  refine sb_anti (h64 q h) (h64 0 (Nat.zero_le _)) ?_ (h1 q h)
  rw [← he]
  exact h2 (n - q) q (by omega)
theorem lwI_cl (hw : WF G) (hr : r < 64) (he : lwI G u r (Gn G) = r) : clL G u r := by
  have hc := chain_fix (f := lwI G u r) (n := Gn G) (fun q hq => (lwI_ok hw hr q hq).1) (lwI_mono hw hr) he
  intro q hq hb o ho hl hu
  have h1 := hc q (by omega)
  have h2 := hc (q + 1) (by omega)
  have e0 : lwI G u r 0 = r := rfl
  rw [e0] at h1 h2
  rw [lwI, h1, if_pos hb] at h2
  refine or_fix hr h2 o (hw_lt hw ho) ?_
  rw [Nat.testBit_and, lkd_bit hw hq, hu, hl]
  simp [ho]
theorem lwI_sub (hw : WF G) {D : Nat} (hD : clL G u D) (hr : r < 64) (h : sb r D) : ∀ q, q ≤ Gn G → sb (lwI G u r q) D
  | 0, _ => h
  | q + 1, hq => by
    have ih := lwI_sub hw hD hr h q (by omega)
    rw [lwI]
    split
    · rename_i c
      refine sb_or ih (fun i hi hb => ?_)
      rw [Nat.testBit_and, lkd_bit hw (by omega), Bool.and_eq_true, Bool.and_eq_true] at hb
      exact hD q (by omega) (ih q (by have := hw.n6; omega) c) i (of_decide_eq_true hb.1.1) hb.1.2 hb.2
    · exact ih
theorem lwI_n (hw : WF G) (hr : r < 2 ^ Gn G) : ∀ q, q ≤ Gn G → lwI G u r q < 2 ^ Gn G
  | 0, _ => hr
  | q + 1, h => by
    have ih := lwI_n hw hr q (by omega)
    rw [lwI]
    split
    · exact Nat.or_lt_two_pow ih (Nat.lt_of_le_of_lt Nat.and_le_left (lkd_lt hw (by omega)))
    · exact ih
theorem alI_ok (hw : WF G) (hr : r < 64) : ∀ o, o ≤ Gn G → alI G u q r o < 64 ∧ sb r (alI G u q r o)
  | 0, _ => ⟨hr, sb_rfl r⟩
  | o + 1, h => by
    obtain ⟨a, b⟩ := alI_ok hw hr o (by omega)
    rw [alI]
    split
    · exact ⟨or_lt64 a (two_lt64 (hw_lt hw (by omega))), sb_trans b (sb_or1 _ _)⟩
    · exact ⟨a, b⟩
theorem alO_ok (hw : WF G) (hr : r < 64) : ∀ q, q ≤ Gn G → alO G u r q < 64 ∧ sb r (alO G u r q)
  | 0, _ => ⟨hr, sb_rfl r⟩
  | q + 1, h => by
    obtain ⟨a, b⟩ := alO_ok hw hr q (by omega)
    rw [alO]
    exact ⟨(alI_ok hw a (Gn G) (Nat.le_refl _)).1, sb_trans b (alI_ok hw a (Gn G) (Nat.le_refl _)).2⟩
theorem alI_n (hw : WF G) (hr : r < 2 ^ Gn G) : ∀ o, o ≤ Gn G → alI G u q r o < 2 ^ Gn G
  | 0, _ => hr
  | o + 1, h => by
    have ih := alI_n hw hr o (by omega)
    rw [alI]
    split
    · exact Nat.or_lt_two_pow ih (two_lt (by omega))
    · exact ih
theorem alO_n (hw : WF G) (hr : r < 2 ^ Gn G) : ∀ q, q ≤ Gn G → alO G u r q < 2 ^ Gn G
  | 0, _ => hr
  | q + 1, h => alI_n hw (alO_n hw hr q (by omega)) (Gn G) (Nat.le_refl _)
theorem alO_cl (hw : WF G) (hr : r < 64) (he : alO G u r (Gn G) = r) : clL G u r := by
  have hc := chain_fix (f := alO G u r) (n := Gn G) (fun q hq => (alO_ok hw hr q hq).1) (fun q hq => by
    rw [alO]; exact (alI_ok hw (alO_ok hw hr q (by omega)).1 (Gn G) (Nat.le_refl _)).2) he
  intro q hq hb o ho hl hu
  have h1 := hc q (by omega)
  have h2 := hc (q + 1) (by omega)
  have e0 : alO G u r 0 = r := rfl
  rw [e0] at h1 h2
  rw [alO, h1] at h2
  have hd := chain_fix (f := alI G u q r) (n := Gn G) (fun o ho => (alI_ok hw hr o ho).1) (fun o ho => by
    rw [alI]; split
    · exact sb_or1 _ _
    · exact sb_rfl _) h2
  have h3 := hd o (by omega)
  have h4 := hd (o + 1) (by omega)
  have e1 : alI G u q r 0 = r := rfl
  rw [e1] at h3 h4
  have hne : q ≠ o := fun z => by subst z; rw [lk_irr hw hq] at hl; cases hl
  rw [alI, h3, hb, hu, hl, decide_eq_true hne, if_pos (show (true && (true && (true && true))) = true from rfl)] at h4
  refine or_fix hr h4 o (hw_lt hw ho) ?_
  rw [Nat.testBit_two_pow]
  simp
theorem alI_sub (hw : WF G) {D : Nat} (hD : clL G u D) (hq : q < Gn G) (hr : r < 64) (h : sb r D) : ∀ o, o ≤ Gn G → sb (alI G u q r o) D
  | 0, _ => h
  | o + 1, ho => by
    have ih := alI_sub hw hD hq hr h o (by omega)
    rw [alI]
    split
    · rename_i c
      rw [Bool.and_eq_true, Bool.and_eq_true, Bool.and_eq_true] at c
      refine sb_or ih (fun i hi hb => ?_)
      rw [Nat.testBit_two_pow] at hb
      have : o = i := by simpa using hb
      subst this
      exact hD q hq (ih q (hw_lt hw hq) c.1) o (by omega) c.2.2.2 c.2.1
    · exact ih
theorem alO_sub (hw : WF G) {D : Nat} (hD : clL G u D) (hr : r < 64) (h : sb r D) : ∀ q, q ≤ Gn G → sb (alO G u r q) D
  | 0, _ => h
  | q + 1, hq => alI_sub hw hD (by omega) (alO_ok hw hr q (by omega)).1 (alO_sub hw hD hr h q (by omega)) (Gn G) (Nat.le_refl _)
/-- both walks along links end alike -/
theorem along_same (hw : WF G) (hp : p < Gn G) : itr (fun r => lwI G u r (Gn G)) (Gn G) (2 ^ p) = itr (fun r => alO G u r (Gn G)) 6 (2 ^ p) :=
  itr_same (clL G u) hw.n6 (fun r hr => lwI_ok hw hr _ (Nat.le_refl _)) (fun r hr => alO_ok hw hr _ (Nat.le_refl _)) (fun r hr => lwI_n hw hr _ (Nat.le_refl _)) (fun r hr => alO_n hw hr _ (Nat.le_refl _)) (two_lt hp) (Nat.le_refl _) hw.n6 (fun r hr he => lwI_cl hw hr he) (fun r hr he => alO_cl hw hr he) (fun D _ hC r hr h => lwI_sub hw hC hr h _ (Nat.le_refl _)) (fun D _ hC r hr h => alO_sub hw hC hr h _ (Nat.le_refl _))
theorem cfI_ok (hw : WF G) (hr : r < 64) : ∀ q, q ≤ Gn G → cfI G r q < 64 ∧ sb r (cfI G r q)
  | 0, _ => ⟨hr, sb_rfl r⟩
  | q + 1, h => by
    obtain ⟨a, b⟩ := cfI_ok hw hr q (by omega)
    rw [cfI]
    refine ⟨or_lt64 a ?_, sb_trans b (sb_or1 _ _)⟩
    split
    · exact hw.s64 (by omega)
    · decide
theorem cfI_n (hw : WF G) (hr : r < 2 ^ Gn G) : ∀ q, q ≤ Gn G → cfI G r q < 2 ^ Gn G
  | 0, _ => hr
  | q + 1, h => by
    have ih := cfI_n hw hr q (by omega)
    rw [cfI]
    refine Nat.or_lt_two_pow ih ?_
    split
    · exact hw.s2 (by omega)
    · exact Nat.two_pow_pos _
theorem cfI_cl (hw : WF G) (hr : r < 64) (he : cfI G r (Gn G) = r) : clS G r := by
  have hc := chain_fix (f := cfI G r) (n := Gn G) (fun q hq => (cfI_ok hw hr q hq).1) (fun q hq => by rw [cfI]; exact sb_or1 _ _) he
  intro q hq hb
  have h1 := hc q (by omega)
  have h2 := hc (q + 1) (by omega)
  have e0 : cfI G r 0 = r := rfl
  rw [e0] at h1 h2
  rw [cfI, h1, if_pos hb] at h2
  exact or_fix hr h2
theorem cfI_sub (hw : WF G) {D : Nat} (hD : clS G D) (hr : r < 64) (h : sb r D) : ∀ q, q ≤ Gn G → sb (cfI G r q) D
  | 0, _ => h
  | q + 1, hq => by
    have ih := cfI_sub hw hD hr h q (by omega)
    rw [cfI]
    refine sb_or ih ?_
    split
    · rename_i c
      exact hD q (by omega) (ih q (by have := hw.n6; omega) c)
    · intro i _ hb; simp at hb
def cls (G : Gm) (s : Nat) : Nat := itr (fun r => cfI G r (Gn G)) 6 s
theorem cls_64 (hw : WF G) (hr : r < 64) : cls G r < 64 := (itr_ok (fun r hr => cfI_ok hw hr _ (Nat.le_refl _)) 6 r hr).1
theorem cls_in (hw : WF G) (hr : r < 64) : sb r (cls G r) := (itr_ok (fun r hr => cfI_ok hw hr _ (Nat.le_refl _)) 6 r hr).2.1
theorem cls_cl (hw : WF G) (hr : r < 2 ^ Gn G) : clS G (cls G r) := by
  have h64 := pow_le_64 hw.n6
  exact cfI_cl hw (cls_64 hw (by omega)) (itr_fix (fun r hr => cfI_ok hw hr _ (Nat.le_refl _)) hw.n6 (fun r hr => cfI_n hw hr _ (Nat.le_refl _)) hr hw.n6)
theorem cls_sub (hw : WF G) {D : Nat} (hD : clS G D) (hr : r < 64) (h : sb r D) : sb (cls G r) D :=
  itr_sub (fun r hr h => cfI_sub hw hD hr h _ (Nat.le_refl _)) (fun r hr => cfI_ok hw hr _ (Nat.le_refl _)) 6 r hr h
/-- nobody comes back to himself -/
def acy (G : Gm) : Bool := !exb (fun p => (cls G (Gs G p)).testBit p) (Gn G)
/-- taking away who sees none of those left -/
def akI (G : Gm) (r : Nat) : Nat → Nat
  | 0 => r
  | p + 1 => if Gs G p &&& akI G r p = 0 then clr (akI G r p) p else akI G r p
def akO (G : Gm) (r : Nat) : Nat → Nat
  | 0 => r
  | k + 1 => akI G (akO G r k) (Gn G)
theorem clr_sb {a : Nat} (ha : a < 64) (hp : p < 6) : sb (clr a p) a := fun i hi hb => by
  rw [clr_bit a ha p hp i hi] at hb
  by_cases c : i = p
  · rw [if_pos c] at hb; cases hb
  · rw [if_neg c] at hb; exact hb
theorem akI_ok (hw : WF G) (hr : r < 64) : ∀ q, q ≤ Gn G → akI G r q < 64 ∧ sb (akI G r q) r
  | 0, _ => ⟨hr, sb_rfl r⟩
  | q + 1, h => by
    obtain ⟨a, b⟩ := akI_ok hw hr q (by omega)
    have hq6 := hw_lt hw (show q < Gn G by omega)
    rw [akI]
    split
    · exact ⟨clr_lt a hq6, sb_trans (clr_sb a hq6) b⟩
    · exact ⟨a, b⟩
theorem akO_ok (hw : WF G) (hr : r < 64) : ∀ k, akO G r k < 64
  | 0 => hr
  | k + 1 => (akI_ok hw (akO_ok hw hr k) _ (Nat.le_refl _)).1
theorem akO_sb (hw : WF G) (hr : r < 64) : ∀ k, sb (akO G r k) r
  | 0 => sb_rfl r
  | k + 1 => sb_trans (akI_ok hw (akO_ok hw hr k) _ (Nat.le_refl _)).2 (akO_sb hw hr k)
theorem akO_fix (hw : WF G) (hr : r < 64) : ∀ k, akI G (akO G r k) (Gn G) = akO G r k ∨ pc (akO G r k) + k ≤ pc r
  | 0 => Or.inr (Nat.le_refl _)
  | k + 1 => by
    have a := akO_ok hw hr k
    have b := akI_ok hw a _ (Nat.le_refl _)
    rw [akO]
    by_cases c : akI G (akO G r k) (Gn G) = akO G r k
    · left; rw [c, c]
    · right
      rcases akO_fix hw hr k with z | z
      · exact absurd z c
      · have := pc_lt b.1 a b.2 c
        omega
theorem pc_0 : ∀ a, a < 64 → pc a = 0 → a = 0 := by decide +kernel
theorem pc_all : ∀ n, n ≤ 6 → pc (2 ^ n - 1) = n := by decide +kernel
theorem and_zero {a b : Nat} : a &&& b = 0 ↔ ∀ i, ¬ (a.testBit i = true ∧ b.testBit i = true) := by
  constructor
  · intro h i hb
    have := congrArg (fun z => z.testBit i) h
    simp [Nat.testBit_and, hb.1, hb.2] at this
  · intro h
    apply Nat.eq_of_testBit_eq
    intro i
    rw [Nat.testBit_and]
    have := h i
    cases c : a.testBit i <;> cases d : b.testBit i <;> simp_all
theorem cpl_bit : ∀ l, l < 64 → ∀ i, i < 6 → (63 ^^^ l).testBit i = !l.testBit i := by decide +kernel
/-- what stands of those taken away: they see only such, and come not back -/
def akV (G : Gm) (l : Nat) : Prop := ∀ p, p < Gn G → l.testBit p = false → (cls G (Gs G p)).testBit p = false ∧ ∀ q, q < 6 → (cls G (Gs G p)).testBit q = true → l.testBit q = false
theorem akV_step (hw : WF G) {l : Nat} (hl : l < 64) (hV : akV G l) (hp : p < Gn G) (h0 : Gs G p &&& l = 0) : akV G (clr l p) := by
  have hp6 := hw_lt hw hp
  have hbit : ∀ i, i < 6 → (clr l p).testBit i = if i = p then false else l.testBit i := fun i hi => clr_bit l hl p hp6 i hi
  intro p2 hp2 hb
  rw [hbit p2 (hw_lt hw hp2)] at hb
  by_cases c : l.testBit p2 = false
  · obtain ⟨a, b⟩ := hV p2 hp2 c
    refine ⟨a, fun q hq hc => ?_⟩
    rw [hbit q hq]
    split
    · rfl
    · exact b q hq hc
  · have c2 : l.testBit p2 = true := by simpa using c
    have e : p2 = p := by
      by_cases z : p2 = p
      · exact z
      · rw [if_neg z] at hb; exact absurd hb c
    subst e
    have hz := and_zero.mp h0
    have hD : clS G (63 ^^^ l) := fun q hq hb2 i hi hb3 => by
      rw [cpl_bit l hl q (hw_lt hw hq)] at hb2
      have hb2' : l.testBit q = false := by simpa using hb2
      rw [cpl_bit l hl i hi, (hV q hq hb2').2 i hi (cls_in hw (hw.s64 hq) i hi hb3)]
      rfl
    have hs : sb (Gs G p2) (63 ^^^ l) := fun i hi hb3 => by
      rw [cpl_bit l hl i hi]
      cases d : l.testBit i
      · rfl
      · exact absurd ⟨hb3, d⟩ (hz i)
    have hc := cls_sub hw hD (hw.s64 hp2) hs
    refine ⟨?_, fun q hq hb3 => ?_⟩
    · cases d : (cls G (Gs G p2)).testBit p2
      · rfl
      · have := hc p2 hp6 d
        rw [cpl_bit l hl p2 hp6, c2] at this
        cases this
    · rw [hbit q hq]
      split
      · rfl
      · have := hc q hq hb3
        rw [cpl_bit l hl q hq] at this
        simpa using this
theorem akV_I (hw : WF G) {l : Nat} (hl : l < 64) (hV : akV G l) : ∀ q, q ≤ Gn G → akV G (akI G l q)
  | 0, _ => hV
  | q + 1, h => by
    have ih := akV_I hw hl hV q (by omega)
    rw [akI]
    split
    · rename_i c
      exact akV_step hw (akI_ok hw hl q (by omega)).1 ih (by omega) c
    · exact ih
theorem akV_O (hw : WF G) {l : Nat} (hl : l < 64) (hV : akV G l) : ∀ k, akV G (akO G l k)
  | 0 => hV
  | k + 1 => akV_I hw (akO_ok hw hl k) (akV_O hw hl hV k) _ (Nat.le_refl _)
theorem all_bit (hw : WF G) (hp : p < Gn G) : (2 ^ Gn G - 1).testBit p = true := by
  rw [Nat.testBit_two_pow_sub_one]
  simp [hp]
theorem acy_ok (hw : WF G) : (akO G (2 ^ Gn G - 1) (Gn G) = 0) ↔ acy G = true := by
  have hn := hw.n6
  have h64 := pow_le_64 hn
  have hpos := Nat.two_pow_pos (Gn G)
  have hall : 2 ^ Gn G - 1 < 64 := by omega
  have e1 : acy G = true ↔ ∀ p, p < Gn G → (cls G (Gs G p)).testBit p = false := by
    unfold acy
    constructor
    · intro h p hp
      cases c : (cls G (Gs G p)).testBit p
      · rfl
      · have := (exb_iff (fun p => (cls G (Gs G p)).testBit p) (Gn G)).mpr ⟨p, hp, c⟩
        rw [this] at h; cases h
    · intro h
      cases c : exb (fun p => (cls G (Gs G p)).testBit p) (Gn G)
      · rfl
      · obtain ⟨i, i1, i2⟩ := (exb_iff _ _).mp c
        rw [h i i1] at i2; cases i2
  rw [e1]
  constructor
  · intro h0 p hp
    have hV := akV_O hw hall (fun p hp hb => by rw [all_bit hw hp] at hb; cases hb) (Gn G)
    rw [h0] at hV
    exact (hV p hp (by simp)).1
  · intro h
    have hL := akO_ok hw hall (Gn G)
    have hfix : akI G (akO G (2 ^ Gn G - 1) (Gn G)) (Gn G) = akO G (2 ^ Gn G - 1) (Gn G) := by
      rcases akO_fix hw hall (Gn G) with z | z
      · exact z
      · rw [pc_all _ hn] at z
        have : akO G (2 ^ Gn G - 1) (Gn G) = 0 := pc_0 _ hL (by omega)
        rw [this]
        have hz : ∀ q, q ≤ Gn G → akI G 0 q = 0 := fun q => by
          induction q with
          | zero => intro _; rfl
          | succ q ih =>
            intro hq
            rw [akI, ih (by omega)]
            split
            · unfold clr; simp
            · rfl
        exact hz _ (Nat.le_refl _)
    have hsub := akO_sb hw hall (Gn G)
    generalize akO G (2 ^ Gn G - 1) (Gn G) = l at hL hfix hsub
    -- each one left sees one left
    have hsucc : ∀ p, p < Gn G → l.testBit p = true → Gs G p &&& l ≠ 0 := fun p hp hb h0 => by
      have h2 : ∀ q, q ≤ Gn G → akI G l q = l := by
        have hm : ∀ q, q < Gn G → sb (akI G l (q + 1)) (akI G l q) := fun q hq => by
          rw [akI]; split
          · exact clr_sb (akI_ok hw hL q (by omega)).1 (hw_lt hw hq)
          · exact sb_rfl _
        have hd : ∀ d q, q + d = Gn G → sb l (akI G l q) := fun d => by
          induction d with
          | zero => intro q hq; rw [show q = Gn G by omega, hfix]; exact sb_rfl _
          | succ d ih => intro q hq; exact sb_trans (ih (q + 1) (by omega)) (hm q (by omega))
        intro q hq
        have a := akI_ok hw hL q hq
        exact sb_anti a.1 hL a.2 (hd (Gn G - q) q (by omega))
      have h3 := h2 (p + 1) (by omega)
      rw [akI, h2 p (by omega), if_pos h0] at h3
      have h4 := clr_bit l hL p (hw_lt hw hp) p (hw_lt hw hp)
      rw [h3, if_pos rfl, hb] at h4
      cases h4
    have hbits : ∀ k p, p < Gn G → l.testBit p = true → pc (cls G (Gs G p) &&& l) < k → False := fun k => by
      induction k with
      | zero => intro p _ _ h; omega
      | succ k ih =>
        intro p hp hb hk
        have h5 := hsucc p hp hb
        have h6 : ∃ q, q < 6 ∧ (Gs G p).testBit q = true ∧ l.testBit q = true := by
          by_cases c : ∃ q, q < 6 ∧ (Gs G p).testBit q = true ∧ l.testBit q = true
          · exact c
          · exfalso
            refine h5 (eq64 _ (and_lt64 (hw.s64 hp)) 0 (by decide) (fun i hi => ?_))
            rw [Nat.testBit_and]
            cases a : (Gs G p).testBit i
            · simp
            · cases b : l.testBit i
              · simp
              · exact absurd ⟨i, hi, a, b⟩ c
        obtain ⟨q, hq6, hq1, hq2⟩ := h6
        have hq : q < Gn G := hw.see_lt hp hq1
        have c1 := cls_cl hw (hw.s2 hp)
        have c2 : (cls G (Gs G p)).testBit q = true := cls_in hw (hw.s64 hp) q hq6 hq1
        have c3 : sb (cls G (Gs G q)) (cls G (Gs G p)) := cls_sub hw c1 (hw.s64 hq) (c1 q hq c2)
        have c4 := h q hq
        refine ih q hq hq2 (Nat.lt_of_lt_of_le (pc_lt (and_lt64 (cls_64 hw (hw.s64 hq))) (and_lt64 (cls_64 hw (hw.s64 hp))) (fun i hi hb3 => ?_) (fun he => ?_)) (Nat.le_of_lt_succ hk))
        · rw [Nat.testBit_and, Bool.and_eq_true] at hb3 ⊢
          exact ⟨c3 i hi hb3.1, hb3.2⟩
        · have := congrArg (fun z => z.testBit q) he
          simp only [Nat.testBit_and, c4, c2, hq2] at this
          cases this
    refine (zero64 hL).mpr (fun i hi => ?_)
    cases c : l.testBit i
    · rfl
    · exfalso
      rcases Nat.lt_or_ge i (Gn G) with z | z
      · exact hbits 7 i z c (by have := pc_le (cls G (Gs G i) &&& l); omega)
      · have := hsub i hi c
        rw [Nat.testBit_two_pow_sub_one] at this
        have := of_decide_eq_true this
        omega
end NW
