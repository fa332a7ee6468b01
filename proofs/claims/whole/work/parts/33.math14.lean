/-! WHAT ARGUMENTS MAY BE; how both sides refuse -/
def ag (a : Int32) : Nat := if a < 0 then 4294967296 else a.toBitVec.toNat
theorem ag_neg {a : Int32} (h : a < 0) : ag a = 4294967296 := if_pos h
theorem ag_nI {k : Nat} (h : k < 2147483648) : ag (nI k) = k := by
  unfold ag
  rw [if_neg (fun z => by rw [n_0, n_neg h] at z; exact z)]
  show (BitVec.ofNat 32 k).toNat = k
  rw [BitVec.toNat_ofNat]
  exact Nat.mod_eq_of_lt (by omega)
theorem ag_cases (a : Int32) : (a < 0 ∧ ag a = 4294967296) ∨ ∃ k, k < 2147483648 ∧ a = nI k ∧ ag a = k := by
  rcases int_cases a with ⟨k, h1, h2⟩ | h
  · exact Or.inr ⟨k, h1, h2, by rw [h2]; exact ag_nI h1⟩
  · exact Or.inl ⟨h, ag_neg h⟩
theorem ag_eq {a : Int32} {n : Nat} (h : ag a < n) (hn : n ≤ 2147483648) : a = nI (ag a) := by
  rcases ag_cases a with ⟨_, h2⟩ | ⟨k, h1, h2, h3⟩
  · omega
  · rw [h3]; exact h2
theorem lg_lt (x y : Int64) : (lg_cmp x y < 0) = (x < y) := by
  have h0 := @Int64.lt_iff_toInt_lt x y
  have h1 := @Int64.lt_iff_toInt_lt y x
  have h2 := @Int64.toInt_inj x y
  unfold lg_cmp
  apply propext
  rw [h0]
  split
  · rename_i h
    have := h1.mp h
    constructor
    · intro h; exact absurd h (by decide)
    · intro h; omega
  · split
    · rename_i h
      have := h2.mpr h
      constructor
      · intro h; exact absurd h (by decide)
      · intro h; omega
    · rename_i h h3
      have e1 : ¬ y.toInt < x.toInt := fun z => h (h1.mpr z)
      have e2 : ¬ x.toInt = y.toInt := fun z => h3 (h2.mp z)
      constructor
      · intro _; omega
      · intro _; decide
theorem lg_le (x y : Int64) : (lg_cmp x y ≤ 0) = (x ≤ y) := by
  have h0 := @Int64.le_iff_toInt_le x y
  have h1 := @Int64.lt_iff_toInt_lt y x
  have h2 := @Int64.toInt_inj x y
  unfold lg_cmp
  apply propext
  rw [h0]
  split
  · rename_i h
    have := h1.mp h
    constructor
    · intro h; exact absurd h (by decide)
    · intro h; omega
  · rename_i h
    have e1 : ¬ y.toInt < x.toInt := fun z => h (h1.mpr z)
    split
    · constructor
      · intro _; omega
      · intro _; decide
    · constructor
      · intro _; omega
      · intro _; decide
theorem rX_isIn (ρ : Mem) (a b c : Int32) : pX11_isIn ρ a.toInt64 b.toInt64 c.toInt64 = some (nI (decide (b ≤ a ∧ a ≤ c)).toNat) := by
  unfold pX11_isIn pX11_isIn_17 pX11_isIn_18
  have e1 : (a.toInt64 < b.toInt64) = (a.toInt < b.toInt) := propext (by rw [Int64.lt_iff_toInt_lt, Int32.toInt_toInt64, Int32.toInt_toInt64])
  have e2 : (a.toInt64 ≤ c.toInt64) = (a.toInt ≤ c.toInt) := propext (by rw [Int64.le_iff_toInt_le, Int32.toInt_toInt64, Int32.toInt_toInt64])
  simp only [lg_lt, lg_le, e1, e2]
  simp only [Int32.le_iff_toInt_le]
  by_cases h1 : a.toInt < b.toInt
  · rw [if_pos h1]
    have : ¬ (b.toInt ≤ a.toInt ∧ a.toInt ≤ c.toInt) := by omega
    rw [decide_eq_false this]
    rfl
  · rw [if_neg h1]
    by_cases h2 : a.toInt ≤ c.toInt
    · rw [if_pos h2]
      have : (b.toInt ≤ a.toInt ∧ a.toInt ≤ c.toInt) := by omega
      rw [decide_eq_true this]
      rfl
    · rw [if_neg h2]
      have : ¬ (b.toInt ≤ a.toInt ∧ a.toInt ≤ c.toInt) := by omega
      rw [decide_eq_false this]
      rfl
/-- an argument below some number -/
theorem ag_lt {a : Int32} {n : Nat} (hn : n < 2147483648) : (¬ a < 0 ∧ a < nI n) ↔ ag a < n := by
  rcases ag_cases a with ⟨h1, h2⟩ | ⟨k, h1, h2, h3⟩
  · constructor
    · intro h; exact absurd h1 h.1
    · intro h; omega
  · subst h2
    rw [h3, n_0, n_neg h1, n_lt h1 hn]
    simp
theorem nI_m1_l {n : Nat} (hn : n < 2147483648) : ((nI n - 1 : Int32)).toInt = (n : Int) - 1 := by
  cases n with
  | zero => decide
  | succ n =>
    rw [show (1 : Int32) = nI 1 from rfl, n_sub (by omega), nI_toInt (by omega)]
    omega
theorem rX_inN (ρ : Mem) (a : Int32) {n : Nat} (hn : n < 2147483648) : pX11_isIn ρ a.toInt64 0 ((nI n - 1 : Int32)).toInt64 = some (nI (decide (ag a < n)).toNat) := by
  rw [show (0 : Int64) = (0 : Int32).toInt64 from rfl, rX_isIn]
  have e : (0 ≤ a ∧ a ≤ nI n - 1) ↔ ag a < n := by
    rw [Int32.le_iff_toInt_le, Int32.le_iff_toInt_le, nI_m1_l hn]
    have h0 : (0 : Int32).toInt = 0 := by decide
    rcases ag_cases a with ⟨h1, h2⟩ | ⟨k, h1, h2, h3⟩
    · rw [Int32.lt_iff_toInt_lt] at h1
      constructor
      · intro h; omega
      · intro h; omega
    · subst h2
      rw [h3, nI_toInt h1]
      omega
  rw [decide_eq_decide.mpr e]
section GR
variable {κ ρ : Mem} {G : Gm} {F p q x : Nat} {a b : Int32}
theorem rX_isPlayer (h : RG ρ 1 G) (hw : WF G) (a : Int32) : pX11_isPlayer ρ a = some (nI (decide (ag a < Gn G)).toNat) := by
  have hn := hw.n6
  unfold pX11_isPlayer
  have e : mi ρ 1 (0 : Int32).toNatClampNeg = nI (Gn G) := h.n
  rw [e, rX_inN ρ a (by omega)]
  simp (disch := omega) only [n_0, n_1, n_2, n_3, n_4, n_5, n_6, n_7, n_8, n_9, n_10, n_12, n_13, n_14, n_20, n_31, n_32, n_63, n_64, n_600, n_1024, n_4096, n_6157, n_add, n_mul, nm_def, Option.bind_some, Option.some.injEq, ck_in, ck_nz, ck_p, n_cl, n_lt, n_le, n_eq, n_div, n_rem, if_pos, if_neg, if_true, if_false, eq_self, n_192, n_256, n_20000, m1_n0, m1_np, m1_n0p, m1_lt0, m1_lt0p, mi_setIA, mi_setI, ml_setIA, ml_setI, mr_setI, mr_setIA, isB_b]
theorem x_noPlayer (h : AR κ G) (hw : WF G) (a : Int32) : pX10_noPlayer κ a = some (nI (!decide (ag a < Gn G)).toNat) := by
  have hn := hw.n6
  unfold pX10_noPlayer pX10_noPlayer_15 pX10_noPlayer_20
  rw [h.n]
  have e := ag_lt (a := a) (n := Gn G) (by omega)
  by_cases h1 : a < 0
  · have : ¬ ag a < Gn G := fun z => (e.mpr z).1 h1
    rw [if_pos h1, decide_eq_false this]; rfl
  · by_cases h2 : a < nI (Gn G)
    · rw [if_neg h1, if_pos h2, decide_eq_true (e.mp ⟨h1, h2⟩)]; rfl
    · have : ¬ ag a < Gn G := fun z => h2 (e.mpr z).2
      rw [if_neg h1, if_neg h2, decide_eq_false this]; rfl
theorem x_noColouring (h : AR κ G) (hw : WF G) (a : Int32) : pX10_noColouring κ a = some (nI (!decide (ag a < ncol G)).toNat) := by
  have hn := ncol_le hw
  unfold pX10_noColouring pX10_noColouring_15 pX10_noColouring_20
  rw [h.c]
  have e := ag_lt (a := a) (n := ncol G) (by omega)
  by_cases h1 : a < 0
  · have : ¬ ag a < ncol G := fun z => (e.mpr z).1 h1
    rw [if_pos h1, decide_eq_false this]; rfl
  · by_cases h2 : a < nI (ncol G)
    · rw [if_neg h1, if_pos h2, decide_eq_true (e.mp ⟨h1, h2⟩)]; rfl
    · have : ¬ ag a < ncol G := fun z => h2 (e.mpr z).2
      rw [if_neg h1, if_neg h2, decide_eq_false this]; rfl
theorem rX_isColouring (h : RG ρ 1 G) (hw : WF G) (hF : 100 < F) (a : Int32) : pX11_isColouring F ρ a = some (nI (decide (ag a < ncol G)).toNat) := by
  have hn := ncol_le hw
  unfold pX11_isColouring
  rw [rX_colourings h hw hF, Option.bind_some, rX_inN ρ a (by omega)]
  simp (disch := omega) only [n_0, n_1, n_2, n_3, n_4, n_5, n_6, n_7, n_8, n_9, n_10, n_12, n_13, n_14, n_20, n_31, n_32, n_63, n_64, n_600, n_1024, n_4096, n_6157, n_add, n_mul, nm_def, Option.bind_some, Option.some.injEq, ck_in, ck_nz, ck_p, n_cl, n_lt, n_le, n_eq, n_div, n_rem, if_pos, if_neg, if_true, if_false, eq_self, n_192, n_256, n_20000, m1_n0, m1_np, m1_n0p, m1_lt0, m1_lt0p, mi_setIA, mi_setI, ml_setIA, ml_setI, mr_setI, mr_setIA, isB_b]
/-- one that is asked for is there -/
def isS (G : Gm) (a b : Int32) : Bool := decide (ag a < Gn G ∧ ag b < sit G (ag a))
def isC (G : Gm) (a b : Int32) : Bool := decide (ag a < Gn G ∧ ag b < Gh G (ag a))
theorem x_noSituation (h : AR κ G) (hw : WF G) (hF : 100 < F) (a b : Int32) : pX10_noSituation F κ a b = some (nI (!isS G a b).toNat) := by
  unfold pX10_noSituation pX10_noSituation_24 pX10_noSituation_29 isS
  rw [x_noPlayer h hw, Option.bind_some]
  by_cases c : ag a < Gn G
  · have hn := hw.n6
    have ea := ag_eq c (by omega)
    have hs := sit_le hw c
    have e := ag_lt (a := b) (n := sit G (ag a)) (by omega)
    have e3 : pX2_situations F 1 κ a = some (nI (sit G (ag a))) := by
      conv => lhs; rw [ea]
      exact sX2_situations h.1 hw (by omega) c
    rw [decide_eq_true c, if_pos (show nI (!true).toNat = 0 by decide), e3, Option.bind_some]
    by_cases h1 : b < 0
    · have : ¬ (ag a < Gn G ∧ ag b < sit G (ag a)) := fun z => (e.mpr z.2).1 h1
      rw [if_pos h1, decide_eq_false this]; rfl
    · by_cases h2 : b < nI (sit G (ag a))
      · rw [if_neg h1, if_pos h2, decide_eq_true ⟨c, e.mp ⟨h1, h2⟩⟩]; rfl
      · have : ¬ (ag a < Gn G ∧ ag b < sit G (ag a)) := fun z => h2 (e.mpr z.2).2
        rw [if_neg h1, if_neg h2, decide_eq_false this]; rfl
  · have : ¬ (ag a < Gn G ∧ ag b < sit G (ag a)) := fun z => c z.1
    rw [decide_eq_false c, if_neg (by decide), decide_eq_false this]; rfl
theorem rX_isSituation (h : RG ρ 1 G) (hw : WF G) (hF : 100 < F) (a b : Int32) : pX11_isSituation F ρ a b = some (nI (isS G a b).toNat) := by
  unfold pX11_isSituation pX11_isSituation_29 pX11_isSituation_30 isS
  rw [rX_isPlayer h hw, Option.bind_some]
  by_cases c : ag a < Gn G
  · have hn := hw.n6
    have ea := ag_eq c (by omega)
    have hs := sit_le hw c
    have e3 : pX11_situations_ F ρ a = some (nI (sit G (ag a))) := by
      conv => lhs; rw [ea]
      exact rX_situations h hw hF c
    rw [decide_eq_true c, if_neg (by decide), e3, Option.bind_some, rX_inN ρ b (by omega), Option.bind_some]
    by_cases h1 : ag b < sit G (ag a)
    · rw [decide_eq_true h1, decide_eq_true ⟨c, h1⟩, if_neg (by decide)]; rfl
    · have : ¬ (ag a < Gn G ∧ ag b < sit G (ag a)) := fun z => h1 z.2
      rw [decide_eq_false h1, decide_eq_false this, if_pos (by decide)]; rfl
  · have : ¬ (ag a < Gn G ∧ ag b < sit G (ag a)) := fun z => c z.1
    rw [decide_eq_false c, if_pos (by decide), decide_eq_false this]; rfl
theorem x_noColour (h : AR κ G) (hw : WF G) (a b : Int32) : pX10_noColour κ a b = some (nI (!isC G a b).toNat) := by
  unfold pX10_noColour pX10_noColour_25 pX10_noColour_30 isC
  rw [x_noPlayer h hw, Option.bind_some]
  by_cases c : ag a < Gn G
  · have hn := hw.n6
    have ea := ag_eq c (by omega)
    have h4 := hw.h4 c
    have e := ag_lt (a := b) (n := Gh G (ag a)) (by omega)
    have e2 : a.toNatClampNeg = ag a := by conv => lhs; rw [ea]
                                           exact n_cl (by omega)
    rw [decide_eq_true c, if_pos (show nI (!true).toNat = 0 by decide), e2, h.h c]
    have e3 : ∀ x : Option Int32, ckI a 6 x = x := fun x => by
      conv => lhs; rw [ea]
      exact ck_in (by omega) (by omega)
    rw [e3]
    by_cases h1 : b < 0
    · have : ¬ (ag a < Gn G ∧ ag b < Gh G (ag a)) := fun z => (e.mpr z.2).1 h1
      rw [if_pos h1, decide_eq_false this]; rfl
    · by_cases h2 : b < nI (Gh G (ag a))
      · rw [if_neg h1, if_pos h2, decide_eq_true ⟨c, e.mp ⟨h1, h2⟩⟩]; rfl
      · have : ¬ (ag a < Gn G ∧ ag b < Gh G (ag a)) := fun z => h2 (e.mpr z.2).2
        rw [if_neg h1, if_neg h2, decide_eq_false this]; rfl
  · have : ¬ (ag a < Gn G ∧ ag b < Gh G (ag a)) := fun z => c z.1
    rw [decide_eq_false c, if_neg (by decide), decide_eq_false this]; rfl
theorem rX_isColour (h : RG ρ 1 G) (hw : WF G) (a b : Int32) : pX11_isColour ρ a b = some (nI (isC G a b).toNat) := by
  unfold pX11_isColour pX11_isColour_29 pX11_isColour_30 isC
  rw [rX_isPlayer h hw, Option.bind_some]
  by_cases c : ag a < Gn G
  · have hn := hw.n6
    have ea := ag_eq c (by omega)
    have h4 := hw.h4 c
    have e3 : pX11_hats ρ a = some (nI (Gh G (ag a))) := by
      conv => lhs; rw [ea]
      exact rX_hats h hw c
    rw [decide_eq_true c, if_neg (by decide), e3, Option.bind_some, rX_inN ρ b (by omega), Option.bind_some]
    by_cases h1 : ag b < Gh G (ag a)
    · rw [decide_eq_true h1, decide_eq_true ⟨c, h1⟩, if_neg (by decide)]; rfl
    · have : ¬ (ag a < Gn G ∧ ag b < Gh G (ag a)) := fun z => h1 z.2
      rw [decide_eq_false h1, decide_eq_false this, if_pos (by decide)]; rfl
  · have : ¬ (ag a < Gn G ∧ ag b < Gh G (ag a)) := fun z => c z.1
    rw [decide_eq_false c, if_pos (by decide), decide_eq_false this]; rfl
/-- what is wrong with a pair; with a sight -/
def prT (G : Gm) (a b : Int32) : Nat := if ag a < Gn G ∧ ag b < Gn G then (if ag a = ag b then 4 else 0) else 2
def siT (G : Gm) (a b : Int32) : Nat := if prT G a b = 0 then (if sees G (ag a) (ag b) then 0 else 7) else prT G a b
theorem ag_inj {n : Nat} (hn : n ≤ 2147483648) (ha : ag a < n) (hb : ag b < n) : (a = b) = (ag a = ag b) := by
  apply propext
  constructor
  · intro h; rw [h]
  · intro h
    rw [ag_eq ha hn, ag_eq hb hn, h]
theorem x_pairTrouble (h : AR κ G) (hw : WF G) (a b : Int32) : pX10_pairTrouble κ a b = some (nI (prT G a b)) := by
  have hn := hw.n6
  unfold pX10_pairTrouble pX10_pairTrouble_16 pX10_pairTrouble_28 prT
  rw [x_noPlayer h hw, x_noPlayer h hw, Option.bind_some, Option.bind_some]
  by_cases c : ag a < Gn G
  · by_cases c2 : ag b < Gn G
    · have e := ag_inj (a := a) (b := b) (n := Gn G) (by omega) c c2
      rw [decide_eq_true c, decide_eq_true c2, if_pos (show nI (!true).toNat = 0 by decide), if_pos (show nI (!true).toNat = 0 by decide), if_pos (⟨c, c2⟩ : ag a < Gn G ∧ ag b < Gn G)]
      simp only [e]
      split <;> rfl
    · rw [decide_eq_true c, decide_eq_false c2, if_pos (show nI (!true).toNat = 0 by decide), if_neg (show ¬ nI (!false).toNat = 0 by decide), if_neg (fun z => c2 z.2)]
      rfl
  · rw [decide_eq_false c, if_neg (show ¬ nI (!false).toNat = 0 by decide), if_neg (fun z => c z.1)]
    rfl
theorem rX_whyPair (h : RG ρ 1 G) (hw : WF G) (a b : Int32) : pX11_whyPair ρ a b = some (nI (prT G a b)) := by
  have hn := hw.n6
  unfold pX11_whyPair pX11_whyPair_16 pX11_whyPair_30 prT
  rw [rX_isPlayer h hw, rX_isPlayer h hw, Option.bind_some, Option.bind_some]
  by_cases c : ag a < Gn G
  · by_cases c2 : ag b < Gn G
    · have e := ag_inj (a := a) (b := b) (n := Gn G) (by omega) c c2
      rw [decide_eq_true c, decide_eq_true c2, if_neg (show ¬ nI true.toNat = 0 by decide), if_neg (show ¬ nI true.toNat = 0 by decide), if_pos (⟨c, c2⟩ : ag a < Gn G ∧ ag b < Gn G)]
      simp only [e]
      split <;> rfl
    · rw [decide_eq_true c, decide_eq_false c2, if_neg (show ¬ nI true.toNat = 0 by decide), if_pos (show nI false.toNat = 0 by decide), if_neg (fun z => c2 z.2)]
      rfl
  · rw [decide_eq_false c, if_pos (show nI false.toNat = 0 by decide), if_neg (fun z => c z.1)]
    rfl
theorem prT_0 (h : prT G a b = 0) : ag a < Gn G ∧ ag b < Gn G ∧ ag a ≠ ag b := by
  unfold prT at h
  by_cases c : ag a < Gn G ∧ ag b < Gn G
  · rw [if_pos c] at h
    by_cases c2 : ag a = ag b
    · rw [if_pos c2] at h; omega
    · exact ⟨c.1, c.2, c2⟩
  · rw [if_neg c] at h; omega
theorem prT_lt : prT G a b < 2147483648 := by unfold prT; split; split; all_goals omega
theorem x_sightTrouble (h : AR κ G) (hw : WF G) (a b : Int32) : pX10_sightTrouble κ a b = some (nI (siT G a b)) := by
  have hn := hw.n6
  have hl := prT_lt (G := G) (a := a) (b := b)
  unfold pX10_sightTrouble pX10_sightTrouble_31 siT
  rw [x_pairTrouble h hw, Option.bind_some]
  by_cases c : prT G a b = 0
  · obtain ⟨c1, c2, c3⟩ := prT_0 c
    have ea := ag_eq c1 (by omega)
    have eb := ag_eq c2 (by omega)
    have e3 : pX2_watches 1 κ a b = some (nI (sees G (ag a) (ag b)).toNat) := by
      conv => lhs; rw [ea, eb]
      exact sX2_watches h.1 hw c1 (by omega)
    rw [c, if_pos (show nI 0 = 0 from rfl), e3, if_pos rfl, Option.bind_some]
    cases sees G (ag a) (ag b) <;> rfl
  · rw [if_neg c, if_neg]
    rw [n_0, n_eq hl (by decide)]
    exact c
theorem rX_whySight (h : RG ρ 1 G) (hw : WF G) (a b : Int32) : pX11_whySight ρ a b = some (nI (siT G a b)) := by
  have hn := hw.n6
  unfold pX11_whySight pX11_whySight_16 pX11_whySight_44 siT
  rw [rX_isPlayer h hw, rX_isPlayer h hw, Option.bind_some, Option.bind_some]
  by_cases c : ag a < Gn G
  · by_cases c2 : ag b < Gn G
    · have e := ag_inj (a := a) (b := b) (n := Gn G) (by omega) c c2
      have ea := ag_eq c (by omega)
      have eb := ag_eq c2 (by omega)
      have e3 : pX11_sees ρ a b = some (nI (sees G (ag a) (ag b)).toNat) := by
        conv => lhs; rw [ea, eb]
        exact rX_sees h hw c (by omega)
      have eP : prT G a b = if ag a = ag b then 4 else 0 := if_pos ⟨c, c2⟩
      rw [e3, decide_eq_true c, decide_eq_true c2, if_neg (show ¬ nI true.toNat = 0 by decide), if_neg (show ¬ nI true.toNat = 0 by decide), eP]
      simp only [e]
      by_cases c3 : ag a = ag b
      · rw [if_pos c3, if_pos c3]; rfl
      · rw [if_neg c3, if_neg c3, Option.bind_some]
        cases sees G (ag a) (ag b) <;> rfl
    · have eP : prT G a b = 2 := if_neg (fun z => c2 z.2)
      rw [decide_eq_true c, decide_eq_false c2, if_neg (show ¬ nI true.toNat = 0 by decide), if_pos (show nI false.toNat = 0 by decide), eP]
      rfl
  · have eP : prT G a b = 2 := if_neg (fun z => c z.1)
    rw [decide_eq_false c, if_pos (show nI false.toNat = 0 by decide), eP]
    rfl
/-- a set of players; a seed; how many are right -/
def isSt (G : Gm) (a : Int32) : Bool := decide (1 ≤ ag a ∧ ag a < 2 ^ Gn G)
theorem x_noSet (h : AR κ G) (hw : WF G) (a : Int32) : pX10_noSet κ a = some (nI (!isSt G a).toNat) := by
  have hn := hw.n6
  have h64 := pow_le_64 hn
  unfold pX10_noSet pX10_noSet_17 pX10_noSet_22 isSt
  rw [h.n, n_1, n_31, n_shl1 (by omega)]
  rcases ag_cases a with ⟨h1, h2⟩ | ⟨k, h1, h2, h3⟩
  · have e1 : a ≤ 0 := by rw [Int32.lt_iff_toInt_lt] at h1; rw [Int32.le_iff_toInt_le]; omega
    rw [if_pos e1, decide_eq_false (by omega)]; rfl
  · subst h2
    rw [h3]
    simp only [n_0, n_le h1 (show 0 < 2147483648 by decide), n_lt h1 (show 2 ^ Gn G < 2147483648 by omega)]
    by_cases c1 : k ≤ 0
    · rw [if_pos c1, decide_eq_false (by omega)]; rfl
    · rw [if_neg c1]
      by_cases c2 : k < 2 ^ Gn G
      · rw [if_pos c2, decide_eq_true (by omega)]; rfl
      · rw [if_neg c2, decide_eq_false (by omega)]; rfl
theorem rX_inK (ρ : Mem) (a : Int32) {lo hi : Nat} (hl : lo < 2147483648) (hh : hi < 2147483648) : pX11_isIn ρ a.toInt64 (nI lo).toInt64 (nI hi).toInt64 = some (nI (decide (lo ≤ ag a ∧ ag a ≤ hi)).toNat) := by
  rw [rX_isIn]
  have e : (nI lo ≤ a ∧ a ≤ nI hi) ↔ (lo ≤ ag a ∧ ag a ≤ hi) := by
    rcases ag_cases a with ⟨h1, h2⟩ | ⟨k, h1, h2, h3⟩
    · rw [Int32.lt_iff_toInt_lt] at h1
      rw [Int32.le_iff_toInt_le, Int32.le_iff_toInt_le, nI_toInt hl, nI_toInt hh]
      have h0 : (0 : Int32).toInt = 0 := by decide
      omega
    · subst h2
      rw [h3, n_le hl h1, n_le h1 hh]
  rw [decide_eq_decide.mpr e]
theorem rX_isSet (h : RG ρ 1 G) (hw : WF G) (a : Int32) : pX11_isSet ρ a = some (nI (isSt G a).toNat) := by
  have hn := hw.n6
  have h64 := pow_le_64 hn
  have hp := Nat.two_pow_pos (Gn G)
  unfold pX11_isSet isSt
  rw [rX_all h hw, Option.bind_some, show (1 : Int64) = (nI 1).toInt64 from by decide, rX_inK ρ a (by decide) (by omega)]
  have e : (1 ≤ ag a ∧ ag a ≤ 2 ^ Gn G - 1) ↔ (1 ≤ ag a ∧ ag a < 2 ^ Gn G) := by omega
  have e2 : decide (1 ≤ ag a ∧ ag a ≤ 2 ^ Gn G - 1) = decide (1 ≤ ag a ∧ ag a < 2 ^ Gn G) := decide_eq_decide.mpr e
  rw [e2]
  simp (disch := omega) only [n_0, n_1, n_2, n_3, n_4, n_5, n_6, n_7, n_8, n_9, n_10, n_12, n_13, n_14, n_20, n_31, n_32, n_63, n_64, n_600, n_1024, n_4096, n_6157, n_add, n_mul, nm_def, Option.bind_some, Option.some.injEq, ck_in, ck_nz, ck_p, n_cl, n_lt, n_le, n_eq, n_div, n_rem, if_pos, if_neg, if_true, if_false, eq_self, n_192, n_256, n_20000, m1_n0, m1_np, m1_n0p, m1_lt0, m1_lt0p, mi_setIA, mi_setI, ml_setIA, ml_setI, mr_setI, mr_setIA, isB_b]
end GR
