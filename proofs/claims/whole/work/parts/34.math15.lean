/-! THE INVARIANT OF BOTH SIDES -/
def RP (ρ : Mem) (o : Nat) (G : Gm) : Prop := mi ρ 3 o = nI (Gn G) ∧ (∀ p, p < Gn G → mi ρ 3 (o + (1 + p)) = nI (Gh G p)) ∧ (∀ p, p < Gn G → mi ρ 3 (o + (7 + p)) = nI (Gs G p)) ∧ ∀ p, p < Gn G → ∀ σ, σ < sit G p → mi ρ 3 (o + (13 + 1024 * p + σ)) = nI (Gt G p σ)
def hpl (nx m j : Nat) : Nat := 13 + ((nx + 7 - m + j) % 7) * 4
def IHx (κ : Mem) (H : Nat → Gm) (m : Nat) : Prop := (∃ nx, nx < 7 ∧ mi κ 135 1 = nI nx ∧ ∀ j, j < m → XG κ (hpl nx m j) (H j)) ∧ mi κ 135 2 = nI m
def IHr (ρ : Mem) (H : Nat → Gm) (m : Nat) : Prop := mi ρ 0 6 = nI m ∧ ∀ j, j < m → RP ρ (6157 * j) (H j)
def IH (κ ρ : Mem) (H : Nat → Gm) (m : Nat) : Prop := (m ≤ 6 ∧ ∀ j, j < m → WF (H j)) ∧ IHx κ H m ∧ IHr ρ H m
def ITp (κ ρ : Mem) : Prop := ∃ n, n ≤ 600 ∧ mi κ 0 11 = nI n ∧ mi ρ 0 22 = nI n ∧ ∀ i, i < n → mi κ 137 i = mi ρ 13 i
def IPr (κ ρ : Mem) : Prop := ∃ n, n ≤ 600 ∧ mi κ 144 1 = nI n ∧ mi ρ 0 19 = nI n ∧ ((mr κ 144 0 = 145 ∧ mr κ 144 2 = 146) ∨ (mr κ 144 0 = 146 ∧ mr κ 144 2 = 145)) ∧ ∀ i, i < n → mi κ (mr κ 144 0) i = mi ρ 12 i
def IFt (κ ρ : Mem) : Prop := mi κ 0 13 = mi ρ 0 23 ∧ mi κ 0 14 = mi ρ 0 24
def wdsL : List Int64 := [6371942374, 158752, 243146, 377776, 4137607, 14431, 375062, 279875, 3383428, 10650290]
def IWd (ρ : Mem) : Prop := ∀ i, i < 10 → ml ρ 14 i = wdsL.getD i 0
def IG (κ ρ : Mem) (G : Gm) : Prop := WF G ∧ AR κ G ∧ JD κ G ∧ RG ρ 1 G
def IZ (κ ρ : Mem) : Prop := ITp κ ρ ∧ IPr κ ρ ∧ IFt κ ρ ∧ IWd ρ
def IV (G : Gm) (H : Nat → Gm) (m : Nat) (κ ρ : Mem) : Prop := IG κ ρ G ∧ IH κ ρ H m ∧ IZ κ ρ ∧ mi κ 0 12 = mi ρ 0 0
/-- cells that hold nothing from call to call -/
def scX (k : Nat) : Prop := (5 ≤ k ∧ k ≤ 12) ∨ k = 43 ∨ (52 ≤ k ∧ k ≤ 134) ∨ k = 136 ∨ (138 ≤ k ∧ k ≤ 143)
def scR (k : Nat) : Prop := k = 2 ∨ (4 ≤ k ∧ k ≤ 11)
/-- all as it was, but for what holds nothing, and for the status -/
def agX (κ κ1 : Mem) : Prop := (∀ k, k ≠ 0 → ¬ scX k → κ1.1 k = κ.1 k ∧ κ1.2.1 k = κ.2.1 k ∧ κ1.2.2 k = κ.2.2 k) ∧ ∀ i, i = 11 ∨ i = 13 ∨ i = 14 → mi κ1 0 i = mi κ 0 i
def agR (ρ ρ1 : Mem) : Prop := (∀ k, k ≠ 0 → ¬ scR k → ρ1.1 k = ρ.1 k ∧ ρ1.2.1 k = ρ.2.1 k ∧ ρ1.2.2 k = ρ.2.2 k) ∧ ∀ i, i = 6 ∨ i = 19 ∨ i = 22 ∨ i = 23 ∨ i = 24 → mi ρ1 0 i = mi ρ 0 i
section IVS
variable {κ κ1 κ2 ρ ρ1 ρ2 : Mem} {G : Gm} {H : Nat → Gm} {m F : Nat} {S : Nat → Prop}
theorem agX_rfl : agX κ κ := ⟨fun _ _ _ => ⟨rfl, rfl, rfl⟩, fun _ _ => rfl⟩
theorem agR_rfl : agR ρ ρ := ⟨fun _ _ _ => ⟨rfl, rfl, rfl⟩, fun _ _ => rfl⟩
theorem agX_trans (h : agX κ κ1) (h2 : agX κ1 κ2) : agX κ κ2 := ⟨fun k h0 hk => ⟨(h2.1 k h0 hk).1.trans (h.1 k h0 hk).1, (h2.1 k h0 hk).2.1.trans (h.1 k h0 hk).2.1, (h2.1 k h0 hk).2.2.trans (h.1 k h0 hk).2.2⟩, fun i hi => (h2.2 i hi).trans (h.2 i hi)⟩
theorem agR_trans (h : agR ρ ρ1) (h2 : agR ρ1 ρ2) : agR ρ ρ2 := ⟨fun k h0 hk => ⟨(h2.1 k h0 hk).1.trans (h.1 k h0 hk).1, (h2.1 k h0 hk).2.1.trans (h.1 k h0 hk).2.1, (h2.1 k h0 hk).2.2.trans (h.1 k h0 hk).2.2⟩, fun i hi => (h2.2 i hi).trans (h.2 i hi)⟩
theorem agX_of (h : agr S κ κ1) (hS : ∀ k, S k → scX k) : agX κ κ1 := by
  have h0 : ¬ S 0 := fun z => by have := hS 0 z; unfold scX at this; omega
  exact ⟨fun k _ hk => h k (fun z => hk (hS k z)), fun i _ => agr_mi h h0 i⟩
theorem agR_of (h : agr S ρ ρ1) (hS : ∀ k, S k → scR k) : agR ρ ρ1 := by
  have h0 : ¬ S 0 := fun z => by have := hS 0 z; unfold scR at this; omega
  exact ⟨fun k _ hk => h k (fun z => hk (hS k z)), fun i _ => agr_mi h h0 i⟩
theorem agX_0 {i : Nat} {x : Int32} (h : ¬ (i = 11 ∨ i = 13 ∨ i = 14)) : agX κ (setI κ 0 i x) :=
  ⟨fun k hk _ => ⟨by simp [setI, hk], rfl, rfl⟩, fun j hj => by rw [mi_setI, if_neg (by omega)]⟩
theorem agR_0 {i : Nat} {x : Int32} (h : ¬ (i = 6 ∨ i = 19 ∨ i = 22 ∨ i = 23 ∨ i = 24)) : agR ρ (setI ρ 0 i x) :=
  ⟨fun k hk _ => ⟨by simp [setI, hk], rfl, rfl⟩, fun j hj => by rw [mi_setI, if_neg (by omega)]⟩
theorem agR_0L {i : Nat} {x : Int64} : agR ρ (setL ρ 0 i x) :=
  ⟨fun k hk _ => ⟨rfl, by simp [setL, hk], rfl⟩, fun j _ => rfl⟩
theorem agX.mi (h : agX κ κ1) {k : Nat} (h0 : k ≠ 0) (hk : ¬ scX k) (i : Nat) : mi κ1 k i = mi κ k i := congrFun (h.1 k h0 hk).1 i
theorem agX.ml (h : agX κ κ1) {k : Nat} (h0 : k ≠ 0) (hk : ¬ scX k) (i : Nat) : ml κ1 k i = ml κ k i := congrFun (h.1 k h0 hk).2.1 i
theorem agX.mr (h : agX κ κ1) {k : Nat} (h0 : k ≠ 0) (hk : ¬ scX k) (i : Nat) : mr κ1 k i = mr κ k i := congrFun (h.1 k h0 hk).2.2 i
theorem agR.mi (h : agR ρ ρ1) {k : Nat} (h0 : k ≠ 0) (hk : ¬ scR k) (i : Nat) : mi ρ1 k i = mi ρ k i := congrFun (h.1 k h0 hk).1 i
theorem agR.ml (h : agR ρ ρ1) {k : Nat} (h0 : k ≠ 0) (hk : ¬ scR k) (i : Nat) : ml ρ1 k i = ml ρ k i := congrFun (h.1 k h0 hk).2.1 i
theorem XG_agX {g : Nat} {G : Gm} (h : XG κ g G) (ha : agX κ κ1) (hg : (1 ≤ g ∧ g + 3 ≤ 4) ∨ (13 ≤ g ∧ g + 3 ≤ 40)) : XG κ1 g G := by
  have q : ∀ k, (1 ≤ k ∧ k ≤ 4) ∨ (13 ≤ k ∧ k ≤ 40) → k ≠ 0 ∧ ¬ scX k := fun k hk => ⟨by omega, by unfold scX; omega⟩
  have q0 := q g (by omega)
  have q1 := q (g + 1) (by omega)
  have q2 := q (g + 2) (by omega)
  have q3 := q (g + 3) (by omega)
  refine ⟨(ha.mi q0.1 q0.2 _).trans h.1, fun p hp => (ha.mi q1.1 q1.2 _).trans (h.h hp), fun p hp => (ha.mi q2.1 q2.2 _).trans (h.s hp), fun p hp σ hs => ?_⟩
  unfold tol
  rw [ha.ml q3.1 q3.2]
  exact h.t hp hs
theorem IV.W (h : IV G H m κ ρ) : WF G := h.1.1
theorem IV.A (h : IV G H m κ ρ) : AR κ G := h.1.2.1
theorem IV.J (h : IV G H m κ ρ) : JD κ G := h.1.2.2.1
theorem IV.R (h : IV G H m κ ρ) : RG ρ 1 G := h.1.2.2.2
theorem IG.fr (h : IG κ ρ G) (hx : agX κ κ1) (hr : agR ρ ρ1) : IG κ1 ρ1 G := by
  obtain ⟨hw, hA, hJ, hR⟩ := h
  have qx : ∀ k, (k = 41 ∨ k = 42 ∨ (44 ≤ k ∧ k ≤ 51)) → k ≠ 0 ∧ ¬ scX k := fun k hk => ⟨by omega, by unfold scX; omega⟩
  have qr : (1 : Nat) ≠ 0 ∧ ¬ scR 1 := ⟨by omega, by unfold scR; omega⟩
  refine ⟨hw, ⟨XG_agX hA.1 hx (by omega), ?_, fun p hp => ?_, fun p hp x hxx => ?_⟩, ⟨fun x hxx => ?_, fun w hww => ?_⟩, ⟨?_, fun p hp => ?_, fun p hp => ?_, fun p hp σ hs => ?_⟩⟩
  · rw [hx.mi (qx 41 (by omega)).1 (qx 41 (by omega)).2]; exact hA.c
  · rw [hx.mi (qx 42 (by omega)).1 (qx 42 (by omega)).2]; exact hA.pl hp
  · have := hw_lt hw hp
    have q := qx (44 + p) (by omega)
    rw [hx.mi q.1 q.2]; exact hA.si hp hxx
  · rw [hx.mi (qx 50 (by omega)).1 (qx 50 (by omega)).2]; exact hJ.1 x hxx
  · rw [hx.mi (qx 51 (by omega)).1 (qx 51 (by omega)).2]; exact hJ.2 w hww
  · rw [hr.mi qr.1 qr.2]; exact hR.n
  · rw [hr.mi qr.1 qr.2]; exact hR.h hp
  · rw [hr.mi qr.1 qr.2]; exact hR.s hp
  · rw [hr.mi qr.1 qr.2]; exact hR.t hp hs
theorem hpl_in {nx m j : Nat} : 13 ≤ hpl nx m j ∧ hpl nx m j + 3 ≤ 40 := by
  unfold hpl
  have := Nat.mod_lt (nx + 7 - m + j) (show 0 < 7 by decide)
  omega
theorem IHx.fr (h : IHx κ H m) (hx : agX κ κ1) : IHx κ1 H m := by
  obtain ⟨⟨nx, h1, h2, h3⟩, h4⟩ := h
  have q : (135 : Nat) ≠ 0 ∧ ¬ scX 135 := ⟨by omega, by unfold scX; omega⟩
  exact ⟨⟨nx, h1, by rw [hx.mi q.1 q.2]; exact h2, fun j hj => XG_agX (h3 j hj) hx (Or.inr hpl_in)⟩, by rw [hx.mi q.1 q.2]; exact h4⟩
theorem IHr.fr (h : IHr ρ H m) (hr : agR ρ ρ1) : IHr ρ1 H m := by
  obtain ⟨h1, h2⟩ := h
  have q : (3 : Nat) ≠ 0 ∧ ¬ scR 3 := ⟨by omega, by unfold scR; omega⟩
  refine ⟨by rw [hr.2 6 (by omega)]; exact h1, fun j hj => ?_⟩
  obtain ⟨a1, a2, a3, a4⟩ := h2 j hj
  exact ⟨by rw [hr.mi q.1 q.2]; exact a1, fun p hp => by rw [hr.mi q.1 q.2]; exact a2 p hp, fun p hp => by rw [hr.mi q.1 q.2]; exact a3 p hp, fun p hp σ hs => by rw [hr.mi q.1 q.2]; exact a4 p hp σ hs⟩
theorem IZ.fr (h : IZ κ ρ) (hx : agX κ κ1) (hr : agR ρ ρ1) : IZ κ1 ρ1 := by
  obtain ⟨⟨n, t1, t2, t3, t4⟩, ⟨l, p1, p2, p3, p4, p5⟩, ⟨f1, f2⟩, hw⟩ := h
  have qx : ∀ k, (k = 137 ∨ (144 ≤ k ∧ k ≤ 146)) → k ≠ 0 ∧ ¬ scX k := fun k hk => ⟨by omega, by unfold scX; omega⟩
  have qr : ∀ k, (12 ≤ k ∧ k ≤ 14) → k ≠ 0 ∧ ¬ scR k := fun k hk => ⟨by omega, by unfold scR; omega⟩
  have e0 : mr κ1 144 0 = mr κ 144 0 := hx.mr (qx 144 (by omega)).1 (qx 144 (by omega)).2 0
  have e2 : mr κ1 144 2 = mr κ 144 2 := hx.mr (qx 144 (by omega)).1 (qx 144 (by omega)).2 2
  refine ⟨⟨n, t1, by rw [hx.2 11 (by omega)]; exact t2, by rw [hr.2 22 (by omega)]; exact t3, fun i hi => ?_⟩, ⟨l, p1, ?_, by rw [hr.2 19 (by omega)]; exact p3, by rw [e0, e2]; exact p4, fun i hi => ?_⟩, ⟨?_, ?_⟩, fun i hi => ?_⟩
  · rw [hx.mi (qx 137 (by omega)).1 (qx 137 (by omega)).2, hr.mi (qr 13 (by omega)).1 (qr 13 (by omega)).2]; exact t4 i hi
  · rw [hx.mi (qx 144 (by omega)).1 (qx 144 (by omega)).2]; exact p2
  · have q := qx (mr κ 144 0) (by omega)
    rw [e0, hx.mi q.1 q.2, hr.mi (qr 12 (by omega)).1 (qr 12 (by omega)).2]; exact p5 i hi
  · rw [hx.2 13 (by omega), hr.2 23 (by omega)]; exact f1
  · rw [hx.2 14 (by omega), hr.2 24 (by omega)]; exact f2
  · rw [hr.ml (qr 14 (by omega)).1 (qr 14 (by omega)).2]; exact hw i hi
theorem IH.fr (h : IH κ ρ H m) (hx : agX κ κ1) (hr : agR ρ ρ1) : IH κ1 ρ1 H m := ⟨h.1, h.2.1.fr hx, h.2.2.fr hr⟩
theorem IV.fr (h : IV G H m κ ρ) (hx : agX κ κ1) (hr : agR ρ ρ1) (hs : mi κ1 0 12 = mi ρ1 0 0) : IV G H m κ1 ρ1 := ⟨h.1.fr hx hr, h.2.1.fr hx hr, h.2.2.1.fr hx hr, hs⟩
/-- both sides answer alike, and stand as they must -/
def Res (x y : Option (Int32 × Mem)) : Prop := ∃ r κ1 ρ1, (∃ G H m, IV G H m κ1 ρ1) ∧ x = some (r, κ1) ∧ y = some (r, ρ1)
def st0 (ρ : Mem) (k : Int32) : Mem := setI (setI ρ 0 1 0) 0 0 k
theorem agR_st0 {k : Int32} : agR ρ (st0 ρ k) := agR_trans (agR_0 (by omega)) (agR_0 (by omega))
theorem st0_0 {k : Int32} : mi (st0 ρ k) 0 0 = k := by unfold st0; rw [mi_setI, if_pos ⟨rfl, rfl⟩]
theorem RG_st0 {k : Int32} {c : Nat} (h : RG ρ c G) (hc : c ≠ 0) : RG (st0 ρ k) c G := h.agr (S := fun z => z = 0) (agr_trans (agr_setI rfl) (agr_setI rfl)) hc
theorem res_ok {v : Int32} (h : IV G H m κ ρ) (hx : agr scX κ κ1) (hr : agr scR (st0 ρ 0) ρ1) : Res (some (v, setI κ1 0 12 0)) (some (v, ρ1)) := by
  refine ⟨v, _, _, ⟨G, H, m, h.fr (agX_trans (agX_of hx (fun _ z => z)) (agX_0 (by omega))) (agR_trans agR_st0 (agR_of hr (fun _ z => z))) ?_⟩, rfl, rfl⟩
  rw [mi_setI, if_pos ⟨rfl, rfl⟩, agr_mi hr (by unfold scR; omega), st0_0]
theorem res_no {k : Int32} (h : IV G H m κ ρ) (hx : agr scX κ κ1) (hr : agr scR ρ ρ1) : Res (some (-1, setI κ1 0 12 k)) (some (-1, st0 ρ1 k)) := by
  refine ⟨-1, _, _, ⟨G, H, m, h.fr (agX_trans (agX_of hx (fun _ z => z)) (agX_0 (by omega))) (agR_trans (agR_of hr (fun _ z => z)) agR_st0) ?_⟩, rfl, rfl⟩
  rw [mi_setI, if_pos ⟨rfl, rfl⟩, st0_0]
/-- refused late -/
theorem res_re {k : Int32} (h : IV G H m κ ρ) (hx : agr scX κ κ1) (hr : agr scR (st0 ρ 0) ρ1) : Res (some (-1, setI κ1 0 12 k)) (some (-1, setI ρ1 0 0 k)) := by
  refine ⟨-1, _, _, ⟨G, H, m, h.fr (agX_trans (agX_of hx (fun _ z => z)) (agX_0 (by omega))) (agR_trans (agR_trans agR_st0 (agR_of hr (fun _ z => z))) (agR_0 (by omega))) ?_⟩, rfl, rfl⟩
  rw [mi_setI, if_pos ⟨rfl, rfl⟩, mi_setI, if_pos ⟨rfl, rfl⟩]
theorem x_give (κ : Mem) (v : Int32) : pX10_give κ v = some (v, setI κ 0 12 0) := rfl
theorem x_refuse (κ : Mem) (v : Int32) : pX10_refuse κ v = some (-1, setI κ 0 12 v) := rfl
theorem rX_refuse (ρ : Mem) (v : Int32) : pX11_refuse ρ v = some (-1, setI ρ 0 0 v) := rfl
theorem rX_is0 (ρ : Mem) : pX11_is ρ 0 = some (1, st0 ρ 0) := rfl
theorem rX_isk (ρ : Mem) {k : Int32} (h : ¬ k = 0) : pX11_is ρ k = some (0, st0 ρ k) := by
  unfold pX11_is
  rw [nm_def, nm_def, if_neg h]
  rfl
theorem rX_is1 (ρ : Mem) : pX11_is ρ 1 = some (0, st0 ρ 1) := rX_isk ρ (by decide)
theorem rX_is2 (ρ : Mem) : pX11_is ρ 2 = some (0, st0 ρ 2) := rX_isk ρ (by decide)
theorem rX_is3 (ρ : Mem) : pX11_is ρ 3 = some (0, st0 ρ 3) := rX_isk ρ (by decide)
theorem rX_is4 (ρ : Mem) : pX11_is ρ 4 = some (0, st0 ρ 4) := rX_isk ρ (by decide)
theorem rX_is5 (ρ : Mem) : pX11_is ρ 5 = some (0, st0 ρ 5) := rX_isk ρ (by decide)
theorem rX_is7 (ρ : Mem) : pX11_is ρ 7 = some (0, st0 ρ 7) := rX_isk ρ (by decide)
theorem nBt : (nI true.toNat = 0) = False := by decide
theorem nBf : (nI false.toNat = 0) = True := by decide
theorem o10 : ((1 : Int32) = 0) = False := by decide
theorem z00 : ((0 : Int32) = 0) = True := by decide
theorem x_noSeed (κ : Mem) (a : Int32) : pX10_noSeed κ a = some (nI (!decide (ag a ≤ 999999999)).toNat) := by
  unfold pX10_noSeed pX10_noSeed_11 pX10_noSeed_16
  rcases ag_cases a with ⟨h1, h2⟩ | ⟨k, h1, h2, h3⟩
  · rw [if_pos h1, decide_eq_false (by omega)]; rfl
  · subst h2
    rw [h3]
    simp only [n_0, n_neg h1, if_false, show (999999999 : Int32) = nI 999999999 from rfl, n_le h1 (show 999999999 < 2147483648 by decide)]
    by_cases c : k ≤ 999999999
    · rw [if_pos c, decide_eq_true c]; rfl
    · rw [if_neg c, decide_eq_false c]; rfl
theorem x_noRightCount (κ : Mem) (a : Int32) : pX10_noRightCount κ a = some (nI (!decide (ag a ≤ 6)).toNat) := by
  unfold pX10_noRightCount pX10_noRightCount_10 pX10_noRightCount_15
  rcases ag_cases a with ⟨h1, h2⟩ | ⟨k, h1, h2, h3⟩
  · rw [if_pos h1, decide_eq_false (by omega)]; rfl
  · subst h2
    rw [h3]
    simp only [n_0, n_neg h1, if_false, n_6, n_le h1 (show 6 < 2147483648 by decide)]
    by_cases c : k ≤ 6
    · rw [if_pos c, decide_eq_true c]; rfl
    · rw [if_neg c, decide_eq_false c]; rfl
theorem rX_in0 (ρ : Mem) (a : Int32) {hi : Nat} (hh : hi < 2147483648) : pX11_isIn ρ a.toInt64 0 (nI hi).toInt64 = some (nI (decide (ag a ≤ hi)).toNat) := by
  rw [show (0 : Int64) = (nI 0).toInt64 from by decide, rX_inK ρ a (by decide) hh]
  have e : (0 ≤ ag a ∧ ag a ≤ hi) ↔ ag a ≤ hi := by omega
  rw [decide_eq_decide.mpr e]
end IVS
