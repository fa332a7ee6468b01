/-! COLOURS RENAMED: the class -/
/-- an involution only shuffles a sum -/
theorem sm_inv {f g : Nat → Nat} {n : Nat} (h1 : ∀ i, i < n → g i < n) (h2 : ∀ i, i < n → g (g i) = i) : sm (fun i => f (g i)) n = sm f n := by
  have e1 : ∀ i, i < n → f (g i) = sm (fun j => if j = g i then f j else 0) n := fun i hi => by
    rw [sm_one (k := g i) (h1 i hi) (fun j _ hj => if_neg hj), if_pos rfl]
  have e2 : ∀ j, j < n → f j = sm (fun i => if j = g i then f j else 0) n := fun j hj => by
    rw [sm_one (k := g j) (h1 j hj) (fun i hi hne => if_neg (fun z => hne (by rw [z, h2 i hi]))), if_pos (h2 j hj).symm]
  rw [sm_congr e1, sm_comm (fun i j => if j = g i then f j else 0) n n]
  exact (sm_congr e2).symm
section RNP
variable {G : Gm} {p q c d : Nat}
def rn (c d x : Nat) : Nat := if x = c then d else if x = d then c else x
theorem rn_rn (x : Nat) : rn c d (rn c d x) = x := by
  unfold rn
  by_cases h1 : x = c
  · rw [if_pos h1]
    by_cases h2 : d = c
    · rw [if_pos h2, h2, h1]
    · rw [if_neg h2, if_pos rfl, h1]
  · rw [if_neg h1]
    by_cases h2 : x = d
    · rw [if_pos h2, if_pos rfl, h2]
    · rw [if_neg h2, if_neg h1, if_neg h2]
theorem rn_lt {n x : Nat} (hc : c < n) (hd : d < n) (hx : x < n) : rn c d x < n := by
  unfold rn
  by_cases h1 : x = c
  · rw [if_pos h1]; exact hd
  · rw [if_neg h1]
    by_cases h2 : x = d
    · rw [if_pos h2]; exact hc
    · rw [if_neg h2]; exact hx
theorem cIn_chg (hw : WF G) (σ : Nat) {k : Nat} (hk : k < Gh G q) : cIn G p q (chg G p q σ k) = k := by
  have hW := wB_pos (p := p) hw (q + 1)
  obtain ⟨a, r, h1, h2, h3⟩ := chg_parts (G := G) (p := p) (q := q) σ
  have e1 := chg_eq σ k h1
  have hr := h2 hW
  unfold cIn
  rw [e1, Nat.mul_comm, Nat.mul_add_div hW, Nat.div_eq_of_lt hr, Nat.add_zero, Nat.mul_comm, Nat.mul_add_mod, Nat.mod_eq_of_lt hk]
/-- q's situation once p's colours are renamed -/
def mv (G : Gm) (q p c d σ : Nat) : Nat := chg G q p σ (rn c d (cIn G q p σ))
theorem mv_lt (hw : WF G) (hq : q < Gn G) (hs : sees G q p = true) (hc : c < Gh G p) (hd : d < Gh G p) {σ : Nat} (hσ : σ < sit G q) : mv G q p c d σ < sit G q :=
  chg_lt hw hq hs hσ (rn_lt hc hd (cIn_lt hw (hw.see_lt hq hs) σ))
theorem mv_mv (hw : WF G) (hq : q < Gn G) (hs : sees G q p = true) (hc : c < Gh G p) (hd : d < Gh G p) {σ : Nat} (hσ : σ < sit G q) : mv G q p c d (mv G q p c d σ) = σ := by
  have hk := rn_lt hc hd (cIn_lt (p := q) hw (hw.see_lt hq hs) σ)
  show chg G q p (mv G q p c d σ) (rn c d (cIn G q p (mv G q p c d σ))) = σ
  rw [show cIn G q p (mv G q p c d σ) = rn c d (cIn G q p σ) from cIn_chg hw σ hk, rn_rn]
  show chg G q p (chg G q p σ _) _ = σ
  rw [chg_chg hw hq hs hσ hk, chg_self]
/-- the tables once p's colours are renamed -/
def tR (G : Gm) (p c d r σ : Nat) : Nat := if r = p then rn c d (Gt G p σ) else if sees G r p then Gt G r (mv G r p c d σ) else Gt G r σ
def renG (G : Gm) (p c d : Nat) : Gm := withT G (tR G p c d)
theorem tR_lt (hw : WF G) (hp : p < Gn G) (hc : c < Gh G p) (hd : d < Gh G p) (r : Nat) (hr : r < Gn G) (σ : Nat) (hσ : σ < sit G r) : tR G p c d r σ < Gh G r := by
  unfold tR
  by_cases e : r = p
  · subst e
    rw [if_pos rfl]
    exact rn_lt hc hd (hw.t hr hσ)
  · rw [if_neg e]
    cases hs : sees G r p
    · exact hw.t hr hσ
    · exact hw.t hr (mv_lt hw hr hs hc hd hσ)
theorem WF_renG (hw : WF G) (hp : p < Gn G) (hc : c < Gh G p) (hd : d < Gh G p) : WF (renG G p c d) := WF_withT hw (tR_lt hw hp hc hd)
/-- how many entries are other ones -/
def nOwn (G : Gm) (p c d i : Nat) : Nat := sm (fun s => if Gt G p s = c ∨ Gt G p s = d then 1 else 0) i
def nSee (G : Gm) (p c d q i : Nat) : Nat := sm (fun s => if cIn G q p s = c ∧ Gt G q s ≠ Gt G q (chg G q p s d) then 2 else 0) i
def nRen (G : Gm) (p c d : Nat) : Nat := nOwn G p c d (sit G p) + sm (fun q => if sees G q p then nSee G p c d q (sit G q) else 0) (Gn G)
def dif (G : Gm) (t : Nat → Nat → Nat) (r σ : Nat) : Nat := if t r σ = Gt G r σ then 0 else 1
theorem dif_own (hcd : c ≠ d) : sm (dif G (tR G p c d) p) (sit G p) = nOwn G p c d (sit G p) := by
  unfold nOwn
  refine sm_congr (fun s _ => ?_)
  unfold dif tR rn
  rw [if_pos rfl]
  by_cases h1 : Gt G p s = c
  · rw [if_pos h1, if_pos (Or.inl h1), if_neg (by rw [h1]; exact fun z => hcd z.symm)]
  · rw [if_neg h1]
    by_cases h2 : Gt G p s = d
    · rw [if_pos h2, if_pos (Or.inr h2), if_neg (by rw [h2]; exact hcd)]
    · rw [if_neg h2, if_pos rfl, if_neg (by rintro (z | z); exact h1 z; exact h2 z)]
theorem dif_see (hw : WF G) (hq : q < Gn G) (hqp : q ≠ p) (hs : sees G q p = true) (hcd : c ≠ d) (hc : c < Gh G p) (hd : d < Gh G p) : sm (dif G (tR G p c d) q) (sit G q) = nSee G p c d q (sit G q) := by
  obtain ⟨A, eA⟩ : ∃ A : Nat → Nat, A = fun s => if cIn G q p s = c ∧ Gt G q s ≠ Gt G q (mv G q p c d s) then 1 else 0 := ⟨_, rfl⟩
  have key : ∀ s, s < sit G q → dif G (tR G p c d) q s = A s + A (mv G q p c d s) := fun s hs2 => by
    have hk := rn_lt hc hd (cIn_lt (p := q) hw (hw.see_lt hq hs) s)
    have e1 : cIn G q p (mv G q p c d s) = rn c d (cIn G q p s) := cIn_chg hw s hk
    have e2 := mv_mv hw hq hs hc hd hs2
    rw [eA]
    show dif G (tR G p c d) q s = (if cIn G q p s = c ∧ Gt G q s ≠ Gt G q (mv G q p c d s) then 1 else 0) + (if cIn G q p (mv G q p c d s) = c ∧ Gt G q (mv G q p c d s) ≠ Gt G q (mv G q p c d (mv G q p c d s)) then 1 else 0)
    rw [e1, e2]
    unfold dif tR
    rw [if_neg hqp, if_pos hs]
    by_cases z : Gt G q (mv G q p c d s) = Gt G q s
    · rw [if_pos z, if_neg (fun w => w.2 z.symm), if_neg (fun w => w.2 z)]
    · rw [if_neg z]
      unfold rn
      by_cases h1 : cIn G q p s = c
      · rw [if_pos ⟨h1, fun w => z w.symm⟩, if_pos h1, if_neg (fun w => hcd w.1.symm)]
      · rw [if_neg (fun w => h1 w.1), if_neg h1]
        by_cases h2 : cIn G q p s = d
        · rw [if_pos h2, if_pos ⟨rfl, z⟩]
        · exfalso
          refine z ?_
          have : mv G q p c d s = s := by
            unfold mv rn
            rw [if_neg h1, if_neg h2, chg_self]
          rw [this]
  rw [sm_congr key, sm_add, sm_inv (fun i hi => mv_lt hw hq hs hc hd hi) (fun i hi => mv_mv hw hq hs hc hd hi), ← sm_add]
  unfold nSee
  refine sm_congr (fun s _ => ?_)
  rw [eA]
  show (if cIn G q p s = c ∧ Gt G q s ≠ Gt G q (mv G q p c d s) then 1 else 0) + (if cIn G q p s = c ∧ Gt G q s ≠ Gt G q (mv G q p c d s) then 1 else 0) = _
  by_cases h1 : cIn G q p s = c
  · have : mv G q p c d s = chg G q p s d := by
      unfold mv rn
      rw [if_pos h1]
    rw [this]
    by_cases z : cIn G q p s = c ∧ Gt G q s ≠ Gt G q (chg G q p s d)
    · rw [if_pos z, if_pos z]
    · rw [if_neg z, if_neg z]
  · rw [if_neg (fun w => h1 w.1), if_neg (fun w => h1 w.1)]
theorem dif_all (hw : WF G) (hp : p < Gn G) (hcd : c ≠ d) (hc : c < Gh G p) (hd : d < Gh G p) : sm (fun r => sm (dif G (tR G p c d) r) (sit G r)) (Gn G) = nRen G p c d := by
  have e1 : sm (fun r => if r = p then nOwn G p c d (sit G p) else 0) (Gn G) = nOwn G p c d (sit G p) := by
    rw [sm_one (k := p) hp (fun i _ hi => if_neg hi), if_pos rfl]
  unfold nRen
  rw [← e1, ← sm_add]
  refine sm_congr (fun r hr => ?_)
  by_cases e : r = p
  · subst e
    rw [if_pos rfl, dif_own hcd, if_neg (by rw [(hw.2 r hr).2.2.1]; decide)]
    rfl
  · rw [if_neg e, Nat.zero_add]
    cases hs : sees G r p
    · rw [if_neg (by decide)]
      refine sm_zero (fun s _ => ?_)
      unfold dif tR
      rw [if_neg e, hs]
      exact if_pos rfl
    · rw [if_pos rfl]
      exact dif_see hw hr e hs hcd hc hd
end RNP
section RNC
variable {κ κ1 : Mem} {G : Gm} {F g p q c d : Nat} {t : Nat → Nat → Nat}
theorem xT_situations (hG : XG κ g (withT G t)) (hw : WF G) (hF : 10 < F) (hp : p < Gn G) : pX2_situations F g κ (nI p) = some (nI (sit G p)) := by
  unfold pX2_situations
  rw [sX2_weightBehind0 (t := t) (a := 0) hG hw hF hp rfl (Nat.zero_le _)]
  rfl
theorem xT_watches (hG : XG κ g (withT G t)) (hw : WF G) (hp : p < Gn G) (hq : q < 32) : pX2_watches g κ (nI p) (nI q) = some (nI (sees G p q).toNat) := by
  have hp6 := hw_lt hw hp
  have hs := hw.s64 hp
  have e : mi κ (g + 2) p = nI (Gs G p) := hG.2.2.1 p hp
  unfold pX2_watches pX2_watches_19
  simp (disch := omega) only [n_0, n_1, n_2, n_3, n_4, n_5, n_6, n_7, n_8, n_9, n_10, n_12, n_13, n_14, n_20, n_31, n_32, n_63, n_64, n_600, n_1024, n_4096, n_6157, n_add, n_mul, nm_def, Option.bind_some, Option.some.injEq, ck_in, ck_nz, ck_p, n_cl, n_lt, n_le, n_eq, n_div, n_rem, if_pos, if_neg, if_true, if_false, eq_self, n_192, n_256, n_20000, m1_n0, m1_np, m1_n0p, m1_lt0, m1_lt0p, mi_setIA, mi_setI, ml_setIA, ml_setI, mr_setI, mr_setIA, e, n_hasbit]
  show (if sees G p q = true then _ else _) = _
  cases sees G p q <;> rfl
theorem xT_weight (hG : XG κ g (withT G t)) (hw : WF G) (hF : 10 < F) (hp : p < Gn G) (hq : q < Gn G) : pX2_weight F g κ (nI p) (nI q) = some (nI (if sees G p q then wB G p (q + 1) else 0)) := by
  have hq6 := hw_lt hw hq
  unfold pX2_weight pX2_weight_19
  rw [xT_watches hG hw hp (by omega)]
  simp (disch := omega) only [n_0, n_1, n_2, n_3, n_4, n_5, n_6, n_7, n_8, n_9, n_10, n_12, n_13, n_14, n_20, n_31, n_32, n_63, n_64, n_600, n_1024, n_4096, n_6157, n_add, n_mul, nm_def, Option.bind_some, Option.some.injEq, ck_in, ck_nz, ck_p, n_cl, n_lt, n_le, n_eq, n_div, n_rem, if_pos, if_neg, if_true, if_false, eq_self, n_192, n_256, n_20000, m1_n0, m1_np, m1_n0p, m1_lt0, m1_lt0p, mi_setIA, mi_setI, ml_setIA, ml_setI, mr_setI, mr_setIA, sX2_weightBehind0 (t := t) (a := q + 1) hG hw hF hp (n_add q 1) hq]
  cases sees G p q <;> rfl
theorem xT_colourIn {σ : Nat} (hG : XG κ g (withT G t)) (hw : WF G) (hF : 10 < F) (hp : p < Gn G) (hq : q < Gn G) (hs : σ < 2147483648) : pX2_colourIn F g κ (nI p) (nI σ) (nI q) = some (nI (cIn G p q σ)) := by
  have hq6 := hw_lt hw hq
  have h1 := wB_pos (p := p) hw (q + 1)
  have h2 := wB_le (p := p) hw (q + 1)
  have h3 := hw.h1 hq
  have h4 := hw.h4 hq
  have h5 : σ / wB G p (q + 1) < 2147483648 := Nat.lt_of_le_of_lt (Nat.div_le_self _ _) hs
  have e : mi κ (g + 1) q = nI (Gh G q) := hG.2.1 q hq
  unfold pX2_colourIn
  rw [sX2_weightBehind0 (t := t) (a := q + 1) hG hw hF hp (n_add q 1) hq]
  simp (disch := omega) only [n_0, n_1, n_2, n_3, n_4, n_5, n_6, n_7, n_8, n_9, n_10, n_12, n_13, n_14, n_20, n_31, n_32, n_63, n_64, n_600, n_1024, n_4096, n_6157, n_add, n_mul, nm_def, Option.bind_some, Option.some.injEq, ck_in, ck_nz, ck_p, n_cl, n_lt, n_le, n_eq, n_div, n_rem, if_pos, if_neg, if_true, if_false, eq_self, n_192, n_256, n_20000, m1_n0, m1_np, m1_n0p, m1_lt0, m1_lt0p, mi_setIA, mi_setI, ml_setIA, ml_setI, mr_setI, mr_setIA, e]
  rfl
theorem XG_wT (h : XG κ g G) : XG κ g (withT G (Gt G)) := h
theorem XG_tell {s k : Nat} (h : XG κ g (withT G t)) (hw : WF G) (hp : p < Gn G) (hs : s < 1024) (hk : k < 4) : XG (telK κ g p s k) g (withT G (fun q σ => if q = p ∧ σ = s then k else t q σ)) := by
  refine XG_withT (G := withT G t) h (agr_telK rfl) (fun q hq σ hσ => ?_)
  have hl := sit_le hw (p := q) hq
  have hσ2 : σ < sit G q := hσ
  rw [tol_telK κ g hs (by omega) hk]
  have e : tol κ g q σ = t q σ := h.2.2.2 q hq σ hσ
  rw [e]
theorem XG_same {t2 : Nat → Nat → Nat} (h : XG κ g (withT G t)) (ht : ∀ p, p < Gn G → ∀ σ, σ < sit G p → t2 p σ = t p σ) : XG κ g (withT G t2) := ⟨h.1, h.2.1, h.2.2.1, fun p hp σ hσ => (h.2.2.2 p hp σ hσ).trans (ht p hp σ hσ).symm⟩
theorem n_apart {s a b W : Nat} (h : a * W ≤ s) : nI s + (nI b - nI a) * nI W = nI (s - a * W + b * W) := by
  obtain ⟨x, rfl⟩ : ∃ x, s = x + a * W := ⟨s - a * W, by omega⟩
  rw [Nat.add_sub_cancel, Int32.sub_mul, n_mul, n_mul, ← n_add x (a * W), ← n_add x (b * W)]
  rw [Int32.add_assoc, Int32.add_comm (nI (a * W)), Int32.sub_add_cancel]
theorem sX0_swapSeen (hG : XG κ 1 (withT G t)) (hw : WF G) (hF : 5000 < F) (hp : p < Gn G) (hq : q < Gn G) (hs : sees G q p = true) (hc : c < Gh G p) (hd : d < Gh G p) (hcd : c ≠ d) (ht : ∀ σ, σ < sit G q → t q σ = Gt G q σ) : ∃ κ1, agr (fun k => k = 4) κ κ1 ∧ XG κ1 1 (withT G (fun r σ => if r = q then Gt G q (mv G q p c d σ) else t r σ)) ∧ pX0_swapSeen F κ (nI q) (nI p) (nI c) (nI d) = some (nI (nSee G p c d q (sit G q)), κ1) := by
  have hp6 := hw_lt hw hp
  have hq6 := hw_lt hw hq
  have h4 := hw.h4 hp
  have hsl := sit_le hw hq
  unfold pX0_swapSeen
  rw [xT_weight hG hw (by omega) hq hp, if_pos hs, Option.bind_some, nm_def, xT_situations hG hw (by omega) hq, Option.bind_some]
  obtain ⟨tt, ett⟩ : ∃ tt : Nat → Nat → Nat → Nat, tt = fun i r σ => if r = q then (if (cIn G q p σ = c ∧ σ < i) ∨ (cIn G q p σ = d ∧ mv G q p c d σ < i) then Gt G q (mv G q p c d σ) else Gt G q σ) else t r σ := ⟨_, rfl⟩
  refine lp_inv (fun fu (x : Mem × Int32) i => pX0_swapSeen_32 F (nI q) (nI p) (nI c) ((nI d - nI c) * nI (wB G q (p + 1))) (nI (sit G q)) fu x.1 x.2 (nI i)) (fun x i => agr (fun k => k = 4) κ x.1 ∧ XG x.1 1 (withT G (tt i)) ∧ x.2 = nI (nSee G p c d q i)) (sit G q) (fun x => ∃ κ1, agr (fun k => k = 4) κ κ1 ∧ XG κ1 1 (withT G (fun r σ => if r = q then Gt G q (mv G q p c d σ) else t r σ)) ∧ x = some (nI (nSee G p c d q (sit G q)), κ1)) (fun fu s hI => ?_) (fun fu s i hi hI => ?_) F (κ, 0) 0 (Nat.zero_le _) (by omega) ⟨agr_rfl, XG_same hG (fun r hr σ hσ => ?_), rfl⟩
  · obtain ⟨b1, b2, b3⟩ := hI
    refine ⟨s.1, b1, XG_same b2 (fun r hr σ hσ => ?_), ?_⟩
    · rw [ett]
      show (if r = q then Gt G q (mv G q p c d σ) else t r σ) = if r = q then (if (cIn G q p σ = c ∧ σ < sit G q) ∨ (cIn G q p σ = d ∧ mv G q p c d σ < sit G q) then Gt G q (mv G q p c d σ) else Gt G q σ) else t r σ
      by_cases e : r = q
      · subst e
        rw [if_pos rfl, if_pos rfl]
        have hm := mv_lt hw hr hs hc hd hσ
        by_cases h1 : cIn G r p σ = c
        · rw [if_pos (Or.inl ⟨h1, hσ⟩)]
        · by_cases h2 : cIn G r p σ = d
          · rw [if_pos (Or.inr ⟨h2, hm⟩)]
          · rw [if_neg (by rintro (z | z); exact h1 z.1; exact h2 z.1)]
            unfold mv rn
            rw [if_neg h1, if_neg h2, chg_self]
      · rw [if_neg e, if_neg e]
    · show pX0_swapSeen_32 F (nI q) (nI p) (nI c) _ (nI (sit G q)) (fu + 1) s.1 s.2 (nI (sit G q)) = _
      rw [pX0_swapSeen_32, b3]
      simp (disch := omega) only [n_0, n_1, n_2, n_3, n_4, n_5, n_6, n_7, n_8, n_9, n_10, n_12, n_13, n_14, n_20, n_31, n_32, n_63, n_64, n_600, n_1024, n_4096, n_6157, n_add, n_mul, nm_def, Option.bind_some, Option.some.injEq, ck_in, ck_nz, ck_p, n_cl, n_lt, n_le, n_eq, n_div, n_rem, if_pos, if_neg, if_true, if_false, eq_self, n_192, n_256, n_20000, m1_n0, m1_np, m1_n0p, m1_lt0, m1_lt0p, mi_setIA, mi_setI, ml_setIA, ml_setI, mr_setI, mr_setIA]
  · obtain ⟨b1, b2, b3⟩ := hI
    have hcl := cIn_lt (p := q) hw hp i
    have hcI := xT_colourIn (F := F) b2 hw (by omega) hq hp (show i < 2147483648 by omega)
    have hie : (nI (cIn G q p i) = nI c) = (cIn G q p i = c) := n_eq (by omega) (by omega)
    by_cases h1 : cIn G q p i = c
    · have em : mv G q p c d i = chg G q p i d := by
        unfold mv rn
        rw [if_pos h1]
      obtain ⟨j, ej⟩ : ∃ j, j = chg G q p i d := ⟨_, rfl⟩
      have hj : j < sit G q := by rw [ej, ← em]; exact mv_lt hw hq hs hc hd hi
      have cj : cIn G q p j = d := by rw [ej]; exact cIn_chg hw i hd
      have mi' : mv G q p c d i = j := em.trans ej.symm
      have mj : mv G q p c d j = i := by rw [← mi']; exact mv_mv hw hq hs hc hd hi
      have ti : tt i q i = Gt G q i := by
        rw [ett]
        show (if q = q then (if (cIn G q p i = c ∧ i < i) ∨ (cIn G q p i = d ∧ mv G q p c d i < i) then Gt G q (mv G q p c d i) else Gt G q i) else t q i) = _
        rw [if_pos rfl, if_neg (by rintro (z | z); exact Nat.lt_irrefl _ z.2; exact hcd (h1.symm.trans z.1))]
      have tj : tt i q j = Gt G q j := by
        rw [ett]
        show (if q = q then (if (cIn G q p j = c ∧ j < i) ∨ (cIn G q p j = d ∧ mv G q p c d j < i) then Gt G q (mv G q p c d j) else Gt G q j) else t q j) = _
        rw [if_pos rfl, if_neg (by rintro (z | z); exact hcd (z.1.symm.trans cj); rw [mj] at z; exact Nat.lt_irrefl _ z.2)]
      have hstep : ∀ r, r < Gn G → ∀ σ, σ < sit G r → tt (i + 1) r σ = if r = q ∧ σ = j then Gt G q i else if r = q ∧ σ = i then Gt G q j else tt i r σ := fun r hr σ hσ => by
        rw [ett]
        show (if r = q then (if (cIn G q p σ = c ∧ σ < i + 1) ∨ (cIn G q p σ = d ∧ mv G q p c d σ < i + 1) then Gt G q (mv G q p c d σ) else Gt G q σ) else t r σ) = if r = q ∧ σ = j then Gt G q i else if r = q ∧ σ = i then Gt G q j else (if r = q then (if (cIn G q p σ = c ∧ σ < i) ∨ (cIn G q p σ = d ∧ mv G q p c d σ < i) then Gt G q (mv G q p c d σ) else Gt G q σ) else t r σ)
        by_cases e : r = q
        · subst e
          rw [if_pos rfl]
          by_cases z1 : σ = j
          · rw [if_pos (show (cIn G r p σ = c ∧ σ < i + 1) ∨ (cIn G r p σ = d ∧ mv G r p c d σ < i + 1) from Or.inr ⟨by rw [z1]; exact cj, by rw [z1, mj]; omega⟩), if_pos (show r = r ∧ σ = j from ⟨rfl, z1⟩), z1, mj]
          · rw [if_neg (show ¬ (r = r ∧ σ = j) from fun w => z1 w.2)]
            by_cases z2 : σ = i
            · rw [if_pos (show (cIn G r p σ = c ∧ σ < i + 1) ∨ (cIn G r p σ = d ∧ mv G r p c d σ < i + 1) from Or.inl ⟨by rw [z2]; exact h1, by omega⟩), if_pos (show r = r ∧ σ = i from ⟨rfl, z2⟩), z2, mi']
            · rw [if_neg (show ¬ (r = r ∧ σ = i) from fun w => z2 w.2), if_pos (show r = r from rfl)]
              have hne : mv G r p c d σ ≠ i := fun w => z1 (by rw [← mi', ← w]; exact (mv_mv hw hq hs hc hd hσ).symm)
              by_cases z3 : (cIn G r p σ = c ∧ σ < i) ∨ (cIn G r p σ = d ∧ mv G r p c d σ < i)
              · rw [if_pos z3, if_pos (z3.imp (fun w => ⟨w.1, by omega⟩) (fun w => ⟨w.1, by omega⟩))]
              · rw [if_neg z3, if_neg (fun w => z3 (w.imp (fun w => ⟨w.1, by omega⟩) (fun w => ⟨w.1, by omega⟩)))]
        · rw [if_neg e, if_neg (fun w => e w.1), if_neg (fun w => e w.1), if_neg e]
      have hap : nI i + (nI d - nI c) * nI (wB G q (p + 1)) = nI j := by
        rw [ej, ← h1]
        exact n_apart (cIn_le i)
      have e1 : pX2_told 1 s.1 (nI q) (nI i) = some (nI (Gt G q i)) := by
        rw [sX2_told s.1 1 hq6 (by omega), ← ti]
        rw [show tol s.1 1 q i = tt i q i from b2.2.2.2 q hq i hi]
      have e2 : pX2_told 1 s.1 (nI q) (nI j) = some (nI (Gt G q j)) := by
        rw [sX2_told s.1 1 hq6 (by omega), ← tj]
        rw [show tol s.1 1 q j = tt i q j from b2.2.2.2 q hq j hj]
      have hti := hw.t hq hi
      have htj := hw.t hq hj
      have h4q := hw.h4 hq
      have hg : (nI (Gt G q i) = nI (Gt G q j)) = (Gt G q i = Gt G q j) := n_eq (by omega) (by omega)
      have hsm : nSee G p c d q (i + 1) = nSee G p c d q i + if cIn G q p i = c ∧ Gt G q i ≠ Gt G q (chg G q p i d) then 2 else 0 := rfl
      by_cases h2 : Gt G q i = Gt G q j
      · refine ⟨s, ⟨b1, XG_same b2 (fun r hr σ hσ => ?_), ?_⟩, ?_⟩
        · rw [hstep r hr σ hσ]
          by_cases z1 : r = q ∧ σ = j
          · rw [if_pos z1, z1.1, z1.2, tj, h2]
          · rw [if_neg z1]
            by_cases z2 : r = q ∧ σ = i
            · rw [if_pos z2, z2.1, z2.2, ti, h2]
            · rw [if_neg z2]
        · rw [b3, hsm, if_neg (by rw [← ej]; exact fun w => w.2 h2)]
          rfl
        · show pX0_swapSeen_32 F (nI q) (nI p) (nI c) _ (nI (sit G q)) (fu + 1) s.1 s.2 (nI i) = _
          rw [pX0_swapSeen_32]
          unfold pX0_swapSeen_133
          simp only [hap]
          simp (disch := omega) only [n_0, n_1, n_2, n_3, n_4, n_5, n_6, n_7, n_8, n_9, n_10, n_12, n_13, n_14, n_20, n_31, n_32, n_63, n_64, n_600, n_1024, n_4096, n_6157, n_add, n_mul, nm_def, Option.bind_some, Option.some.injEq, ck_in, ck_nz, ck_p, n_cl, n_lt, n_le, n_eq, n_div, n_rem, if_pos, if_neg, if_true, if_false, eq_self, n_192, n_256, n_20000, m1_n0, m1_np, m1_n0p, m1_lt0, m1_lt0p, mi_setIA, mi_setI, ml_setIA, ml_setI, mr_setI, mr_setIA, hcI, h1, e1, e2, h2]
      · have hk1 := XG_tell b2 hw hq (show i < 1024 by omega) (show Gt G q j < 4 by omega)
        have hk2 := XG_tell hk1 hw hq (show j < 1024 by omega) (show Gt G q i < 4 by omega)
        refine ⟨(telK (telK s.1 1 q i (Gt G q j)) 1 q j (Gt G q i), s.2 + 2), ⟨agr_trans b1 (agr_trans (agr_telK rfl) (agr_telK rfl)), XG_same hk2 (fun r hr σ hσ => hstep r hr σ hσ), ?_⟩, ?_⟩
        · show s.2 + 2 = _
          rw [b3, hsm, if_pos ⟨h1, by rw [← ej]; exact h2⟩]
          simp (disch := omega) only [n_0, n_1, n_2, n_3, n_4, n_5, n_6, n_7, n_8, n_9, n_10, n_12, n_13, n_14, n_20, n_31, n_32, n_63, n_64, n_600, n_1024, n_4096, n_6157, n_add, n_mul, nm_def, Option.bind_some, Option.some.injEq, ck_in, ck_nz, ck_p, n_cl, n_lt, n_le, n_eq, n_div, n_rem, if_pos, if_neg, if_true, if_false, eq_self, n_192, n_256, n_20000, m1_n0, m1_np, m1_n0p, m1_lt0, m1_lt0p, mi_setIA, mi_setI, ml_setIA, ml_setI, mr_setI, mr_setIA]
        · show pX0_swapSeen_32 F (nI q) (nI p) (nI c) _ (nI (sit G q)) (fu + 1) s.1 s.2 (nI i) = _
          rw [pX0_swapSeen_32]
          unfold pX0_swapSeen_133
          simp only [hap]
          simp (disch := omega) only [n_0, n_1, n_2, n_3, n_4, n_5, n_6, n_7, n_8, n_9, n_10, n_12, n_13, n_14, n_20, n_31, n_32, n_63, n_64, n_600, n_1024, n_4096, n_6157, n_add, n_mul, nm_def, Option.bind_some, Option.some.injEq, ck_in, ck_nz, ck_p, n_cl, n_lt, n_le, n_eq, n_div, n_rem, if_pos, if_neg, if_true, if_false, eq_self, n_192, n_256, n_20000, m1_n0, m1_np, m1_n0p, m1_lt0, m1_lt0p, mi_setIA, mi_setI, ml_setIA, ml_setI, mr_setI, mr_setIA, hcI, h1, e1, e2, h2, sX2_tell s.1 1 hq6 (show i < 1024 by omega), sX2_tell (telK s.1 1 q i (Gt G q j)) 1 hq6 (show j < 1024 by omega)]
    · refine ⟨s, ⟨b1, XG_same b2 (fun r hr σ hσ => ?_), ?_⟩, ?_⟩
      · rw [ett]
        show (if r = q then (if (cIn G q p σ = c ∧ σ < i + 1) ∨ (cIn G q p σ = d ∧ mv G q p c d σ < i + 1) then Gt G q (mv G q p c d σ) else Gt G q σ) else t r σ) = (if r = q then (if (cIn G q p σ = c ∧ σ < i) ∨ (cIn G q p σ = d ∧ mv G q p c d σ < i) then Gt G q (mv G q p c d σ) else Gt G q σ) else t r σ)
        by_cases e : r = q
        · subst e
          rw [if_pos rfl, if_pos rfl]
          have g1 : cIn G r p σ = c → σ ≠ i := fun w1 w2 => h1 (by rw [← w2]; exact w1)
          have g2 : cIn G r p σ = d → mv G r p c d σ ≠ i := fun w1 w2 => h1 (by
            rw [← w2]
            have hk := rn_lt hc hd (cIn_lt (p := r) hw hp σ)
            rw [show cIn G r p (mv G r p c d σ) = rn c d (cIn G r p σ) from cIn_chg hw σ hk, w1]
            unfold rn
            rw [if_neg (fun z => hcd z.symm), if_pos rfl])
          by_cases z3 : (cIn G r p σ = c ∧ σ < i) ∨ (cIn G r p σ = d ∧ mv G r p c d σ < i)
          · rw [if_pos z3, if_pos (z3.imp (fun w => ⟨w.1, by omega⟩) (fun w => ⟨w.1, by omega⟩))]
          · rw [if_neg z3, if_neg (fun w => z3 (w.imp (fun w => ⟨w.1, by have := g1 w.1; omega⟩) (fun w => ⟨w.1, by have := g2 w.1; omega⟩)))]
        · rw [if_neg e, if_neg e]
      · rw [b3]
        show nI (nSee G p c d q i) = nI (nSee G p c d q i + if cIn G q p i = c ∧ Gt G q i ≠ Gt G q (chg G q p i d) then 2 else 0)
        rw [if_neg (fun w => h1 w.1), Nat.add_zero]
      · show pX0_swapSeen_32 F (nI q) (nI p) (nI c) _ (nI (sit G q)) (fu + 1) s.1 s.2 (nI i) = _
        rw [pX0_swapSeen_32]
        unfold pX0_swapSeen_133
        simp (disch := omega) only [n_0, n_1, n_2, n_3, n_4, n_5, n_6, n_7, n_8, n_9, n_10, n_12, n_13, n_14, n_20, n_31, n_32, n_63, n_64, n_600, n_1024, n_4096, n_6157, n_add, n_mul, nm_def, Option.bind_some, Option.some.injEq, ck_in, ck_nz, ck_p, n_cl, n_lt, n_le, n_eq, n_div, n_rem, if_pos, if_neg, if_true, if_false, eq_self, n_192, n_256, n_20000, m1_n0, m1_np, m1_n0p, m1_lt0, m1_lt0p, mi_setIA, mi_setI, ml_setIA, ml_setI, mr_setI, mr_setIA, hcI, h1]
  · rw [ett]
    show (if r = q then (if (cIn G q p σ = c ∧ σ < 0) ∨ (cIn G q p σ = d ∧ mv G q p c d σ < 0) then Gt G q (mv G q p c d σ) else Gt G q σ) else t r σ) = t r σ
    by_cases e : r = q
    · subst e
      rw [if_pos rfl, if_neg (by omega), ht σ hσ]
    · rw [if_neg e]
end RNC
