/-! RENUMBERINGS COUNTED: the class -/
/-- one brought forward -/
def bfc (to fr i : Nat) : Nat := if i = to then fr else if to < i ∧ i ≤ fr then i - 1 else i
theorem PI_bfc {n to fr : Nat} (h : to ≤ fr) (hf : fr < n) : PI n (bfc to fr) := by
  refine ⟨fun i hi => ?_, fun i j hi hj e => ?_⟩
  · unfold bfc
    by_cases z : i = to
    · rw [if_pos z]; exact hf
    · rw [if_neg z]
      by_cases z2 : to < i ∧ i ≤ fr
      · rw [if_pos z2]; omega
      · rw [if_neg z2]; exact hi
  · unfold bfc at e
    by_cases z : i = to
    · rw [if_pos z] at e
      by_cases y : j = to
      · omega
      · rw [if_neg y] at e
        by_cases y2 : to < j ∧ j ≤ fr
        · rw [if_pos y2] at e; omega
        · rw [if_neg y2] at e; omega
    · rw [if_neg z] at e
      by_cases z2 : to < i ∧ i ≤ fr
      · rw [if_pos z2] at e
        by_cases y : j = to
        · rw [if_pos y] at e; omega
        · rw [if_neg y] at e
          by_cases y2 : to < j ∧ j ≤ fr
          · rw [if_pos y2] at e; omega
          · rw [if_neg y2] at e; omega
      · rw [if_neg z2] at e
        by_cases y : j = to
        · rw [if_pos y] at e; omega
        · rw [if_neg y] at e
          by_cases y2 : to < j ∧ j ≤ fr
          · rw [if_pos y2] at e; omega
          · rw [if_neg y2] at e; omega
theorem bfc_to {to fr : Nat} : bfc to fr to = fr := if_pos rfl
theorem bfc_lt {to fr i : Nat} (h : i < to) : bfc to fr i = i := by
  unfold bfc
  rw [if_neg (by omega), if_neg (by omega)]
def bf (f : Nat → Nat) (to fr : Nat) : Nat → Nat := fun i => f (bfc to fr i)
/-- the rest in some order -/
def ob (n : Nat) : Nat → (Nat → Nat) → Nat → Nat → Nat
  | 0, f, _ => f
  | d + 1, f, r => ob n d (bf f (n - (d + 1)) (n - (d + 1) + r % (d + 1))) (r / (d + 1))
def fct : Nat → Nat
  | 0 => 1
  | d + 1 => (d + 1) * fct d
theorem ob_ok {n : Nat} : ∀ d, d ≤ n → ∀ f r, PI n f → PI n (ob n d f r) ∧ ∀ i, i < n - d → ob n d f r i = f i
  | 0, _, f, r, h => ⟨h, fun _ _ => rfl⟩
  | d + 1, hd, f, r, h => by
    have hm : r % (d + 1) < d + 1 := Nat.mod_lt r (Nat.succ_pos d)
    have h1 : PI n (bf f (n - (d + 1)) (n - (d + 1) + r % (d + 1))) := PI_comp (f := f) (g := bfc (n - (d + 1)) (n - (d + 1) + r % (d + 1))) h (PI_bfc (by omega) (by omega))
    obtain ⟨a1, a2⟩ := ob_ok d (by omega) _ (r / (d + 1)) h1
    refine ⟨a1, fun i hi => ?_⟩
    rw [ob, a2 i (by omega)]
    unfold bf
    rw [bfc_lt hi]
theorem ob_all {n : Nat} : ∀ d, d ≤ n → ∀ f π, PI n f → PI n π → (∀ i, i < n - d → f i = π i) → ∃ r, r < fct d ∧ ∀ i, i < n → ob n d f r i = π i
  | 0, _, f, π, _, _, he => ⟨0, Nat.one_pos, fun i hi => he i hi⟩
  | d + 1, hd, f, π, hf, hπ, he => by
    obtain ⟨j, hj, e⟩ := PI_onto hf (hπ.1 (n - (d + 1)) (by omega))
    have hj2 : n - (d + 1) ≤ j := by
      rcases Nat.lt_or_ge j (n - (d + 1)) with z | z
      · have := hπ.2 j (n - (d + 1)) hj (by omega) ((he j z).symm.trans e)
        omega
      · exact z
    have h1 : PI n (bf f (n - (d + 1)) j) := PI_comp (f := f) (g := bfc (n - (d + 1)) j) hf (PI_bfc hj2 hj)
    obtain ⟨r, r1, r2⟩ := ob_all d (by omega) (bf f (n - (d + 1)) j) π h1 hπ (fun i hi => by
      unfold bf
      by_cases z : i = n - (d + 1)
      · rw [z, bfc_to]; exact e
      · rw [bfc_lt (by omega)]; exact he i (by omega))
    have e1 : ((j - (n - (d + 1))) + (d + 1) * r) % (d + 1) = j - (n - (d + 1)) := by
      rw [Nat.add_mul_mod_self_left, Nat.mod_eq_of_lt (by omega)]
    have e2 : ((j - (n - (d + 1))) + (d + 1) * r) / (d + 1) = r := by
      rw [Nat.add_mul_div_left _ _ (Nat.succ_pos d), Nat.div_eq_of_lt (by omega), Nat.zero_add]
    refine ⟨(j - (n - (d + 1))) + (d + 1) * r, ?_, fun i hi => ?_⟩
    · rw [fct]
      have := Nat.mul_le_mul_left (d + 1) (show r + 1 ≤ fct d from r1)
      rw [Nat.mul_add, Nat.mul_one] at this
      omega
    · rw [ob, e1, e2, show n - (d + 1) + (j - (n - (d + 1))) = j by omega]
      exact r2 i hi
section GRP
variable {G : Gm} {n : Nat}
theorem alb_congr {f g : Nat → Bool} {n : Nat} (h : ∀ i, i < n → f i = g i) : alb f n = alb g n := by
  unfold alb
  rw [exb_congr (fun i hi => by rw [h i hi])]
theorem bool_iff {a b : Bool} (h : a = true ↔ b = true) : a = b := by
  cases a <;> cases b
  · rfl
  · exact absurd (h.mpr rfl) (by decide)
  · exact absurd (h.mp rfl) (by decide)
  · rfl
theorem fitB_iff {π : Nat → Nat} : fitB G π = true ↔ ∀ p, p < Gn G → Gh G p = Gh G (π p) ∧ ∀ q, q < Gn G → sees G p q = sees G (π p) (π q) := by
  unfold fitB
  rw [alb_iff]
  constructor
  · intro h p hp
    have h1 := h p hp
    rw [Bool.and_eq_true, alb_iff] at h1
    exact ⟨of_decide_eq_true h1.1, fun q hq => of_decide_eq_true (h1.2 q hq)⟩
  · intro h p hp
    rw [Bool.and_eq_true, alb_iff]
    exact ⟨decide_eq_true (h p hp).1, fun q hq => decide_eq_true ((h p hp).2 q hq)⟩
theorem GQ_fit : GQ (Gn G) (fitB G) := by
  refine ⟨fun f g h => bool_iff ?_, fun π g h1 h2 h3 => bool_iff ?_, ?_⟩
  · rw [fitB_iff, fitB_iff]
    constructor
    · intro k p hp
      rw [← h p hp]
      exact ⟨(k p hp).1, fun q hq => by rw [← h q hq]; exact (k p hp).2 q hq⟩
    · intro k p hp
      rw [h p hp]
      exact ⟨(k p hp).1, fun q hq => by rw [h q hq]; exact (k p hp).2 q hq⟩
  · have h2 := fitB_iff.mp h2
    rw [fitB_iff, fitB_iff]
    constructor
    · intro k p hp
      have h4 := h2 (g p) (h3.1 p hp)
      exact ⟨(k p hp).1.trans h4.1.symm, fun q hq => ((k p hp).2 q hq).trans (h4.2 (g q) (h3.1 q hq)).symm⟩
    · intro k p hp
      have h4 := h2 (g p) (h3.1 p hp)
      exact ⟨(k p hp).1.trans h4.1, fun q hq => ((k p hp).2 q hq).trans (h4.2 (g q) (h3.1 q hq))⟩
  · rw [fitB_iff]
    exact fun p hp => ⟨rfl, fun q hq => rfl⟩
theorem keepA_iff {π : Nat → Nat} : keepA G π = true ↔ ∀ p, p < Gn G → ∀ s, s < sit G p → Gt G p s = Gt G (π p) (carr G π p s) := by
  unfold keepA keepP
  rw [alb_iff]
  constructor
  · intro h p hp s hs
    exact of_decide_eq_true ((alb_iff _ _).mp (h p hp) s hs)
  · intro h p hp
    rw [alb_iff]
    exact fun s hs => decide_eq_true (h p hp s hs)
theorem carr_co {f g : Nat → Nat} {p s : Nat} (h : ∀ i, i < Gn G → f i = g i) (hp : p < Gn G) : carr G f p s = carr G g p s := by
  unfold carr
  refine sm_congr (fun r hr => ?_)
  rw [h p hp, h r hr]
theorem carr_id {p s : Nat} (hp : p < Gn G) (hs : s < sit G p) : carr G (fun i => i) p s = s := by
  have h := sO_sum (G := G) (p := p) (fun q => cIn G p q s)
  rw [sO_cIn hp hs] at h
  refine Eq.trans ?_ h.symm
  unfold carr
  refine sm_congr (fun r hr => ?_)
  cases c : sees G p r
  · rw [wgt_f c, Nat.mul_zero]; rfl
  · rfl
theorem cIn_sO (hw : WF G) {p q : Nat} {d : Nat → Nat} (hp : p < Gn G) (hs : sees G p q = true) (hd : ∀ i, i < Gn G → d i < Gh G i) : cIn G p q (sO G p d) = d q := by
  have hq := hw.see_lt hp hs
  have h1 : dig (fac G p) (Gn G) (sO G p d) q = _ := dig_hor (f := fac G p) (d := fun q => if sees G p q then d q else 0) (n := Gn G) (q := q) (fun i hi => by
    show (if sees G p i = true then d i else 0) < fac G p i
    cases c : sees G p i
    · rw [fac_f c]; exact Nat.one_pos
    · rw [fac_t c]; exact hd i hi) hq
  rw [dig_fac hp, hs] at h1
  exact h1
theorem carr_comp (hw : WF G) {π g : Nat → Nat} {p s : Nat} (h1 : PI (Gn G) π) (hf : fitB G π = true) (h3 : PI (Gn G) g) (hg : fitB G g = true) (hp : p < Gn G) : carr G (fun i => π (g i)) p s = carr G π (g p) (carr G g p s) := by
  obtain ⟨ψ, hP⟩ := PI_Pm h3
  have e1 := carr_sO hg hP hp s
  have e2 : carr G π (g p) (carr G g p s) = sm (fun r => if sees G (g p) r then cIn G (g p) r (carr G g p s) * wgt G (π (g p)) (π r) else 0) (Gn G) := rfl
  rw [e2, ← sm_perm hP]
  unfold carr
  refine sm_congr (fun r hr => ?_)
  show _ = if sees G (g p) (g r) = true then cIn G (g p) (g r) _ * wgt G (π (g p)) (π (g r)) else 0
  rw [← fitB_s hg hp hr]
  cases c : sees G p r
  · rfl
  · rw [if_pos rfl, if_pos rfl]
    have e3 : cIn G (g p) (g r) (carr G g p s) = cIn G p r s := by
      rw [e1, cIn_sO hw (h3.1 p hp) (by rw [← fitB_s hg hp hr]; exact c) (fun i hi => by
        have a1 := (hP.2 i hi).1
        have a2 := fitB_h hg a1
        rw [(hP.2 i hi).2.2] at a2
        rw [← a2]
        exact cIn_lt hw a1 s), (hP.2 r hr).2.1]
    exact congrArg (· * wgt G (π (g p)) (π (g r))) e3.symm
theorem GQ_keep (hw : WF G) : GQ (Gn G) (fun π => fitB G π && keepA G π) := by
  refine ⟨fun f g h => ?_, fun π g h1 h2 h3 => ?_, ?_⟩
  · have e1 : keepA G f = keepA G g := bool_iff (by
      rw [keepA_iff, keepA_iff]
      constructor
      · intro k p hp s hs
        rw [← carr_co h hp, ← h p hp]
        exact k p hp s hs
      · intro k p hp s hs
        rw [carr_co h hp, h p hp]
        exact k p hp s hs)
    show (fitB G f && keepA G f) = (fitB G g && keepA G g)
    rw [e1, GQ_fit.co f g h]
  · have h2 : (fitB G π && keepA G π) = true := h2
    rw [Bool.and_eq_true] at h2
    show (fitB G (fun i => π (g i)) && keepA G (fun i => π (g i))) = (fitB G g && keepA G g)
    rw [GQ_fit.mu π g h1 h2.1 h3]
    cases hg : fitB G g
    · rfl
    · rw [Bool.true_and, Bool.true_and]
      have hk := keepA_iff.mp h2.2
      obtain ⟨ψ, hP⟩ := PI_Pm h3
      refine bool_iff ?_
      rw [keepA_iff, keepA_iff]
      constructor
      · intro k p hp s hs
        have := k p hp s hs
        rw [carr_comp hw h1 h2.1 h3 hg hp] at this
        rw [this]
        exact (hk (g p) (h3.1 p hp) _ (carr_lt hw hg hP hp s)).symm
      · intro k p hp s hs
        rw [carr_comp hw h1 h2.1 h3 hg hp, k p hp s hs]
        exact hk (g p) (h3.1 p hp) _ (carr_lt hw hg hP hp s)
  · show (fitB G (fun i => i) && keepA G (fun i => i)) = true
    rw [Bool.and_eq_true]
    refine ⟨GQ_fit.one, ?_⟩
    rw [keepA_iff]
    intro p hp s hs
    rw [carr_id hp hs]
/-- those of the first kind, and of the second -/
def Qk (G : Gm) (k : Bool) (π : Nat → Nat) : Bool := fitB G π && (!k || keepA G π)
theorem GQ_Qk (hw : WF G) (k : Bool) : GQ (Gn G) (Qk G k) := by
  cases k
  · have : Qk G false = fitB G := by
      funext π
      unfold Qk
      simp
    rw [this]
    exact GQ_fit
  · have : Qk G true = fun π => fitB G π && keepA G π := by
      funext π
      unfold Qk
      simp
    rw [this]
    exact GQ_keep hw
end GRP
