/-! ALL WAYS TO GUESS -/
def dLE (f : Nat → Nat) (w j : Nat) : Nat := w / pw f 0 j % f j
theorem dLE_top {f : Nat → Nat} {N : Nat} (hf : ∀ j, j ≤ N → 0 < f j) {i j : Nat} (hi : i < f N) (hj : j < pw f 0 N) (q : Nat) (hq : q < N + 1) : dLE f (i * pw f 0 N + j) q = if q = N then i else dLE f j q := by
  unfold dLE
  by_cases e : q = N
  · subst e
    have hP : 0 < pw f 0 q := pw_pos (fun i _ h => hf i (by omega))
    rw [if_pos rfl, Nat.mul_comm, Nat.mul_add_div hP, Nat.div_eq_of_lt hj, Nat.add_zero, Nat.mod_eq_of_lt hi]
  · rw [if_neg e]
    obtain ⟨k, rfl⟩ : ∃ k, N = q + (1 + k) := ⟨N - q - 1, by omega⟩
    have hP : 0 < pw f 0 q := pw_pos (fun i _ h => hf i (by omega))
    have e1 : pw f 0 (q + (1 + k)) = pw f 0 q * (f q * pw f (q + 1) k) := by
      rw [pw_split, Nat.zero_add, Nat.add_comm 1 k, pw_cons]
    rw [e1, show i * (pw f 0 q * (f q * pw f (q + 1) k)) + j = pw f 0 q * (f q * (i * pw f (q + 1) k)) + j by
      rw [Nat.mul_left_comm i, Nat.mul_left_comm i], Nat.mul_add_div hP, Nat.mul_add_mod]
theorem dig_top {f : Nat → Nat} {N i j : Nat} (hN : 0 < f N) (hj : j < f N) (q : Nat) (hq : q < N + 1) : dig f (N + 1) (i * f N + j) q = if q = N then j else dig f N i q := by
  unfold dig
  by_cases e : q = N
  · subst e
    rw [if_pos rfl, Nat.sub_self, pw, Nat.div_one, Nat.mul_comm, Nat.mul_add_mod, Nat.mod_eq_of_lt hj]
  · rw [if_neg e, show N + 1 - (q + 1) = (N - (q + 1)) + 1 by omega, pw, show q + 1 + (N - (q + 1)) = N by omega, Nat.mul_comm (pw f (q + 1) (N - (q + 1))), ← Nat.div_div_eq_div_mul]
    rw [Nat.mul_comm i, Nat.mul_add_div hN, Nat.div_eq_of_lt hj, Nat.add_zero]
/-- in one order as in the other -/
theorem sum_LB (f : Nat → Nat) : ∀ (N : Nat) (F : (Nat → Nat) → Nat), (∀ j, j < N → 0 < f j) → (∀ d e, (∀ j, j < N → d j = e j) → F d = F e) → sm (fun w => F (dLE f w)) (pw f 0 N) = sm (fun w => F (dig f N w)) (pw f 0 N)
  | 0, F, _, hF => by
    rw [pw]
    exact sm_congr (fun w _ => hF _ _ (fun j hj => absurd hj (Nat.not_lt_zero _)))
  | N + 1, F, hf, hF => by
    have hN : 0 < f N := hf N (Nat.lt_succ_self N)
    obtain ⟨F', eF⟩ : ∃ F' : Nat → (Nat → Nat) → Nat, F' = fun c d => F (fun q => if q = N then c else d q) := ⟨_, rfl⟩
    have h1 : sm (fun w => F (dLE f w)) (pw f 0 (N + 1)) = sm (fun c => sm (fun j => F' c (dLE f j)) (pw f 0 N)) (f N) := by
      rw [pw, Nat.zero_add, Nat.mul_comm, sm_grid]
      refine sm_congr (fun i hi => sm_congr (fun j hj => ?_))
      rw [eF]
      exact hF _ _ (fun q hq => dLE_top (fun j hj => hf j (by omega)) hi hj q hq)
    have h2 : sm (fun w => F (dig f (N + 1) w)) (pw f 0 (N + 1)) = sm (fun i => sm (fun c => F' c (dig f N i)) (f N)) (pw f 0 N) := by
      rw [pw, Nat.zero_add, sm_grid]
      refine sm_congr (fun i hi => sm_congr (fun j hj => ?_))
      rw [eF]
      exact hF _ _ (fun q hq => dig_top hN hj q hq)
    rw [h1, h2, ← sm_comm (fun c i => F' c (dig f N i)) (pw f 0 N) (f N)]
    refine sm_congr (fun c hc => sum_LB f N (F' c) (fun j hj => hf j (by omega)) (fun d e hde => ?_))
    rw [eF]
    refine hF _ _ (fun j hj => ?_)
    show (if j = N then c else d j) = if j = N then c else e j
    by_cases z : j = N
    · rw [if_pos z, if_pos z]
    · rw [if_neg z, if_neg z, hde j (by omega)]
def mnF (g : Nat → Nat) : Nat → Nat
  | 0 => 4096
  | w + 1 => if g w < mnF g w then g w else mnF g w
theorem mnF_le (g : Nat → Nat) : ∀ W, mnF g W ≤ 4096 ∧ ∀ w, w < W → mnF g W ≤ g w
  | 0 => ⟨Nat.le_refl _, fun w hw => absurd hw (Nat.not_lt_zero _)⟩
  | W + 1 => by
    obtain ⟨h1, h2⟩ := mnF_le g W
    rw [mnF]
    by_cases z : g W < mnF g W
    · rw [if_pos z]
      refine ⟨by omega, fun w hw => ?_⟩
      by_cases e : w = W
      · rw [e]; exact Nat.le_refl _
      · have := h2 w (by omega); omega
    · rw [if_neg z]
      refine ⟨h1, fun w hw => ?_⟩
      by_cases e : w = W
      · rw [e]; omega
      · exact h2 w (by omega)
theorem mnF_at (g : Nat → Nat) : ∀ W, mnF g W = 4096 ∨ ∃ w, w < W ∧ g w = mnF g W
  | 0 => Or.inl rfl
  | W + 1 => by
    rw [mnF]
    by_cases z : g W < mnF g W
    · rw [if_pos z]
      exact Or.inr ⟨W, by omega, rfl⟩
    · rw [if_neg z]
      rcases mnF_at g W with h | ⟨w, h1, h2⟩
      · exact Or.inl h
      · exact Or.inr ⟨w, by omega, h2⟩
theorem mnF_half {g h : Nat → Nat} {W : Nat} (hc : ∀ v, sm (fun w => if g w = v then 1 else 0) W = sm (fun w => if h w = v then 1 else 0) W) : mnF g W ≤ mnF h W := by
  rcases mnF_at h W with e | ⟨w, h1, h2⟩
  · rw [e]; exact (mnF_le g W).1
  · have h3 := hc (mnF h W)
    have h4 := sm_term (fun w => if h w = mnF h W then 1 else 0) h1
    have h4 : (if h w = mnF h W then 1 else 0) ≤ sm (fun w => if h w = mnF h W then 1 else 0) W := h4
    rw [if_pos h2, ← h3] at h4
    have : ∃ v, v < W ∧ g v = mnF h W := by
      apply Classical.byContradiction
      intro hno
      have h0 := sm_zero (f := fun w => if g w = mnF h W then 1 else 0) (n := W) (fun i hi => if_neg (fun z => hno ⟨i, hi, z⟩))
      omega
    obtain ⟨v, v1, v2⟩ := this
    rw [← v2]
    exact (mnF_le g W).2 v v1
theorem mnF_LB (f : Nat → Nat) (N : Nat) (L : (Nat → Nat) → Nat) (hf : ∀ j, j < N → 0 < f j) (hL : ∀ d e, (∀ j, j < N → d j = e j) → L d = L e) : mnF (fun w => L (dLE f w)) (pw f 0 N) = mnF (fun w => L (dig f N w)) (pw f 0 N) := by
  have h : ∀ v, sm (fun w => if L (dLE f w) = v then 1 else 0) (pw f 0 N) = sm (fun w => if L (dig f N w) = v then 1 else 0) (pw f 0 N) := fun v => sum_LB f N (fun d => if L d = v then 1 else 0) hf (fun d e hde => by
    show (if L d = v then 1 else 0) = if L e = v then 1 else 0
    rw [hL d e hde])
  exact Nat.le_antisymm (mnF_half h) (mnF_half (fun v => (h v).symm))
section SLO
variable {G : Gm} {p s : Nat}
/-- the entries in a row -/
def bs (G : Gm) (p : Nat) : Nat := sm (sit G) p
def own (G : Gm) (j : Nat) : Nat := cnt (fun q => decide (bs G (q + 1) ≤ j)) (Gn G)
def fS (G : Gm) (j : Nat) : Nat := Gh G (own G j)
theorem bs_s (p : Nat) : bs G (p + 1) = bs G p + sit G p := rfl
theorem bs_mono {a b : Nat} (h : a ≤ b) : bs G a ≤ bs G b := sm_mono (sit G) h
theorem cnt_ltN {n p : Nat} (h : p ≤ n) : cnt (fun q => decide (q < p)) n = p := by
  rw [cnt_cut (n := p) h (fun i h1 _ => decide_eq_false (by omega))]
  have key : ∀ m, m ≤ p → cnt (fun q => decide (q < p)) m = m := by
    intro m
    induction m with
    | zero => intro _; rfl
    | succ m ih =>
      intro hm
      rw [cnt_s, ih (by omega), decide_eq_true (by omega)]
      rfl
  exact key p (Nat.le_refl _)
theorem own_eq (hp : p < Gn G) (hs : s < sit G p) : own G (bs G p + s) = p := by
  unfold own
  rw [cnt_congr (g := fun q => decide (q < p)) (fun q hq => ?_)]
  · exact cnt_ltN (by omega)
  · refine decide_eq_decide.mpr ⟨fun h => ?_, fun h => ?_⟩
    · rcases Nat.lt_or_ge q p with z | z
      · exact z
      · have h1 := bs_mono (G := G) (show p + 1 ≤ q + 1 by omega)
        have h2 := bs_s (G := G) p
        omega
    · have h1 := bs_mono (G := G) (show q + 1 ≤ p by omega)
      omega
theorem fS_eq (hp : p < Gn G) (hs : s < sit G p) : fS G (bs G p + s) = Gh G p := by
  unfold fS
  rw [own_eq hp hs]
theorem bs_lt (hp : p < Gn G) (hs : s < sit G p) : bs G p + s < bs G (Gn G) := by
  have h1 := bs_mono (G := G) (show p + 1 ≤ Gn G by omega)
  have h2 := bs_s (G := G) p
  omega
theorem bs_onto : ∀ n, n ≤ Gn G → ∀ j, j < bs G n → ∃ p s, p < n ∧ s < sit G p ∧ j = bs G p + s
  | 0, _, j, hj => absurd hj (Nat.not_lt_zero _)
  | n + 1, hn, j, hj => by
    rcases Nat.lt_or_ge j (bs G n) with z | z
    · obtain ⟨p, s, h1, h2, h3⟩ := bs_onto n (by omega) j z
      exact ⟨p, s, by omega, h2, h3⟩
    · have := bs_s (G := G) n
      exact ⟨n, j - bs G n, by omega, by omega, by omega⟩
theorem fS_pos (hw : WF G) {j : Nat} (hj : j < bs G (Gn G)) : 0 < fS G j := by
  obtain ⟨p, s, h1, h2, rfl⟩ := bs_onto (Gn G) (Nat.le_refl _) j hj
  rw [fS_eq h1 h2]
  exact hw.h1 h1
theorem pw_const {f : Nat → Nat} {a c : Nat} : ∀ {k : Nat}, (∀ i, a ≤ i → i < a + k → f i = c) → pw f a k = c ^ k
  | 0, _ => rfl
  | k + 1, h => by rw [pw, pw_const (fun i h1 h2 => h i h1 (by omega)), h (a + k) (by omega) (by omega), Nat.pow_succ]
theorem pw_bs : ∀ p, p ≤ Gn G → pw (fS G) 0 (bs G p) = pw (fun p => Gh G p ^ sit G p) 0 p
  | 0, _ => rfl
  | p + 1, h => by
    have e : pw (fS G) (0 + bs G p) (sit G p) = Gh G p ^ sit G p := pw_const (fun i h1 h2 => by
      obtain ⟨s, rfl⟩ : ∃ s, i = bs G p + s := ⟨i - bs G p, by omega⟩
      exact fS_eq (show p < Gn G by omega) (by omega))
    rw [bs_s, pw_split, pw_bs p (by omega), e, pw, Nat.zero_add]
theorem nways_S : nways G = pw (fS G) 0 (bs G (Gn G)) := (pw_bs (Gn G) (Nat.le_refl _)).symm
def tb (G : Gm) (d : Nat → Nat) (r σ : Nat) : Nat := d (bs G r + σ)
def lW (G : Gm) (d : Nat → Nat) : Nat := lst (withT G (tb G d))
theorem WF_tb (hw : WF G) {d : Nat → Nat} (hd : ∀ j, j < bs G (Gn G) → d j < fS G j) : WF (withT G (tb G d)) := WF_withT hw (fun p hp σ hσ => by
  have h1 := hd _ (bs_lt hp hσ)
  rw [fS_eq hp hσ] at h1
  exact h1)
theorem lst_same {t t2 : Nat → Nat → Nat} (hw : WF G) (h : ∀ p, p < Gn G → ∀ σ, σ < sit G p → t p σ = t2 p σ) : lst (withT G t) = lst (withT G t2) := by
  unfold lst
  refine cnt_congr (fun x _ => ?_)
  have e : rgt (withT G t) x = rgt (withT G t2) x := by
    unfold rgt
    refine msk_congr (fun p hp => ?_)
    have e2 : t p (sOf G p x) = t2 p (sOf G p x) := h p hp _ (sOf_lt hw)
    show decide (t p (sOf G p x) = col G p x) = decide (t2 p (sOf G p x) = col G p x)
    rw [e2]
  rw [e]
theorem lW_co (hw : WF G) (d e : Nat → Nat) (h : ∀ j, j < bs G (Gn G) → d j = e j) : lW G d = lW G e := lst_same hw (fun _ hp _ hσ => h _ (bs_lt hp hσ))
end SLO
