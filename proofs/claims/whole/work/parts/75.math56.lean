/-! ALL WAYS TO GUESS: the reference -/
theorem lp_ex {σ β : Type} (f : Nat → σ → Nat → β) (I : σ → Nat → Prop) (n : Nat) (Q : β → Prop) (he : ∀ fu s, I s n → Q (f (fu + 1) s n)) (hs : ∀ fu s i, i < n → I s i → Q (f (fu + 1) s i) ∨ ∃ s', I s' (i + 1) ∧ f (fu + 1) s i = f fu s' (i + 1)) : ∀ fu s a, a ≤ n → n - a < fu → I s a → Q (f fu s a) := by
  intro fu
  induction fu with
  | zero => intro s a _ h; omega
  | succ fu ih =>
    intro s a h1 h2 h3
    rcases Nat.lt_or_ge a n with z | z
    · rcases hs fu s a z h3 with q | ⟨s', q1, q2⟩
      · exact q
      · rw [q2]
        exact ih s' (a + 1) z (by omega) q1
    · have : a = n := by omega
      subst this
      exact he fu s h3
section WR
variable {ρ ρ1 : Mem} {G : Gm} {F p q w : Nat} {t : Nat → Nat → Nat}
theorem dLE_up {f : Nat → Nat} {w j : Nat} (hf : ∀ i, i ≤ j → 0 < f i) (hz : (w + 1) % pw f 0 j = 0) (hd : dLE f w j + 1 < f j) (i : Nat) : dLE f (w + 1) i = if i < j then 0 else if i = j then dLE f w j + 1 else dLE f w i := by
  have hP : 0 < pw f 0 j := pw_pos (fun i _ h => hf i (by omega))
  obtain ⟨k, ek⟩ : ∃ k, w + 1 = pw f 0 j * k := ⟨(w + 1) / pw f 0 j, (Nat.mul_div_cancel' (Nat.dvd_of_mod_eq_zero hz)).symm⟩
  have hk : 0 < k := by
    rcases Nat.eq_zero_or_pos k with z | z
    · subst z; rw [Nat.mul_zero] at ek; omega
    · exact z
  obtain ⟨k, rfl⟩ : ∃ k', k = k' + 1 := ⟨k - 1, by omega⟩
  have ew : w = pw f 0 j * k + (pw f 0 j - 1) := by rw [Nat.mul_succ] at ek; omega
  have e1 : w / pw f 0 j = k := by
    rw [ew, Nat.mul_add_div hP, Nat.div_eq_of_lt (by omega), Nat.add_zero]
  have e2 : (w + 1) / pw f 0 j = k + 1 := by rw [ek, Nat.mul_div_cancel_left _ hP]
  have hfj := hf j (Nat.le_refl _)
  unfold dLE at hd ⊢
  rw [e1] at hd
  by_cases h1 : i < j
  · rw [if_pos h1]
    obtain ⟨c, rfl⟩ : ∃ c, j = i + (1 + c) := ⟨j - i - 1, by omega⟩
    have hP2 : 0 < pw f 0 i := pw_pos (fun i _ h => hf i (by omega))
    rw [ek, pw_split, Nat.zero_add, Nat.add_comm 1 c, pw_cons, Nat.mul_assoc, Nat.mul_div_cancel_left _ hP2, Nat.mul_assoc, Nat.mul_mod_right]
  · rw [if_neg h1]
    by_cases h2 : i = j
    · subst h2
      rw [if_pos rfl, e1, e2, Nat.add_mod]
      rw [Nat.mod_eq_of_lt (show 1 < f i by omega), Nat.mod_eq_of_lt hd]
    · rw [if_neg h2]
      obtain ⟨c, rfl⟩ : ∃ c, i = j + (1 + c) := ⟨i - j - 1, by omega⟩
      have e3 : (k + 1) / f j = k / f j := by
        have h3 := Nat.div_add_mod k (f j)
        have h4 : k + 1 = f j * (k / f j) + (k % f j + 1) := by omega
        rw [h4, Nat.mul_add_div hfj, Nat.div_eq_of_lt hd, Nat.add_zero]
      rw [pw_split, Nat.zero_add, Nat.add_comm 1 c, pw_cons, ← Nat.div_div_eq_div_mul, ← Nat.div_div_eq_div_mul, ← Nat.div_div_eq_div_mul, ← Nat.div_div_eq_div_mul, e1, e2, e3]
theorem dLE_max {f : Nat → Nat} {w j : Nat} (hf : ∀ i, i ≤ j → 0 < f i) (hz : (w + 1) % pw f 0 j = 0) (hd : ¬ dLE f w j + 1 < f j) : (w + 1) % pw f 0 (j + 1) = 0 := by
  have hP : 0 < pw f 0 j := pw_pos (fun i _ h => hf i (by omega))
  obtain ⟨k, ek⟩ : ∃ k, w + 1 = pw f 0 j * k := ⟨(w + 1) / pw f 0 j, (Nat.mul_div_cancel' (Nat.dvd_of_mod_eq_zero hz)).symm⟩
  have hk : 0 < k := by
    rcases Nat.eq_zero_or_pos k with z | z
    · subst z; rw [Nat.mul_zero] at ek; omega
    · exact z
  obtain ⟨k, rfl⟩ : ∃ k', k = k' + 1 := ⟨k - 1, by omega⟩
  have ew : w = pw f 0 j * k + (pw f 0 j - 1) := by rw [Nat.mul_succ] at ek; omega
  have e1 : w / pw f 0 j = k := by
    rw [ew, Nat.mul_add_div hP, Nat.div_eq_of_lt (by omega), Nat.add_zero]
  have hfj := hf j (Nat.le_refl _)
  have hm := Nat.mod_lt k hfj
  unfold dLE at hd
  rw [e1] at hd
  have h3 := Nat.div_add_mod k (f j)
  have h5 : (k + 1) % f j = 0 := by
    have h4 : k + 1 = f j * (k / f j + 1) := by rw [Nat.mul_add, Nat.mul_one]; omega
    rw [h4, Nat.mul_mod_right]
  rw [pw, Nat.zero_add, ek, Nat.mul_mod_mul_left, h5, Nat.mul_zero]
/-- the w-th way lies in the tables -/
def RW (ρ : Mem) (G : Gm) (w : Nat) : Prop := RG ρ 1 (withT G (tb G (dLE (fS G) w)))
theorem rX_nextWay (h : RW ρ G w) (hw : WF G) (hF : 5000 < F) (hl : w < pw (fS G) 0 (bs G (Gn G))) : ∃ ρ1, agr (fun k => k = 1) ρ ρ1 ∧ (w + 1 < pw (fS G) 0 (bs G (Gn G)) → RW ρ1 G (w + 1)) ∧ (∃ t, RG ρ1 1 (withT G t)) ∧ pX11_nextWay F ρ = some (if w + 1 < pw (fS G) 0 (bs G (Gn G)) then 1 else 0, ρ1) := by
  have hn := hw.n6
  obtain ⟨tt, ett⟩ : ∃ tt : Nat → Nat → Nat → Nat, tt = fun j r σ => if bs G r + σ < j then 0 else dLE (fS G) w (bs G r + σ) := ⟨_, rfl⟩
  obtain ⟨N, eN⟩ : ∃ N, N = bs G (Gn G) := ⟨_, rfl⟩
  have hfp : ∀ j, j < N → 0 < fS G j := fun j hj => fS_pos hw (by rw [← eN]; exact hj)
  rw [← eN] at hl ⊢
  unfold pX11_nextWay
  refine lp_ex (fun fu (s : Mem) i => pX11_nextWay_2 F fu s (nI i)) (fun s i => agr (fun k => k = 1) ρ s ∧ RG s 1 (withT G (tt (bs G i))) ∧ (w + 1) % pw (fS G) 0 (bs G i) = 0) (Gn G) (fun x => ∃ ρ1, agr (fun k => k = 1) ρ ρ1 ∧ (w + 1 < pw (fS G) 0 N → RW ρ1 G (w + 1)) ∧ (∃ t, RG ρ1 1 (withT G t)) ∧ x = some (if w + 1 < pw (fS G) 0 N then 1 else 0, ρ1)) (fun fu s hS => ?_) (fun fu s p hp hS => ?_) F ρ 0 (Nat.zero_le _) (by omega) ⟨agr_rfl, RG_same h (fun r hr σ hσ => ?_), ?_⟩
  · obtain ⟨b1, b2, b3⟩ := hS
    rw [← eN] at b3
    have hlast : ¬ w + 1 < pw (fS G) 0 N := fun z => by
      rw [Nat.mod_eq_of_lt z] at b3
      omega
    refine ⟨s, b1, fun z => absurd z hlast, ⟨_, b2⟩, ?_⟩
    show pX11_nextWay_2 F (fu + 1) s (nI (Gn G)) = _
    rw [pX11_nextWay_2, rH_players b2, if_neg hlast]
    simp (disch := omega) only [n_0, n_1, n_2, n_3, n_4, n_5, n_6, n_7, n_8, n_9, n_10, n_12, n_13, n_14, n_20, n_31, n_32, n_63, n_64, n_600, n_1024, n_4096, n_6157, n_add, n_mul, nm_def, Option.bind_some, Option.some.injEq, ck_in, ck_nz, ck_p, n_cl, n_lt, n_le, n_eq, n_div, n_rem, if_pos, if_neg, if_true, if_false, eq_self, n_192, n_256, n_20000, m1_n0, m1_np, m1_n0p, m1_lt0, m1_lt0p, mi_setIA, mi_setI, ml_setIA, ml_setI, mr_setI, mr_setIA]
  · obtain ⟨b1, b2, b3⟩ := hS
    have hp6 := hw_lt hw hp
    have hsl := sit_le hw hp
    have h4 := hw.h4 hp
    show (∃ ρ1, _ ∧ _ ∧ _ ∧ pX11_nextWay_2 F (fu + 1) s (nI p) = _) ∨ ∃ s', _ ∧ pX11_nextWay_2 F (fu + 1) s (nI p) = pX11_nextWay_2 F fu s' (nI (p + 1))
    rw [pX11_nextWay_2, rH_players b2]
    simp (disch := omega) only [n_0, n_1, n_2, n_3, n_4, n_5, n_6, n_7, n_8, n_9, n_10, n_12, n_13, n_14, n_20, n_31, n_32, n_63, n_64, n_600, n_1024, n_4096, n_6157, n_add, n_mul, nm_def, Option.bind_some, Option.some.injEq, ck_in, ck_nz, ck_p, n_cl, n_lt, n_le, n_eq, n_div, n_rem, if_pos, if_neg, if_true, if_false, eq_self, n_192, n_256, n_20000, m1_n0, m1_np, m1_n0p, m1_lt0, m1_lt0p, mi_setIA, mi_setI, ml_setIA, ml_setI, mr_setI, mr_setIA]
    refine lp_ex (fun fu2 (s : Mem) i => pX11_nextWay_12 F (pX11_nextWay_2 F fu) (nI p) fu2 s (nI i)) (fun s i => agr (fun k => k = 1) ρ s ∧ RG s 1 (withT G (tt (bs G p + i))) ∧ (w + 1) % pw (fS G) 0 (bs G p + i) = 0) (sit G p) (fun x => (∃ ρ1, agr (fun k => k = 1) ρ ρ1 ∧ (w + 1 < pw (fS G) 0 N → RW ρ1 G (w + 1)) ∧ (∃ t, RG ρ1 1 (withT G t)) ∧ x = some (if w + 1 < pw (fS G) 0 N then 1 else 0, ρ1)) ∨ ∃ s', (agr (fun k => k = 1) ρ s' ∧ RG s' 1 (withT G (tt (bs G (p + 1)))) ∧ (w + 1) % pw (fS G) 0 (bs G (p + 1)) = 0) ∧ x = pX11_nextWay_2 F fu s' (nI (p + 1))) (fun fu2 s hS => ?_) (fun fu2 s i hi hS => ?_) F s 0 (Nat.zero_le _) (by omega) ⟨b1, b2, b3⟩
    · obtain ⟨c1, c2, c3⟩ := hS
      refine Or.inr ⟨s, ⟨c1, c2, c3⟩, ?_⟩
      show pX11_nextWay_12 F (pX11_nextWay_2 F fu) (nI p) (fu2 + 1) s (nI (sit G p)) = _
      rw [pX11_nextWay_12, rH_situations c2 hw (by omega) hp]
      simp (disch := omega) only [n_0, n_1, n_2, n_3, n_4, n_5, n_6, n_7, n_8, n_9, n_10, n_12, n_13, n_14, n_20, n_31, n_32, n_63, n_64, n_600, n_1024, n_4096, n_6157, n_add, n_mul, nm_def, Option.bind_some, Option.some.injEq, ck_in, ck_nz, ck_p, n_cl, n_lt, n_le, n_eq, n_div, n_rem, if_pos, if_neg, if_true, if_false, eq_self, n_192, n_256, n_20000, m1_n0, m1_np, m1_n0p, m1_lt0, m1_lt0p, mi_setIA, mi_setI, ml_setIA, ml_setI, mr_setI, mr_setIA]
    · obtain ⟨c1, c2, c3⟩ := hS
      have hj := bs_lt hp hi
      rw [← eN] at hj
      have hff : fS G (bs G p + i) = Gh G p := fS_eq hp hi
      have e1 := rH_entry c2 hw hp hi
      have e2 : tt (bs G p + i) p i = dLE (fS G) w (bs G p + i) := by rw [ett]; exact if_neg (Nat.lt_irrefl _)
      rw [e2] at e1
      have hdl : dLE (fS G) w (bs G p + i) < Gh G p := by
        rw [← hff]; exact Nat.mod_lt _ (hfp _ hj)
      by_cases z : dLE (fS G) w (bs G p + i) + 1 < Gh G p
      · refine Or.inl (Or.inl ⟨setI s 1 (13 + 1024 * p + i) (nI (dLE (fS G) w (bs G p + i) + 1)), agr_trans c1 (agr_setI rfl), fun _ => ?_, ⟨_, RG_enter c2 hw hp hi _⟩, ?_⟩)
        · refine RG_same (RG_enter c2 hw hp hi _) (fun r hr σ hσ => ?_)
          have hu := dLE_up (f := fS G) (w := w) (j := bs G p + i) (fun i hi => hfp i (by omega)) c3 (by rw [hff]; exact z) (bs G r + σ)
          show dLE (fS G) (w + 1) (bs G r + σ) = if r = p ∧ σ = i then dLE (fS G) w (bs G p + i) + 1 else tt (bs G p + i) r σ
          rw [hu, ett]
          by_cases y : r = p ∧ σ = i
          · obtain ⟨y1, y2⟩ := y
            subst y1 y2
            rw [if_neg (Nat.lt_irrefl _), if_pos rfl, if_pos ⟨rfl, rfl⟩]
          · rw [if_neg y]
            show _ = if bs G r + σ < bs G p + i then 0 else dLE (fS G) w (bs G r + σ)
            by_cases y2 : bs G r + σ < bs G p + i
            · rw [if_pos y2, if_pos y2]
            · rw [if_neg y2, if_neg y2, if_neg (fun e => y ?_)]
              have o1 := own_eq hr hσ
              have o2 := own_eq hp hi
              rw [e, o2] at o1
              subst o1
              exact ⟨rfl, by omega⟩
        · have hnl : w + 1 < pw (fS G) 0 N := by
            rcases Nat.lt_or_ge (w + 1) (pw (fS G) 0 N) with y | y
            · exact y
            · exfalso
              have ew : w + 1 = pw (fS G) 0 N := by omega
              have hu := dLE_up (f := fS G) (w := w) (j := bs G p + i) (fun i hi => hfp i (by omega)) c3 (by rw [hff]; exact z) (bs G p + i)
              rw [if_neg (Nat.lt_irrefl _), if_pos rfl] at hu
              obtain ⟨c, ec⟩ : ∃ c, N = (bs G p + i) + (1 + c) := ⟨N - (bs G p + i) - 1, by omega⟩
              have hP2 : 0 < pw (fS G) 0 (bs G p + i) := pw_pos (fun i _ h => hfp i (by omega))
              unfold dLE at hu
              rw [ew, ec, pw_split, Nat.zero_add, Nat.add_comm 1 c, pw_cons, Nat.mul_div_cancel_left _ hP2, Nat.mul_mod_right] at hu
              omega
          show pX11_nextWay_12 F (pX11_nextWay_2 F fu) (nI p) (fu2 + 1) s (nI i) = _
          rw [if_pos hnl, pX11_nextWay_12, rH_situations c2 hw (by omega) hp, e1, rH_hats c2 hw hp]
          simp (disch := omega) only [n_0, n_1, n_2, n_3, n_4, n_5, n_6, n_7, n_8, n_9, n_10, n_12, n_13, n_14, n_20, n_31, n_32, n_63, n_64, n_600, n_1024, n_4096, n_6157, n_add, n_mul, nm_def, Option.bind_some, Option.some.injEq, ck_in, ck_nz, ck_p, n_cl, n_lt, n_le, n_eq, n_div, n_rem, if_pos, if_neg, if_true, if_false, eq_self, n_192, n_256, n_20000, m1_n0, m1_np, m1_n0p, m1_lt0, m1_lt0p, mi_setIA, mi_setI, ml_setIA, ml_setI, mr_setI, mr_setIA, z, rX_enters s hp6 (show i < 1024 by omega)]
      · refine Or.inr ⟨setI s 1 (13 + 1024 * p + i) (nI 0), ⟨agr_trans c1 (agr_setI rfl), RG_same (RG_enter c2 hw hp hi 0) (fun r hr σ hσ => ?_), dLE_max (j := bs G p + i) (fun i hi => hfp i (by omega)) c3 (by rw [hff]; exact z)⟩, ?_⟩
        · rw [ett]
          show (if bs G r + σ < bs G p + (i + 1) then 0 else dLE (fS G) w (bs G r + σ)) = if r = p ∧ σ = i then 0 else (if bs G r + σ < bs G p + i then 0 else dLE (fS G) w (bs G r + σ))
          by_cases y : r = p ∧ σ = i
          · rw [if_pos y, if_pos (by rw [y.1, y.2]; omega)]
          · rw [if_neg y]
            by_cases y2 : bs G r + σ < bs G p + i
            · rw [if_pos y2, if_pos (by omega)]
            · rw [if_neg y2, if_neg (fun e => y ?_)]
              have e3 : bs G r + σ = bs G p + i := by omega
              have o1 := own_eq hr hσ
              have o2 := own_eq hp hi
              rw [e3, o2] at o1
              subst o1
              exact ⟨rfl, by omega⟩
        · show pX11_nextWay_12 F (pX11_nextWay_2 F fu) (nI p) (fu2 + 1) s (nI i) = pX11_nextWay_12 F (pX11_nextWay_2 F fu) (nI p) fu2 _ (nI (i + 1))
          rw [pX11_nextWay_12, rH_situations c2 hw (by omega) hp, e1, rH_hats c2 hw hp]
          simp (disch := omega) only [n_0, n_1, n_2, n_3, n_4, n_5, n_6, n_7, n_8, n_9, n_10, n_12, n_13, n_14, n_20, n_31, n_32, n_63, n_64, n_600, n_1024, n_4096, n_6157, n_add, n_mul, nm_def, Option.bind_some, Option.some.injEq, ck_in, ck_nz, ck_p, n_cl, n_lt, n_le, n_eq, n_div, n_rem, if_pos, if_neg, if_true, if_false, eq_self, n_192, n_256, n_20000, m1_n0, m1_np, m1_n0p, m1_lt0, m1_lt0p, mi_setIA, mi_setI, ml_setIA, ml_setI, mr_setI, mr_setIA, z, rX_enters s hp6 (show i < 1024 by omega)]
  · rw [ett]
    exact if_neg (Nat.not_lt_zero _)
  · exact Nat.mod_one _
end WR
