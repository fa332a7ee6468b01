/-! CALLS: print -/
section CP
variable {ρ ρ1 ρ2 κ κ1 : Mem} {G : Gm} {H : Nat → Gm} {L w : List Nat} {D F m p q : Nat}
theorem IV.pr (h : IV G H m κ ρ) (aX : agr (fun k => k = 0 ∨ (144 ≤ k ∧ k ≤ 146)) κ κ1) (sX : ∀ i, i = 11 ∨ i = 13 ∨ i = 14 → mi κ1 0 i = mi κ 0 i) (aM : agr (fun k => k = 0 ∨ k = 11 ∨ k = 12) ρ ρ1) (sM : ∀ i, i = 6 ∨ i = 22 ∨ i = 23 ∨ i = 24 → mi ρ1 0 i = mi ρ 0 i) (hp : IPr κ1 ρ1) (hs : mi κ1 0 12 = mi ρ1 0 0) : IV G H m κ1 ρ1 := by
  obtain ⟨⟨hw, hA, hJ, hR⟩, ⟨hh1, hh2, hh3⟩, ⟨⟨n0, q1, q2, q3, q4⟩, -, ⟨f1, f2⟩, hwd⟩, -⟩ := h
  refine ⟨⟨hw, ⟨hA.1.agr aX (by omega) (by omega) (by omega) (by omega), by rw [agr_mi aX (by omega)]; exact hA.c, fun p hp => by rw [agr_mi aX (by omega)]; exact hA.pl hp, fun p hp x hx => by have := hw_lt hw hp; rw [agr_mi aX (by omega)]; exact hA.si hp hx⟩, hJ.ag aX (by omega) (by omega), hR.agr aM (by omega)⟩, ⟨hh1, hh2.ag aX (fun k hk => by unfold hC; omega), ⟨(sM 6 (by omega)).trans hh3.1, fun j hj => RP_mv (hh3.2 j hj) (hh1.2 j hj) (fun i _ => agr_mi aM (by omega) _)⟩⟩, ⟨⟨n0, q1, by rw [sX 11 (by omega)]; exact q2, by rw [sM 22 (by omega)]; exact q3, fun i hi => by rw [agr_mi aX (by omega), agr_mi aM (by omega)]; exact q4 i hi⟩, hp, ⟨by rw [sX 13 (by omega), sM 23 (by omega)]; exact f1, by rw [sX 14 (by omega), sM 24 (by omega)]; exact f2⟩, fun i hi => by rw [agr_ml aM (by omega)]; exact hwd i hi⟩, hs⟩
theorem prG_0 (z : Gn G = 0) : prG G = [] := by
  unfold prG prP
  rw [if_pos z, z]
  rfl
theorem c_print (h : IV G H m κ ρ) (hF : 50000 < F) : Res (pX10_print F κ) (pX11_print F ρ) := by
  have hw := h.W
  have hn := hw.n6
  obtain ⟨l, p1, p2, p3, p4, p5⟩ := h.2.2.1.2.1
  have hL := prG_le (G := G) hw
  -- the class
  obtain ⟨D, T, hDT, eD, eT⟩ : ∃ D T, ((D = 145 ∧ T = 146) ∨ (D = 146 ∧ T = 145)) ∧ mr κ 144 2 = D ∧ mr κ 144 0 = T := by
    rcases p4 with z | z
    · exact ⟨146, 145, Or.inr ⟨rfl, rfl⟩, z.2, z.1⟩
    · exact ⟨145, 146, Or.inl ⟨rfl, rfl⟩, z.2, z.1⟩
  have hd0 : DP D (setI κ 144 3 0) [] := ⟨by omega, by rw [mi_setI, if_pos ⟨rfl, rfl⟩]; rfl, eD, fun i hi => by simp at hi⟩
  have hG0 : XG (setI κ 144 3 0) 1 G := XG_setI h.A.1 (by omega)
  obtain ⟨κ2, a1, a2, a3⟩ := x_write (F := F) hd0 hG0 hw (by omega)
  have ag2 : agr (fun k => k = 0 ∨ (144 ≤ k ∧ k ≤ 146)) κ κ2 := agr_trans (agr_setI (by omega)) (agr_mono a2.1 (fun k hk => by omega))
  have ag02 : ∀ i, mi κ2 0 i = mi κ 0 i := fun i => by
    rw [agr_mi a2.1 (by omega), mi_setI, if_neg (by omega)]
  have e144 : mi κ2 144 1 = nI l := by rw [a2.2.2, mi_setI, if_neg (by omega)]; exact p2
  have eT2 : mr κ2 144 0 = T := a2.2.1.trans eT
  -- the reference
  have hR0 := R0 h (k := 0)
  have hro0 : RO (setI (st0 ρ 0) 0 20 0) [] := ⟨by rw [mi_setI, if_pos ⟨rfl, rfl⟩]; rfl, fun i hi => by simp at hi⟩
  have hRs : RG (setI (st0 ρ 0) 0 20 0) 1 G := hR0.agr (S := fun k => k = 0) (agr_setI rfl) (by omega)
  have q0 : qf2 (st0 ρ 0) (setI (st0 ρ 0) 0 20 0) := ⟨fun k a b => ⟨by simp [setI, a], rfl, rfl⟩, fun i hi => by rw [mi_setI, if_neg (fun z => hi z.2)]⟩
  have hM : ∃ ρ2, RO ρ2 (prG G) ∧ qf2 (st0 ρ 0) ρ2 ∧ pX11_print F ρ = pX11_print_22 F ρ2 := by
    unfold pX11_print
    by_cases z : Gn G = 0
    · refine ⟨setI (st0 ρ 0) 0 20 0, by rw [prG_0 z]; exact hro0, q0, ?_⟩
      simp only [x_give, x_refuse, rX_refuse, rX_is0, rX_is1, rX_is2, rX_is3, rX_is4, rX_is5, rX_is7, nBt, nBf, o10, Bool.not_true, Bool.not_false, if_true, if_false, eq_self, Option.bind_some, nm_def, rX_players hRs]
      rw [z, if_pos (by decide)]
    · obtain ⟨ρ2, b1, b2, b3⟩ := r_saysGame (F := F) hro0 hRs hw (by omega) z
      refine ⟨ρ2, b1, qf2_trans q0 b2, ?_⟩
      have e : ¬ nI (Gn G) ≤ 0 := by rw [n_0, n_le (by omega) (by decide)]; omega
      simp only [x_give, x_refuse, rX_refuse, rX_is0, rX_is1, rX_is2, rX_is3, rX_is4, rX_is5, rX_is7, nBt, nBf, o10, Bool.not_true, Bool.not_false, if_true, if_false, eq_self, Option.bind_some, nm_def, rX_players hRs]
      rw [if_neg e, b3]
      rfl
  obtain ⟨ρ2, b1, b2, b3⟩ := hM
  have agM : agr (fun k => k = 0 ∨ k = 11 ∨ k = 12) ρ ρ2 := fun k hk => by
    have h1 := b2.1 k (fun z => hk (Or.inl z)) (fun z => hk (Or.inr (Or.inl z)))
    have h2 := st0_c (ρ := ρ) (k := 0) (c := k) (fun z => hk (Or.inl z))
    exact ⟨h1.1.trans h2, h1.2.1, h1.2.2⟩
  have sM2 : ∀ i, i ≠ 20 → i ≠ 0 → i ≠ 1 → mi ρ2 0 i = mi ρ 0 i := fun i h1 h2 h3 => (b2.2 i h1).trans (st0_i h2 h3)
  have s00 : mi ρ2 0 0 = 0 := (b2.2 0 (by omega)).trans st0_0
  rw [b3]
  unfold pX10_print pX10_print_33 pX5_write pX11_print_22
  rw [nm_def, a3, a1.2.1, b1.1, a1.2.2.1, eT2]
  by_cases c : (prG G).length ≤ 600
  · have c2 : nI (prG G).length ≤ 600 := by rw [n_600, n_le (by omega) (by decide)]; exact c
    have eB : isPB T = true ∧ isPB D = true := by
      unfold isPB
      rcases hDT with ⟨rfl, rfl⟩ | ⟨rfl, rfl⟩ <;> exact ⟨rfl, rfl⟩
    have e40 := r_print40 (F := F) b1.1 c (by omega)
    rw [if_pos c2, if_pos c2, e40, eB.1, eB.2]
    simp only [x_give, x_refuse, rX_refuse, rX_is0, rX_is1, rX_is2, rX_is3, rX_is4, rX_is5, rX_is7, nBt, nBf, o10, Bool.not_true, Bool.not_false, if_true, if_false, eq_self, Option.bind_some, ck_p, nm_def]
    have eL : mi (setI (setR (setR κ2 144 0 D) 144 2 T) 144 1 (mi (setR (setR κ2 144 0 D) 144 2 T) 144 3)) 144 1 = nI (prG G).length := by
      rw [mi_setI, if_pos ⟨rfl, rfl⟩]
      exact a1.2.1
    rw [eL]
    refine ⟨nI (prG G).length, _, _, ⟨G, H, m, h.pr (agr_trans ag2 ?_) (fun i hi => ?_) (agr_trans agM ?_) (fun i hi => ?_) ⟨(prG G).length, c, ?_, ?_, ?_, fun i hi => ?_⟩ ?_⟩, rfl, rfl⟩
    · intro k hk
      have h1 : k ≠ 0 := fun z => hk (Or.inl z)
      have h2 : k ≠ 144 := fun z => hk (Or.inr (by omega))
      refine ⟨by simp [setI, setR, h1, h2], rfl, ?_⟩
      funext j
      show (if k = 144 ∧ j = 2 then T else if k = 144 ∧ j = 0 then D else κ2.2.2 k j) = κ2.2.2 k j
      rw [if_neg (fun z => h2 z.1), if_neg (fun z => h2 z.1)]
    · rw [mi_setI, if_neg (by omega), mi_setI, if_neg (by omega)]
      exact ag02 i
    · exact agr_trans (agr_setIA (Or.inr (Or.inr rfl))) (agr_setI (Or.inl rfl))
    · rw [mi_setI, if_neg (by omega), mi_setIA, if_neg (by omega)]
      exact sM2 i (by omega) (by omega) (by omega)
    · rw [mi_setI, if_neg (by omega)]
      exact eL
    · rw [mi_setI, if_pos ⟨rfl, rfl⟩]
    · have q0' : mr (setI (setI (setR (setR κ2 144 0 D) 144 2 T) 144 1 (mi (setR (setR κ2 144 0 D) 144 2 T) 144 3)) 0 12 0) 144 0 = D := by
        show (if (144 : Nat) = 144 ∧ 0 = 2 then T else if (144 : Nat) = 144 ∧ 0 = 0 then D else mr κ2 144 0) = D
        simp
      have q2' : mr (setI (setI (setR (setR κ2 144 0 D) 144 2 T) 144 1 (mi (setR (setR κ2 144 0 D) 144 2 T) 144 3)) 0 12 0) 144 2 = T := by
        show (if (144 : Nat) = 144 ∧ 2 = 2 then T else mr (setR κ2 144 0 D) 144 2) = T
        simp
      rw [q0', q2']
      omega
    · have er : mr (setI (setI (setR (setR κ2 144 0 D) 144 2 T) 144 1 (mi (setR (setR κ2 144 0 D) 144 2 T) 144 3)) 0 12 0) 144 0 = D := by
        show (if (144 : Nat) = 144 ∧ 0 = 2 then T else if (144 : Nat) = 144 ∧ 0 = 0 then D else mr κ2 144 0) = D
        simp
      have hDn : D = 145 ∨ D = 146 := by omega
      rw [er, mi_setI, if_neg (by omega), mi_setI, if_neg (by omega), mi_setI, if_neg (by omega), mi_setIA, if_pos rfl, wr_in (Nat.zero_le _) hi]
      have h1 : mi κ2 D i = nI ((prG G).getD i 0) := a1.2.2.2 i hi (by omega)
      have h2 : mi ρ2 11 i = nI ((prG G).getD i 0) := b1.2 i hi
      show mi κ2 D i = mi ρ2 11 i
      rw [h1, h2]
    · rw [mi_setI, if_pos ⟨rfl, rfl⟩, mi_setI, if_neg (by omega), mi_setIA, if_neg (by omega)]
      exact s00.symm
  · have c2 : ¬ nI (prG G).length ≤ 600 := by rw [n_600, n_le (by omega) (by decide)]; exact c
    rw [if_neg c2, if_neg c2]
    simp only [x_give, x_refuse, rX_refuse, rX_is0, rX_is1, rX_is2, rX_is3, rX_is4, rX_is5, rX_is7, nBt, nBf, o10, Bool.not_true, Bool.not_false, if_true, if_false, eq_self, Option.bind_some]
    refine ⟨-1, _, _, ⟨G, H, m, h.pr (agr_trans ag2 (agr_setI (Or.inl rfl))) (fun i hi => ?_) (agr_trans agM (agr_setI (Or.inl rfl))) (fun i hi => ?_) ⟨l, p1, ?_, ?_, ?_, fun i hi => ?_⟩ ?_⟩, rfl, rfl⟩
    · rw [mi_setI, if_neg (by omega)]
      exact ag02 i
    · rw [mi_setI, if_neg (by omega)]
      exact sM2 i (by omega) (by omega) (by omega)
    · rw [mi_setI, if_neg (by omega)]
      exact e144
    · rw [mi_setI, if_neg (by omega), sM2 19 (by omega) (by omega) (by omega)]
      exact p3
    · show (mr κ2 144 0 = 145 ∧ mr κ2 144 2 = 146) ∨ (mr κ2 144 0 = 146 ∧ mr κ2 144 2 = 145)
      rw [eT2, a1.2.2.1]
      omega
    · have er : mr (setI κ2 0 12 3) 144 0 = T := eT2
      have hT : T = 145 ∨ T = 146 := by omega
      rw [er, mi_setI, if_neg (by omega), mi_setI, if_neg (by omega), agr_mi a2.1 (by omega), mi_setI, if_neg (by omega)]
      have h1 := p5 i hi
      rw [eT] at h1
      rw [h1]
      have h2 := b2.1 12 (by omega) (by omega)
      have h3 := st0_c (ρ := ρ) (k := 0) (c := 12) (by omega)
      exact (congrFun (h2.1.trans h3) i).symm
    · rw [mi_setI, if_pos ⟨rfl, rfl⟩, mi_setI, if_pos ⟨rfl, rfl⟩]
end CP
