/-! LOAD: hats, links -/
def OUT (b : Nat → Int32) (n : Nat) (κ ρ : Mem) (x : Option (Int32 × Mem)) (y : Option Mem) (k : Nat) : Prop := ∃ κ1 ρ1, agr fX κ κ1 ∧ frR ρ ρ1 ∧ y = some ρ1 ∧ ((x = some (nI 1, κ1) ∧ ∃ k1 G1 hm1 gm1, k ≤ k1 ∧ AT b n κ1 ρ1 k1 ∧ GM κ1 ρ1 G1 hm1 gm1) ∨ (x = some (nI 0, κ1) ∧ BAD κ1 ρ1))
def updM (f : Nat → Nat) (k v : Nat) : Nat → Nat := fun i => if i = k then v else f i
def sH (G : Gm) (p v : Nat) : Gm := (Gn G, updM (Gh G) p v, Gs G, Gt G)
def sS (G : Gm) (p v : Nat) : Gm := (Gn G, Gh G, updM (Gs G) p v, Gt G)
def yHats (F : Nat) (ρ : Mem) : Option Mem := (pX11_takesPlayer F ρ (mi ρ 0 32)).bind fun t2 => (pX11_takesNumber F t2.2 1 4).bind fun t3 => (pX11_good t3.2).bind fun t4 => if t4 = 0 then some t3.2 else nm (setI t3.2 0 32 ((mi t3.2 0 32) ||| (1 <<< (t2.1 &&& 31)))) fun κ5 => ckI (1 + t2.1) 6157 (nm (setI κ5 2 (1 + t2.1).toNatClampNeg t3.1) fun κ6 => some κ6)
theorem yHats_eq (F : Nat) (ρ : Mem) : pX11_readsHats F ρ = (pX11_goesOn F ρ).bind (yHats F) := rfl
section LDH
variable {κ κ1 κ2 ρ ρ1 ρ2 : Mem} {b : Nat → Int32} {n k f pl lo hi F p q j v bm : Nat} {G : Gm} {x c w : Int32} {hm gm : Nat}
theorem m_has {a k : Nat} (ha : a < 2147483648) (hk : k < 32) {α : Type} {x y : α} : (if ((nI a >>> (nI k &&& 31)) &&& 1) = 1 then x else y) = if a.testBit k = true then x else y := by
  have e : (((nI a >>> (nI k &&& 31)) &&& 1) = (1 : Int32)) = (a.testBit k = true) := n_hasbit ha hk
  simp only [e]
theorem m_set {a k : Nat} (hk : k < 31) : nI a ||| (1 <<< (nI k &&& 31)) = nI (a ||| 2 ^ k) := by
  rw [show (1 : Int32) <<< (nI k &&& 31) = nI (2 ^ k) from n_shl1 hk, n_or]
theorem tb_or (a p i : Nat) : (a ||| 2 ^ p).testBit i = (a.testBit i || decide (i = p)) := by
  rw [Nat.testBit_or, Nat.testBit_two_pow]
  congr 1
  exact decide_eq_decide.mpr ⟨fun z => z.symm, fun z => z.symm⟩
theorem CUR_mv (h : CUR ρ b n q) (hc : ∀ i, 27 ≤ i ∧ i ≤ 30 → mi ρ1 0 i = mi ρ 0 i) (hl : ml ρ1 0 34 = ml ρ 0 34) : CUR ρ1 b n q := ⟨(hc 27 (by omega)).trans h.1, fun z => (hc 28 (by omega)).trans (h.2.1 z), (hc 29 (by omega)).trans h.2.2.1, fun z => (hc 30 (by omega)).trans (h.2.2.2.1 z), fun z => hl.trans (h.2.2.2.2 z)⟩
theorem WF_sH (hw : WF G) (hz : ∀ p σ, Gt G p σ = 0) (h1 : 1 ≤ v) (h4 : v ≤ 4) : WF (sH G p v) := by
  refine ⟨hw.1, fun r hr => ?_⟩
  have hr2 : r < Gn G := hr
  obtain ⟨a1, a2, a3, a4⟩ := hw.2 r hr2
  have eh : Gh (sH G p v) r = if r = p then v else Gh G r := rfl
  have e1 : 1 ≤ Gh (sH G p v) r ∧ Gh (sH G p v) r ≤ 4 := by
    rw [eh]
    by_cases e : r = p
    · rw [if_pos e]; exact ⟨h1, h4⟩
    · rw [if_neg e]; exact a1
  refine ⟨e1, a2, a3, fun σ _ => ?_⟩
  have e2 : Gt (sH G p v) r σ = 0 := hz r σ
  rw [e2]
  omega
theorem WF_sS (hw : WF G) (hz : ∀ p σ, Gt G p σ = 0) (hq : q < Gn G) (hpq : q ≠ p) : WF (sS G p (Gs G p ||| 2 ^ q)) := by
  refine ⟨hw.1, fun r hr => ?_⟩
  have hr2 : r < Gn G := hr
  obtain ⟨a1, a2, a3, a4⟩ := hw.2 r hr2
  have es : Gs (sS G p (Gs G p ||| 2 ^ q)) r = if r = p then Gs G p ||| 2 ^ q else Gs G r := rfl
  refine ⟨a1, ?_, ?_, fun σ _ => ?_⟩
  · show Gs (sS G p (Gs G p ||| 2 ^ q)) r < 2 ^ Gn G
    rw [es]
    by_cases e : r = p
    · rw [if_pos e]
      subst e
      exact Nat.or_lt_two_pow a2 (Nat.pow_lt_pow_right (by decide) hq)
    · rw [if_neg e]; exact a2
  · show (Gs (sS G p (Gs G p ||| 2 ^ q)) r).testBit r = false
    rw [es]
    by_cases e : r = p
    · rw [if_pos e, tb_or, decide_eq_false (show ¬ r = q by omega), Bool.or_false, ← e]; exact a3
    · rw [if_neg e]; exact a3
  · have e2 : Gt (sS G p (Gs G p ||| 2 ^ q)) r σ = 0 := hz r σ
    rw [e2]
    exact a1.1
theorem AT.s (h : AT b n κ ρ k) : k ≤ tkN b n ∧ mi κ 138 4 = nI k ∧ CUR ρ b n (tkP b n k) := h.1
theorem isB1 {α : Type} {x : Option α} : ckP (isB (nI 1)) x = x := rfl
theorem isB0 {α : Type} {x : Option α} : ckP (isB (nI 0)) x = x := rfl
theorem GM.p6 (h : GM κ ρ G hm gm) : Gn G ≤ 6 := h.2.2.1.1.1
theorem sL_hats (hs : ST b n κ ρ) (hF : 5000 < F) (ha : AT b n κ ρ k) (hg : GM κ ρ G hm gm) (h1 : 1 ≤ Gn G) (hz : gm = 0) : OUT b n κ ρ (pX6_readHats κ) (yHats F ρ) k := by
  obtain ⟨⟨hk, h4, hc⟩, h25, x1, x2⟩ := ha
  have hq := hg.p6
  have hP := tP_le (k := k) hs
  have m7 := hg.2.2.2.1
  have z0 := hg.2.2.1.2.2 hz
  unfold pX6_readHats yHats
  rw [m7.2.2]
  by_cases c : tK b n k = 2 ∧ tV b n k < Gn G
  · obtain ⟨c1, c2⟩ := c
    obtain ⟨V, eV⟩ : ∃ V, V = tV b n k := ⟨_, rfl⟩
    have hV6 : V < 6 := by omega
    rw [xL_player_t hs hk h4 hg.1.1 hq c1 c2, Option.bind_some, ← eV]
    obtain ⟨κa, eκa⟩ : ∃ κa, κa = setI (setI κ 138 5 (nI V)) 138 4 (nI (k + 1)) := ⟨_, rfl⟩
    have aa : agr fX κ κa := by rw [eκa]; exact agr_trans (agr_setI (Or.inr (Or.inl rfl))) (agr_setI (Or.inr (Or.inl rfl)))
    have ma : ∀ i, i ≠ 4 → i ≠ 5 → mi κa 138 i = mi κ 138 i := fun i i4 i5 => by rw [eκa, mi_setI, if_neg (fun z => i4 z.2), mi_setI, if_neg (fun z => i5 z.2)]
    have ma4 : mi κa 138 4 = nI (k + 1) := by rw [eκa, mi_setI, if_pos ⟨rfl, rfl⟩]
    have ma5 : mi κa 138 5 = nI V := by rw [eκa, mi_setI, if_neg (by omega), mi_setI, if_pos ⟨rfl, rfl⟩]
    rw [← eκa]
    dsimp only
    rw [if_neg (show ¬ nI 1 = 0 by decide), nm_def, ma5, ma 7 (by decide) (by decide), m7.2.1, m_has (by omega) (by omega), ma4]
    by_cases d : hm.testBit V = true
    · obtain ⟨κ1, a1, a2, a3⟩ := xL_fail (κ := κa) (hs.fr aa frR_rfl) hk 4
      obtain ⟨ρ1, b1, b2, b3⟩ := rL_player_f (F := F) hs hk hc h25 hg.2.1.1 h1 hq m7.1 (fun z => by rw [← eV, d] at z; cases z.2.2)
      rw [if_pos ⟨c1, c2⟩] at b2
      refine ⟨κ1, ρ1, agr_trans aa a1, b1.R, ?_, Or.inr ⟨?_, 4, tkP b n k, hP, a2, b2⟩⟩
      · rw [b3, Option.bind_some, show pX11_takesNumber F ρ1 1 4 = _ from rL_number_b b2, Option.bind_some, rL_good_b b2]
        rfl
      · rw [if_pos d, show nI (k + 1) - 1 = nI k from n_sub (a := k + 1) (b := 1) (by omega), show (4 : Int32) = nI 4 from rfl, a3]
        rfl
    · have d2 : hm.testBit V = false := by simpa using d
      obtain ⟨ρ1, b1, b2, b3, b4, b5⟩ := rL_player_t hs hF hk hc h25 hg.2.1.1 hq c1 c2 m7.1 (by rw [← eV]; exact d2)
      rw [← eV] at b5
      rw [if_neg d, m_set (by omega), b5, Option.bind_some]
      obtain ⟨κ5, eκ5⟩ : ∃ κ5, κ5 = setI κa 138 7 (nI (hm ||| 2 ^ V)) := ⟨_, rfl⟩
      have a5 : agr fX κ κ5 := by rw [eκ5]; exact agr_trans aa (agr_setI (Or.inr (Or.inl rfl)))
      have h45 : mi κ5 138 4 = nI (k + 1) := by rw [eκ5, mi_setI, if_neg (by omega)]; exact ma4
      have hs1 : ST b n κ5 ρ1 := hs.fr a5 (frR_L b1)
      have hP1 := tP_le (k := k + 1) hs
      rw [nm_def, ← eκ5]
      dsimp only
      by_cases e : tK b n (k + 1) = 2 ∧ 1 ≤ tV b n (k + 1) ∧ tV b n (k + 1) ≤ 4
      · obtain ⟨e1, e2, e3⟩ := e
        obtain ⟨W, eW⟩ : ∃ W, W = tV b n (k + 1) := ⟨_, rfl⟩
        obtain ⟨ρ2, c1', c2', c3', c4', c5'⟩ := rL_number_t (F := F) hs1 hF b3 b2 b4 e1 e2 e3 (by decide)
        rw [← eW] at c5'
        rw [show pX6_readNumber κ5 1 4 = _ from xL_number_t hs1 b3 h45 e1 e2 e3 (by decide), Option.bind_some, ← eW]
        obtain ⟨κc, eκc⟩ : ∃ κc, κc = setI (setI κ5 138 5 (nI W)) 138 4 (nI (k + 1 + 1)) := ⟨_, rfl⟩
        have mc : ∀ i, i ≠ 4 → i ≠ 5 → mi κc 138 i = mi κ5 138 i := fun i i4 i5 => by rw [eκc, mi_setI, if_neg (fun z => i4 z.2), mi_setI, if_neg (fun z => i5 z.2)]
        have mc4 : mi κc 138 4 = nI (k + 1 + 1) := by rw [eκc, mi_setI, if_pos ⟨rfl, rfl⟩]
        have mc5 : mi κc 138 5 = nI W := by rw [eκc, mi_setI, if_neg (by omega), mi_setI, if_pos ⟨rfl, rfl⟩]
        have ac : agr (fun c => c = 138 ∨ c = 139) κ κc := by rw [eκc, eκ5, eκa]; exact agr_trans (agr_trans (agr_trans (agr_setI (Or.inl rfl)) (agr_setI (Or.inl rfl))) (agr_setI (Or.inl rfl))) (agr_trans (agr_setI (Or.inl rfl)) (agr_setI (Or.inl rfl)))
        have m5 : ∀ i, i ≠ 7 → mi κ5 138 i = mi κa 138 i := fun i i7 => by rw [eκ5, mi_setI, if_neg (fun z => i7 z.2)]
        have hgx : GX κc G := hg.1.fr ac
        have hgr : GR ρ2 G := (hg.2.1.fr b1).fr c1'
        rw [← eκc]
        dsimp only
        rw [if_neg (show ¬ nI 1 = 0 by decide), ck_in hV6 (by decide), n_cl (by omega), mc5, nm_def]
        rw [show pX11_takesNumber F ρ1 1 4 = _ from c5', Option.bind_some, rL_good_t c4', Option.bind_some, if_neg (show ¬ nI 1 = 0 by decide)]
        have r32 : mi ρ2 0 32 = nI hm := (c1'.2 32 (by omega)).trans ((b1.2 32 (by omega)).trans m7.2.2)
        rw [r32, m_set (by omega), show (1 : Int32) = nI 1 from rfl, n_add, nm_def, ck_in (by omega) (by decide), n_cl (by omega), nm_def]
        refine ⟨_, _, agr_trans (agr_mono ac (fun c hc => Or.inr hc)) (agr_setI (Or.inl (by omega))), frR_trans (frR_trans (frR_L b1) (frR_L c1')) (frR_trans (frR_I (by omega)) frR_2), rfl, Or.inl ⟨rfl, k + 1 + 1, sH G V W, hm ||| 2 ^ V, gm, by omega, ?_, ?_⟩⟩
        · refine ⟨⟨c3', by rw [mi_setI, if_neg (by omega)]; exact mc4, CUR_mv c2' (fun i hi => by rw [mi_setI, if_neg (by omega), mi_setI, if_neg (by omega)]) rfl⟩, by rw [mi_setI, if_neg (by omega), mi_setI, if_neg (by omega)]; exact c4', ?_, ?_⟩
          · rw [mi_setI, if_neg (by omega), mc 1 (by decide) (by decide), m5 1 (by decide), ma 1 (by decide) (by decide)]; exact x1
          · rw [mi_setI, if_neg (by omega), mc 2 (by decide) (by decide), m5 2 (by decide), ma 2 (by decide) (by decide)]; exact x2
        · refine ⟨⟨?_, fun p hp => ⟨?_, ?_, fun σ hσ => ?_⟩⟩, ⟨?_, fun p hp => ⟨fun z => ?_, ?_, fun σ hσ => ?_⟩⟩, ⟨WF_sH hg.2.2.1.1 z0 (by omega) (by omega), fun z => ?_, fun _ => z0⟩, ⟨n_setb hm m7.1 V hV6, ?_, ?_⟩, ⟨hg.2.2.2.2.1, ?_, ?_⟩⟩
          · rw [mi_setI, if_neg (by omega)]; exact hgx.1
          · show mi _ 10 p = nI (if p = V then W else Gh G p)
            rw [mi_setI]
            by_cases y : p = V
            · rw [if_pos ⟨rfl, y⟩, if_pos y]
            · rw [if_neg (fun z => y z.2), if_neg y]; exact (hgx.2 p hp).1
          · rw [mi_setI, if_neg (by omega)]; exact (hgx.2 p hp).2.1
          · rw [tol_setI]; exact (hgx.2 p hp).2.2 σ hσ
          · rw [mi_setI, if_neg (by omega), mi_setI, if_neg (by omega)]; exact hgr.1
          · show mi _ 2 (1 + p) = nI (if p = V then W else Gh G p)
            rw [mi_setI]
            by_cases y : p = V
            · rw [if_pos ⟨rfl, by omega⟩, if_pos y]
            · rw [if_neg (fun z => y (by omega)), if_neg y, mi_setI, if_neg (by omega)]; exact (hgr.2 p hp).1 (by omega)
          · rw [mi_setI, if_neg (by omega), mi_setI, if_neg (by omega)]; exact (hgr.2 p hp).2.1
          · rw [mi_setI, if_neg (by omega), mi_setI, if_neg (by omega)]; exact (hgr.2 p hp).2.2 σ hσ
          · have z2 : Gn G = 0 := z
            omega
          · rw [mi_setI, if_neg (by omega), mc 7 (by decide) (by decide), eκ5, mi_setI, if_pos ⟨rfl, rfl⟩]
          · rw [mi_setI, if_neg (by omega), mi_setI, if_pos ⟨rfl, rfl⟩]
          · rw [mi_setI, if_neg (by omega), mc 8 (by decide) (by decide), m5 8 (by decide), ma 8 (by decide) (by decide)]; exact hg.2.2.2.2.2.1
          · rw [mi_setI, if_neg (by omega), mi_setI, if_neg (by omega), c1'.2 33 (by omega), b1.2 33 (by omega)]; exact hg.2.2.2.2.2.2
      · obtain ⟨κ1, g1, g2, g3⟩ := xL_number_f hs1 b3 h45 e (by decide) (by decide)
        obtain ⟨ρ2, j1, j2, j3⟩ := rL_number_f (F := F) hs1 b3 b2 b4 e (by decide) (by decide)
        refine ⟨κ1, ρ2, agr_trans a5 g1, frR_trans (frR_L b1) j1.R, ?_, Or.inr ⟨?_, _, _, hP1, g2, j2⟩⟩
        · rw [show pX11_takesNumber F ρ1 1 4 = _ from j3, Option.bind_some, rL_good_b j2]
          rfl
        · rw [show pX6_readNumber κ5 1 4 = _ from g3]
          rfl
  · obtain ⟨κ1, a1, a2, a3⟩ := xL_player_f hs hk h4 hg.1.1 h1 hq c
    obtain ⟨ρ1, b1, b2, b3⟩ := rL_player_f (F := F) hs hk hc h25 hg.2.1.1 h1 hq m7.1 (fun z => c ⟨z.1, z.2.1⟩)
    rw [if_neg c] at b2
    refine ⟨κ1, ρ1, a1, b1.R, ?_, Or.inr ⟨?_, _, _, hP, a2, b2⟩⟩
    · rw [b3, Option.bind_some, show pX11_takesNumber F ρ1 1 4 = _ from rL_number_b b2, Option.bind_some, rL_good_b b2]
      rfl
    · rw [a3]
      rfl
end LDH
