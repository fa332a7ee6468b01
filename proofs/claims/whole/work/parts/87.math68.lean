/-! LOAD: who sees whom -/
def ySight (F : Nat) (v1 : Int32) (ρ : Mem) : Option Mem := (pX11_takesPlayer F ρ 0).bind fun t2 => if (mi t2.2 0 29) = 2 then pX11_readsSight_24 F t2.2 v1 t2.1 1 else pX11_readsSight_24 F t2.2 v1 t2.1 0
theorem ySight_eq (F : Nat) (v1 : Int32) (ρ : Mem) : pX11_readsSight F ρ v1 = (pX11_goesOn F ρ).bind (ySight F v1) := rfl
section LDS
variable {κ κ1 κ2 ρ ρ1 ρ2 : Mem} {b : Nat → Int32} {n k f pl lo hi F p q j v bm : Nat} {G : Gm} {x c w : Int32} {hm gm : Nat}
theorem GX_s (h : GX κ G) : GX (setI κ 11 p (nI v)) (sS G p v) := ⟨by rw [mi_setI, if_neg (by omega)]; exact h.1, fun r hr => ⟨by rw [mi_setI, if_neg (by omega)]; exact (h.2 r hr).1, by
  show mi _ 11 r = nI (if r = p then v else Gs G r)
  rw [mi_setI]
  by_cases y : r = p
  · rw [if_pos ⟨rfl, y⟩, if_pos y]
  · rw [if_neg (fun z => y z.2), if_neg y]; exact (h.2 r hr).2.1, fun σ hσ => by rw [tol_setI]; exact (h.2 r hr).2.2 σ hσ⟩⟩
theorem GR_s (h : GR ρ G) (hp : p < 6) : GR (setI ρ 2 (7 + p) (nI v)) (sS G p v) := ⟨by rw [mi_setI, if_neg (by omega)]; exact h.1, fun r hr => ⟨fun z => by rw [mi_setI, if_neg (by omega)]; exact (h.2 r hr).1 z, by
  show mi _ 2 (7 + r) = nI (if r = p then v else Gs G r)
  rw [mi_setI]
  by_cases y : r = p
  · rw [if_pos ⟨rfl, by omega⟩, if_pos y]
  · rw [if_neg (fun z => y (by omega)), if_neg y]; exact (h.2 r hr).2.1, fun σ hσ => by rw [mi_setI, if_neg (by omega)]; exact (h.2 r hr).2.2 σ hσ⟩⟩
theorem rL_63_b (h : RB ρ f pl) : pX11_readsSight_63 F ρ c w x = some ρ := by
  unfold pX11_readsSight_63
  rw [rL_must_b h, Option.bind_some, rL_good_b h]
  rfl
theorem rL_24_b (h : RB ρ f pl) : pX11_readsSight_24 F ρ c w x = some ρ := by
  obtain ⟨t, e⟩ := rL_isIn ρ (mi ρ 0 30) 0 (mi ρ 2 (0 : Int32).toNatClampNeg - 1)
  have e2 : pX11_isIn ρ (mi ρ 0 30).toInt64 0 (mi ρ 2 (0 : Int32).toNatClampNeg - 1).toInt64 = some (nI t.toNat) := e
  unfold pX11_readsSight_24 pX11_readsSight_62
  rw [rL_must_b h, Option.bind_some, rL_63_b h, rL_63_b h, show ckI (0 : Int32) 6157 = ckI (nI 0) 6157 from rfl, ck_in (by decide) (by decide), e2, Option.bind_some]
  split
  · rfl
  · split <;> rfl
theorem ySight_b (h : RB ρ f pl) (v1 : Int32) (e : pX11_takesPlayer F ρ1 0 = some (nI 0, ρ)) : ySight F v1 ρ1 = some ρ := by
  unfold ySight
  rw [e, Option.bind_some, rL_24_b h, rL_24_b h]
  split <;> rfl
theorem sL_85 {lk : Bool} (hs : ST b n κ ρ) (ha : AT b n κ ρ k) (hg : GM κ ρ G hm gm) (hz : gm = 0) (hp : p < Gn G) (hq : q < Gn G) (hpq : q ≠ p) : ∃ κ1 ρ1 G1, agr fX κ κ1 ∧ frR ρ ρ1 ∧ AT b n κ1 ρ1 k ∧ GM κ1 ρ1 G1 hm gm ∧ pX6_readSight_85 κ (nI lk.toNat) (nI p) (nI q) = some (nI 1, κ1) ∧ (nm (7 + nI p) fun x12 => ckI x12 6157 (ckI x12 6157 (nm (setI ρ 2 x12.toNatClampNeg ((mi ρ 2 x12.toNatClampNeg) ||| (1 <<< (nI q &&& 31)))) fun κ13 => if nI lk.toNat = 0 then pX11_readsSight_172 F κ13 else nm (7 + nI q) fun x14 => ckI x14 6157 (ckI x14 6157 (nm (setI κ13 2 x14.toNatClampNeg ((mi κ13 2 x14.toNatClampNeg) ||| (1 <<< (nI p &&& 31)))) fun κ15 => pX11_readsSight_172 F κ15))))) = some ρ1 := by
  have hn := hg.p6
  have hp6 : p < 6 := by omega
  have hq6 : q < 6 := by omega
  have hw := hg.2.2.1.1
  have z0 := hg.2.2.1.2.2 hz
  obtain ⟨⟨hk, h4, hc⟩, h25, x1, x2⟩ := ha
  have w1 := WF_sS (p := p) hw z0 hq hpq
  have g1 : GX (setI κ 11 p (nI (Gs G p ||| 2 ^ q))) (sS G p (Gs G p ||| 2 ^ q)) := GX_s hg.1
  have g2 : GR (setI ρ 2 (7 + p) (nI (Gs G p ||| 2 ^ q))) (sS G p (Gs G p ||| 2 ^ q)) := GR_s hg.2.1 hp6
  have eq1 : Gs (sS G p (Gs G p ||| 2 ^ q)) q = Gs G q := if_neg hpq
  have sx := (hg.1.2 p hp6).2.1
  have sr := (hg.2.1.2 p hp6).2.1
  have s7 : (7 : Int32) = nI 7 := rfl
  cases lk
  · have ex : pX6_readSight_85 κ (nI false.toNat) (nI p) (nI q) = some (nI 1, setI κ 11 p (nI (Gs G p ||| 2 ^ q))) := by
      unfold pX6_readSight_85 pX6_readSight_119
      rw [ck_in hp6 (by decide), ck_in hp6 (by decide), n_cl (by omega), sx, m_set (by omega), nm_def]
      rfl
    rw [ex, s7, n_add, n_add, nm_def, ck_in (by omega) (by decide), ck_in (by omega) (by decide), n_cl (by omega), sr, m_set (by omega), nm_def, if_pos (show nI false.toNat = 0 from rfl)]
    refine ⟨_, _, _, agr_setI (Or.inl (by omega)), frR_2, ?_, ⟨g1, g2, ⟨w1, fun z => ?_, fun _ => z0⟩, ⟨hg.2.2.2.1.1, ?_, ?_⟩, ⟨hg.2.2.2.2.1, ?_, ?_⟩⟩, rfl, rfl⟩
    · exact ⟨⟨hk, by rw [mi_setI, if_neg (by omega)]; exact h4, CUR_mv hc (fun i hi => by rw [mi_setI, if_neg (by omega)]) rfl⟩, by rw [mi_setI, if_neg (by omega)]; exact h25, by rw [mi_setI, if_neg (by omega)]; exact x1, by rw [mi_setI, if_neg (by omega)]; exact x2⟩
    · have z2 : Gn G = 0 := z
      omega
    · rw [mi_setI, if_neg (by omega)]; exact hg.2.2.2.1.2.1
    · rw [mi_setI, if_neg (by omega)]; exact hg.2.2.2.1.2.2
    · rw [mi_setI, if_neg (by omega)]; exact hg.2.2.2.2.2.1
    · rw [mi_setI, if_neg (by omega)]; exact hg.2.2.2.2.2.2
  · have sx2 := (g1.2 q hq6).2.1
    have sr2 := (g2.2 q hq6).2.1
    rw [eq1] at sx2 sr2
    have w2 : WF (sS (sS G p (Gs G p ||| 2 ^ q)) q (Gs G q ||| 2 ^ p)) := by
      have := WF_sS (G := sS G p (Gs G p ||| 2 ^ q)) (p := q) (q := p) w1 z0 hp (fun z => hpq z.symm)
      rw [eq1] at this
      exact this
    have ex : pX6_readSight_85 κ (nI true.toNat) (nI p) (nI q) = some (nI 1, setI (setI κ 11 p (nI (Gs G p ||| 2 ^ q))) 11 q (nI (Gs G q ||| 2 ^ p))) := by
      unfold pX6_readSight_85 pX6_readSight_119
      rw [ck_in hp6 (by decide), ck_in hp6 (by decide), n_cl (by omega), sx, m_set (by omega), nm_def, if_neg (show ¬ nI true.toNat = 0 by decide), ck_in hq6 (by decide), ck_in hq6 (by decide), n_cl (by omega), sx2, m_set (by omega), nm_def]
      rfl
    rw [ex, s7, n_add, n_add, nm_def, ck_in (by omega) (by decide), ck_in (by omega) (by decide), n_cl (by omega), sr, m_set (by omega), nm_def, if_neg (show ¬ nI true.toNat = 0 by decide), nm_def, ck_in (by omega) (by decide), ck_in (by omega) (by decide), n_cl (by omega), sr2, m_set (by omega), nm_def]
    refine ⟨_, _, _, agr_trans (agr_setI (Or.inl (by omega))) (agr_setI (Or.inl (by omega))), frR_trans frR_2 frR_2, ?_, ⟨GX_s g1, GR_s g2 hq6, ⟨w2, fun z => ?_, fun _ => z0⟩, ⟨hg.2.2.2.1.1, ?_, ?_⟩, ⟨hg.2.2.2.2.1, ?_, ?_⟩⟩, rfl, rfl⟩
    · exact ⟨⟨hk, by rw [mi_setI, if_neg (by omega), mi_setI, if_neg (by omega)]; exact h4, CUR_mv hc (fun i hi => by rw [mi_setI, if_neg (by omega), mi_setI, if_neg (by omega)]) rfl⟩, by rw [mi_setI, if_neg (by omega), mi_setI, if_neg (by omega)]; exact h25, by rw [mi_setI, if_neg (by omega), mi_setI, if_neg (by omega)]; exact x1, by rw [mi_setI, if_neg (by omega), mi_setI, if_neg (by omega)]; exact x2⟩
    · have z2 : Gn G = 0 := z
      omega
    · rw [mi_setI, if_neg (by omega), mi_setI, if_neg (by omega)]; exact hg.2.2.2.1.2.1
    · rw [mi_setI, if_neg (by omega), mi_setI, if_neg (by omega)]; exact hg.2.2.2.1.2.2
    · rw [mi_setI, if_neg (by omega), mi_setI, if_neg (by omega)]; exact hg.2.2.2.2.2.1
    · rw [mi_setI, if_neg (by omega), mi_setI, if_neg (by omega)]; exact hg.2.2.2.2.2.2
theorem sL_sight {lk : Bool} (hs : ST b n κ ρ) (hF : 5000 < F) (ha : AT b n κ ρ k) (hg : GM κ ρ G hm gm) (h1 : 1 ≤ Gn G) (hz : gm = 0) : OUT b n κ ρ (pX6_readSight κ (nI lk.toNat)) (ySight F (nI lk.toNat) ρ) k := by
  have ha0 := ha
  obtain ⟨⟨hk, h4, hc⟩, h25, x1, x2⟩ := ha
  have hn := hg.p6
  have hP := tP_le (k := k) hs
  have hw := hg.2.2.1.1
  by_cases c : tK b n k = 2 ∧ tV b n k < Gn G
  · obtain ⟨c1, c2⟩ := c
    obtain ⟨p, ep⟩ : ∃ p, p = tV b n k := ⟨_, rfl⟩
    have hp : p < Gn G := by omega
    have hp6 : p < 6 := by omega
    obtain ⟨κa, eκa⟩ : ∃ κa, κa = setI (setI κ 138 5 (nI p)) 138 4 (nI (k + 1)) := ⟨_, rfl⟩
    have ac : agr (fun c => c = 138 ∨ c = 139) κ κa := by rw [eκa]; exact agr_trans (agr_setI (Or.inl rfl)) (agr_setI (Or.inl rfl))
    have aa : agr fX κ κa := agr_mono ac (fun c hc => Or.inr hc)
    have ma : ∀ i, i ≠ 4 → i ≠ 5 → mi κa 138 i = mi κ 138 i := fun i i4 i5 => by rw [eκa, mi_setI, if_neg (fun z => i4 z.2), mi_setI, if_neg (fun z => i5 z.2)]
    have ma4 : mi κa 138 4 = nI (k + 1) := by rw [eκa, mi_setI, if_pos ⟨rfl, rfl⟩]
    have ma5 : mi κa 138 5 = nI p := by rw [eκa, mi_setI, if_neg (by omega), mi_setI, if_pos ⟨rfl, rfl⟩]
    obtain ⟨ρ1, b1, b2, b3, b4, b5⟩ := rL_player_t (bm := 0) hs hF hk hc h25 hg.2.1.1 hn c1 c2 (by decide) (Nat.zero_testBit _)
    rw [← ep] at b5
    have hs1 : ST b n κa ρ1 := hs.fr aa (frR_L b1)
    have hg1 : GM κa ρ1 G hm gm := hg.fr ac (ma 7 (by decide) (by decide)) (ma 8 (by decide) (by decide)) b1
    have hP1 := tP_le (k := k + 1) hs
    have y1 : ySight F (nI lk.toNat) ρ = if (mi ρ1 0 29) = 2 then pX11_readsSight_24 F ρ1 (nI lk.toNat) (nI p) 1 else pX11_readsSight_24 F ρ1 (nI lk.toNat) (nI p) 0 := by
      unfold ySight
      rw [show pX11_takesPlayer F ρ 0 = _ from b5]
      rfl
    have k5 := tK_5 (b := b) (n := n) (k := k + 1)
    have h29 : mi ρ1 0 29 = nI (tK b n (k + 1)) := b2.2.2.1
    have xp : pX6_readPlayer κ = some (nI 1, κa) := by rw [xL_player_t hs hk h4 hg.1.1 hn c1 c2, ← ep, eκa]
    rw [y1, rL_29 h29 k5]
    unfold pX6_readSight
    rw [xp, Option.bind_some]
    dsimp only
    rw [if_neg (show ¬ nI 1 = 0 by decide), nm_def, ma5]
    by_cases e : tK b n (k + 1) = 2 ∧ tV b n (k + 1) < Gn G
    · obtain ⟨e1, e2⟩ := e
      obtain ⟨q, eq⟩ : ∃ q, q = tV b n (k + 1) := ⟨_, rfl⟩
      have hq : q < Gn G := by omega
      have hq6 : q < 6 := by omega
      obtain ⟨κc, eκc⟩ : ∃ κc, κc = setI (setI κa 138 5 (nI q)) 138 4 (nI (k + 1 + 1)) := ⟨_, rfl⟩
      have ac2 : agr (fun c => c = 138 ∨ c = 139) κa κc := by rw [eκc]; exact agr_trans (agr_setI (Or.inl rfl)) (agr_setI (Or.inl rfl))
      have aa2 : agr fX κa κc := agr_mono ac2 (fun c hc => Or.inr hc)
      have mc : ∀ i, i ≠ 4 → i ≠ 5 → mi κc 138 i = mi κa 138 i := fun i i4 i5 => by rw [eκc, mi_setI, if_neg (fun z => i4 z.2), mi_setI, if_neg (fun z => i5 z.2)]
      have mc4 : mi κc 138 4 = nI (k + 1 + 1) := by rw [eκc, mi_setI, if_pos ⟨rfl, rfl⟩]
      have mc5 : mi κc 138 5 = nI q := by rw [eκc, mi_setI, if_neg (by omega), mi_setI, if_pos ⟨rfl, rfl⟩]
      have xq : pX6_readPlayer κa = some (nI 1, κc) := by rw [xL_player_t hs1 b3 ma4 hg1.1.1 hn e1 e2, ← eq, eκc]
      obtain ⟨eV, hV⟩ := tV_2 e1
      have h30 : mi ρ1 0 30 = nI q := by rw [eq, eV]; exact b2.2.2.2.1 e1
      have hsc : ST b n κc ρ1 := hs1.fr aa2 frR_rfl
      have hgc : GM κc ρ1 G hm gm := hg1.fr ac2 (mc 7 (by decide) (by decide)) (mc 8 (by decide) (by decide)) frL_rfl
      have ei := rL_in_q hg1.2.1.1 h1 hn (nI q)
      rw [ag_nI (by omega), decide_eq_true hq] at ei
      rw [xq, Option.bind_some]
      dsimp only
      rw [if_neg (show ¬ nI 1 = 0 by decide), nm_def, mc5, mc4, i_eq (by omega) (by omega), if_pos e1]
      unfold pX11_readsSight_24 pX11_readsSight_62
      rw [rL_must_t (by decide), Option.bind_some, h30, ei, show ckI (0 : Int32) 6157 = ckI (nI 0) 6157 from rfl, ck_in (by decide) (by decide), Option.bind_some, if_neg (show ¬ nI true.toNat = 0 by decide), i_eq (by omega) (by omega)]
      have efail : ∀ f : Nat, ∃ κ1, agr fX κc κ1 ∧ XB κ1 f (tkP b n (k + 1)) ∧ pX6_fail κc (nI f) (nI (k + 1 + 1) - 1) = some (nI 0, κ1) := fun f => by
        rw [show nI (k + 1 + 1) - 1 = nI (k + 1) from n_sub (a := k + 1 + 1) (b := 1) (by omega)]
        exact xL_fail hsc b3 f
      have fbad : ∀ f : Nat, 0 < f ∧ f < 5 → f ≠ 2 → ∃ ρ2, frC ρ1 ρ2 ∧ RB ρ2 f (tkP b n (k + 1)) ∧ pX11_must ρ1 (nI 0) (nI f) = some ρ2 := fun f hf f2 => by
        obtain ⟨ρ2, j1, j2, -, j3⟩ := rL_must_f (pl := tkP b n (k + 1)) (v := f) b4 b2.1 h29 k5 hf
        rw [if_neg (fun z => f2 z.1)] at j2
        exact ⟨ρ2, j1, j2, j3⟩
      by_cases d : q = p
      · obtain ⟨κ1, g1, g2, g3⟩ := efail 3
        obtain ⟨ρ2, j1, j2, j3⟩ := fbad 3 (by decide) (by decide)
        refine ⟨κ1, ρ2, agr_trans aa (agr_trans aa2 g1), frR_trans (frR_L b1) j1.R, ?_, Or.inr ⟨?_, 3, _, hP1, g2, j2⟩⟩
        · rw [if_pos d]
          unfold pX11_readsSight_63
          rw [show pX11_must ρ1 0 3 = some ρ2 from j3, Option.bind_some, rL_good_b j2]
          rfl
        · rw [if_pos d, show pX6_fail κc 3 (nI (k + 1 + 1) - 1) = _ from g3]
          rfl
      · have wx := fun (a b : Nat) (ha : a < Gn G) (hb : b < 32) => sX2_watches (hgc.1.xg hw) hw ha hb
        have hr : ∀ a b2, a < Gn G → b2 < 6 → pX11_has ρ1 (mi ρ1 2 (7 + a)) (nI b2) = some (nI (sees G a b2).toNat) := fun a b2 ha hb => by
          have h64 := hw.s64 ha
          rw [(hg1.2.1.2 a (by omega)).2.1, rX_has (by omega) (by omega)]
          rfl
        have s7 : (7 : Int32) = nI 7 := rfl
        have e73 : ∃ κ1, agr fX κc κ1 ∧ XB κ1 4 (tkP b n (k + 1)) ∧ pX6_readSight_73 κc = some (nI 0, κ1) := by
          obtain ⟨κ1, g1, g2, g3⟩ := efail 4
          refine ⟨κ1, g1, g2, ?_⟩
          unfold pX6_readSight_73
          rw [mc4, show pX6_fail κc 4 (nI (k + 1 + 1) - 1) = _ from g3]
          rfl
        have e121 : ∃ ρ2, frC ρ1 ρ2 ∧ RB ρ2 4 (tkP b n (k + 1)) ∧ pX11_readsSight_121 F ρ1 (nI lk.toNat) (nI p) (nI q) = some ρ2 := by
          obtain ⟨ρ2, j1, j2, j3⟩ := fbad 4 (by decide) (by decide)
          refine ⟨ρ2, j1, j2, ?_⟩
          unfold pX11_readsSight_121 pX11_readsSight_122
          rw [show pX11_must ρ1 0 4 = some ρ2 from j3, Option.bind_some, rL_goesOn_b j2, Option.bind_some, rL_good_b j2]
          rfl
        have bad4 : ∀ x y, x = pX6_readSight_73 κc → y = pX11_readsSight_121 F ρ1 (nI lk.toNat) (nI p) (nI q) → OUT b n κ ρ x y k := fun x y hx hy => by
          obtain ⟨κ1, g1, g2, g3⟩ := e73
          obtain ⟨ρ2, j1, j2, j3⟩ := e121
          exact ⟨κ1, ρ2, agr_trans aa (agr_trans aa2 g1), frR_trans (frR_L b1) j1.R, hy.trans j3, Or.inr ⟨hx.trans g3, 4, _, hP1, g2, j2⟩⟩
        have good1 : ∀ x y, x = pX6_readSight_85 κc (nI lk.toNat) (nI p) (nI q) → y = pX11_readsSight_117 F ρ1 (nI lk.toNat) (nI p) (nI q) → OUT b n κ ρ x y k := fun x y hx hy => by
          obtain ⟨ρ2, j1, j2, j3, j4, j5⟩ := rL_goesOn (F := F) hs1 hF b3 b2 b4 (by omega)
          have hat : AT b n κc ρ2 (k + 1 + 1) := ⟨⟨j3, mc4, j2⟩, j4, (mc 1 (by decide) (by decide)).trans ((ma 1 (by decide) (by decide)).trans x1), (mc 2 (by decide) (by decide)).trans ((ma 2 (by decide) (by decide)).trans x2)⟩
          obtain ⟨κ1, ρ3, G1, g1, g2, g3, g4, g5, g6⟩ := sL_85 (F := F) (lk := lk) (hsc.fr agr_rfl (frR_L j1)) hat (hgc.fr agr_rfl rfl rfl j1) hz hp hq d
          refine ⟨κ1, ρ3, agr_trans aa (agr_trans aa2 g1), frR_trans (frR_L b1) (frR_trans (frR_L j1) g2), ?_, Or.inl ⟨hx.trans g5, k + 1 + 1, G1, hm, gm, by omega, g3, g4⟩⟩
          rw [hy]
          unfold pX11_readsSight_117 pX11_readsSight_122
          rw [rL_must_t (by decide), Option.bind_some, j5, Option.bind_some, rL_good_t j4, Option.bind_some, if_neg (show ¬ nI 1 = 0 by decide)]
          exact g6
        rw [if_neg d, if_neg d, wx p q hp (by omega), Option.bind_some, wx q p hq (by omega), Option.bind_some]
        unfold pX11_readsSight_63
        rw [rL_must_t (by decide), Option.bind_some, rL_good_t b4, Option.bind_some, if_neg (show ¬ nI 1 = 0 by decide), h30, nm_def, s7, n_add, n_add, ck_in (by omega) (by decide), n_cl (by omega), hr p q hp hq6, Option.bind_some, ck_in (by omega) (by decide), n_cl (by omega), hr q p hq hp6, Option.bind_some]
        cases hpq : sees G p q
        · rw [if_pos (show nI false.toNat = 0 from rfl), if_pos (show nI false.toNat = 0 from rfl)]
          cases lk
          · rw [if_pos (show nI false.toNat = 0 from rfl), if_pos (show nI false.toNat = 0 from rfl)]
            exact good1 _ _ rfl rfl
          · rw [if_neg (show ¬ nI true.toNat = 0 by decide), if_neg (show ¬ nI true.toNat = 0 by decide)]
            cases hqp : sees G q p
            · rw [if_pos (show nI false.toNat = 0 from rfl), if_pos (show nI false.toNat = 0 from rfl)]
              exact good1 _ _ rfl rfl
            · rw [if_neg (show ¬ nI true.toNat = 0 by decide), if_neg (show ¬ nI true.toNat = 0 by decide)]
              exact bad4 _ _ rfl rfl
        · rw [if_neg (show ¬ nI true.toNat = 0 by decide), if_neg (show ¬ nI true.toNat = 0 by decide)]
          exact bad4 _ _ rfl rfl
    · obtain ⟨κ1, g1, g2, g3⟩ := xL_player_f hs1 b3 ma4 hg1.1.1 h1 hn e
      have hbad : ∃ ρ2, frC ρ1 ρ2 ∧ RB ρ2 (erf (tK b n (k + 1))) (tkP b n (k + 1)) ∧ (if tK b n (k + 1) = 2 then pX11_readsSight_24 F ρ1 (nI lk.toNat) (nI p) 1 else pX11_readsSight_24 F ρ1 (nI lk.toNat) (nI p) 0) = some ρ2 := by
        by_cases e1 : tK b n (k + 1) = 2
        · obtain ⟨eV, hV⟩ := tV_2 e1
          have h30 : mi ρ1 0 30 = nI (tV b n (k + 1)) := by rw [eV]; exact b2.2.2.2.1 e1
          have ei := rL_in_q hg1.2.1.1 h1 hn (nI (tV b n (k + 1)))
          rw [ag_nI (by omega), decide_eq_false (fun z => e ⟨e1, z⟩)] at ei
          obtain ⟨ρ2, j1, j2, -, j3⟩ := rL_must_f (pl := tkP b n (k + 1)) (v := 3) b4 b2.1 h29 k5 (by decide)
          rw [if_neg (by omega)] at j2
          refine ⟨ρ2, j1, by unfold erf; rw [e1, if_neg (by decide), if_pos rfl]; exact j2, ?_⟩
          rw [if_pos e1]
          unfold pX11_readsSight_24 pX11_readsSight_62 pX11_readsSight_63
          rw [rL_must_t (by decide), Option.bind_some, h30, ei, show ckI (0 : Int32) 6157 = ckI (nI 0) 6157 from rfl, ck_in (by decide) (by decide), Option.bind_some, if_pos (show nI false.toNat = 0 from rfl), show pX11_must ρ1 0 3 = some ρ2 from j3, Option.bind_some, rL_good_b j2]
          rfl
        · obtain ⟨ρ2, j1, j2, -, j3⟩ := rL_must_f (pl := tkP b n (k + 1)) (v := 2) b4 b2.1 h29 k5 (by decide)
          refine ⟨ρ2, j1, ?_, ?_⟩
          · unfold erf
            rw [if_neg e1]
            by_cases d : tK b n (k + 1) = 4
            · rw [if_pos ⟨rfl, d⟩] at j2; rw [if_pos d]; exact j2
            · rw [if_neg (fun z => d z.2)] at j2; rw [if_neg d]; exact j2
          · rw [if_neg e1]
            have ei := rL_in_q (ρ := ρ2) ((j1.mi2 (by decide) 0).trans hg1.2.1.1) h1 hn (mi ρ2 0 30)
            unfold pX11_readsSight_24 pX11_readsSight_62
            rw [show pX11_must ρ1 0 2 = some ρ2 from j3, Option.bind_some, rL_63_b j2, rL_63_b j2, show ckI (0 : Int32) 6157 = ckI (nI 0) 6157 from rfl, ck_in (by decide) (by decide), ei, Option.bind_some]
            split
            · rfl
            · split <;> rfl
      obtain ⟨ρ2, j1, j2, j3⟩ := hbad
      refine ⟨κ1, ρ2, agr_trans aa g1, frR_trans (frR_L b1) j1.R, j3, Or.inr ⟨?_, _, _, hP1, g2, j2⟩⟩
      rw [g3]
      rfl
  · obtain ⟨κ1, a1, a2, a3⟩ := xL_player_f hs hk h4 hg.1.1 h1 hn c
    obtain ⟨ρ1, b1, b2, b3⟩ := rL_player_f (F := F) (bm := 0) hs hk hc h25 hg.2.1.1 h1 hn (by decide) (fun z => c ⟨z.1, z.2.1⟩)
    rw [if_neg c] at b2
    refine ⟨κ1, ρ1, a1, b1.R, ySight_b b2 _ b3, Or.inr ⟨?_, _, _, hP, a2, b2⟩⟩
    unfold pX6_readSight
    rw [a3]
    rfl
end LDS
