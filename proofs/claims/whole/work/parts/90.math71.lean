/-! LOAD: how one guesses -/
def yGuess (F : Nat) (ρ : Mem) : Option Mem := (pX11_takesPlayer F ρ (mi ρ 0 33)).bind fun t2 => (pX11_good t2.2).bind fun t3 => if t3 = 0 then some t2.2 else pX11_readsGuess_25 F t2.2 t2.1 F (-1) 5
theorem yGuess_eq (F : Nat) (ρ : Mem) : pX11_readsGuess F ρ = (pX11_goesOn F ρ).bind (yGuess F) := rfl
def gMk (ρ : Mem) (v1 : Int32) : Mem := setI ρ 0 33 ((mi ρ 0 33) ||| (1 <<< (v1 &&& 31)))
def okR (b : Nat → Int32) (n : Nat) (G : Gm) (p r k : Nat) : Prop := tK b n k = 2 ∧ (r = 6 ∨ (r = 9 ∧ tV b n k < Gh G p) ∨ ((r = 7 ∨ r = 8) ∧ tV b n k < Gn G ∧ sees G p (tV b n k) = true))
section LDG
variable {κ κ1 κ2 ρ ρ1 ρ2 : Mem} {b : Nat → Int32} {n k f pl lo hi F p q j v bm r K i : Nat} {G : Gm} {x c w v1 v2 : Int32} {hm gm : Nat} {g : Nat → Nat}
theorem rL_204 (ρ : Mem) (v1 : Int32) : pX11_readsGuess_204 F ρ v1 = some (gMk ρ v1) := rfl
theorem RB_gMk (h : RB ρ f pl) : RB (gMk ρ v1) f pl := ⟨h.1, by unfold gMk; rw [mi_setI, if_neg (by omega)]; exact h.2.1, by unfold gMk; rw [mi_setI, if_neg (by omega)]; exact h.2.2⟩
theorem frR_gMk : frR ρ (gMk ρ v1) := frR_I (by omega)
theorem rL_200_b (h : RB ρ f pl) : pX11_readsGuess_200 F ρ v1 = some (gMk ρ v1) := by
  unfold pX11_readsGuess_200
  rw [rL_goesOn_b h]
  rfl
theorem rL_179_b (h : RB ρ f pl) : pX11_readsGuess_179 F ρ v1 v2 x = some (gMk ρ v1) := by
  unfold pX11_readsGuess_179
  rw [rL_must_b h, Option.bind_some, rL_good_b h, Option.bind_some, if_pos (show nI 0 = 0 from rfl), rL_200_b h]
theorem rL_has_any (ρ : Mem) (x c : Int32) : ∃ t : Bool, pX11_has ρ x c = some (nI t.toNat) := by
  unfold pX11_has pX11_has_14
  split
  · exact ⟨true, rfl⟩
  · exact ⟨false, rfl⟩
theorem rL_128_b (h : RB ρ f pl) (hp : p < 6) : pX11_readsGuess_128 F ρ (nI p) v2 = some (gMk ρ (nI p)) := by
  obtain ⟨t, e⟩ := rL_isIn ρ (mi ρ 0 30) 0 (mi ρ 2 (0 : Int32).toNatClampNeg - 1)
  have e2 : pX11_isIn ρ (mi ρ 0 30).toInt64 0 (mi ρ 2 (0 : Int32).toNatClampNeg - 1).toInt64 = some (nI t.toNat) := e
  have e7 : (7 : Int32) + nI p = nI (7 + p) := n_add 7 p
  obtain ⟨t2, e3⟩ := rL_has_any ρ (mi ρ 2 (7 + p)) (mi ρ 0 30)
  unfold pX11_readsGuess_128 pX11_readsGuess_178 pX11_readsGuess_174
  rw [rL_179_b h, rL_179_b h, show ckI (0 : Int32) 6157 = ckI (nI 0) 6157 from rfl, ck_in (by decide) (by decide), e2, Option.bind_some, e7, ck_in (by omega) (by decide), n_cl (by omega), e3, Option.bind_some]
  split
  · split
    · rfl
    · split <;> rfl
  · rfl
theorem rL_97_b (h : RB ρ f pl) (hp : p < 6) : pX11_readsGuess_97 F ρ (nI p) v2 x = some (gMk ρ (nI p)) := by
  have e1 : (1 : Int32) + nI p = nI (1 + p) := n_add 1 p
  unfold pX11_readsGuess_97 pX11_readsGuess_174
  rw [rL_must_b h, Option.bind_some, rL_179_b h, rL_128_b h hp, e1, ck_in (by omega) (by decide)]
  split
  · rfl
  · split
    · split <;> rfl
    · rfl
theorem rL_61_b (hs : ST b n κ ρ) (h25 : mi ρ 0 25 = nI 0) (hc : CUR ρ b n (tkP b n k)) (hp : p < 6) : ∃ ρ1, frC ρ ρ1 ∧ RB ρ1 (if tK b n k = 4 then 1 else 2) (tkP b n k) ∧ pX11_readsGuess_61 F ρ (nI p) (-1) 0 = some (gMk ρ1 (nI p)) := by
  have h29 : mi ρ 0 29 = nI (tK b n k) := hc.2.2.1
  obtain ⟨ρ1, a1, a2, -, a3⟩ := rL_must_f (pl := tkP b n k) (v := 2) h25 hc.1 h29 tK_5 (by decide)
  have a4 : RB ρ1 (if tK b n k = 4 then 1 else 2) (tkP b n k) := by
    by_cases d : tK b n k = 4
    · rw [if_pos ⟨rfl, d⟩] at a2; rw [if_pos d]; exact a2
    · rw [if_neg (fun z => d z.2)] at a2; rw [if_neg d]; exact a2
  refine ⟨ρ1, a1, a4, ?_⟩
  unfold pX11_readsGuess_61
  rw [show pX11_must ρ 0 2 = some ρ1 from a3, Option.bind_some, if_neg (show ¬ (-1 : Int32) = 9 by decide), rL_goesOn_b a4, Option.bind_some, rL_97_b a4 hp, rL_97_b a4 hp]
  split <;> rfl
/-- which rule -/
theorem rL_25 (hs : ST b n κ ρ) (hF : 5000 < F) (hk : k ≤ tkN b n) (hc : CUR ρ b n (tkP b n k)) (h25 : mi ρ 0 25 = nI 0) : pX11_readsGuess_25 F ρ (nI p) F (-1) 5 = if tK b n k = 1 ∧ 6 ≤ tV b n k then pX11_readsGuess_61 F ρ (nI p) (nI (tV b n k - 1)) 1 else pX11_readsGuess_61 F ρ (nI p) (-1) 0 := by
  have h10 : tK b n k = 1 → tV b n k ≤ 10 := fun z => by rw [tV_1 z]; exact wvX_le
  refine lp_inv (fun fu (v : Int32) j => pX11_readsGuess_25 F ρ (nI p) fu v (nI (5 + j))) (fun v j => v = if tK b n k = 1 ∧ 6 ≤ tV b n k ∧ tV b n k < 6 + j then nI (tV b n k - 1) else -1) 5 (fun y => y = if tK b n k = 1 ∧ 6 ≤ tV b n k then pX11_readsGuess_61 F ρ (nI p) (nI (tV b n k - 1)) 1 else pX11_readsGuess_61 F ρ (nI p) (-1) 0) (fun fu s hI => ?_) (fun fu s j hj hI => ?_) F (-1) 0 (Nat.zero_le _) (by omega) ?_
  · show pX11_readsGuess_25 F ρ (nI p) (fu + 1) s (nI 10) = _
    rw [pX11_readsGuess_25, if_neg (show ¬ nI 10 ≤ 9 by decide)]
    by_cases c : tK b n k = 1 ∧ 6 ≤ tV b n k
    · have c2 := h10 c.1
      have es : s = nI (tV b n k - 1) := by rw [hI, if_pos ⟨c.1, c.2, by omega⟩]
      rw [es, if_pos c, show (0 : Int32) = nI 0 from rfl, i_lt (by omega) (by decide), if_neg (by omega)]
    · have es : s = -1 := by rw [hI, if_neg (fun z => c ⟨z.1, z.2.1⟩)]
      rw [es, if_neg c, if_pos (show (-1 : Int32) < 0 by decide)]
  · have ew := rL_isWord (w := 5 + j) hs hk hc h25 (by omega)
    have e9 : (nI (5 + j) ≤ (9 : Int32)) = (5 + j ≤ 9) := n_le (a := 5 + j) (b := 9) (by omega) (by decide)
    have z : ∃ s', (s' = if tK b n k = 1 ∧ 6 ≤ tV b n k ∧ tV b n k < 6 + (j + 1) then nI (tV b n k - 1) else -1) ∧ pX11_readsGuess_25 F ρ (nI p) (fu + 1) s (nI (5 + j)) = pX11_readsGuess_25 F ρ (nI p) fu s' (nI (5 + (j + 1))) := by
      by_cases c : tK b n k = 1 ∧ tV b n k = 5 + j + 1
      · refine ⟨nI (5 + j), ?_, ?_⟩
        · rw [if_pos ⟨c.1, by omega, by omega⟩, c.2]
          rfl
        · rw [pX11_readsGuess_25]
          simp only [e9, if_pos (show 5 + j ≤ 9 by omega)]
          rw [ew, decide_eq_true c, Option.bind_some, if_neg (show ¬ nI true.toNat = 0 by decide)]
          unfold pX11_readsGuess_44
          rw [show nI (5 + j) + 1 = nI (5 + (j + 1)) from n_add _ 1]
      · refine ⟨s, ?_, ?_⟩
        · rw [hI]
          by_cases d : tK b n k = 1 ∧ 6 ≤ tV b n k ∧ tV b n k < 6 + j
          · rw [if_pos d, if_pos ⟨d.1, d.2.1, by omega⟩]
          · rw [if_neg d, if_neg (fun z => d ⟨z.1, z.2.1, by
              have h1 : tV b n k ≠ 5 + j + 1 := fun y => c ⟨z.1, y⟩
              omega⟩)]
        · rw [pX11_readsGuess_25]
          simp only [e9, if_pos (show 5 + j ≤ 9 by omega)]
          rw [ew, decide_eq_false c, Option.bind_some, if_pos (show nI false.toNat = 0 from rfl)]
          unfold pX11_readsGuess_44
          rw [show nI (5 + j) + 1 = nI (5 + (j + 1)) from n_add _ 1]
    exact z
  · rw [if_neg (fun z => by omega)]
-- the number of a rule
theorem xL_ofRule_t (hs : ST b n κ ρ) (hk : k ≤ tkN b n) (h4 : mi κ 138 4 = nI k) (hg : GX κ G) (hw : WF G) (hp : p < Gn G) (hr : 6 ≤ r ∧ r ≤ 9) (ho : okR b n G p r k) : pX6_readOfRule κ (nI p) (nI r) = some (nI 1, setI (setI κ 138 5 (nI (tV b n k))) 138 4 (nI (k + 1))) := by
  obtain ⟨hK, ho⟩ := ho
  have hn := hw.n6
  have hp6 := hw_lt hw hp
  have h1 := hw.h1 hp
  have h4' := hw.h4 hp
  have hV := (tV_2 hK).2
  have h6 : (6 : Int32) = nI 6 := rfl
  have h9 : (9 : Int32) = nI 9 := rfl
  unfold pX6_readOfRule pX6_readOfRule_85 pX6_readOfRule_90
  rw [h6, h9, i_eq (by omega) (by decide), i_eq (by omega) (by decide), ck_in hp6 (by decide), n_cl (by omega), (hg.2 p hp6).1, hg.1, show nI (Gh G p) - 1 = nI (Gh G p - 1) from n_sub h1, show nI (Gn G) - 1 = nI (Gn G - 1) from n_sub (a := Gn G) (b := 1) (by omega)]
  by_cases c : r = 6
  · rw [if_pos c, show pX6_readNumber κ 0 99 = _ from xL_number_t (lo := 0) (hi := 99) hs hk h4 hK (Nat.zero_le _) (by omega) (by decide)]
    rfl
  · rw [if_neg c]
    by_cases d : r = 9
    · rw [if_pos d, show pX6_readNumber κ 0 (nI (Gh G p - 1)) = _ from xL_number_t (lo := 0) hs hk h4 hK (Nat.zero_le _) (show tV b n k ≤ Gh G p - 1 by omega) (by omega)]
      rfl
    · obtain ⟨o1, o2, o3⟩ : (r = 7 ∨ r = 8) ∧ tV b n k < Gn G ∧ sees G p (tV b n k) = true := by
        rcases ho with z | z | z
        · exact absurd z c
        · exact absurd z.1 d
        · exact z
      rw [if_neg d, show pX6_readNumber κ 0 (nI (Gn G - 1)) = _ from xL_number_t (lo := 0) hs hk h4 hK (Nat.zero_le _) (show tV b n k ≤ Gn G - 1 by omega) (by omega), Option.bind_some]
      have hgx : GX (setI (setI κ 138 5 (nI (tV b n k))) 138 4 (nI (k + 1))) G := hg.fr (agr_trans (agr_setI (Or.inl rfl)) (agr_setI (Or.inl rfl)))
      have e5 : mi (setI (setI κ 138 5 (nI (tV b n k))) 138 4 (nI (k + 1))) 138 5 = nI (tV b n k) := by rw [mi_setI, if_neg (by omega), mi_setI, if_pos ⟨rfl, rfl⟩]
      dsimp only
      rw [if_neg (show ¬ nI 1 = 0 by decide), e5, sX2_watches (hgx.xg hw) hw hp (show tV b n k < 32 by omega), o3, Option.bind_some, if_neg (show ¬ nI true.toNat = 0 by decide)]
      rfl
theorem xL_ofRule_f (hs : ST b n κ ρ) (hk : k ≤ tkN b n) (h4 : mi κ 138 4 = nI k) (hg : GX κ G) (hw : WF G) (hp : p < Gn G) (hr : 6 ≤ r ∧ r ≤ 9) (ho : ¬ okR b n G p r k) : ∃ κ1, agr fX κ κ1 ∧ XB κ1 (erf (tK b n k)) (tkP b n k) ∧ pX6_readOfRule κ (nI p) (nI r) = some (nI 0, κ1) := by
  have hn := hw.n6
  have hp6 := hw_lt hw hp
  have h1 := hw.h1 hp
  have h4' := hw.h4 hp
  have h6 : (6 : Int32) = nI 6 := rfl
  have h9 : (9 : Int32) = nI 9 := rfl
  unfold pX6_readOfRule pX6_readOfRule_85 pX6_readOfRule_90
  rw [h6, h9, i_eq (by omega) (by decide), i_eq (by omega) (by decide), ck_in hp6 (by decide), n_cl (by omega), (hg.2 p hp6).1, hg.1, show nI (Gh G p) - 1 = nI (Gh G p - 1) from n_sub h1, show nI (Gn G) - 1 = nI (Gn G - 1) from n_sub (a := Gn G) (b := 1) (by omega)]
  by_cases c : r = 6
  · rw [if_pos c]
    obtain ⟨κ1, a1, a2, a3⟩ := xL_number_f (lo := 0) (hi := 99) hs hk h4 (fun z => ho ⟨z.1, Or.inl c⟩) (by decide) (by decide)
    refine ⟨κ1, a1, a2, ?_⟩
    rw [show pX6_readNumber κ 0 99 = _ from a3]
    rfl
  · rw [if_neg c]
    by_cases d : r = 9
    · rw [if_pos d]
      obtain ⟨κ1, a1, a2, a3⟩ := xL_number_f (lo := 0) (hi := Gh G p - 1) hs hk h4 (fun z => ho ⟨z.1, Or.inr (Or.inl ⟨d, by omega⟩)⟩) (by decide) (by omega)
      refine ⟨κ1, a1, a2, ?_⟩
      rw [show pX6_readNumber κ 0 (nI (Gh G p - 1)) = _ from a3]
      rfl
    · rw [if_neg d]
      have r78 : r = 7 ∨ r = 8 := by omega
      by_cases e : tK b n k = 2 ∧ tV b n k < Gn G
      · obtain ⟨e1, e2⟩ := e
        have hse : sees G p (tV b n k) = false := by
          cases z : sees G p (tV b n k)
          · rfl
          · exact absurd ⟨e1, Or.inr (Or.inr ⟨r78, e2, z⟩)⟩ ho
        obtain ⟨κa, eκa⟩ : ∃ κa, κa = setI (setI κ 138 5 (nI (tV b n k))) 138 4 (nI (k + 1)) := ⟨_, rfl⟩
        have ac : agr (fun c => c = 138 ∨ c = 139) κ κa := by rw [eκa]; exact agr_trans (agr_setI (Or.inl rfl)) (agr_setI (Or.inl rfl))
        have ma4 : mi κa 138 4 = nI (k + 1) := by rw [eκa, mi_setI, if_pos ⟨rfl, rfl⟩]
        have ma5 : mi κa 138 5 = nI (tV b n k) := by rw [eκa, mi_setI, if_neg (by omega), mi_setI, if_pos ⟨rfl, rfl⟩]
        have aa : agr fX κ κa := agr_mono ac (fun c hc => Or.inr hc)
        obtain ⟨κ1, a1, a2, a3⟩ := xL_fail (κ := κa) (hs.fr aa frR_rfl) hk 3
        refine ⟨κ1, agr_trans aa a1, by unfold erf; rw [e1, if_neg (by decide), if_pos rfl]; exact a2, ?_⟩
        rw [show pX6_readNumber κ 0 (nI (Gn G - 1)) = _ from xL_number_t (lo := 0) hs hk h4 e1 (Nat.zero_le _) (show tV b n k ≤ Gn G - 1 by omega) (by omega), Option.bind_some, ← eκa]
        dsimp only
        rw [if_neg (show ¬ nI 1 = 0 by decide), ma5, sX2_watches ((hg.fr ac).xg hw) hw hp (show tV b n k < 32 by omega), hse, Option.bind_some, if_pos (show nI false.toNat = 0 from rfl), ma4, show nI (k + 1) - 1 = nI k from n_sub (a := k + 1) (b := 1) (by omega), show (3 : Int32) = nI 3 from rfl, a3]
        rfl
      · obtain ⟨κ1, a1, a2, a3⟩ := xL_number_f (lo := 0) (hi := Gn G - 1) hs hk h4 (fun z => e ⟨z.1, by omega⟩) (by decide) (by omega)
        refine ⟨κ1, a1, a2, ?_⟩
        rw [show pX6_readNumber κ 0 (nI (Gn G - 1)) = _ from a3]
        rfl
theorem rL_97_t (hc : CUR ρ b n (tkP b n k)) (hg : GR ρ G) (hw : WF G) (hp : p < Gn G) (hr : 6 ≤ r ∧ r ≤ 9) (ho : okR b n G p r k) : pX11_readsGuess_97 F ρ (nI p) (nI (r - 1)) 1 = pX11_readsGuess_179 F ρ (nI p) (nI (r - 1)) 1 := by
  obtain ⟨hK, ho⟩ := ho
  have hn := hw.n6
  have hp6 := hw_lt hw hp
  have h4' := hw.h4 hp
  obtain ⟨eV, hV⟩ := tV_2 hK
  have h30 : mi ρ 0 30 = nI (tV b n k) := by rw [eV]; exact hc.2.2.2.1 hK
  have e1 : (1 : Int32) + nI p = nI (1 + p) := n_add 1 p
  have e7 : (7 : Int32) + nI p = nI (7 + p) := n_add 7 p
  have eh : mi ρ 2 (1 + p) = nI (Gh G p) := (hg.2 p hp6).1 (by omega)
  unfold pX11_readsGuess_97 pX11_readsGuess_128 pX11_readsGuess_174
  rw [rL_must_t (by decide), Option.bind_some, show (5 : Int32) = nI 5 from rfl, show (8 : Int32) = nI 8 from rfl, i_eq (by omega) (by decide), i_eq (by omega) (by decide), i_lt (by omega) (by decide), e1, ck_in (by omega) (by decide), n_cl (by omega), eh, h30, i_lt (by omega) (by omega)]
  by_cases c : r = 6
  · rw [if_pos (by omega)]
  · rw [if_neg (by omega)]
    by_cases d : r = 9
    · rw [if_pos (by omega), if_pos (show tV b n k < Gh G p by omega)]
    · obtain ⟨o1, o2, o3⟩ : (r = 7 ∨ r = 8) ∧ tV b n k < Gn G ∧ sees G p (tV b n k) = true := by
        rcases ho with z | z | z
        · exact absurd z c
        · exact absurd z.1 d
        · exact z
      have ei := rL_in_q hg.1 (show 1 ≤ Gn G by omega) hn (nI (tV b n k))
      rw [ag_nI (by omega), decide_eq_true o2] at ei
      rw [if_neg (by omega), if_pos (by omega), show ckI (0 : Int32) 6157 = ckI (nI 0) 6157 from rfl, ck_in (by decide) (by decide), ei, Option.bind_some, if_neg (show ¬ nI true.toNat = 0 by decide), e7, ck_in (by omega) (by decide), n_cl (by omega), rL_has hg hw hp6 hp (by omega), o3, Option.bind_some, if_neg (show ¬ nI true.toNat = 0 by decide)]
theorem rL_97_f (hc : CUR ρ b n (tkP b n k)) (h25 : mi ρ 0 25 = nI 0) (hg : GR ρ G) (hw : WF G) (hp : p < Gn G) (hr : 6 ≤ r ∧ r ≤ 9) (ho : ¬ okR b n G p r k) : ∃ ρ1, frC ρ ρ1 ∧ RB ρ1 (erf (tK b n k)) (tkP b n k) ∧ (if tK b n k = 2 then pX11_readsGuess_97 F ρ (nI p) (nI (r - 1)) 1 else pX11_readsGuess_97 F ρ (nI p) (nI (r - 1)) 0) = some (gMk ρ1 (nI p)) := by
  have hn := hw.n6
  have hp6 := hw_lt hw hp
  have h4' := hw.h4 hp
  have h29 : mi ρ 0 29 = nI (tK b n k) := hc.2.2.1
  by_cases c : tK b n k = 2
  · obtain ⟨eV, hV⟩ := tV_2 c
    have h30 : mi ρ 0 30 = nI (tV b n k) := by rw [eV]; exact hc.2.2.2.1 c
    have e1 : (1 : Int32) + nI p = nI (1 + p) := n_add 1 p
    have e7 : (7 : Int32) + nI p = nI (7 + p) := n_add 7 p
    have eh : mi ρ 2 (1 + p) = nI (Gh G p) := (hg.2 p hp6).1 (by omega)
    obtain ⟨ρ1, a1, a2, -, a3⟩ := rL_must_f (pl := tkP b n k) (v := 3) h25 hc.1 h29 tK_5 (by decide)
    rw [if_neg (by omega)] at a2
    have e178 : pX11_readsGuess_178 F ρ (nI p) (nI (r - 1)) = some (gMk ρ1 (nI p)) := by
      unfold pX11_readsGuess_178 pX11_readsGuess_179
      rw [show pX11_must ρ 0 3 = some ρ1 from a3, Option.bind_some, rL_good_b a2, Option.bind_some, if_pos (show nI 0 = 0 from rfl), rL_200_b a2]
    refine ⟨ρ1, a1, by unfold erf; rw [c, if_neg (by decide), if_pos rfl]; exact a2, ?_⟩
    have c6 : ¬ r = 6 := fun z => ho ⟨c, Or.inl z⟩
    unfold pX11_readsGuess_97 pX11_readsGuess_128
    rw [if_pos c, rL_must_t (by decide), Option.bind_some, e178, show (5 : Int32) = nI 5 from rfl, show (8 : Int32) = nI 8 from rfl, i_eq (by omega) (by decide), i_eq (by omega) (by decide), i_lt (by omega) (by decide), e1, ck_in (by omega) (by decide), n_cl (by omega), eh, h30, i_lt (by omega) (by omega), if_neg (by omega)]
    by_cases d : r = 9
    · have hlt : ¬ tV b n k < Gh G p := fun z => ho ⟨c, Or.inr (Or.inl ⟨d, z⟩)⟩
      rw [if_pos (by omega), if_neg hlt, if_neg (by omega)]
    · have r78 : r = 7 ∨ r = 8 := by omega
      have ei := rL_in_q hg.1 (show 1 ≤ Gn G by omega) hn (nI (tV b n k))
      rw [ag_nI (by omega)] at ei
      rw [if_neg (by omega), if_pos (by omega), show ckI (0 : Int32) 6157 = ckI (nI 0) 6157 from rfl, ck_in (by decide) (by decide), ei, Option.bind_some]
      by_cases e : tV b n k < Gn G
      · have hse : sees G p (tV b n k) = false := by
          cases z : sees G p (tV b n k)
          · rfl
          · exact absurd ⟨c, Or.inr (Or.inr ⟨r78, e, z⟩)⟩ ho
        rw [decide_eq_true e, if_neg (show ¬ nI true.toNat = 0 by decide), e7, ck_in (by omega) (by decide), n_cl (by omega), rL_has hg hw hp6 hp (by omega), hse, Option.bind_some, if_pos (show nI false.toNat = 0 from rfl)]
      · rw [decide_eq_false e, if_pos (show nI false.toNat = 0 from rfl)]
  · obtain ⟨ρ1, a1, a2, -, a3⟩ := rL_must_f (pl := tkP b n k) (v := 2) h25 hc.1 h29 tK_5 (by decide)
    have a4 : RB ρ1 (erf (tK b n k)) (tkP b n k) := by
      unfold erf
      rw [if_neg c]
      by_cases d : tK b n k = 4
      · rw [if_pos ⟨rfl, d⟩] at a2; rw [if_pos d]; exact a2
      · rw [if_neg (fun z => d z.2)] at a2; rw [if_neg d]; exact a2
    refine ⟨ρ1, a1, a4, ?_⟩
    rw [if_neg c]
    have e1 : (1 : Int32) + nI p = nI (1 + p) := n_add 1 p
    unfold pX11_readsGuess_97 pX11_readsGuess_174
    rw [show pX11_must ρ 0 2 = some ρ1 from a3, Option.bind_some, rL_179_b a4, rL_128_b a4 hp6, e1, ck_in (by omega) (by decide)]
    split
    · rfl
    · split
      · split <;> rfl
      · rfl
end LDG
