/-! ALL WAYS TO GUESS: the class, laid out wholly -/
section LOS
variable {κ κ1 : Mem} {G : Gm} {S : Nat → Prop} {F p q c c2 W x i N : Nat} {P P2 : Nat → Bool}
/-- an entry is right in a colouring with a colour -/
def rI (G : Gm) (j c x : Nat) : Bool := decide (bs G (own G j) + sOf G (own G j) x = j ∧ col G (own G j) x = c)
def PR (G : Gm) (j c x : Nat) : Bool := decide (x < ncol G) && rI G j c x
theorem fS_4 (hw : WF G) {j : Nat} (hj : j < bs G (Gn G)) : fS G j ≤ 4 := by
  obtain ⟨p, s, h1, h2, rfl⟩ := bs_onto (Gn G) (Nat.le_refl _) j hj
  rw [fS_eq h1 h2]
  exact hw.h4 h1
theorem sX9_138 (hA : AR κ G) (hw : WF G) (hF : 5000 < F) (hW : W ≤ 64) (hn : ncol G ≤ 64 * W) (hp : p < Gn G) (hN : bs G (Gn G) ≤ 14) (hL : LO κ G (bs G (p + 1)) W (fun j c x => if j < bs G p then PR G j c x else false)) : ∃ κ1, agr (fun k => 64 ≤ k ∧ k < 120) κ κ1 ∧ LO κ1 G (bs G (p + 1)) W (PR G) ∧ pX9_layOutPlayer_135 F κ (nI p) (nI (bs G p)) = some κ1 := by
  have hp6 := hw_lt hw hp
  have h4 := hw.h4 hp
  have hnc := ncol_le hw
  have hb := bs_mono (G := G) (show p + 1 ≤ Gn G by omega)
  have hbs := bs_s (G := G) p
  have hown : ∀ j, bs G p ≤ j → j < bs G (p + 1) → own G j = p := fun j h1 h2 => by
    obtain ⟨s, rfl⟩ : ∃ s, j = bs G p + s := ⟨j - bs G p, by omega⟩
    exact own_eq hp (by omega)
  unfold pX9_layOutPlayer_135
  refine lp_inv (fun fu (s : Mem) i => pX9_layOutPlayer_138 F (nI p) (nI (bs G p)) fu s (nI i)) (fun s i => agr (fun k => 64 ≤ k ∧ k < 120) κ s ∧ LO s G (bs G (p + 1)) W (fun j c x => if j < bs G p then PR G j c x else decide (x < i) && rI G j c x)) (ncol G) (fun y => ∃ κ1, agr (fun k => 64 ≤ k ∧ k < 120) κ κ1 ∧ LO κ1 G (bs G (p + 1)) W (PR G) ∧ y = some κ1) (fun fu s hS => ?_) (fun fu s i hi hS => ?_) F κ 0 (Nat.zero_le _) (by omega) ⟨agr_rfl, hL.1, hL.2.1, fun j hj => ⟨(hL.2.2 j hj).1, (hL.2.2 j hj).2.1, fun c hc => ((hL.2.2 j hj).2.2 c hc).congr (fun x _ => ?_)⟩⟩
  · obtain ⟨b1, b6, b7, b8⟩ := hS
    have e7 : mi s 41 1 = nI (ncol G) := (agr_mi b1 (by omega) 1).trans hA.c
    refine ⟨s, b1, ⟨b6, b7, fun j hj => ⟨(b8 j hj).1, (b8 j hj).2.1, fun c hc => ((b8 j hj).2.2 c hc).congr (fun x _ => ?_)⟩⟩, ?_⟩
    · dsimp only
      by_cases y : j < bs G p
      · rw [if_pos y]
      · rw [if_neg y]; rfl
    · show pX9_layOutPlayer_138 F (nI p) (nI (bs G p)) (fu + 1) s (nI (ncol G)) = _
      rw [pX9_layOutPlayer_138, e7]
      simp (disch := omega) only [n_0, n_1, n_2, n_3, n_4, n_5, n_6, n_7, n_8, n_9, n_10, n_12, n_13, n_14, n_20, n_31, n_32, n_63, n_64, n_600, n_1024, n_4096, n_6157, n_add, n_mul, nm_def, Option.bind_some, Option.some.injEq, ck_in, ck_nz, ck_p, n_cl, n_lt, n_le, n_eq, n_div, n_rem, if_pos, if_neg, if_true, if_false, eq_self, n_192, n_256, n_20000, m1_n0, m1_np, m1_n0p, m1_lt0, m1_lt0p, mi_setIA, mi_setI, ml_setIA, ml_setI, mr_setI, mr_setIA]
  · obtain ⟨b1, b6, b7, b8⟩ := hS
    have hAs : AR s G := hA.agr hw b1 (fun k hk => by omega)
    have e7 : mi s 41 1 = nI (ncol G) := hAs.c
    obtain ⟨e, ee⟩ : ∃ e, e = bs G p + sOf G p i := ⟨_, rfl⟩
    obtain ⟨c0, ec0⟩ : ∃ c0, c0 = col G p i := ⟨_, rfl⟩
    have hσ := sOf_lt (p := p) (x := i) hw
    have hcl := col_lt (x := i) hw hp
    have he1 : e < bs G (p + 1) := by omega
    have hrI : ∀ j c, bs G p ≤ j → j < bs G (p + 1) → rI G j c i = decide (j = e ∧ c = c0) := fun j c h1 h2 => by
      unfold rI
      rw [hown j h1 h2, ← ee, ← ec0]
      exact decide_eq_decide.mpr (by omega)
    refine ⟨setL s (64 + (e * 4 + c0)) (i / 64) (ml s (64 + (e * 4 + c0)) (i / 64) ||| (1 <<< ((nI (i % 64)).toInt64 &&& 63))), ⟨agr_trans b1 (agr_setL (by omega)), b6, b7, fun j hj => ⟨(b8 j hj).1, (b8 j hj).2.1, fun c hc => ?_⟩⟩, ?_⟩
    · have hc4 := fS_4 hw (show j < bs G (Gn G) by omega)
      have h9 := (b8 j hj).2.2 c hc
      by_cases y : j = e ∧ c = c0
      · obtain ⟨y1, y2⟩ := y
        subst y1 y2
        refine (RBit_set (x := i) h9).congr (fun x _ => ?_)
        dsimp only
        rw [if_neg (show ¬ j < bs G p by omega), if_neg (show ¬ j < bs G p by omega)]
        by_cases z : x = i
        · subst z
          rw [hrI j c (by omega) hj, decide_eq_true (show x = x from rfl), decide_eq_true (show x < x + 1 by omega), decide_eq_true (show j = j ∧ c = c from ⟨rfl, rfl⟩), Bool.or_true]
          rfl
        · rw [decide_eq_false z, Bool.or_false]
          congr 1
          exact decide_eq_decide.mpr (by omega)
      · refine (RBit_ne h9 (by omega)).congr (fun x _ => ?_)
        dsimp only
        by_cases z : j < bs G p
        · rw [if_pos z, if_pos z]
        · rw [if_neg z, if_neg z]
          by_cases z2 : x = i
          · subst z2
            rw [hrI j c (by omega) hj, decide_eq_false y, Bool.and_false, Bool.and_false]
          · congr 1
            exact decide_eq_decide.mpr (by omega)
    · show pX9_layOutPlayer_138 F (nI p) (nI (bs G p)) (fu + 1) s (nI i) = pX9_layOutPlayer_138 F (nI p) (nI (bs G p)) fu _ (nI (i + 1))
      have h64 : i / 64 < 64 := by omega
      have e8 := sX1_situationOf hAs hw hp hi
      have e9 := sX1_colourOf hAs hw hp (show i < 2147483648 by omega)
      rw [pX9_layOutPlayer_138, e7, e8, e9]
      unfold pX9_layOutPlayer_211
      rw [← ec0]
      simp (disch := omega) only [n_0, n_1, n_2, n_3, n_4, n_5, n_6, n_7, n_8, n_9, n_10, n_12, n_13, n_14, n_20, n_31, n_32, n_63, n_64, n_600, n_1024, n_4096, n_6157, n_add, n_mul, nm_def, Option.bind_some, Option.some.injEq, ck_in, ck_nz, ck_p, n_cl, n_lt, n_le, n_eq, n_div, n_rem, if_pos, if_neg, if_true, if_false, eq_self, n_192, n_256, n_20000, m1_n0, m1_np, m1_n0p, m1_lt0, m1_lt0p, mi_setIA, mi_setI, ml_setIA, ml_setI, mr_setI, mr_setIA]
      rw [← ee]
      simp (disch := omega) only [n_0, n_1, n_2, n_3, n_4, n_5, n_6, n_7, n_8, n_9, n_10, n_12, n_13, n_14, n_20, n_31, n_32, n_63, n_64, n_600, n_1024, n_4096, n_6157, n_add, n_mul, nm_def, Option.bind_some, Option.some.injEq, ck_in, ck_nz, ck_p, n_cl, n_lt, n_le, n_eq, n_div, n_rem, if_pos, if_neg, if_true, if_false, eq_self, n_192, n_256, n_20000, m1_n0, m1_np, m1_n0p, m1_lt0, m1_lt0p, mi_setIA, mi_setI, ml_setIA, ml_setI, mr_setI, mr_setIA, Nat.mul_one]
  · dsimp only
    by_cases y : j < bs G p
    · rw [if_pos y, if_pos y]
    · rw [if_neg y, if_neg y, decide_eq_false (Nat.not_lt_zero x)]
      rfl
theorem agSW (h : agr SW κ κ1) (hA : AR κ G) (hw : WF G) : AR κ1 G := hA.agr hw h (fun k hk => by unfold SW at hk; omega)
theorem sX9_layOutPlayer (hA : AR κ G) (hw : WF G) (hF : 5000 < F) (hW : W ≤ 64) (hn : ncol G ≤ 64 * W) (hp : p < Gn G) (hN : bs G (Gn G) ≤ 14) (hL : LO κ G (bs G p) W (PR G)) : ∃ κ1, agr (fun k => k = 59 ∨ (62 ≤ k ∧ k < 120)) κ κ1 ∧ (∀ i, i ≠ 6 → mi κ1 59 i = mi κ 59 i) ∧ LO κ1 G (bs G (p + 1)) W (PR G) ∧ pX9_layOutPlayer F κ (nI p) = some κ1 := by
  obtain ⟨s, a1, a0, a2, a3⟩ := sX9_17 (F := F) (v2 := nI (bs G p)) hA hw hF hW hp hN hL
  obtain ⟨s2, b1, b2, b3⟩ := sX9_138 (F := F) (agSW (agr_mono a1 (fun k hk => by unfold SW; omega)) hA hw) hw hF hW hn hp hN a2
  refine ⟨s2, agr_trans a1 (agr_mono b1 (fun k hk => by omega)), fun i hi => (agr_mi b1 (by omega) i).trans (a0 i hi), b2, ?_⟩
  unfold pX9_layOutPlayer
  rw [nm_def, sX2_situations hA.1 hw (by omega) hp, Option.bind_some, hL.1, a3, b3]
theorem sX9_layOut_88 (hA : AR κ G) (hw : WF G) (hF : 5000 < F) (hW : W ≤ 64) (hn : ncol G ≤ 64 * W) (hN : bs G (Gn G) ≤ 14) (h6 : mi κ 59 6 = nI 0) (h7 : mi κ 59 7 = nI W) : ∃ κ1, agr (fun k => k = 59 ∨ (62 ≤ k ∧ k < 120)) κ κ1 ∧ (∀ i, i ≠ 6 → mi κ1 59 i = mi κ 59 i) ∧ LO κ1 G (bs G (Gn G)) W (PR G) ∧ pX9_layOut_88 F F κ 0 = some κ1 := by
  have hg := hw.n6
  refine lp_inv (fun fu (s : Mem) i => pX9_layOut_88 F fu s (nI i)) (fun s i => agr (fun k => k = 59 ∨ (62 ≤ k ∧ k < 120)) κ s ∧ (∀ i, i ≠ 6 → mi s 59 i = mi κ 59 i) ∧ LO s G (bs G i) W (PR G)) (Gn G) (fun y => ∃ κ1, agr (fun k => k = 59 ∨ (62 ≤ k ∧ k < 120)) κ κ1 ∧ (∀ i, i ≠ 6 → mi κ1 59 i = mi κ 59 i) ∧ LO κ1 G (bs G (Gn G)) W (PR G) ∧ y = some κ1) (fun fu s hS => ?_) (fun fu s i hi hS => ?_) F κ 0 (Nat.zero_le _) (by omega) ⟨agr_rfl, fun _ _ => rfl, h6, h7, fun j hj => absurd hj (Nat.not_lt_zero _)⟩
  · have hAs : AR s G := agSW (agr_mono hS.1 (fun k hk => by unfold SW; omega)) hA hw
    have e0 := hAs.n
    refine ⟨s, hS.1, hS.2.1, hS.2.2, ?_⟩
    show pX9_layOut_88 F (fu + 1) s (nI (Gn G)) = _
    rw [pX9_layOut_88, e0]
    simp (disch := omega) only [n_0, n_1, n_2, n_3, n_4, n_5, n_6, n_7, n_8, n_9, n_10, n_12, n_13, n_14, n_20, n_31, n_32, n_63, n_64, n_600, n_1024, n_4096, n_6157, n_add, n_mul, nm_def, Option.bind_some, Option.some.injEq, ck_in, ck_nz, ck_p, n_cl, n_lt, n_le, n_eq, n_div, n_rem, if_pos, if_neg, if_true, if_false, eq_self, n_192, n_256, n_20000, m1_n0, m1_np, m1_n0p, m1_lt0, m1_lt0p, mi_setIA, mi_setI, ml_setIA, ml_setI, mr_setI, mr_setIA]
  · have hAs : AR s G := agSW (agr_mono hS.1 (fun k hk => by unfold SW; omega)) hA hw
    have e0 := hAs.n
    obtain ⟨s2, b1, b0, b2, b3⟩ := sX9_layOutPlayer (F := F) hAs hw hF hW hn hi hN hS.2.2
    refine ⟨s2, ⟨agr_trans hS.1 b1, fun i hi => (b0 i hi).trans (hS.2.1 i hi), b2⟩, ?_⟩
    show pX9_layOut_88 F (fu + 1) s (nI i) = pX9_layOut_88 F fu _ (nI (i + 1))
    rw [pX9_layOut_88, e0]
    simp (disch := omega) only [n_0, n_1, n_2, n_3, n_4, n_5, n_6, n_7, n_8, n_9, n_10, n_12, n_13, n_14, n_20, n_31, n_32, n_63, n_64, n_600, n_1024, n_4096, n_6157, n_add, n_mul, nm_def, Option.bind_some, Option.some.injEq, ck_in, ck_nz, ck_p, n_cl, n_lt, n_le, n_eq, n_div, n_rem, if_pos, if_neg, if_true, if_false, eq_self, n_192, n_256, n_20000, m1_n0, m1_np, m1_n0p, m1_lt0, m1_lt0p, mi_setIA, mi_setI, ml_setIA, ml_setI, mr_setI, mr_setIA, b3]
theorem sX9_layOut (hA : AR κ G) (hw : WF G) (hF : 5000 < F) (hN : bs G (Gn G) ≤ 14) : ∃ κ1, agr SW κ κ1 ∧ LO κ1 G (bs G (Gn G)) ((ncol G + 63) / 64) (PR G) ∧ RBit κ1 120 ((ncol G + 63) / 64) (fun x => decide (x < ncol G)) ∧ mi κ1 59 8 = mi κ 59 8 ∧ mi κ1 59 9 = mi κ 59 9 ∧ pX9_layOut F κ = some κ1 := by
  have hnc := ncol_le hw
  obtain ⟨W, eW⟩ : ∃ W, W = (ncol G + 63) / 64 := ⟨_, rfl⟩
  have hW : W ≤ 64 := by omega
  have hn : ncol G ≤ 64 * W := by omega
  rw [← eW]
  obtain ⟨s0, es0⟩ : ∃ s0, s0 = setI (setI κ 59 7 (nI W)) 59 6 (nI 0) := ⟨_, rfl⟩
  have a0 : agr (fun k => k = 59) κ s0 := by rw [es0]; exact agr_trans (agr_setI rfl) (agr_setI rfl)
  have m0 : ∀ i, i ≠ 6 → i ≠ 7 → mi s0 59 i = mi κ 59 i := fun i h1 h2 => by rw [es0, mi_setI, if_neg (fun z => h1 z.2), mi_setI, if_neg (fun z => h2 z.2)]
  have m6 : mi s0 59 6 = nI 0 := by rw [es0, mi_setI, if_pos ⟨rfl, rfl⟩]
  have m7 : mi s0 59 7 = nI W := by rw [es0, mi_setI, if_neg (by omega), mi_setI, if_pos ⟨rfl, rfl⟩]
  obtain ⟨s1, b1, b2, b3⟩ := sX9_layOut_24 (F := F) hF hW m7
  have hA1 : AR s1 G := agSW (agr_trans (agr_mono a0 (fun k hk => by unfold SW; omega)) (agr_mono b1 (fun k hk => by unfold SW; omega))) hA hw
  obtain ⟨s2, c1, c2, c3⟩ := sX9_layOut_49 (G := G) (F := F) hF hW hn hA1.c b2
  have hA2 : AR s2 G := agSW (agr_mono c1 (fun k hk => by unfold SW; omega)) hA1 hw
  have k2 : ∀ i, mi s2 59 i = mi s0 59 i := fun i => (agr_mi c1 (by decide) i).trans (agr_mi b1 (by decide) i)
  obtain ⟨s3, d1, d0, d2, d3⟩ := sX9_layOut_88 (F := F) hA2 hw hF hW hn hN ((k2 6).trans m6) ((k2 7).trans m7)
  refine ⟨s3, agr_trans (agr_mono a0 (fun k hk => by unfold SW; omega)) (agr_trans (agr_mono b1 (fun k hk => by unfold SW; omega)) (agr_trans (agr_mono c1 (fun k hk => by unfold SW; omega)) (agr_mono d1 (fun k hk => by unfold SW; omega)))), d2, c2.agr d1 (by omega), (d0 8 (by decide)).trans ((k2 8).trans (m0 8 (by decide) (by decide))), (d0 9 (by decide)).trans ((k2 9).trans (m0 9 (by decide) (by decide))), ?_⟩
  unfold pX9_layOut
  rw [hA.c]
  simp (disch := omega) only [n_0, n_1, n_2, n_3, n_4, n_5, n_6, n_7, n_8, n_9, n_10, n_12, n_13, n_14, n_20, n_31, n_32, n_63, n_64, n_600, n_1024, n_4096, n_6157, n_add, n_mul, nm_def, Option.bind_some, Option.some.injEq, ck_in, ck_nz, ck_p, n_cl, n_lt, n_le, n_eq, n_div, n_rem, if_pos, if_neg, if_true, if_false, eq_self, n_192, n_256, n_20000, m1_n0, m1_np, m1_n0p, m1_lt0, m1_lt0p, mi_setIA, mi_setI, ml_setIA, ml_setI, mr_setI, mr_setIA]
  rw [← eW, ← es0, show pX9_layOut_24 F F s0 (nI 0) = _ from b3, c3, d3]
end LOS
