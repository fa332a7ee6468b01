/-! THE LAW'S WALK: the loop -/
section LLOOP
variable {Γ : LCtx} {κ ρ : Mem} {loc : List (Nat × Value)}
theorem l_step (hC : lC Γ) {G : Gm} {H : Nat → Gm} {m : Nat} (hv : IV G H m κ ρ) {i : Nat} (hi : i + 6 ≤ qL Γ) (kk : ∀ κ1 ρ1, (∃ G H m, IV G H m κ1 ρ1) → LQ Γ κ1 ρ1 1729 (lo Γ i) []) : LQ Γ κ ρ 27 (lo Γ i) [] := by
  refine l_aload hC (pc := 27) dL_law_27 3 rfl rfl ?_
  refine l_iload hC (pc := 28) dL_law_28 0 rfl rfl ?_
  refine l_sld hC (pc := 29) (j := i) (by omega) dL_law_29 ?_
  refine l_bipush hC (pc := 30) (v := 63) dL_law_30 (by decide +kernel) ?_
  refine l_iand hC (pc := 32) dL_law_32 ?_
  obtain ⟨k, hk, e⟩ := and63 (qx Γ i)
  rw [e]
  have hk2 : k = 0 ∨ k = 1 ∨ k = 2 ∨ k = 3 ∨ k = 4 ∨ k = 5 ∨ k = 6 ∨ k = 7 ∨ k = 8 ∨ k = 9 ∨ k = 10 ∨ k = 11 ∨ k = 12 ∨ k = 13 ∨ k = 14 ∨ k = 15 ∨ k = 16 ∨ k = 17 ∨ k = 18 ∨ k = 19 ∨ k = 20 ∨ k = 21 ∨ k = 22 ∨ k = 23 ∨ k = 24 ∨ k = 25 ∨ k = 26 ∨ k = 27 ∨ k = 28 ∨ k = 29 ∨ k = 30 ∨ k = 31 ∨ k = 32 ∨ k = 33 ∨ k = 34 ∨ k = 35 ∨ k = 36 ∨ k = 37 ∨ k = 38 ∨ k = 39 ∨ k = 40 ∨ k = 41 ∨ k = 42 ∨ k = 43 ∨ k = 44 ∨ k = 45 ∨ k = 46 ∨ k = 47 ∨ k = 48 ∨ k = 49 ∨ k = 50 ∨ k = 51 ∨ k = 52 ∨ k = 53 ∨ k = 54 ∨ k = 55 ∨ k = 56 ∨ 57 ≤ k := by omega
  rcases hk2 with rfl | rfl | rfl | rfl | rfl | rfl | rfl | rfl | rfl | rfl | rfl | rfl | rfl | rfl | rfl | rfl | rfl | rfl | rfl | rfl | rfl | rfl | rfl | rfl | rfl | rfl | rfl | rfl | rfl | rfl | rfl | rfl | rfl | rfl | rfl | rfl | rfl | rfl | rfl | rfl | rfl | rfl | rfl | rfl | rfl | rfl | rfl | rfl | rfl | rfl | rfl | rfl | rfl | rfl | rfl | rfl | rfl | h
  · exact l_tin hC (pc := 33) dL_law_33 0 (by decide +kernel) (by decide) (by decide) rfl rfl (lcase_0 hC hv hi kk)
  · exact l_tin hC (pc := 33) dL_law_33 1 (by decide +kernel) (by decide) (by decide) rfl rfl (lcase_1 hC hv hi kk)
  · exact l_tin hC (pc := 33) dL_law_33 2 (by decide +kernel) (by decide) (by decide) rfl rfl (lcase_2 hC hv hi kk)
  · exact l_tin hC (pc := 33) dL_law_33 3 (by decide +kernel) (by decide) (by decide) rfl rfl (lcase_3 hC hv hi kk)
  · exact l_tin hC (pc := 33) dL_law_33 4 (by decide +kernel) (by decide) (by decide) rfl rfl (lcase_4 hC hv hi kk)
  · exact l_tin hC (pc := 33) dL_law_33 5 (by decide +kernel) (by decide) (by decide) rfl rfl (lcase_5 hC hv hi kk)
  · exact l_tin hC (pc := 33) dL_law_33 6 (by decide +kernel) (by decide) (by decide) rfl rfl (lcase_6 hC hv hi kk)
  · exact l_tin hC (pc := 33) dL_law_33 7 (by decide +kernel) (by decide) (by decide) rfl rfl (lcase_7 hC hv hi kk)
  · exact l_tin hC (pc := 33) dL_law_33 8 (by decide +kernel) (by decide) (by decide) rfl rfl (lcase_8 hC hv hi kk)
  · exact l_tin hC (pc := 33) dL_law_33 9 (by decide +kernel) (by decide) (by decide) rfl rfl (lcase_9 hC hv hi kk)
  · exact l_tin hC (pc := 33) dL_law_33 10 (by decide +kernel) (by decide) (by decide) rfl rfl (lcase_10 hC hv hi kk)
  · exact l_tin hC (pc := 33) dL_law_33 11 (by decide +kernel) (by decide) (by decide) rfl rfl (lcase_11 hC hv hi kk)
  · exact l_tin hC (pc := 33) dL_law_33 12 (by decide +kernel) (by decide) (by decide) rfl rfl (lcase_12 hC hv hi kk)
  · exact l_tin hC (pc := 33) dL_law_33 13 (by decide +kernel) (by decide) (by decide) rfl rfl (lcase_13 hC hv hi kk)
  · exact l_tin hC (pc := 33) dL_law_33 14 (by decide +kernel) (by decide) (by decide) rfl rfl (lcase_14 hC hv hi kk)
  · exact l_tin hC (pc := 33) dL_law_33 15 (by decide +kernel) (by decide) (by decide) rfl rfl (lcase_15 hC hv hi kk)
  · exact l_tin hC (pc := 33) dL_law_33 16 (by decide +kernel) (by decide) (by decide) rfl rfl (lcase_16 hC hv hi kk)
  · exact l_tin hC (pc := 33) dL_law_33 17 (by decide +kernel) (by decide) (by decide) rfl rfl (lcase_17 hC hv hi kk)
  · exact l_tin hC (pc := 33) dL_law_33 18 (by decide +kernel) (by decide) (by decide) rfl rfl (lcase_18 hC hv hi kk)
  · exact l_tin hC (pc := 33) dL_law_33 19 (by decide +kernel) (by decide) (by decide) rfl rfl (lcase_19 hC hv hi kk)
  · exact l_tin hC (pc := 33) dL_law_33 20 (by decide +kernel) (by decide) (by decide) rfl rfl (lcase_20 hC hv hi kk)
  · exact l_tin hC (pc := 33) dL_law_33 21 (by decide +kernel) (by decide) (by decide) rfl rfl (lcase_21 hC hv hi kk)
  · exact l_tin hC (pc := 33) dL_law_33 22 (by decide +kernel) (by decide) (by decide) rfl rfl (lcase_22 hC hv hi kk)
  · exact l_tin hC (pc := 33) dL_law_33 23 (by decide +kernel) (by decide) (by decide) rfl rfl (lcase_23 hC hv hi kk)
  · exact l_tin hC (pc := 33) dL_law_33 24 (by decide +kernel) (by decide) (by decide) rfl rfl (lcase_24 hC hv hi kk)
  · exact l_tin hC (pc := 33) dL_law_33 25 (by decide +kernel) (by decide) (by decide) rfl rfl (lcase_25 hC hv hi kk)
  · exact l_tin hC (pc := 33) dL_law_33 26 (by decide +kernel) (by decide) (by decide) rfl rfl (lcase_26 hC hv hi kk)
  · exact l_tin hC (pc := 33) dL_law_33 27 (by decide +kernel) (by decide) (by decide) rfl rfl (lcase_27 hC hv hi kk)
  · exact l_tin hC (pc := 33) dL_law_33 28 (by decide +kernel) (by decide) (by decide) rfl rfl (lcase_28 hC hv hi kk)
  · exact l_tin hC (pc := 33) dL_law_33 29 (by decide +kernel) (by decide) (by decide) rfl rfl (lcase_29 hC hv hi kk)
  · exact l_tin hC (pc := 33) dL_law_33 30 (by decide +kernel) (by decide) (by decide) rfl rfl (lcase_30 hC hv hi kk)
  · exact l_tin hC (pc := 33) dL_law_33 31 (by decide +kernel) (by decide) (by decide) rfl rfl (lcase_31 hC hv hi kk)
  · exact l_tin hC (pc := 33) dL_law_33 32 (by decide +kernel) (by decide) (by decide) rfl rfl (lcase_32 hC hv hi kk)
  · exact l_tin hC (pc := 33) dL_law_33 33 (by decide +kernel) (by decide) (by decide) rfl rfl (lcase_33 hC hv hi kk)
  · exact l_tin hC (pc := 33) dL_law_33 34 (by decide +kernel) (by decide) (by decide) rfl rfl (lcase_34 hC hv hi kk)
  · exact l_tin hC (pc := 33) dL_law_33 35 (by decide +kernel) (by decide) (by decide) rfl rfl (lcase_35 hC hv hi kk)
  · exact l_tin hC (pc := 33) dL_law_33 36 (by decide +kernel) (by decide) (by decide) rfl rfl (lcase_36 hC hv hi kk)
  · exact l_tin hC (pc := 33) dL_law_33 37 (by decide +kernel) (by decide) (by decide) rfl rfl (lcase_37 hC hv hi kk)
  · exact l_tin hC (pc := 33) dL_law_33 38 (by decide +kernel) (by decide) (by decide) rfl rfl (lcase_38 hC hv hi kk)
  · exact l_tin hC (pc := 33) dL_law_33 39 (by decide +kernel) (by decide) (by decide) rfl rfl (lcase_39 hC hv hi kk)
  · exact l_tin hC (pc := 33) dL_law_33 40 (by decide +kernel) (by decide) (by decide) rfl rfl (lcase_40 hC hv hi kk)
  · exact l_tin hC (pc := 33) dL_law_33 41 (by decide +kernel) (by decide) (by decide) rfl rfl (lcase_41 hC hv hi kk)
  · exact l_tin hC (pc := 33) dL_law_33 42 (by decide +kernel) (by decide) (by decide) rfl rfl (lcase_42 hC hv hi kk)
  · exact l_tin hC (pc := 33) dL_law_33 43 (by decide +kernel) (by decide) (by decide) rfl rfl (lcase_43 hC hv hi kk)
  · exact l_tin hC (pc := 33) dL_law_33 44 (by decide +kernel) (by decide) (by decide) rfl rfl (lcase_44 hC hv hi kk)
  · exact l_tin hC (pc := 33) dL_law_33 45 (by decide +kernel) (by decide) (by decide) rfl rfl (lcase_45 hC hv hi kk)
  · exact l_tin hC (pc := 33) dL_law_33 46 (by decide +kernel) (by decide) (by decide) rfl rfl (lcase_46 hC hv hi kk)
  · exact l_tin hC (pc := 33) dL_law_33 47 (by decide +kernel) (by decide) (by decide) rfl rfl (lcase_47 hC hv hi kk)
  · exact l_tin hC (pc := 33) dL_law_33 48 (by decide +kernel) (by decide) (by decide) rfl rfl (lcase_48 hC hv hi kk)
  · exact l_tin hC (pc := 33) dL_law_33 49 (by decide +kernel) (by decide) (by decide) rfl rfl (lcase_49 hC hv hi kk)
  · exact l_tin hC (pc := 33) dL_law_33 50 (by decide +kernel) (by decide) (by decide) rfl rfl (lcase_50 hC hv hi kk)
  · exact l_tin hC (pc := 33) dL_law_33 51 (by decide +kernel) (by decide) (by decide) rfl rfl (lcase_51 hC hv hi kk)
  · exact l_tin hC (pc := 33) dL_law_33 52 (by decide +kernel) (by decide) (by decide) rfl rfl (lcase_52 hC hv hi kk)
  · exact l_tin hC (pc := 33) dL_law_33 53 (by decide +kernel) (by decide) (by decide) rfl rfl (lcase_53 hC hv hi kk)
  · exact l_tin hC (pc := 33) dL_law_33 54 (by decide +kernel) (by decide) (by decide) rfl rfl (lcase_54 hC hv hi kk)
  · exact l_tin hC (pc := 33) dL_law_33 55 (by decide +kernel) (by decide) (by decide) rfl rfl (lcase_55 hC hv hi kk)
  · exact l_tin hC (pc := 33) dL_law_33 56 (by decide +kernel) (by decide) (by decide) rfl rfl (lcase_56 hC hv hi kk)
  · refine l_tout hC (pc := 33) (tgt := 1729) dL_law_33 (Or.inr ?_) rfl (kk κ ρ ⟨_, _, _, hv⟩)
    rw [nI_toInt (by omega)]
    omega
theorem l_cmp {L i : Nat} (hL : L ≤ 3072) (hi : i ≤ L) (h : nI i ≤ nI L - 6) : i + 6 ≤ L := by
  rw [Int32.le_iff_toInt_le, nI_toInt (by omega)] at h
  by_cases h6 : 6 ≤ L
  · rw [show (6 : Int32) = nI 6 from rfl, n_sub h6, nI_toInt (by omega)] at h
    omega
  · have h5 : L = 0 ∨ L = 1 ∨ L = 2 ∨ L = 3 ∨ L = 4 ∨ L = 5 := by omega
    have h7 : (nI L - 6 : Int32).toInt < 0 := by rcases h5 with rfl | rfl | rfl | rfl | rfl | rfl <;> decide +kernel
    omega
theorem l_ret (hC : lC Γ) (hret : (gmeth Γ.1).sig.returnType = ret) : LQ Γ κ ρ 1736 loc [.int 1] := by
  intro ls hl H locs hj
  refine va_forget (fun q hq => ?_) ?_
  · have h := hj.2.2.2 q hq
    have h : dB (gΔ Γ.1) ≤ q.base := h
    rw [hC.sz] at h
    exact h
  · refine W.widen hC.cs.1 hC.cs.2 ?_
    rw [hC.R, hC.a]
    exact lw_ret hC.x hC.b hret hC.lk dL_law_1736
theorem l_loop (hC : lC Γ) (hret : (gmeth Γ.1).sig.returnType = ret) : ∀ (n i : Nat) (κ ρ : Mem), (∃ G H m, IV G H m κ ρ) → qL Γ - i < n → i ≤ qL Γ → LQ Γ κ ρ 18 (lo Γ i) [] := by
  intro n
  induction n with
  | zero => intro i κ ρ _ h; exact absurd h (Nat.not_lt_zero _)
  | succ n ih =>
    intro i κ ρ hv hn hi
    obtain ⟨G, H, m, hv⟩ := hv
    have hL := hC.L
    refine l_iload hC (pc := 18) dL_law_18 0 rfl rfl ?_
    refine l_aload hC (pc := 19) dL_law_19 3 rfl rfl ?_
    refine l_slen hC (pc := 20) dL_law_20 ?_
    refine l_bipush hC (pc := 21) (v := 6) dL_law_21 (by decide +kernel) ?_
    refine l_isub hC (pc := 23) dL_law_23 ?_
    refine l_gt hC (pc := 24) (tgt := 1735) dL_law_24 rfl (fun _ => ?_) (fun h => ?_)
    · refine l_iconst hC (pc := 1735) (v := 1) dL_law_1735 (by decide +kernel) ?_
      exact l_ret hC hret
    · have h6 := l_cmp hL hi h
      refine l_step hC hv h6 (fun κ1 ρ1 hv1 => ?_)
      refine l_iinc hC (pc := 1729) (w := nI (i + 6)) dL_law_1729 0 rfl ?_ (by decide) rfl ?_
      · rw [show Int32.ofInt 6 = nI 6 from by decide +kernel, n_add]
      refine l_goto hC (pc := 1732) (tgt := 18) dL_law_1732 rfl ?_
      exact ih (i + 6) κ1 ρ1 hv1 (by omega) h6
end LLOOP
