/-! TOKENS of a text: the class takes it apart -/
def TXT (κ : Mem) (b : Nat → Int32) (n : Nat) : Prop := mi κ 140 4 = nI n ∧ ∀ i, i < n → mi κ 137 i = b i
def tkV (b : Nat → Int32) (n p : Nat) : Nat := if tkK b n p = 1 then wvX b p (tkE b n p) else nvX b p (tkE b n p - p)
def TK (κ : Mem) (b : Nat → Int32) (n : Nat) : Prop := ∀ k, k ≤ tkN b n → mi κ 141 k = nI (tkK b n (tkP b n k)) ∧ mi κ 142 k = nI (tkP b n k) ∧ (tkK b n (tkP b n k) = 1 ∨ tkK b n (tkP b n k) = 2 → mi κ 143 k = nI (tkV b n (tkP b n k)))
section TKX
variable {κ κ1 : Mem} {b : Nat → Int32} {n p i e k w F : Nat} {x v1 : Int32} {S : Nat → Prop}
theorem TXT.agr (h : TXT κ b n) (ha : agr S κ κ1) (h0 : ¬ S 140) (h1 : ¬ S 137) : TXT κ1 b n := ⟨(agr_mi ha h0 4).trans h.1, fun i hi => (agr_mi ha h1 i).trans (h.2 i hi)⟩
theorem sX8_isLetter (κ : Mem) (x : Int32) : pX8_isLetter κ x = some (nI (isLt x).toNat) := by
  unfold pX8_isLetter pX8_isLetter_16 pX8_isLetter_17 isLt
  by_cases c : x < 97
  · rw [if_pos c, decide_eq_false (fun z => z.1 c)]; rfl
  · rw [if_neg c]
    by_cases d : x ≤ 122
    · rw [if_pos d, decide_eq_true ⟨c, d⟩]; rfl
    · rw [if_neg d, decide_eq_false (fun z => d z.2)]; rfl
theorem sX8_isDigit (κ : Mem) (x : Int32) : pX8_isDigit κ x = some (nI (isDg x).toNat) := by
  unfold pX8_isDigit pX8_isDigit_16 pX8_isDigit_17 isDg
  by_cases c : x < 48
  · rw [if_pos c, decide_eq_false (fun z => z.1 c)]; rfl
  · rw [if_neg c]
    by_cases d : x ≤ 57
    · rw [if_pos d, decide_eq_true ⟨c, d⟩]; rfl
    · rw [if_neg d, decide_eq_false (fun z => d z.2)]; rfl
theorem sX8_afterBlanks_2 (h : TXT κ b n) (hn : n ≤ 600) : ∀ (r fu p : Nat), n - p = r → p ≤ n → r < fu → pX8_afterBlanks_2 F κ fu (nI p) = some (nI (rE isBl b n p)) := by
  intro r
  induction r with
  | zero =>
    intro fu p hr hp hf
    obtain ⟨fu, rfl⟩ : ∃ f, fu = f + 1 := ⟨fu - 1, by omega⟩
    rw [pX8_afterBlanks_2, h.1, i_lt (by omega) (by omega), if_neg (by omega), rE_end (by omega)]
    rfl
  | succ r ih =>
    intro fu p hr hp hf
    obtain ⟨fu, rfl⟩ : ∃ f, fu = f + 1 := ⟨fu - 1, by omega⟩
    have e1 := h.2 p (by omega)
    rw [pX8_afterBlanks_2, h.1, i_lt (by omega) (by omega), if_pos (by omega), ck_in (by omega) (by decide), ck_in (by omega) (by decide), n_cl (by omega), e1]
    unfold pX8_afterBlanks_32 pX8_afterBlanks_38
    rw [show nI p + 1 = nI (p + 1) from n_add p 1, ih fu (p + 1) (by omega) (by omega) (by omega)]
    by_cases c : b p = 10
    · rw [if_pos c, rE_yes (n := n) (p := p) (by omega) (decide_eq_true (Or.inl c))]
    · rw [if_neg c]
      by_cases d : b p = 32
      · rw [if_pos d, rE_yes (n := n) (p := p) (by omega) (decide_eq_true (Or.inr d))]
      · rw [if_neg d, rE_no (decide_eq_false (fun z => z.elim c d))]
theorem sX8_afterBlanks (h : TXT κ b n) (hn : n ≤ 600) (hF : 5000 < F) (hp : p ≤ n) : pX8_afterBlanks F κ (nI p) = some (nI (rE isBl b n p)) := sX8_afterBlanks_2 h hn (n - p) F p rfl hp (by omega)
theorem sX8_spelling (κ : Mem) : ∀ w, w < 10 → pX8_spelling κ (nI (w + 1)) = some w := by
  intro w hw
  unfold pX8_spelling
  rcases (show w = 0 ∨ w = 1 ∨ w = 2 ∨ w = 3 ∨ w = 4 ∨ w = 5 ∨ w = 6 ∨ w = 7 ∨ w = 8 ∨ w = 9 by omega) with z | z | z | z | z | z | z | z | z | z <;> subst z <;> rfl
theorem sX8_isWord (h : TXT κ b n) (hn : n ≤ 600) (hF : 5000 < F) (hw : w < 10) (hp : p ≤ e) (he : e ≤ n) : pX8_isWord F w κ (nI p) (nI e) = some (nI (wmt b p e w).toNat) := by
  have h8 := wlen_8 w hw
  have el : pJ0_length_8abf5 w κ = some (nI (wlen w)) := rfl
  unfold pX8_isWord wmt
  rw [el, Option.bind_some, n_sub hp, i_eq (by omega) (by omega)]
  by_cases c : e - p = wlen w
  · rw [if_pos c, decide_eq_true c, Bool.true_and]
    have key := lp_all (fun fu i => pX8_isWord_15 F w κ (nI p) fu (nI i)) (fun i => decide (b (p + i) = chJS w i)) (wlen w) (some (nI 1)) (some (nI 0)) (fun fu => by
      show pX8_isWord_15 F w κ (nI p) (fu + 1) (nI (wlen w)) = _
      rw [pX8_isWord_15, el, Option.bind_some, i_lt (by omega) (by omega), if_neg (Nat.lt_irrefl _)]
      rfl) (fun fu i hi => by
      show pX8_isWord_15 F w κ (nI p) (fu + 1) (nI i) = if decide (b (p + i) = chJS w i) = true then pX8_isWord_15 F w κ (nI p) fu (nI (i + 1)) else some (nI 0)
      have e1 := h.2 (p + i) (by omega)
      have ec : pJ0_charAt_5068e w κ (nI i) = some (chJS w i) := by
        unfold pJ0_charAt_5068e
        rw [show lenJS.getD w 0 = wlen w from rfl, ck_in hi (by omega), n_cl (by omega)]
      rw [pX8_isWord_15, el, Option.bind_some, i_lt (by omega) (by omega), if_pos hi, n_add, ck_in (by omega) (by decide), ec, Option.bind_some, n_cl (by omega), e1, show nI i + 1 = nI (i + 1) from n_add i 1]
      by_cases d : b (p + i) = chJS w i
      · rw [if_pos d, if_pos (decide_eq_true d)]
      · rw [if_neg d, decide_eq_false d]
        rfl) F (by omega)
    refine Eq.trans key ?_
    cases alb (fun i => decide (b (p + i) = chJS w i)) (wlen w) <;> rfl
  · rw [if_neg c, decide_eq_false c]
    rfl
theorem sX8_meaning (h : TXT κ b n) (hn : n ≤ 600) (hF : 5000 < F) (hp : p ≤ e) (he : e ≤ n) : pX8_meaning F κ (nI p) (nI e) = some (nI (wvX b p e)) := by
  unfold pX8_meaning wvX
  have key := lp_fst F (fun fu i => pX8_meaning_2 F κ (nI p) (nI e) fu (nI (i + 1))) (wmt b p e) 10 (fun i => some (nI (i + 1))) (some (nI 0)) (pX8_meaning_2 F κ (nI p) (nI e) F 1) rfl (fun fu => by
    show pX8_meaning_2 F κ (nI p) (nI e) (fu + 1) (nI 11) = _
    rw [pX8_meaning_2, if_neg (by decide)]
    rfl) (fun fu i hi => by
    show pX8_meaning_2 F κ (nI p) (nI e) (fu + 1) (nI (i + 1)) = if wmt b p e i = true then some (nI (i + 1)) else pX8_meaning_2 F κ (nI p) (nI e) fu (nI (i + 1 + 1))
    rw [pX8_meaning_2, show (10 : Int32) = nI 10 from rfl, i_le (by omega) (by decide), if_pos (by omega), sX8_spelling κ i hi, Option.bind_some, decide_eq_true (show i < nJS by unfold nJS; omega), ck_p, sX8_isWord h hn hF hi hp he, Option.bind_some, show nI (i + 1) + 1 = nI (i + 1 + 1) from n_add _ 1]
    cases wmt b p e i
    · rw [if_pos (show nI false.toNat = 0 from rfl), if_neg (by decide)]
    · rw [if_neg (show ¬ nI true.toNat = 0 by decide), if_pos rfl]) (by omega)
  refine Eq.trans key ?_
  by_cases c : fnd (wmt b p e) 10 < 10
  · rw [if_pos c, if_pos c]
  · rw [if_neg c, if_neg c]
theorem sX8_takeWord_2 (h : TXT κ b n) (hn : n ≤ 600) {p0 : Int32} : ∀ (r fu p : Nat), n - p = r → p ≤ n → r < fu → pX8_takeWord_2 F κ v1 p0 fu (nI p) = pX8_takeWord_28 F κ v1 p0 (nI (rE isLt b n p)) := by
  intro r
  induction r with
  | zero =>
    intro fu p hr hp hf
    obtain ⟨fu, rfl⟩ : ∃ f, fu = f + 1 := ⟨fu - 1, by omega⟩
    rw [pX8_takeWord_2, h.1, i_lt (by omega) (by omega), if_neg (by omega), rE_end (by omega)]
  | succ r ih =>
    intro fu p hr hp hf
    obtain ⟨fu, rfl⟩ : ∃ f, fu = f + 1 := ⟨fu - 1, by omega⟩
    have e1 := h.2 p (by omega)
    rw [pX8_takeWord_2, h.1, i_lt (by omega) (by omega), if_pos (by omega), ck_in (by omega) (by decide), n_cl (by omega), e1, sX8_isLetter, Option.bind_some, show nI p + 1 = nI (p + 1) from n_add p 1, ih fu (p + 1) (by omega) (by omega) (by omega)]
    cases hc : isLt (b p)
    · rw [if_pos (show nI false.toNat = 0 from rfl), rE_no hc]
    · rw [if_neg (show ¬ nI true.toNat = 0 by decide), rE_yes (by omega) hc]
theorem sX8_takeNumber_5 (h : TXT κ b n) (hn : n ≤ 600) {p0 : Nat} : ∀ (r fu k : Nat), n - (p0 + k) = r → p0 + k ≤ n → r < fu → pX8_takeNumber_5 F κ v1 (nI p0) fu (nI (p0 + k)) (nI (nvX b p0 k)) = pX8_takeNumber_51 F κ v1 (nI p0) (nI (rE isDg b n (p0 + k))) (nI (nvX b p0 (rE isDg b n (p0 + k) - p0))) := by
  intro r
  induction r with
  | zero =>
    intro fu k hr hp hf
    obtain ⟨fu, rfl⟩ : ∃ f, fu = f + 1 := ⟨fu - 1, by omega⟩
    rw [pX8_takeNumber_5, h.1, i_lt (by omega) (by omega), if_neg (by omega), rE_end (by omega), Nat.add_sub_cancel_left]
  | succ r ih =>
    intro fu k hr hp hf
    obtain ⟨fu, rfl⟩ : ∃ f, fu = f + 1 := ⟨fu - 1, by omega⟩
    have e1 := h.2 (p0 + k) (by omega)
    have hl := nvX_lt (b := b) (p := p0) k
    rw [pX8_takeNumber_5, h.1, i_lt (by omega) (by omega), if_pos (by omega), ck_in (by omega) (by decide), n_cl (by omega), e1, sX8_isDigit, Option.bind_some]
    cases hc : isDg (b (p0 + k))
    · rw [if_pos (show nI false.toNat = 0 from rfl), rE_no hc, Nat.add_sub_cancel_left]
    · obtain ⟨d1, d2⟩ := isDg_t hc
      have e2 : (nI (nvX b p0 k) * 10 + b (p0 + k)) - 48 = nI (nvX b p0 k * 10 + dgv b (p0 + k)) := by
        rw [d1, show (10 : Int32) = nI 10 from rfl, show (48 : Int32) = nI 48 from rfl, n_mul, n_add, n_sub (by omega)]
        exact congrArg nI (by omega)
      rw [if_neg (show ¬ nI true.toNat = 0 by decide), ck_in (by omega) (by decide), show (100 : Int32) = nI 100 from rfl, ck_nz (by decide) (by decide), e2, n_div (by omega) (by decide) (by decide), n_mul, n_rem, nm_def, show nI (p0 + k) + 1 = nI (p0 + (k + 1)) from n_add _ 1]
      have h3 := ih fu (k + 1) (by omega) (by omega) (by omega)
      rw [nvX] at h3
      rw [h3, rE_yes (by omega) hc]
      rfl
/-- one token is taken -/
theorem sX8_takeToken (h : TXT κ b n) (hn : n ≤ 600) (hF : 5000 < F) (hp : p < n) (hk : k < 601) : ∃ κ1, agr (fun c => c = 141 ∨ c = 143) κ κ1 ∧ mi κ1 141 k = nI (tkK b n p) ∧ (tkK b n p = 1 ∨ tkK b n p = 2 → mi κ1 143 k = nI (tkV b n p)) ∧ (∀ j, j ≠ k → mi κ1 141 j = mi κ 141 j ∧ mi κ1 143 j = mi κ 143 j) ∧ pX8_takeToken F κ (nI k) (nI p) = some (nI (tkE b n p), κ1) := by
  have e1 := h.2 p hp
  have hlt := rE_le (P := isLt) (b := b) (n := n) (p := p) (by omega)
  have hge := rE_ge (P := isLt) (b := b) (n := n) (p := p)
  have hld := rE_le (P := isDg) (b := b) (n := n) (p := p) (by omega)
  have hgd := rE_ge (P := isDg) (b := b) (n := n) (p := p)
  unfold pX8_takeToken
  rw [ck_in (by omega) (by decide), n_cl (by omega), e1, sX8_isLetter, Option.bind_some]
  cases hc : isLt (b p)
  · rw [if_pos (show nI false.toNat = 0 from rfl), ck_in (by omega) (by decide), sX8_isDigit, Option.bind_some]
    cases hd : isDg (b p)
    · rw [if_pos (show nI false.toNat = 0 from rfl), ck_in (by omega) (by decide)]
      unfold pX8_takeToken_59
      rw [show nI p + 1 = nI (p + 1) from n_add p 1]
      have ek : tkE b n p = p + 1 := by unfold tkE; rw [hc, hd]; rfl
      rw [ek]
      by_cases c : b p = 59
      · have eK : tkK b n p = 3 := by unfold tkK; rw [if_pos hp, hc, hd, if_neg (by decide), if_neg (by decide), if_pos c]
        rw [eK, if_pos c, ck_in hk (by decide), n_cl (by omega)]
        refine ⟨_, agr_setI (Or.inl rfl), by rw [mi_setI, if_pos ⟨rfl, rfl⟩]; rfl, fun z => by omega, fun j hj => ⟨by rw [mi_setI, if_neg (fun z => hj z.2)], by rw [mi_setI, if_neg (by omega)]⟩, rfl⟩
      · have eK : tkK b n p = 4 := by unfold tkK; rw [if_pos hp, hc, hd, if_neg (by decide), if_neg (by decide), if_neg c]
        rw [eK, if_neg c, ck_in hk (by decide), n_cl (by omega)]
        refine ⟨_, agr_setI (Or.inl rfl), by rw [mi_setI, if_pos ⟨rfl, rfl⟩]; rfl, fun z => by omega, fun j hj => ⟨by rw [mi_setI, if_neg (fun z => hj z.2)], by rw [mi_setI, if_neg (by omega)]⟩, rfl⟩
    · rw [if_neg (show ¬ nI true.toNat = 0 by decide)]
      have ek : tkE b n p = rE isDg b n p := by unfold tkE; rw [hc, hd]; rfl
      have h5 := sX8_takeNumber_5 (F := F) (v1 := nI k) (p0 := p) h hn (n - p) F 0 rfl (by omega) (by omega)
      rw [Nat.add_zero] at h5
      unfold pX8_takeNumber
      rw [show pX8_takeNumber_5 F κ (nI k) (nI p) F (nI p) 0 = _ from h5]
      unfold pX8_takeNumber_51 pX8_takeNumber_68
      rw [n_sub hgd, show (2 : Int32) = nI 2 from rfl, i_le (by omega) (by decide), ek]
      have eV : tkV b n p = nvX b p (rE isDg b n p - p) := by
        unfold tkV
        rw [if_neg, ek]
        unfold tkK
        rw [if_pos hp, hc, hd, if_neg (by decide), if_pos rfl]
        split <;> omega
      by_cases c : rE isDg b n p - p ≤ 2
      · have eK : tkK b n p = 2 := by unfold tkK; rw [if_pos hp, hc, hd, if_neg (by decide), if_pos rfl, if_pos c]
        rw [eK, if_pos c, ck_in hk (by decide), nm_def, ck_in hk (by decide), n_cl (by omega)]
        refine ⟨_, agr_trans (agr_setI (Or.inl rfl)) (agr_setI (Or.inr rfl)), ?_, fun _ => ?_, fun j hj => ⟨?_, ?_⟩, rfl⟩
        · rw [mi_setI, if_neg (by omega), mi_setI, if_pos ⟨rfl, rfl⟩]
        · rw [mi_setI, if_pos ⟨rfl, rfl⟩, eV]
        · rw [mi_setI, if_neg (by omega), mi_setI, if_neg (fun z => hj z.2)]
        · rw [mi_setI, if_neg (fun z => hj z.2), mi_setI, if_neg (by omega)]
      · have eK : tkK b n p = 4 := by unfold tkK; rw [if_pos hp, hc, hd, if_neg (by decide), if_pos rfl, if_neg c]
        rw [eK, if_neg c, ck_in hk (by decide), nm_def, ck_in hk (by decide), n_cl (by omega)]
        refine ⟨_, agr_trans (agr_setI (Or.inl rfl)) (agr_setI (Or.inr rfl)), ?_, fun z => by omega, fun j hj => ⟨?_, ?_⟩, rfl⟩
        · rw [mi_setI, if_neg (by omega), mi_setI, if_pos ⟨rfl, rfl⟩]; rfl
        · rw [mi_setI, if_neg (by omega), mi_setI, if_neg (fun z => hj z.2)]
        · rw [mi_setI, if_neg (fun z => hj z.2), mi_setI, if_neg (by omega)]
  · rw [if_neg (show ¬ nI true.toNat = 0 by decide)]
    have ek : tkE b n p = rE isLt b n p := by unfold tkE; rw [hc]; rfl
    have h5 := sX8_takeWord_2 (F := F) (v1 := nI k) (p0 := nI p) h hn (n - p) F p rfl (by omega) (by omega)
    unfold pX8_takeWord
    rw [h5]
    have hm : ∀ K : Int32, pX8_meaning F (setI κ 141 k K) (nI p) (nI (rE isLt b n p)) = some (nI (wvX b p (rE isLt b n p))) := fun K => sX8_meaning (h.agr (S := fun c => c = 141) (agr_setI rfl) (by decide) (by decide)) hn hF hge hlt
    unfold pX8_takeWord_28 pX8_takeWord_46
    rw [n_sub hge, show (8 : Int32) = nI 8 from rfl, i_le (by omega) (by decide), ek]
    by_cases c : rE isLt b n p - p ≤ 8
    · have eK : tkK b n p = 1 := by unfold tkK; rw [if_pos hp, hc, if_pos rfl, if_pos c]
      have eV : tkV b n p = wvX b p (rE isLt b n p) := by unfold tkV; rw [if_pos eK, ek]
      rw [eK, if_pos c, ck_in hk (by decide), n_cl (by omega), nm_def, hm, Option.bind_some, ck_in hk (by decide)]
      refine ⟨_, agr_trans (agr_setI (Or.inl rfl)) (agr_setI (Or.inr rfl)), ?_, fun _ => ?_, fun j hj => ⟨?_, ?_⟩, rfl⟩
      · rw [mi_setI, if_neg (by omega), mi_setI, if_pos ⟨rfl, rfl⟩]; rfl
      · rw [mi_setI, if_pos ⟨rfl, rfl⟩, eV]
      · rw [mi_setI, if_neg (by omega), mi_setI, if_neg (fun z => hj z.2)]
      · rw [mi_setI, if_neg (fun z => hj z.2), mi_setI, if_neg (by omega)]
    · have eK : tkK b n p = 4 := by unfold tkK; rw [if_pos hp, hc, if_pos rfl, if_neg c]
      rw [eK, if_neg c, ck_in hk (by decide), n_cl (by omega), nm_def, hm, Option.bind_some, ck_in hk (by decide)]
      refine ⟨_, agr_trans (agr_setI (Or.inl rfl)) (agr_setI (Or.inr rfl)), ?_, fun z => by omega, fun j hj => ⟨?_, ?_⟩, rfl⟩
      · rw [mi_setI, if_neg (by omega), mi_setI, if_pos ⟨rfl, rfl⟩]; rfl
      · rw [mi_setI, if_neg (by omega), mi_setI, if_neg (fun z => hj z.2)]
      · rw [mi_setI, if_neg (fun z => hj z.2), mi_setI, if_neg (by omega)]
/-- the whole text -/
theorem sX8_split (hb : ∀ i, i < n → mi κ 137 i = b i) (hn : n ≤ 600) (hF : 5000 < F) : ∃ κ1, agr (fun c => 140 ≤ c ∧ c ≤ 143) κ κ1 ∧ TK κ1 b n ∧ pX8_split F κ (nI n) = some κ1 := by
  obtain ⟨s0, es0⟩ : ∃ s0, s0 = setI κ 140 4 (nI n) := ⟨_, rfl⟩
  have a0 : agr (fun c => c = 140) κ s0 := by rw [es0]; exact agr_setI rfl
  have h0 : TXT s0 b n := ⟨by rw [es0, mi_setI, if_pos ⟨rfl, rfl⟩], fun i hi => (agr_mi a0 (by decide) i).trans (hb i hi)⟩
  have hN : tkN b n < n + 1 := tkN_lt
  unfold pX8_split
  have e600 : ¬ ((600 : Int32) < nI n) := by
    rw [show (600 : Int32) = nI 600 from rfl, n_lt (by decide) (by omega)]
    omega
  rw [if_neg e600, nm_def, ← es0, show (0 : Int32) = nI 0 from rfl, sX8_afterBlanks h0 hn hF (Nat.zero_le _), Option.bind_some]
  refine lp_inv (fun fu (s : Mem) k => pX8_split_21 F fu s (nI k) (nI (tkP b n k))) (fun s k => agr (fun c => 141 ≤ c ∧ c ≤ 143) s0 s ∧ ∀ j, j < k → mi s 141 j = nI (tkK b n (tkP b n j)) ∧ mi s 142 j = nI (tkP b n j) ∧ (tkK b n (tkP b n j) = 1 ∨ tkK b n (tkP b n j) = 2 → mi s 143 j = nI (tkV b n (tkP b n j)))) (tkN b n) (fun y => ∃ κ1, agr (fun c => 140 ≤ c ∧ c ≤ 143) κ κ1 ∧ TK κ1 b n ∧ y = some κ1) (fun fu s hS => ?_) (fun fu s k hk hS => ?_) F s0 0 (Nat.zero_le _) (by omega) ⟨agr_rfl, fun j hj => absurd hj (Nat.not_lt_zero _)⟩
  · obtain ⟨b1, b2⟩ := hS
    have h1 := h0.agr b1 (by omega) (by omega)
    have e2 : pX8_split_21 F (fu + 1) s (nI (tkN b n)) (nI (tkP b n (tkN b n))) = pX8_split_60 F s (nI (tkN b n)) := by
      rw [pX8_split_21, h1.1, tkN_at, i_lt (by omega) (by omega), if_neg (Nat.lt_irrefl _)]
    refine ⟨setI (setI s 141 (tkN b n) (nI 0)) 142 (tkN b n) (nI n), agr_trans (agr_mono a0 (fun c hc => by omega)) (agr_trans (agr_mono b1 (fun c hc => by omega)) (agr_trans (agr_setI (by omega)) (agr_setI (by omega)))), fun j hj => ?_, ?_⟩
    · by_cases y : j = tkN b n
      · subst y
        have eK : tkK b n (tkP b n (tkN b n)) = 0 := by unfold tkK; rw [tkN_at, if_neg (Nat.lt_irrefl _)]
        rw [eK, tkN_at]
        refine ⟨by rw [mi_setI, if_neg (by omega), mi_setI, if_pos ⟨rfl, rfl⟩], by rw [mi_setI, if_pos ⟨rfl, rfl⟩], fun z => by omega⟩
      · obtain ⟨c1, c2, c3⟩ := b2 j (by omega)
        refine ⟨by rw [mi_setI, if_neg (by omega), mi_setI, if_neg (by omega)]; exact c1, by rw [mi_setI, if_neg (by omega), mi_setI, if_neg (by omega)]; exact c2, fun z => by rw [mi_setI, if_neg (by omega), mi_setI, if_neg (by omega)]; exact c3 z⟩
    · refine Eq.trans e2 ?_
      unfold pX8_split_60
      have e4 : ∀ v, mi (setI s 141 (tkN b n) v) 140 4 = nI n := fun v => by rw [mi_setI, if_neg (by omega)]; exact h1.1
      rw [ck_in (by omega) (by decide), n_cl (by omega), nm_def, e4, ck_in (by omega) (by decide)]
      rfl
  · obtain ⟨b1, b2⟩ := hS
    have h1 := h0.agr b1 (by omega) (by omega)
    have hlt := tkN_before hk
    have hkp := tkP_k hlt
    obtain ⟨s2, es2⟩ : ∃ s2, s2 = setI s 142 k (nI (tkP b n k)) := ⟨_, rfl⟩
    have a2 : agr (fun c => c = 142) s s2 := by rw [es2]; exact agr_setI rfl
    obtain ⟨s3, c1, c2, c3, c4, c5⟩ := sX8_takeToken (κ := s2) (F := F) (k := k) (h1.agr a2 (by decide) (by decide)) hn hF hlt (by omega)
    have h3 : TXT s3 b n := (h1.agr a2 (by decide) (by decide)).agr c1 (by decide) (by decide)
    refine ⟨s3, ⟨agr_trans b1 (agr_trans (agr_mono a2 (fun c hc => by omega)) (agr_mono c1 (fun c hc => by omega))), fun j hj => ?_⟩, ?_⟩
    · by_cases y : j = k
      · subst y
        exact ⟨c2, by rw [agr_mi c1 (by decide), es2, mi_setI, if_pos ⟨rfl, rfl⟩], c3⟩
      · obtain ⟨d1, d2, d3⟩ := b2 j (by omega)
        obtain ⟨g1, g2⟩ := c4 j y
        refine ⟨by rw [g1, agr_mi a2 (by decide)]; exact d1, by rw [agr_mi c1 (by decide), es2, mi_setI, if_neg (fun z => y z.2)]; exact d2, fun z => by rw [g2, agr_mi a2 (by decide)]; exact d3 z⟩
    · show pX8_split_21 F (fu + 1) s (nI k) (nI (tkP b n k)) = pX8_split_21 F fu s3 (nI (k + 1)) (nI (tkP b n (k + 1)))
      rw [pX8_split_21, h1.1, i_lt (by omega) (by omega), if_pos hlt, show (600 : Int32) = nI 600 from rfl, i_lt (by omega) (by decide), if_pos (by omega), ck_in (by omega) (by decide), n_cl (by omega), nm_def, ← es2, c5, Option.bind_some, sX8_afterBlanks h3 hn hF (tkE_gt hlt).2, Option.bind_some, tkP_s hlt, show nI k + 1 = nI (k + 1) from n_add k 1]
end TKX
