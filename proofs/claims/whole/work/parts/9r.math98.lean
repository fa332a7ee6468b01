/-! THE LAW FROM ITS ENTRY -/
section WROWS
variable {p : Program} {l : Launch} {e : Env} {R : Room} {s : State} {m : MethodId} {args : Array Value} {below : List Frame} {meth : Method} {c : Code} {H : Heap} {locs : List Loc} {n sl : Nat} {Q : State → Prop} {cc : ByteArray} {own : String} {pc : Nat} {ls : Array Slot} {rest : List Value} {D : va_G} {cA : Nat → ClassId}
theorem w_new (hexec : p.tables.exec = Jvm.exec) (hb : c.code = cc) (hown : s.vm.findClass own = some m.cls) (hts : ∀ w ∈ wsL_law, w.before args s = true) (hK : va_K D vwCl (tysL cA) s) {ci idx N : Nat} {C : String} {T : u_T} {ty : Nat → FieldType} {fs : List Value} (hk : kwC ci C T N ty fs) (hcl : Cond.classLink own idx C ∈ wsL_law) (hce : n + 1 ≤ R.cells) (hsl : sl + N ≤ R.slots) (d : decode cc pc = .ok (.new idx, 3))
    (kk : ∀ H1 : Heap, va_at D vwCl (H.size, .inr (ci, fs)) H1 → H1.size = H.size + 1 → (∀ q : Nat, q < H.size → H1[q]? = H[q]?) → W p l e R s m args below meth c H1 locs (n + 1) (sl + N) Q (F0 m (pc + 3) ls (.ref H.size :: rest))) : W p l e R s m args below meth c H locs n sl Q (F0 m pc ls rest) := by
  obtain ⟨k1, k2, k3, k4, k5, k6⟩ := hk
  have hKn := hK.1 ci _ k1
  refine W.newcK hexec hb hown (hts _ hcl) (hts _ k4) (hts _ k5) rfl d hce hsl hKn.2.1 rfl fun H1 kC hkC e1 z1 o1 => ?_
  exact kk H1 ⟨_, k1, (u_born ty hts k2 hKn hkC e1 k3).to k6⟩ z1 o1
theorem w_run {mc ms : Nat} {g : JFrame} {Qa : State → Outcome → State → Prop} {free : Addr → Prop} (hr : va_Run p l e R s m args below meth c H locs n sl mc ms g rest Qa free)
    (kk : ∀ (v : Option Value) (st₀ t : State) (L : List Loc), st₀.heap = H → Qa st₀ (.returned v) t → (∀ q ∈ L, free q.base) → W p l e R s m args below meth c t.heap (locs ++ L) (n + mc) (sl + ms) Q { g with pc := g.pc + 3, stack := v.toList ++ rest }) : W p l e R s m args below meth c H locs n sl Q g := by
  intro T hT X
  obtain ⟨v, st₀, t, T', L, h0, X', hL, e1, e2, hq, stp⟩ := hr T hT X
  obtain ⟨t2, a1, b1⟩ := kk v st₀ t L h0 hq hL T' e1 X'
  exact ⟨t2, stp t2 a1, b1⟩
theorem w_ini (hexec : p.tables.exec = Jvm.exec) (hb : c.code = cc) (hown : s.vm.findClass own = some m.cls) (hts : ∀ w ∈ wsL_law, w.before args s = true) {nL idx a n' mc ms : Nat} {y : MethodName} {c' : ByteArray} {rm : Room} {Pc : Array Value → State → Prop} {Qc : Array Value → State → Outcome → State → Prop} {free : Addr → Prop} (hml : c.maxLocals = nL) (hsz : ls.size = nL)
    (hM : Met l y (.code y c' n' none :: wsL_law) rm Pc Qc mc ms free) (hw : kwI own idx y c' n' 0) (hnest : Cond.methodLink own idx y ∈ wsL_law) (hrm : (rm.cells = mc ∧ rm.slots = ms) ∧ rm.frames + 1 ≤ R.frames ∧ 8 + (n' + 11) + rm.locals ≤ R.locals) (hp : PreS s H Pc [.ref a]) (hce : n + mc ≤ R.cells) (hsl : sl + ms ≤ R.slots) (d : decode cc pc = .ok (.invokespecial idx, 3)) :
    va_Run p l e R s m args below meth c H locs n sl mc ms (F0 m pc ls [.ref a, .ref a]) [.ref a] (Qc #[.ref a]) free := by
  obtain ⟨⟨-, w2, w3, w4⟩, w5, w6⟩ := hw
  have hG : GoodIn wsL_law (.code y c' n' none :: wsL_law) := goodL (fun w hq => by
    rcases List.mem_cons.mp hq with h | h
    · rw [h]; exact w4
    · exact h)
  exact va_runI (As := []) (rest := [.ref a]) (n := 0) (index := idx) ⟨hexec, hb, hml, hown, hts⟩ hM ⟨callB_of 0 hts hG rfl hrm.1.1 hrm.1.2 (hts _ w3) (hts _ hnest) w6 hrm.2, w5, hts _ w2⟩ hp rfl rfl hsz rfl (lv_room (Nat.le_of_ble_eq_true rfl)) d ⟨hce, hsl⟩
end WROWS
def adM (h k : Nat) : Nat := h + k
theorem cwd_gM {cA : Nat → ClassId} {h : Nat} {κ : Mem} {k : Nat} {q : Nat × va_E} (hq : (cwd layM 15 cA (adM h) κ)[k]? = some q) : k < 15 ∧ q = (adM h k, cel cA (adM h) κ (layM k) k) := by
  have hk : k < 15 := by
    have := (List.getElem?_eq_some_iff.mp hq).1
    simpa [cwd] using this
  have hq2 : (cwd layM 15 cA (adM h) κ)[k]? = some (adM h k, cel cA (adM h) κ (layM k) k) := by simp [cwd, List.getElem?_map, List.getElem?_range hk]
  exact ⟨hk, (Option.some.inj (hq2.symm.trans hq)).symm⟩
theorem cwd_gX {cA : Nat → ClassId} {h : Nat} {κ : Mem} {k : Nat} {q : Nat × va_E} (hq : (cwd layX 147 cA (adX h) κ)[k]? = some q) : k < 147 ∧ q = (adX h k, cel cA (adX h) κ (layX k) k) := by
  have hk : k < 147 := by
    have := (List.getElem?_eq_some_iff.mp hq).1
    simpa [cwd] using this
  have hq2 : (cwd layX 147 cA (adX h) κ)[k]? = some (adX h k, cel cA (adX h) κ (layX k) k) := by simp [cwd, List.getElem?_map, List.getElem?_range hk]
  exact ⟨hk, (Option.some.inj (hq2.symm.trans hq)).symm⟩
theorem mM_P {D : va_G} {cA : Nat → ClassId} {h : Nat} {H : Heap} (hP : va_P D vwCl (adW h (.inr (11, nX11_f h) :: nX11_b cA h)) H) : va_P D vwCl (cwd layM 15 cA (adM h) kM0) H := by
  intro k q hq
  obtain ⟨hk, rfl⟩ := cwd_gM hq
  refine (zb_M cA h).P hP k _ (adW_at ?_)
  rw [List.getElem?_map, List.getElem?_range hk]
  rfl
theorem cwd_D2 {cA : Nat → ClassId} {B h : Nat} (hX : ∀ k, k < 147 → adX B k < h) (hB : B ≤ h) (κ ρ : Mem) : va_D (fun q => B ≤ q) (cwd layX 147 cA (adX B) κ ++ cwd layM 15 cA (adM h) ρ) := by
  refine va_D.app cwd_DX ⟨fun i j p q hi hj hpq => ?_, fun k q hq => ?_⟩ (fun i j x y hx hy hxy => ?_)
  · obtain ⟨hi1, rfl⟩ := cwd_gM hi
    obtain ⟨hj1, rfl⟩ := cwd_gM hj
    unfold adM at hpq
    dsimp only at hpq
    omega
  · obtain ⟨hk, rfl⟩ := cwd_gM hq
    show B ≤ adM h k
    unfold adM
    omega
  · obtain ⟨hi1, rfl⟩ := cwd_gX hx
    obtain ⟨hj1, rfl⟩ := cwd_gM hy
    have := hX i hi1
    unfold adM at hxy
    dsimp only at hxy
    omega
theorem room_fit {hc n' mc ms : Nat} (hh : hc ≤ 1000) (hn : n' ≤ 40) : ((rmK hc mc ms).cells = mc ∧ (rmK hc mc ms).slots = ms) ∧ (rmK hc mc ms).frames + 1 ≤ room_1.frames ∧ 8 + (n' + 11) + (rmK hc mc ms).locals ≤ room_1.locals := by
  refine ⟨⟨rfl, rfl⟩, ?_, ?_⟩
  · show hc + 1 ≤ 2048
    omega
  · show 8 + (n' + 11) + 64 * hc ≤ 84000
    omega
theorem link_10 : Cond.methodLink RL 9 yX10_init ∈ wsL_law := zy_ini10.1.1.elim id (fun h => by unfold nestI at h; revert h; decide)
theorem link_11 : Cond.methodLink RL 12 yX11_init ∈ wsL_law := zy_ini11.1.1.elim id (fun h => by unfold nestI at h; revert h; decide)
theorem st_lC {p : Program} {l : Launch} {e : Env} {s : State} {m : MethodId} {below : List Frame} {meth : Method} {c : Code} {b L : Nat} {xs : Nat → Int32} {D : va_G} {cA : Nat → ClassId} {adK adV : Nat → Nat} {h2 CE SL : Nat} (hL : L ≤ 3072) (hx : p.tables.exec = Jvm.exec) (hb : c.code = cL_law) (hml : c.maxLocals = 4) (hown : s.vm.findClass RL = some m.cls) (hw : ∀ w ∈ wsL_law, w.before #[Value.ref b] s = true) (hK : va_K D vwCl (tysL cA) s) (hlk : meth.locks = false) (hE : eX adK adV s.heap.size s) (hX : va_X b L xs s s.heap) (hbl : b < s.heap.size) (hXlt : ∀ k, k < 147 → adX s.heap.size k < h2) (h2s : s.heap.size ≤ h2) (hce : CE ≤ 600000) (hsl : SL ≤ 7302250) : lC ((((p, l, e, room_1, s), (m, #[Value.ref b], below, meth, c), (CE, SL), ((D, cA, s.heap.size), (layX, 147, adX s.heap.size, []), (adK, adV))), (adM h2, b, L, xs)) : LCtx) :=
  ⟨hx, hb, hml, hown, hw, hK, fun κ ρ => cwd_D2 hXlt h2s κ ρ, rfl, hlk, rfl, ⟨hce, hsl⟩, hE.1, hE.2, hX, hbl, hL, rfl⟩
theorem st_loop {p : Program} {l : Launch} {e : Env} {s : State} {m : MethodId} {below : List Frame} {meth : Method} {c : Code} {b L : Nat} {xs : Nat → Int32} {D : va_G} {cA : Nat → ClassId} {adK adV : Nat → Nat} {h2 CE SL : Nat} {κ ρ : Mem} {H : Heap} {locs : List Loc} {ls : Array Slot} (hml : c.maxLocals = 4) (hret : meth.sig.returnType = ret) (hC : lC ((((p, l, e, room_1, s), (m, #[Value.ref b], below, meth, c), (CE, SL), ((D, cA, s.heap.size), (layX, 147, adX s.heap.size, []), (adK, adV))), (adM h2, b, L, xs)) : LCtx)) (hIV : ∃ G H m, IV G H m κ ρ) (hP : va_P D vwCl (cwd layX 147 cA (adX s.heap.size) κ ++ cwd layM 15 cA (adM h2) ρ) H) (hs : va_S (fun q => s.heap.size ≤ q) s.heap H locs) (hlv : lv_has ls 4 [(3, .int (nI 0)), (2, .ref h2), (1, .ref s.heap.size), (0, .ref b)]) : W p l e room_1 s m #[Value.ref b] below meth c H locs CE SL (lw_Z below #[Value.ref b] s) (F0 m 18 ls []) :=
  l_loop hC hret (L + 1) 0 κ ρ hIV (Nat.lt_succ_of_le (Nat.sub_le _ _)) (Nat.zero_le _) ls (by rw [show (gc (((p, l, e, room_1, s), (m, #[Value.ref b], below, meth, c), (CE, SL), ((D, cA, s.heap.size), (layX, 147, adX s.heap.size, []), (adK, adV))), (adM h2, b, L, xs)).1).maxLocals = 4 from hml]; exact hlv) H locs ⟨hP, hs⟩
/-- YOUR PART: from the entry, for every script of at most 3072 ints, the law comes to its end with true -/
theorem whole_start {p : Program} {e : Env} {s : State} {m : MethodId} {below : List Frame} {meth : Method} {c : Code} (l : Launch) (hflags : l.flags = flags0) {b L : Nat} {xs : Nat → Int32} (hL : L ≤ 3072) (C0 : lw_At p s m meth c b L xs) : W p l e room_1 s m #[Value.ref b] below meth c s.heap [] 0 0 (lw_Z below #[Value.ref b] s) (entryFrame m ([Value.ref b] : List Value).toArray 4) := by
  obtain ⟨hx, hb, hret, hml, hown, hts, hX, hbl, hlk, hgv⟩ := C0
  have hb : c.code = cL_law := hb
  have hown : s.vm.findClass RL = some m.cls := hown
  have hw := wsL_hts hts
  obtain ⟨D, cA, hK⟩ := st_K hts
  obtain ⟨adK, adV, hE⟩ := st_E hts hgv
  have hAO := st_AO hts
  obtain ⟨κ1, hκ, hIV⟩ := IV_start (F := 50001) (by decide)
  have hok := zOk_eX (adK := adK) (adV := adV) (h := s.heap.size)
  have hlv := lv_entry [.ref b] (n := 4) (Nat.le_of_ble_eq_true rfl)
  rw [lg_entry_eq]
  generalize (lg_sl ([.ref b]) ++ List.replicate (4 - (lg_sl ([.ref b])).length) Slot.unset).toArray = ls at hlv ⊢
  have hlv : lv_has ls 4 [(0, .ref b)] := hlv
  -- the class's own
  refine w_new (D := D) (cA := cA) (pc := 0) hx hb hown hw hK zc_X10 zy_new10 (by decide) (by decide) dL_law_0 (fun H1 g1 z1 o1 => ?_)
  refine lv_dup hx hb dL_law_3 rfl ?_
  refine w_run (w_ini (pc := 4) hx hb hown hw hml (hlv.1) (zt_X10 (D := D) (cA := cA) (h := s.heap.size) (adK := adK) (adV := adV) hκ) zy_ini10 link_10 (room_fit (by decide) (by decide)) ⟨zW_blind hok, fun U hU hW => ?_⟩ (by decide) (by decide) dL_law_4) (fun v st₀ t L1 h0 hq hL1 => ?_)
  · refine ⟨rfl, ?_, ?_, va_K.moved hW.alike hK, zAO.warm hW hAO, fun k q hq => (by simp at hq), ?_⟩
    · rw [hU]
      intro k q hq
      have hk : k < 1 := (List.getElem?_eq_some_iff.mp hq).1
      obtain rfl : k = 0 := by omega
      cases hq
      exact g1
    · rw [hU]; exact z1
    · refine hok.2.1 s U hW (Nat.le_refl _) (fun q hq => ?_) hE
      rw [hU]
      exact o1 q hq
  obtain ⟨⟨hv, hw1, hao1⟩, hz1, hk1⟩ := hq
  cases hv
  rw [h0] at hz1 hk1
  have hP1 := hw1.1
  rw [dX_W] at hP1
  have hP1 : va_P D vwCl (cwd layX 147 cA (adX s.heap.size) κ1) t.heap := hP1
  generalize hH2 : t.heap = H2 at hP1 hz1 hk1
  have hs2 : va_S (fun q => s.heap.size ≤ q) s.heap H2 ([] ++ L1) := ⟨by omega, fun q q1 q2 => by rw [hk1 q (by omega) q2]; exact o1 q q1, fun q hq => hL1 q (by simpa using hq)⟩
  have hXlt : ∀ k, k < 147 → adX s.heap.size k < H2.size := fun k hk => by
    have hg : (cwd layX 147 cA (adX s.heap.size) κ1)[k]? = some (adX s.heap.size k, cel cA (adX s.heap.size) κ1 (layX k) k) := by simp [cwd, List.getElem?_map, List.getElem?_range hk]
    exact (hP1 k _ hg).lt
  refine lv_astore_n (lv := [(0, .ref b)]) (lv' := [(1, .ref s.heap.size), (0, .ref b)]) (i := 1) (nL := 4) (pc := 7) hx hb dL_law_7 rfl hlv (by decide) rfl (fun ls hlv => ?_)
  -- the reference
  refine w_new (D := D) (cA := cA) (pc := 8) hx hb hown hw hK zc_X11 zy_new11 (by decide) (by decide) dL_law_8 (fun H3 g3 z3 o3 => ?_)
  refine lv_dup (pc := 11) hx hb dL_law_11 rfl ?_
  have hs3 : va_S (fun q => s.heap.size ≤ q) s.heap H3 ([] ++ L1) := ⟨by have := hs2.1; omega, fun q q1 q2 => by rw [o3 q (by have := hs2.1; omega)]; exact hs2.2.1 q q1 q2, hs2.2.2⟩
  refine w_run (w_ini (pc := 12) hx hb hown hw hml (hlv.1) (zt_X11 (D := D) (cA := cA) (h := H2.size) (E := fun _ => True) (ws0 := []) zOk_nil) zy_ini11 link_11 (room_fit (by decide) (by decide)) ⟨zW_blind zOk_nil, fun U hU hW => ?_⟩ (by decide) (by decide) dL_law_12) (fun v st₁ t2 L2 h2 hq2 hL2 => ?_)
  · refine ⟨rfl, ?_, ?_, va_K.moved hW.alike hK, zAO.warm hW hAO, fun k q hq => (by simp at hq), trivial⟩
    · rw [hU]
      intro k q hq
      have hk : k < 1 := (List.getElem?_eq_some_iff.mp hq).1
      obtain rfl : k = 0 := by omega
      cases hq
      exact g3
    · rw [hU]; exact z3
  obtain ⟨⟨hv, hw2⟩, hz4, hk4⟩ := hq2
  cases hv
  rw [h2] at hz4 hk4
  have hP2 := mM_P hw2.1
  generalize hH4 : t2.heap = H4 at hP2 hz4 hk4
  have hs4 : va_S (fun q => s.heap.size ≤ q) s.heap H4 ([] ++ L1 ++ L2) := by
    have a1 := hs3.1
    have a2 := hs2.1
    refine ⟨by omega, fun q q1 q2 => by rw [hk4 q (by omega) (by omega)]; exact hs3.2.1 q q1 q2, fun q hq => ?_⟩
    rcases List.mem_append.mp hq with h | h
    · exact hs3.2.2 q h
    · have := hL2 q h
      omega
  have hPX : va_P D vwCl (cwd layX 147 cA (adX s.heap.size) κ1) H4 := hP1.kept (fun k q hq => by
    obtain ⟨hk, rfl⟩ := cwd_gX hq
    have := hXlt k hk
    show H4[adX s.heap.size k]? = H2[adX s.heap.size k]?
    rw [hk4 _ (by omega) (by omega), o3 _ this])
  refine lv_astore_n (lv' := [(2, .ref H2.size), (1, .ref s.heap.size), (0, .ref b)]) (i := 2) (nL := 4) (pc := 15) hx hb dL_law_15 rfl hlv (by decide) rfl (fun ls hlv => ?_)
  refine lv_iconst (v := nI 0) (pc := 16) hx hb dL_law_16 (by decide +kernel) ?_
  refine lv_istore_n (lv' := [(3, .int (nI 0)), (2, .ref H2.size), (1, .ref s.heap.size), (0, .ref b)]) (i := 3) (nL := 4) (pc := 17) hx hb dL_law_17 rfl hlv (by decide) rfl (fun ls hlv => ?_)
  exact st_loop hml hret (st_lC (L := L) (xs := xs) hL hx hb hml hown hw hK hlk hE hX hbl hXlt (by have := hs2.1; omega) (Nat.le_of_ble_eq_true rfl) (Nat.le_of_ble_eq_true rfl)) ⟨_, _, _, hIV⟩ (hPX.app hP2) hs4 hlv
