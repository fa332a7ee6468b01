/-! CONSTRUCTORS: the class's cells as its layout numbers them -/
def pXL : List Nat := [0, 1, 2, 3, 4, 41, 42, 43, 44, 45, 46, 47, 48, 49, 50, 51, 52, 53, 54, 55, 56, 57, 58, 59, 60, 64, 65, 66, 67, 68, 69, 70, 71, 72, 73, 74, 75, 76, 77, 78, 79, 80, 81, 82, 83, 84, 85, 86, 87, 88, 89, 90, 91, 92, 93, 94, 95, 96, 97, 98, 99, 100, 101, 102, 103, 104, 105, 106, 107, 108, 109, 110, 111, 112, 113, 114, 115, 116, 117, 118, 119, 61, 120, 121, 122, 123, 124, 125, 126, 127, 128, 129, 130, 131, 132, 133, 134, 62, 63, 135, 136, 13, 14, 15, 16, 17, 18, 19, 20, 21, 22, 23, 24, 25, 26, 27, 28, 29, 30, 31, 32, 33, 34, 35, 36, 37, 38, 39, 40, 137, 138, 9, 10, 11, 12, 139, 140, 141, 142, 143, 144, 145, 146, 5, 6, 7, 8]
def iXL : List Nat := [0, 1, 2, 3, 4, 143, 144, 145, 146, 131, 132, 133, 134, 101, 102, 103, 104, 105, 106, 107, 108, 109, 110, 111, 112, 113, 114, 115, 116, 117, 118, 119, 120, 121, 122, 123, 124, 125, 126, 127, 128, 5, 6, 7, 8, 9, 10, 11, 12, 13, 14, 15, 16, 17, 18, 19, 20, 21, 22, 23, 24, 81, 97, 98, 25, 26, 27, 28, 29, 30, 31, 32, 33, 34, 35, 36, 37, 38, 39, 40, 41, 42, 43, 44, 45, 46, 47, 48, 49, 50, 51, 52, 53, 54, 55, 56, 57, 58, 59, 60, 61, 62, 63, 64, 65, 66, 67, 68, 69, 70, 71, 72, 73, 74, 75, 76, 77, 78, 79, 80, 82, 83, 84, 85, 86, 87, 88, 89, 90, 91, 92, 93, 94, 95, 96, 99, 100, 129, 130, 135, 136, 137, 138, 139, 140, 141, 142]
def adX (h k : Nat) : Nat := h + iXL.getD k 0
def mX (cA : Nat → ClassId) (h : Nat) (κ : Mem) : List va_E := pXL.map (fun k => cel cA (adX h) κ (layX k) k)
def kX0 : Mem := (fun k i => if k = 0 then (if i = 13 ∨ i = 14 then -1 else 0) else if k = 138 then (if i = 2 then -1 else 0) else 0, fun _ _ => 0, fun _ i => if i = 0 then 145 else 146)
def kM0 : Mem := (fun k i => if k = 0 then (if i = 23 ∨ i = 24 then -1 else 0) else 0, fun k => if k = 14 then nWs 10 else fun _ => 0, fun _ _ => 0)
/-- a cell as good as another -/
def zEq (e e' : va_E) : Prop := ∀ (D : va_G) (q : Nat) (H : Heap), va_at D vwCl (q, e) H → va_at D vwCl (q, e') H
def zAll : List va_E → List va_E → Prop
  | [], [] => True
  | e :: L, e' :: L' => zEq e e' ∧ zAll L L'
  | [], _ :: _ => False
  | _ :: _, [] => False
theorem zAll_nil : zAll [] [] := trivial
theorem zAll_cons {e e' : va_E} {L L' : List va_E} (h : zEq e e') (k : zAll L L') : zAll (e :: L) (e' :: L') := ⟨h, k⟩
theorem zEq_rfl {e : va_E} : zEq e e := fun _ _ _ h => h
theorem zEq_of {e e' : va_E} (h : e = e') : zEq e e' := by subst h; exact zEq_rfl
theorem zEq_q {c : ClassId} {n : Nat} {f g : Nat → Option Nat} (h : ∀ i, i < n → f i = g i) : zEq (.inl (c, n, .inr (.inr (.inr (.inr f))))) (.inl (c, n, .inr (.inr (.inr (.inr g))))) := by
  intro D q H hq
  have hq : H[q]? = some (vp_cell c (n, .inr (.inr (.inr (.inr f))))) := hq
  show H[q]? = some (vp_cell c (n, .inr (.inr (.inr (.inr g)))))
  rw [hq, vp_cell_q, vp_cell_q]
  exact congrArg some (arrV_congr fun j hj => by rw [h j hj])
theorem zAll.app : ∀ {a a' b b' : List va_E}, zAll a a' → zAll b b' → zAll (a ++ b) (a' ++ b')
  | [], [], _, _, _, k => k
  | _ :: _, _ :: _, _, _, h, k => ⟨h.1, zAll.app h.2 k⟩
  | [], _ :: _, _, _, h, _ => h.elim
  | _ :: _, [], _, _, h, _ => h.elim
theorem zAll.same : ∀ L : List va_E, zAll L L
  | [] => trivial
  | _ :: L => ⟨zEq_rfl, zAll.same L⟩
theorem zAll.P {D : va_G} {H : Heap} : ∀ {L L' : List va_E} {a : Nat}, zAll L L' → va_P D vwCl (adW a L) H → va_P D vwCl (adW a L') H
  | [], [], _, _, h => h
  | _ :: _, _ :: _, a, h, hP => fun k q hq => by
    cases k with
    | zero =>
      cases hq
      exact h.1 D a H (hP 0 _ rfl)
    | succ k => exact zAll.P (a := a + 1) h.2 (fun k q hq => hP (k + 1) q hq) k q hq
  | [], _ :: _, _, h, _ => h.elim
  | _ :: _, [], _, h, _ => h.elim
theorem zAll_map {f : Nat → va_E} : ∀ {L : List va_E} {ks : List Nat}, L = ks.map f → zAll L (ks.map f) := fun h => by rw [h]; exact zAll.same _
theorem pXL_i : ∀ k, k < 147 → pXL[iXL.getD k 0]? = some k := by decide +kernel
theorem adX_inj {h i j : Nat} (hi : i < 147) (hj : j < 147) (e : adX h i = adX h j) : i = j := by
  unfold adX at e
  have h1 := pXL_i i hi
  rw [show iXL.getD i 0 = iXL.getD j 0 by omega, pXL_i j hj] at h1
  exact (Option.some.inj h1).symm
theorem mX_P {D : va_G} {cA : Nat → ClassId} {h : Nat} {κ : Mem} {H : Heap} (hP : va_P D vwCl (adW h (mX cA h κ)) H) : va_P D vwCl (cwd layX 147 cA (adX h) κ) H := by
  intro k q hq
  have hk : k < 147 := by
    have := (List.getElem?_eq_some_iff.mp hq).1
    simpa [cwd] using this
  have hq2 : (cwd layX 147 cA (adX h) κ)[k]? = some (adX h k, cel cA (adX h) κ (layX k) k) := by simp [cwd, List.getElem?_map, List.getElem?_range hk]
  obtain rfl := Option.some.inj (hq2.symm.trans hq)
  refine hP (iXL.getD k 0) _ (adW_at ?_)
  unfold mX
  rw [List.getElem?_map, pXL_i k hk]
  rfl
theorem cwd_DX {cA : Nat → ClassId} {h : Nat} {κ : Mem} : va_D (fun q => h ≤ q) (cwd layX 147 cA (adX h) κ) := by
  have hg : ∀ (k : Nat) (q : Nat × va_E), (cwd layX 147 cA (adX h) κ)[k]? = some q → k < 147 ∧ q.1 = adX h k := fun k q hq => by
    have hk : k < 147 := by
      have := (List.getElem?_eq_some_iff.mp hq).1
      simpa [cwd] using this
    have hq2 : (cwd layX 147 cA (adX h) κ)[k]? = some (adX h k, cel cA (adX h) κ (layX k) k) := by simp [cwd, List.getElem?_map, List.getElem?_range hk]
    obtain rfl := Option.some.inj (hq2.symm.trans hq)
    exact ⟨hk, rfl⟩
  refine ⟨fun i j p q hi hj hpq => ?_, fun k q hq => ?_⟩
  · obtain ⟨a1, a2⟩ := hg i p hi
    obtain ⟨b1, b2⟩ := hg j q hj
    exact adX_inj (h := h) a1 b1 (by rw [← a2, ← b2]; exact hpq)
  · rw [(hg k q hq).2]
    exact Nat.le_add_right _ _
abbrev celX (cA : Nat → ClassId) (h k : Nat) : va_E := cel cA (adX h) kX0 (layX k) k
theorem iX_43 : ∀ i, i < 6 → iXL.getD (44 + i * 1) 0 = 8 + i := by decide +kernel
theorem iX_60 : ∀ i, i < 56 → iXL.getD (64 + i * 1) 0 = 25 + i := by decide +kernel
theorem iX_61 : ∀ i, i < 15 → iXL.getD (120 + i * 1) 0 = 82 + i := by decide +kernel
theorem iX_136 : ∀ i, i < 7 → iXL.getD (13 + i * 4) 0 = 101 + 4 * i := by decide +kernel
theorem zr_43 (cA : Nat → ClassId) (h : Nat) : zEq (.inl (cA 3, 6, .inr (.inr (.inr (.inr (fun i => some (h + 5 + 2 + 1 + i))))))) (celX cA h 43) :=
  zEq_q fun i hi => by show some _ = some (h + iXL.getD (44 + i * 1) 0); rw [iX_43 i hi]; exact congrArg some (by omega)
theorem zr_60 (cA : Nat → ClassId) (h : Nat) : zEq (.inl (cA 4, 56, .inr (.inr (.inr (.inr (fun i => some (h + 23 + 1 + 1 + i))))))) (celX cA h 60) :=
  zEq_q fun i hi => by show some _ = some (h + iXL.getD (64 + i * 1) 0); rw [iX_60 i hi]; exact congrArg some (by omega)
theorem zr_61 (cA : Nat → ClassId) (h : Nat) : zEq (.inl (cA 4, 15, .inr (.inr (.inr (.inr (fun i => some (h + 23 + 58 + 1 + i))))))) (celX cA h 61) :=
  zEq_q fun i hi => by show some _ = some (h + iXL.getD (120 + i * 1) 0); rw [iX_61 i hi]; exact congrArg some (by omega)
theorem zr_136 (cA : Nat → ClassId) (h : Nat) : zEq (.inl (cA 5, 7, .inr (.inr (.inr (.inr (nGs (h + 99) 7)))))) (celX cA h 136) :=
  zEq_q fun i hi => by
    show _ = some (h + iXL.getD (13 + i * 4) 0)
    rw [iX_136 i hi]
    have h7 : i = 0 ∨ i = 1 ∨ i = 2 ∨ i = 3 ∨ i = 4 ∨ i = 5 ∨ i = 6 := by omega
    rcases h7 with rfl | rfl | rfl | rfl | rfl | rfl | rfl <;> simp [nGs, va_up] <;> omega
set_option maxRecDepth 100000 in
theorem zb_a (cA : Nat → ClassId) (h : Nat) : zAll [.inr (10, nX10_f h)] ([0].map (celX cA h)) := zAll_cons (zEq_of rfl) (zAll_nil)
set_option maxRecDepth 100000 in
theorem zb_g (cA : Nat → ClassId) (h : Nat) : zAll (.inr (2, nX2_f (h + 1)) :: nX2_b cA (h + 1)) ([1, 2, 3, 4].map (celX cA h)) := zAll_cons (zEq_of rfl) (zAll_cons (zEq_of rfl) (zAll_cons (zEq_of rfl) (zAll_cons (zEq_of rfl) (zAll_nil))))
set_option maxRecDepth 100000 in
theorem zb_c (cA : Nat → ClassId) (h : Nat) : zAll (.inr (1, nX1_f (h + 5) (h + 1)) :: nX1_b cA (h + 5)) ([41, 42, 43, 44, 45, 46, 47, 48, 49, 50, 51, 52, 53].map (celX cA h)) := zAll_cons (zEq_of rfl) (zAll_cons (zEq_of rfl) (zAll_cons (zr_43 cA h) (zAll_cons (zEq_of rfl) (zAll_cons (zEq_of rfl) (zAll_cons (zEq_of rfl) (zAll_cons (zEq_of rfl) (zAll_cons (zEq_of rfl) (zAll_cons (zEq_of rfl) (zAll_cons (zEq_of rfl) (zAll_cons (zEq_of rfl) (zAll_cons (zEq_of rfl) (zAll_cons (zEq_of rfl) (zAll_nil)))))))))))))
set_option maxRecDepth 100000 in
theorem zb_n (cA : Nat → ClassId) (h : Nat) : zAll (.inr (4, nX4_f (h + 18) (h + 1)) :: nX4_b cA (h + 18)) ([54].map (celX cA h)) := zAll_cons (zEq_of rfl) (zAll_nil)
set_option maxRecDepth 100000 in
theorem zb_r (cA : Nat → ClassId) (h : Nat) : zAll (.inr (7, nX7_f (h + 19) (h + 1)) :: nX7_b cA (h + 19)) ([55, 56, 57].map (celX cA h)) := zAll_cons (zEq_of rfl) (zAll_cons (zEq_of rfl) (zAll_cons (zEq_of rfl) (zAll_nil)))
set_option maxRecDepth 100000 in
theorem zb_ac (cA : Nat → ClassId) (h : Nat) : zAll (.inr (0, nX0_f (h + 22) (h + 1)) :: nX0_b cA (h + 22)) ([58].map (celX cA h)) := zAll_cons (zEq_of rfl) (zAll_nil)
set_option maxRecDepth 100000 in
theorem zb_w (cA : Nat → ClassId) (h : Nat) : zAll (.inr (9, nX9_f (h + 23) (h + 5) (h + 1)) :: nX9_b cA (h + 23)) ([59, 60, 64, 65, 66, 67, 68, 69, 70, 71, 72, 73, 74, 75, 76, 77, 78, 79, 80, 81, 82, 83, 84, 85, 86, 87, 88, 89, 90, 91, 92, 93, 94, 95, 96, 97, 98, 99, 100, 101, 102, 103, 104, 105, 106, 107, 108, 109, 110, 111, 112, 113, 114, 115, 116, 117, 118, 119, 61, 120, 121, 122, 123, 124, 125, 126, 127, 128, 129, 130, 131, 132, 133, 134, 62, 63].map (celX cA h)) := zAll_cons (zEq_of rfl) (zAll_cons (zr_60 cA h) (zAll_cons (zEq_of rfl) (zAll_cons (zEq_of rfl) (zAll_cons (zEq_of rfl) (zAll_cons (zEq_of rfl) (zAll_cons (zEq_of rfl) (zAll_cons (zEq_of rfl) (zAll_cons (zEq_of rfl) (zAll_cons (zEq_of rfl) (zAll_cons (zEq_of rfl) (zAll_cons (zEq_of rfl) (zAll_cons (zEq_of rfl) (zAll_cons (zEq_of rfl) (zAll_cons (zEq_of rfl) (zAll_cons (zEq_of rfl) (zAll_cons (zEq_of rfl) (zAll_cons (zEq_of rfl) (zAll_cons (zEq_of rfl) (zAll_cons (zEq_of rfl) (zAll_cons (zEq_of rfl) (zAll_cons (zEq_of rfl) (zAll_cons (zEq_of rfl) (zAll_cons (zEq_of rfl) (zAll_cons (zEq_of rfl) (zAll_cons (zEq_of rfl) (zAll_cons (zEq_of rfl) (zAll_cons (zEq_of rfl) (zAll_cons (zEq_of rfl) (zAll_cons (zEq_of rfl) (zAll_cons (zEq_of rfl) (zAll_cons (zEq_of rfl) (zAll_cons (zEq_of rfl) (zAll_cons (zEq_of rfl) (zAll_cons (zEq_of rfl) (zAll_cons (zEq_of rfl) (zAll_cons (zEq_of rfl) (zAll_cons (zEq_of rfl) (zAll_cons (zEq_of rfl) (zAll_cons (zEq_of rfl) (zAll_cons (zEq_of rfl) (zAll_cons (zEq_of rfl) (zAll_cons (zEq_of rfl) (zAll_cons (zEq_of rfl) (zAll_cons (zEq_of rfl) (zAll_cons (zEq_of rfl) (zAll_cons (zEq_of rfl) (zAll_cons (zEq_of rfl) (zAll_cons (zEq_of rfl) (zAll_cons (zEq_of rfl) (zAll_cons (zEq_of rfl) (zAll_cons (zEq_of rfl) (zAll_cons (zEq_of rfl) (zAll_cons (zEq_of rfl) (zAll_cons (zEq_of rfl) (zAll_cons (zEq_of rfl) (zAll_cons (zEq_of rfl) (zAll_cons (zEq_of rfl) (zAll_cons (zr_61 cA h) (zAll_cons (zEq_of rfl) (zAll_cons (zEq_of rfl) (zAll_cons (zEq_of rfl) (zAll_cons (zEq_of rfl) (zAll_cons (zEq_of rfl) (zAll_cons (zEq_of rfl) (zAll_cons (zEq_of rfl) (zAll_cons (zEq_of rfl) (zAll_cons (zEq_of rfl) (zAll_cons (zEq_of rfl) (zAll_cons (zEq_of rfl) (zAll_cons (zEq_of rfl) (zAll_cons (zEq_of rfl) (zAll_cons (zEq_of rfl) (zAll_cons (zEq_of rfl) (zAll_cons (zEq_of rfl) (zAll_cons (zEq_of rfl) (zAll_nil))))))))))))))))))))))))))))))))))))))))))))))))))))))))))))))))))))))))))))
set_option maxRecDepth 100000 in
theorem zb_h (cA : Nat → ClassId) (h : Nat) : zAll (.inr (3, nX3_f (h + 99)) :: nX3_b cA (h + 99)) ([135, 136, 13, 14, 15, 16, 17, 18, 19, 20, 21, 22, 23, 24, 25, 26, 27, 28, 29, 30, 31, 32, 33, 34, 35, 36, 37, 38, 39, 40].map (celX cA h)) := zAll_cons (zEq_of rfl) (zAll_cons (zr_136 cA h) (zAll_cons (zEq_of rfl) (zAll_cons (zEq_of rfl) (zAll_cons (zEq_of rfl) (zAll_cons (zEq_of rfl) (zAll_cons (zEq_of rfl) (zAll_cons (zEq_of rfl) (zAll_cons (zEq_of rfl) (zAll_cons (zEq_of rfl) (zAll_cons (zEq_of rfl) (zAll_cons (zEq_of rfl) (zAll_cons (zEq_of rfl) (zAll_cons (zEq_of rfl) (zAll_cons (zEq_of rfl) (zAll_cons (zEq_of rfl) (zAll_cons (zEq_of rfl) (zAll_cons (zEq_of rfl) (zAll_cons (zEq_of rfl) (zAll_cons (zEq_of rfl) (zAll_cons (zEq_of rfl) (zAll_cons (zEq_of rfl) (zAll_cons (zEq_of rfl) (zAll_cons (zEq_of rfl) (zAll_cons (zEq_of rfl) (zAll_cons (zEq_of rfl) (zAll_cons (zEq_of rfl) (zAll_cons (zEq_of rfl) (zAll_cons (zEq_of rfl) (zAll_cons (zEq_of rfl) (zAll_nil))))))))))))))))))))))))))))))
set_option maxRecDepth 100000 in
theorem zb_t (cA : Nat → ClassId) (h : Nat) : zAll [.inl (cA 1, 600, .inl (fun _ => 0))] ([137].map (celX cA h)) := zAll_cons (zEq_of rfl) (zAll_nil)
set_option maxRecDepth 100000 in
theorem zb_rd (cA : Nat → ClassId) (h : Nat) : zAll (.inr (6, nX6_f (h + 130) (h + 129)) :: nX6_b cA (h + 130) (h + 129)) ([138, 9, 10, 11, 12, 139, 140, 141, 142, 143].map (celX cA h)) := zAll_cons (zEq_of rfl) (zAll_cons (zEq_of rfl) (zAll_cons (zEq_of rfl) (zAll_cons (zEq_of rfl) (zAll_cons (zEq_of rfl) (zAll_cons (zEq_of rfl) (zAll_cons (zEq_of rfl) (zAll_cons (zEq_of rfl) (zAll_cons (zEq_of rfl) (zAll_cons (zEq_of rfl) (zAll_nil))))))))))
set_option maxRecDepth 100000 in
theorem zb_p (cA : Nat → ClassId) (h : Nat) : zAll (.inr (5, nX5_f (h + 140)) :: nX5_b cA (h + 140)) ([144, 145, 146].map (celX cA h)) := zAll_cons (zEq_of rfl) (zAll_cons (zEq_of rfl) (zAll_cons (zEq_of rfl) (zAll_nil)))
set_option maxRecDepth 100000 in
theorem zb_s (cA : Nat → ClassId) (h : Nat) : zAll (.inr (2, nX2_f (h + 143)) :: nX2_b cA (h + 143)) ([5, 6, 7, 8].map (celX cA h)) := zAll_cons (zEq_of rfl) (zAll_cons (zEq_of rfl) (zAll_cons (zEq_of rfl) (zAll_cons (zEq_of rfl) (zAll_nil))))
theorem zb_all (cA : Nat → ClassId) (h : Nat) : zAll (.inr (10, nX10_f h) :: nX10_b cA h) (mX cA h kX0) := by
  have e : mX cA h kX0 = [0].map (celX cA h) ++ (([] : List Nat).map (celX cA h) ++ [1, 2, 3, 4].map (celX cA h) ++ [41, 42, 43, 44, 45, 46, 47, 48, 49, 50, 51, 52, 53].map (celX cA h) ++ [54].map (celX cA h) ++ [55, 56, 57].map (celX cA h) ++ [58].map (celX cA h) ++ [59, 60, 64, 65, 66, 67, 68, 69, 70, 71, 72, 73, 74, 75, 76, 77, 78, 79, 80, 81, 82, 83, 84, 85, 86, 87, 88, 89, 90, 91, 92, 93, 94, 95, 96, 97, 98, 99, 100, 101, 102, 103, 104, 105, 106, 107, 108, 109, 110, 111, 112, 113, 114, 115, 116, 117, 118, 119, 61, 120, 121, 122, 123, 124, 125, 126, 127, 128, 129, 130, 131, 132, 133, 134, 62, 63].map (celX cA h) ++ [135, 136, 13, 14, 15, 16, 17, 18, 19, 20, 21, 22, 23, 24, 25, 26, 27, 28, 29, 30, 31, 32, 33, 34, 35, 36, 37, 38, 39, 40].map (celX cA h) ++ [137].map (celX cA h) ++ [138, 9, 10, 11, 12, 139, 140, 141, 142, 143].map (celX cA h) ++ [144, 145, 146].map (celX cA h) ++ [5, 6, 7, 8].map (celX cA h)) := by
    show pXL.map (celX cA h) = _
    rw [show pXL = [0] ++ (([] : List Nat) ++ [1, 2, 3, 4] ++ [41, 42, 43, 44, 45, 46, 47, 48, 49, 50, 51, 52, 53] ++ [54] ++ [55, 56, 57] ++ [58] ++ [59, 60, 64, 65, 66, 67, 68, 69, 70, 71, 72, 73, 74, 75, 76, 77, 78, 79, 80, 81, 82, 83, 84, 85, 86, 87, 88, 89, 90, 91, 92, 93, 94, 95, 96, 97, 98, 99, 100, 101, 102, 103, 104, 105, 106, 107, 108, 109, 110, 111, 112, 113, 114, 115, 116, 117, 118, 119, 61, 120, 121, 122, 123, 124, 125, 126, 127, 128, 129, 130, 131, 132, 133, 134, 62, 63] ++ [135, 136, 13, 14, 15, 16, 17, 18, 19, 20, 21, 22, 23, 24, 25, 26, 27, 28, 29, 30, 31, 32, 33, 34, 35, 36, 37, 38, 39, 40] ++ [137] ++ [138, 9, 10, 11, 12, 139, 140, 141, 142, 143] ++ [144, 145, 146] ++ [5, 6, 7, 8]) from rfl]
    rfl
  rw [e]
  exact zAll.app (zb_a cA h) (zAll.app (zAll.app (zAll.app (zAll.app (zAll.app (zAll.app (zAll.app (zAll.app (zAll.app (zAll.app (zAll.app (zAll_nil) (zb_g cA h)) (zb_c cA h)) (zb_n cA h)) (zb_r cA h)) (zb_ac cA h)) (zb_w cA h)) (zb_h cA h)) (zb_t cA h)) (zb_rd cA h)) (zb_p cA h)) (zb_s cA h))
set_option maxRecDepth 100000 in
theorem zb_M (cA : Nat → ClassId) (h : Nat) : zAll (.inr (11, nX11_f h) :: nX11_b cA h) ((List.range 15).map (fun k => cel cA (fun k => h + k) kM0 (layM k) k)) := zAll_cons (zEq_of rfl) (zAll_cons (zEq_of rfl) (zAll_cons (zEq_of rfl) (zAll_cons (zEq_of rfl) (zAll_cons (zEq_of rfl) (zAll_cons (zEq_of rfl) (zAll_cons (zEq_of rfl) (zAll_cons (zEq_of rfl) (zAll_cons (zEq_of rfl) (zAll_cons (zEq_of rfl) (zAll_cons (zEq_of rfl) (zAll_cons (zEq_of rfl) (zAll_cons (zEq_of rfl) (zAll_cons (zEq_of rfl) (zAll_cons (zEq_of rfl) (zAll_nil)))))))))))))))
