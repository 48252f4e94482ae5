/-! rows over a world that is a row of cells by place: q gives a place's address, g what lies there -/
def wL (q : Nat → Nat) (N : Nat) (g : Nat → va_E) : va_W := (List.range N).map (fun i => (q i, g i))
theorem wL_get {q : Nat → Nat} {N : Nat} {g : Nat → va_E} {i : Nat} (h : i < N) : (wL q N g)[i]? = some (q i, g i) := by
  simp [wL, h]
theorem wL_inv {q : Nat → Nat} {N : Nat} {g : Nat → va_E} {k : Nat} {x : Nat × va_E} (h : (wL q N g)[k]? = some x) : k < N ∧ x = (q k, g k) := by
  have hk : k < (wL q N g).length := (List.getElem?_eq_some_iff.mp h).1
  have hk2 : k < N := by simpa [wL] using hk
  rw [wL_get hk2] at h
  exact ⟨hk2, (Option.some.inj h).symm⟩
theorem wL_congr {q : Nat → Nat} {N : Nat} {g g' : Nat → va_E} (h : ∀ i, i < N → g i = g' i) : wL q N g = wL q N g' := by
  apply List.map_congr_left
  intro i hi
  rw [h i (List.mem_range.mp hi)]
theorem wL_set {q : Nat → Nat} {N : Nat} {g : Nat → va_E} {i : Nat} {x : va_E} : (wL q N g).set i (q i, x) = wL q N (va_up g i x) := by
  apply List.ext_getElem?
  intro k
  by_cases hk : k < N
  · rw [wL_get hk]
    by_cases hi : i = k
    · subst hi
      rw [List.getElem?_set_self (by simpa [wL] using hk)]
      simp [va_up]
    · rw [List.getElem?_set_ne hi, wL_get hk, va_up_ne _ _ (fun e => hi e.symm)]
  · rw [List.getElem?_eq_none (by simpa [wL] using hk), List.getElem?_eq_none (by simpa [wL] using hk)]
def aQ (q : Nat → Nat) (N sz : Nat) : Nat → Prop := fun x => (∃ i, i < N ∧ x = q i) ∨ sz ≤ x
def hw (D : va_G) (tys : List (ClassId × FieldType)) (q : Nat → Nat) (N : Nat) (g : Nat → va_E) (A : Nat → Prop) (s : State) (H : Heap) (locs : List Loc) : Prop :=
  va_K D vwCl tys s ∧ va_P D vwCl (wL q N g) H ∧ va_D A (wL q N g) ∧ va_S A s.heap H locs ∧ ∀ x, s.heap.size ≤ x → A x
theorem wL_D {A B : Nat → Prop} {q : Nat → Nat} {N : Nat} {g g' : Nat → va_E} (h : va_D A (wL q N g)) (hB : ∀ i, i < N → A (q i) → B (q i)) : va_D B (wL q N g') := by
  refine ⟨fun i j x y hi hj hxy => ?_, fun k x hk => ?_⟩
  · obtain ⟨h1, rfl⟩ := wL_inv hi
    obtain ⟨h2, rfl⟩ := wL_inv hj
    exact h.1 i j _ _ (wL_get h1) (wL_get h2) hxy
  · obtain ⟨h1, rfl⟩ := wL_inv hk
    exact hB k h1 (h.2 k _ (wL_get h1))
theorem hw.conv {D : va_G} {tys : List (ClassId × FieldType)} {q : Nat → Nat} {N : Nat} {g g' : Nat → va_E} {A : Nat → Prop} {s : State} {H : Heap} {locs : List Loc} (h : hw D tys q N g A s H locs) (e : ∀ i, i < N → g i = g' i) : hw D tys q N g' A s H locs := by
  unfold hw at h ⊢
  rw [← wL_congr e]
  exact h
theorem hw.sub {D : va_G} {tys : List (ClassId × FieldType)} {q : Nat → Nat} {N : Nat} {g : Nat → va_E} {A : Nat → Prop} {s : State} {H : Heap} {locs : List Loc} (h : hw D tys q N g A s H locs) : ∀ x, aQ q N H.size x → A x := by
  intro x hx
  rcases hx with ⟨i, hi, rfl⟩ | hx
  · exact h.2.2.1.2 i _ (wL_get hi)
  · exact h.2.2.2.2 x (Nat.le_trans h.2.2.2.1.1 hx)
/-- a method's start: the world, the tables, and what else it takes -/
def mP (D : va_G) (tys : List (ClassId × FieldType)) (q : Nat → Nat) (N : Nat) (g : Nat → va_E) (sz : Nat) (X : State → Prop) : State → Prop := fun U =>
  U.heap.size = sz ∧ va_P D vwCl (wL q N g) U.heap ∧ va_K D vwCl tys U ∧ va_D (fun _ => True) (wL q N g) ∧ X U
def tX : State → Prop := fun _ => True
def XB (X : State → Prop) : Prop := ∀ (U : State) (g : JFrame) (mk : MethodId) (a : Array Value), X U → X (U.calling g mk a)
theorem tX_B : XB tX := fun _ _ _ _ _ => trivial
theorem mP_blind {D : va_G} {tys : List (ClassId × FieldType)} {q : Nat → Nat} {N : Nat} {g : Nat → va_E} {sz : Nat} {X : State → Prop} {av : List Value} (hX : XB X) : FrameBlind (va_Pc av (mP D tys q N g sz X)) := by
  intro a U g mk h
  obtain ⟨q0, q1, qP, qK, qD, qX⟩ := h
  exact ⟨q0, q1, qP, va_K.moved (u := U) (U := U.calling g mk a) (Vm.Alike.refl U.vm) qK, qD, hX U g mk a qX⟩
theorem hw.pre {D : va_G} {tys : List (ClassId × FieldType)} {q : Nat → Nat} {N : Nat} {g : Nat → va_E} {A : Nat → Prop} {s : State} {H : Heap} {locs : List Loc} (h : hw D tys q N g A s H locs) {X : State → Prop} {U : State} (hU : U.heap = H) (hV : s.WarmedH U.vm) (hX : X U) : mP D tys q N g H.size X U :=
  ⟨by rw [hU], by rw [hU]; exact h.2.1, va_K.moved hV.alike h.1, wL_D h.2.2.1 (fun _ _ _ => trivial), hX⟩
/-- what a method that has no world needs -/
theorem hw.pre0 {D : va_G} {s : State} {tys : List (ClassId × FieldType)} {q : Nat → Nat} {N : Nat} {g : Nat → va_E} {A : Nat → Prop} {H : Heap} {locs : List Loc} (h : hw D tys q N g A s H locs) {X : State → Prop} {U : State} (hU : U.heap = H) (hV : s.WarmedH U.vm) (hX : X U) : mP D [] q 0 g H.size X U :=
  ⟨by rw [hU], fun k x hk => absurd (wL_inv hk).1 (Nat.not_lt_zero k), ⟨(va_K.moved hV.alike h.1).1, fun k x hk => by simp at hk⟩, ⟨fun i j x y hi hj hxy => absurd (wL_inv hi).1 (Nat.not_lt_zero i), fun k x hk => absurd (wL_inv hk).1 (Nat.not_lt_zero k)⟩, hX⟩
section RW
variable {p : Program} {l : Launch} {e : Env} {R : Room} {s : State} {m : MethodId} {args : Array Value} {below : List Frame} {meth : Method} {c : Code} {H : Heap} {locs : List Loc} {cells slots : Nat} {Q : State → Prop}
variable {cc : ByteArray} {nL pc : Nat} {ls : Array Slot} {rest st0 : List Value} {D : va_G} {A : Nat → Prop} {tys : List (ClassId × FieldType)} {q : Nat → Nat} {N : Nat} {g : Nat → va_E} {Ts : List Cond} {own : String}
theorem r_get (C : CallFix p m c cc nL s args Ts own) (hW : hw D tys q N g A s H locs) {Cn ref : String} {T : u_T} {n ci index : Nat} {fs : List Value} {v : Value} (i : Nat) (hi : i < N) (hg : g i = .inr (ci, fs)) (hc : vwCl[ci]? = some (Cn, T, n)) (k : Nat) (hk : k < n) (hin : ∀ w ∈ u_ws Cn T n, w ∈ Ts) (hl : Cond.fieldLink own index ref (T k).2.1 (T k).2.2.1 ∈ Ts) (hsame : ∀ x, s.fieldFound? (T k).1 (T k).2.1 (T k).2.2.1 = some x → s.fieldFound? ref (T k).2.1 (T k).2.2.1 = some x) (hv : fs[k]? = some v) (hd : decode cc pc = .ok (.getfield index, 3))
    (kk : W p l e R s m args below meth c H locs cells slots Q (F0 m (pc + 3) ls (v :: rest))) : W p l e R s m args below meth c H locs cells slots Q (F0 m pc ls (.ref (q i) :: rest)) :=
  va_get C.1 C.2.1 C.2.2.2.2 hin C.2.2.2.1 hW.1 hW.2.1 i (by rw [wL_get hi, hg]) hc k hk (C.2.2.2.2 _ hl) hsame hv hd kk
theorem r_getN (C : CallFix p m c cc nL s args Ts own) (hW : hw D tys q N g A s H locs) {Cn ref host : String} {T : u_T} {n ci index : Nat} {fs : List Value} {v : Value} (i : Nat) (hi : i < N) (hg : g i = .inr (ci, fs)) (hc : vwCl[ci]? = some (Cn, T, n)) (k : Nat) (hk : k < n) (hin : ∀ w ∈ u_ws Cn T n, w ∈ Ts) (hl : va_Nw (.fieldLinkNest own index ref (T k).2.1 (T k).2.2.1 host) s) (hsame : ∀ x, s.fieldFound? (T k).1 (T k).2.1 (T k).2.2.1 = some x → s.fieldFound? ref (T k).2.1 (T k).2.2.1 = some x) (hv : fs[k]? = some v) (hd : decode cc pc = .ok (.getfield index, 3))
    (kk : W p l e R s m args below meth c H locs cells slots Q (F0 m (pc + 3) ls (v :: rest))) : W p l e R s m args below meth c H locs cells slots Q (F0 m pc ls (.ref (q i) :: rest)) :=
  va_getN C.1 C.2.1 C.2.2.2.2 hin C.2.2.2.1 hW.1 hW.2.1 i (by rw [wL_get hi, hg]) hc k hk (va_Nw.use rfl hl) hsame hv hd kk
theorem hw.put (hW : hw D tys q N g A s H locs) {i : Nat} {x : va_E} {H1 : Heap} {locs1 : List Loc} (h1 : va_P D vwCl ((wL q N g).set i (q i, x)) H1) (h3 : va_S A s.heap H1 locs1) : hw D tys q N (va_up g i x) A s H1 locs1 := by
  rw [wL_set] at h1
  exact ⟨hW.1, h1, wL_D hW.2.2.1 (fun _ _ h => h), h3, hW.2.2.2.2⟩
theorem r_put (C : CallFix p m c cc nL s args Ts own) (hW : hw D tys q N g A s H locs) {Cn ref : String} {T : u_T} {n ci index : Nat} {fs : List Value} {v : Value} (i : Nat) (hi : i < N) (hg : g i = .inr (ci, fs)) (hc : vwCl[ci]? = some (Cn, T, n)) (k : Nat) (hk : k < n) (hin : ∀ w ∈ u_ws Cn T n, w ∈ Ts) (ty0 : Nat → FieldType) (hty : ∀ k, k < n → parseFieldDescriptor (T k).2.2.1 = some (ty0 k)) (hnm : ∀ a, a < n → ∀ b, b < n → a ≠ b → (T a).2.1 ≠ (T b).2.1) (hl : Cond.fieldLink own index ref (T k).2.1 (T k).2.2.1 ∈ Ts) (hsame : ∀ x, s.fieldFound? (T k).1 (T k).2.1 (T k).2.2.1 = some x → s.fieldFound? ref (T k).2.1 (T k).2.2.1 = some x) (hfin : (T k).2.2.2 = false) (hn : narrow (ty0 k) v = v) (hfit : fits (ty0 k) v = true) (hlen : k < fs.length) (hd : decode cc pc = .ok (.putfield index, 3))
    (kk : ∀ (H1 : Heap) (locs1 : List Loc), hw D tys q N (va_up g i (.inr (ci, fs.set k v))) A s H1 locs1 → W p l e R s m args below meth c H1 locs1 cells slots Q (F0 m (pc + 3) ls rest)) : W p l e R s m args below meth c H locs cells slots Q (F0 m pc ls (v :: .ref (q i) :: rest)) :=
  va_put C.1 C.2.1 C.2.2.2.2 hin ty0 hty hnm C.2.2.2.1 hW.1 hW.2.1 hW.2.2.1 hW.2.2.2.1 i (by rw [wL_get hi, hg]) hc k hk (C.2.2.2.2 _ hl) hsame hfin (hty k hk) hn hfit hlen hd (fun H1 locs1 h1 _ h3 => kk H1 locs1 (hW.put h1 h3))
theorem r_putN (C : CallFix p m c cc nL s args Ts own) (hW : hw D tys q N g A s H locs) {Cn ref host : String} {T : u_T} {n ci index : Nat} {fs : List Value} {v : Value} (i : Nat) (hi : i < N) (hg : g i = .inr (ci, fs)) (hc : vwCl[ci]? = some (Cn, T, n)) (k : Nat) (hk : k < n) (hin : ∀ w ∈ u_ws Cn T n, w ∈ Ts) (ty0 : Nat → FieldType) (hty : ∀ k, k < n → parseFieldDescriptor (T k).2.2.1 = some (ty0 k)) (hnm : ∀ a, a < n → ∀ b, b < n → a ≠ b → (T a).2.1 ≠ (T b).2.1) (hl : va_Nw (.fieldLinkNest own index ref (T k).2.1 (T k).2.2.1 host) s) (hsame : ∀ x, s.fieldFound? (T k).1 (T k).2.1 (T k).2.2.1 = some x → s.fieldFound? ref (T k).2.1 (T k).2.2.1 = some x) (hfin : (T k).2.2.2 = false) (hn : narrow (ty0 k) v = v) (hfit : fits (ty0 k) v = true) (hlen : k < fs.length) (hd : decode cc pc = .ok (.putfield index, 3))
    (kk : ∀ (H1 : Heap) (locs1 : List Loc), hw D tys q N (va_up g i (.inr (ci, fs.set k v))) A s H1 locs1 → W p l e R s m args below meth c H1 locs1 cells slots Q (F0 m (pc + 3) ls rest)) : W p l e R s m args below meth c H locs cells slots Q (F0 m pc ls (v :: .ref (q i) :: rest)) :=
  va_putN C.1 C.2.1 C.2.2.2.2 hin ty0 hty hnm C.2.2.2.1 hW.1 hW.2.1 hW.2.2.1 hW.2.2.2.1 i (by rw [wL_get hi, hg]) hc k hk (va_Nw.use rfl hl) hsame hfin (hty k hk) hn hfit hlen hd (fun H1 locs1 h1 _ h3 => kk H1 locs1 (hW.put h1 h3))
theorem r_iald (C : CallFix p m c cc nL s args Ts own) (hW : hw D tys q N g A s H locs) (i t0 : Nat) (hi : i < N) {cA : ClassId} {n : Nat} {f : Nat → Int32} (hg : g i = .inl (cA, n, .inl f)) (ht : tys[t0]? = some (cA, .int)) {x : Int32} (hin : vp_in x n) (hd : decode cc pc = .ok (.iaload, 1))
    (kk : W p l e R s m args below meth c H locs cells slots Q (F0 m (pc + 1) ls (.int (f x.toNatClampNeg) :: rest))) : W p l e R s m args below meth c H locs cells slots Q (F0 m pc ls (.int x :: .ref (q i) :: rest)) :=
  va_iald C.1 C.2.1 hW.1 hW.2.1 i t0 (by rw [wL_get hi, hg]) ht hin hd kk
theorem r_iast (C : CallFix p m c cc nL s args Ts own) (hW : hw D tys q N g A s H locs) (i t0 : Nat) (hi : i < N) {cA : ClassId} {n : Nat} {f : Nat → Int32} (hg : g i = .inl (cA, n, .inl f)) (ht : tys[t0]? = some (cA, .int)) {x y : Int32} (hin : vp_in x n) (hd : decode cc pc = .ok (.iastore, 1))
    (kk : ∀ (H1 : Heap) (locs1 : List Loc), hw D tys q N (va_up g i (.inl (cA, n, .inl (upd f x.toNatClampNeg y)))) A s H1 locs1 → W p l e R s m args below meth c H1 locs1 cells slots Q (F0 m (pc + 1) ls rest)) : W p l e R s m args below meth c H locs cells slots Q (F0 m pc ls (.int y :: .int x :: .ref (q i) :: rest)) :=
  va_iast C.1 C.2.1 hW.1 hW.2.1 hW.2.2.1 hW.2.2.2.1 i t0 (by rw [wL_get hi, hg]) ht hin hd (fun H1 locs1 h1 _ h3 => kk H1 locs1 (hW.put h1 h3))
theorem r_zald (C : CallFix p m c cc nL s args Ts own) (hW : hw D tys q N g A s H locs) (i t0 : Nat) (hi : i < N) {cA : ClassId} {n : Nat} {f : Nat → Int32} (hg : g i = .inl (cA, n, .inl f)) (ht : tys[t0]? = some (cA, .boolean)) {x : Int32} (hin : vp_in x n) (hd : decode cc pc = .ok (.baload, 1))
    (kk : W p l e R s m args below meth c H locs cells slots Q (F0 m (pc + 1) ls (.int (f x.toNatClampNeg) :: rest))) : W p l e R s m args below meth c H locs cells slots Q (F0 m pc ls (.int x :: .ref (q i) :: rest)) :=
  va_zald C.1 C.2.1 hW.1 hW.2.1 i t0 (by rw [wL_get hi, hg]) ht hin hd kk
theorem r_zast (C : CallFix p m c cc nL s args Ts own) (hW : hw D tys q N g A s H locs) (i t0 : Nat) (hi : i < N) {cA : ClassId} {n : Nat} {f : Nat → Int32} (hg : g i = .inl (cA, n, .inl f)) (ht : tys[t0]? = some (cA, .boolean)) {x y : Int32} (hin : vp_in x n) (hd : decode cc pc = .ok (.bastore, 1))
    (kk : ∀ (H1 : Heap) (locs1 : List Loc), hw D tys q N (va_up g i (.inl (cA, n, .inl (upd f x.toNatClampNeg (vp_nar .boolean y))))) A s H1 locs1 → W p l e R s m args below meth c H1 locs1 cells slots Q (F0 m (pc + 1) ls rest)) : W p l e R s m args below meth c H locs cells slots Q (F0 m pc ls (.int y :: .int x :: .ref (q i) :: rest)) :=
  va_zast C.1 C.2.1 hW.1 hW.2.1 hW.2.2.1 hW.2.2.2.1 i t0 (by rw [wL_get hi, hg]) ht hin hd (fun H1 locs1 h1 _ h3 => kk H1 locs1 (hW.put h1 h3))
theorem r_lald (C : CallFix p m c cc nL s args Ts own) (hW : hw D tys q N g A s H locs) (i t0 : Nat) (hi : i < N) {cA : ClassId} {n : Nat} {f : Nat → Int64} (hg : g i = .inl (cA, n, .inr (.inl f))) (ht : tys[t0]? = some (cA, .long)) {x : Int32} (hin : vp_in x n) (hd : decode cc pc = .ok (.laload, 1))
    (kk : W p l e R s m args below meth c H locs cells slots Q (F0 m (pc + 1) ls (.long (f x.toNatClampNeg) :: rest))) : W p l e R s m args below meth c H locs cells slots Q (F0 m pc ls (.int x :: .ref (q i) :: rest)) :=
  va_lald C.1 C.2.1 hW.1 hW.2.1 i t0 (by rw [wL_get hi, hg]) ht hin hd kk
theorem r_last (C : CallFix p m c cc nL s args Ts own) (hW : hw D tys q N g A s H locs) (i t0 : Nat) (hi : i < N) {cA : ClassId} {n : Nat} {f : Nat → Int64} (hg : g i = .inl (cA, n, .inr (.inl f))) (ht : tys[t0]? = some (cA, .long)) {x : Int32} {y : Int64} (hin : vp_in x n) (hd : decode cc pc = .ok (.lastore, 1))
    (kk : ∀ (H1 : Heap) (locs1 : List Loc), hw D tys q N (va_up g i (.inl (cA, n, .inr (.inl (vp_updL f x.toNatClampNeg y))))) A s H1 locs1 → W p l e R s m args below meth c H1 locs1 cells slots Q (F0 m (pc + 1) ls rest)) : W p l e R s m args below meth c H locs cells slots Q (F0 m pc ls (.long y :: .int x :: .ref (q i) :: rest)) :=
  va_last C.1 C.2.1 hW.1 hW.2.1 hW.2.2.1 hW.2.2.2.1 i t0 (by rw [wL_get hi, hg]) ht hin hd (fun H1 locs1 h1 _ h3 => kk H1 locs1 (hW.put h1 h3))
theorem r_aald (C : CallFix p m c cc nL s args Ts own) (hW : hw D tys q N g A s H locs) (i t0 : Nat) (hi : i < N) {cA : ClassId} {Cn : String} {n : Nat} {f : Nat → Option Nat} (hg : g i = .inl (cA, n, .inr (.inr (.inr (.inr f))))) (ht : tys[t0]? = some (cA, .object Cn)) {x : Int32} (hin : vp_in x n) (hd : decode cc pc = .ok (.aaload, 1))
    (kk : W p l e R s m args below meth c H locs cells slots Q (F0 m (pc + 1) ls (va_rf (f x.toNatClampNeg) :: rest))) : W p l e R s m args below meth c H locs cells slots Q (F0 m pc ls (.int x :: .ref (q i) :: rest)) :=
  va_aldq C.1 C.2.1 hW.1 hW.2.1 i t0 (by rw [wL_get hi, hg]) ht hin hd kk
theorem r_alen (C : CallFix p m c cc nL s args Ts own) (hW : hw D tys q N g A s H locs) (i t0 : Nat) (hi : i < N) {cA : ClassId} {y : vp_A} (hg : g i = .inl (cA, y)) {ty : FieldType} (ht : tys[t0]? = some (cA, ty)) {v : Int32} (hv : Int32.ofNat y.1 = v) (hd : decode cc pc = .ok (.arraylength, 1))
    (kk : W p l e R s m args below meth c H locs cells slots Q (F0 m (pc + 1) ls (.int v :: rest))) : W p l e R s m args below meth c H locs cells slots Q (F0 m pc ls (.ref (q i) :: rest)) :=
  va_alen C.1 C.2.1 hW.1 hW.2.1 i t0 (by rw [wL_get hi, hg]) ht hv hd kk
/-! calls of methods over the same world -/
theorem hw.after (hW : hw D tys q N g A s H locs) {g1 : Nat → va_E} {t : State} {H1 : Heap} {locs1 : List Loc} (ht : t.heap = H1) (hb : va_P D vwCl (wL q N g1) t.heap) (hS : va_S A s.heap H1 locs1) : hw D tys q N g1 A s H1 locs1 :=
  ⟨hW.1, by rw [← ht]; exact hb, wL_D hW.2.2.1 (fun _ _ h => h), hS, hW.2.2.2.2⟩
theorem k_i (hW : hw D tys q N g A s H locs) {S : Type} {Qv : Int32 → S → Prop} {G : S → Nat → va_E} {aa : Array Value} (hr : va_Run p l e R s m args below meth c H locs cells slots 0 0 (F0 m pc ls st0) rest (va_Qi Qv (fun u t => va_P D vwCl (wL q N (G u)) t.heap) (aQ q N H.size) aa) (aQ q N H.size))
    (kk : ∀ (r : Int32) (u : S) (H1 : Heap) (locs1 : List Loc), Qv r u → hw D tys q N (G u) A s H1 locs1 → W p l e R s m args below meth c H1 locs1 cells slots Q (F0 m (pc + 3) ls (.int r :: rest))) : W p l e R s m args below meth c H locs cells slots Q (F0 m pc ls st0) :=
  va_calli hr hW.2.2.2.1 (fun x _ h => hW.sub x h) hW.sub (fun r u _ H1 locs1 ht _ hp hb _ _ hS => kk r u H1 locs1 hp (hW.after ht hb hS))
theorem k_l (hW : hw D tys q N g A s H locs) {S : Type} {Qv : Int64 → S → Prop} {G : S → Nat → va_E} {aa : Array Value} (hr : va_Run p l e R s m args below meth c H locs cells slots 0 0 (F0 m pc ls st0) rest (va_Ql Qv (fun u t => va_P D vwCl (wL q N (G u)) t.heap) (aQ q N H.size) aa) (aQ q N H.size))
    (kk : ∀ (r : Int64) (u : S) (H1 : Heap) (locs1 : List Loc), Qv r u → hw D tys q N (G u) A s H1 locs1 → W p l e R s m args below meth c H1 locs1 cells slots Q (F0 m (pc + 3) ls (.long r :: rest))) : W p l e R s m args below meth c H locs cells slots Q (F0 m pc ls st0) :=
  va_calll hr hW.2.2.2.1 (fun x _ h => hW.sub x h) hW.sub (fun r u _ H1 locs1 ht _ hp hb _ _ hS => kk r u H1 locs1 hp (hW.after ht hb hS))
theorem k_v (hW : hw D tys q N g A s H locs) {S : Type} {Qv : S → Prop} {G : S → Nat → va_E} {aa : Array Value} (hr : va_Run p l e R s m args below meth c H locs cells slots 0 0 (F0 m pc ls st0) rest (va_Qv Qv (fun u t => va_P D vwCl (wL q N (G u)) t.heap) (aQ q N H.size) aa) (aQ q N H.size))
    (kk : ∀ (u : S) (H1 : Heap) (locs1 : List Loc), Qv u → hw D tys q N (G u) A s H1 locs1 → W p l e R s m args below meth c H1 locs1 cells slots Q (F0 m (pc + 3) ls rest)) : W p l e R s m args below meth c H locs cells slots Q (F0 m pc ls st0) :=
  va_callv hr hW.2.2.2.1 (fun x _ h => hW.sub x h) hW.sub (fun u _ H1 locs1 ht _ hp hb _ _ hS => kk u H1 locs1 hp (hW.after ht hb hS))
theorem k_q (hW : hw D tys q N g A s H locs) {S : Type} {Qv : Option Nat → S → Prop} {G : S → Nat → va_E} {aa : Array Value} (hr : va_Run p l e R s m args below meth c H locs cells slots 0 0 (F0 m pc ls st0) rest (va_Qq Qv (fun u t => va_P D vwCl (wL q N (G u)) t.heap) (aQ q N H.size) aa) (aQ q N H.size))
    (kk : ∀ (r : Option Nat) (u : S) (H1 : Heap) (locs1 : List Loc), Qv r u → hw D tys q N (G u) A s H1 locs1 → W p l e R s m args below meth c H1 locs1 cells slots Q (F0 m (pc + 3) ls (va_rf r :: rest))) : W p l e R s m args below meth c H locs cells slots Q (F0 m pc ls st0) :=
  va_callq hr hW.2.2.2.1 (fun x _ h => hW.sub x h) hW.sub (fun r u _ H1 locs1 ht _ hp hb _ _ hS => kk r u H1 locs1 hp (hW.after ht hb hS))
/-! calls of methods that have no world -/
theorem hw.kept (hW : hw D tys q N g A s H locs) {q0 : Nat → Nat} {H1 : Heap} {locs1 : List Loc} (hk : ∀ x : Nat, x < H.size → ¬ aQ q0 0 H.size x → H1[x]? = H[x]?) (hS : va_S A s.heap H1 locs1) : hw D tys q N g A s H1 locs1 := by
  refine ⟨hW.1, hW.2.1.kept (fun k x hx => ?_), hW.2.2.1, hS, hW.2.2.2.2⟩
  have hl := (hW.2.1 k x hx).lt
  refine hk x.1 hl (fun h => ?_)
  rcases h with ⟨i, hi, -⟩ | h
  · exact absurd hi (Nat.not_lt_zero i)
  · omega
theorem aQ0 (hW : hw D tys q N g A s H locs) {q0 : Nat → Nat} : ∀ x, aQ q0 0 H.size x → A x := by
  intro x h
  rcases h with ⟨i, hi, -⟩ | h
  · exact absurd hi (Nat.not_lt_zero i)
  · exact hW.2.2.2.2 x (Nat.le_trans hW.2.2.2.1.1 h)
theorem k_pi (hW : hw D tys q N g A s H locs) {Qv : Int32 → Prop} {B : Unit → State → Prop} {q0 : Nat → Nat} {aa : Array Value} (hr : va_Run p l e R s m args below meth c H locs cells slots 0 0 (F0 m pc ls st0) rest (va_Qi (fun r (_ : Unit) => Qv r) B (aQ q0 0 H.size) aa) (aQ q0 0 H.size))
    (kk : ∀ (r : Int32) (H1 : Heap) (locs1 : List Loc), Qv r → hw D tys q N g A s H1 locs1 → W p l e R s m args below meth c H1 locs1 cells slots Q (F0 m (pc + 3) ls (.int r :: rest))) : W p l e R s m args below meth c H locs cells slots Q (F0 m pc ls st0) :=
  va_calli hr hW.2.2.2.1 (fun x _ h => aQ0 hW x h) (aQ0 hW) (fun r _ _ H1 locs1 _ _ hp _ _ hk hS => kk r H1 locs1 hp (hW.kept hk hS))
theorem k_pl (hW : hw D tys q N g A s H locs) {Qv : Int64 → Prop} {B : Unit → State → Prop} {q0 : Nat → Nat} {aa : Array Value} (hr : va_Run p l e R s m args below meth c H locs cells slots 0 0 (F0 m pc ls st0) rest (va_Ql (fun r (_ : Unit) => Qv r) B (aQ q0 0 H.size) aa) (aQ q0 0 H.size))
    (kk : ∀ (r : Int64) (H1 : Heap) (locs1 : List Loc), Qv r → hw D tys q N g A s H1 locs1 → W p l e R s m args below meth c H1 locs1 cells slots Q (F0 m (pc + 3) ls (.long r :: rest))) : W p l e R s m args below meth c H locs cells slots Q (F0 m pc ls st0) :=
  va_calll hr hW.2.2.2.1 (fun x _ h => aQ0 hW x h) (aQ0 hW) (fun r _ _ H1 locs1 _ _ hp _ _ hk hS => kk r H1 locs1 hp (hW.kept hk hS))
/-! a method's ends -/
theorem t_i (C : CallFix p m c cc nL s args Ts own) (hr : meth.sig.returnType = some .int) (hlk : meth.locks = false) {S : Type} {Qv : Int32 → S → Prop} {B : S → State → Prop} {v : Int32} {u : S} (hS : va_S A s.heap H locs) (hB : ∀ t : State, t.heap = H → B u t) (h : Qv v u) (hd : decode cc pc = .ok (.ireturn, 1)) : W p l e R s m args below meth c H locs cells slots (MQ below (va_Qi Qv B A) args s cells slots A) (F0 m pc ls [.int v]) :=
  W.iret C.1 C.2.1 hr (fun t ht _ => ⟨⟨v, u, rfl, h, hB t ht⟩, hS.F ht⟩) hS.2.2 hd hlk
theorem nar_z {v : Int32} (h : v = 0 ∨ v = 1) : narrow .boolean (.int v) = .int v := by rcases h with rfl | rfl <;> rfl
theorem t_z (C : CallFix p m c cc nL s args Ts own) (hr : meth.sig.returnType = some .boolean) (hlk : meth.locks = false) {S : Type} {Qv : Int32 → S → Prop} {B : S → State → Prop} {v : Int32} {u : S} (hz : v = 0 ∨ v = 1) (hS : va_S A s.heap H locs) (hB : ∀ t : State, t.heap = H → B u t) (h : Qv v u) (hd : decode cc pc = .ok (.ireturn, 1)) : W p l e R s m args below meth c H locs cells slots (MQ below (va_Qi Qv B A) args s cells slots A) (F0 m pc ls [.int v]) :=
  W.zret C.1 C.2.1 hr (nar_z hz) (fun t ht _ => ⟨⟨v, u, rfl, h, hB t ht⟩, hS.F ht⟩) hS.2.2 hd hlk
theorem t_l (C : CallFix p m c cc nL s args Ts own) (hr : meth.sig.returnType = some .long) (hlk : meth.locks = false) {S : Type} {Qv : Int64 → S → Prop} {B : S → State → Prop} {v : Int64} {u : S} (hS : va_S A s.heap H locs) (hB : ∀ t : State, t.heap = H → B u t) (h : Qv v u) (hd : decode cc pc = .ok (.lreturn, 1)) : W p l e R s m args below meth c H locs cells slots (MQ below (va_Ql Qv B A) args s cells slots A) (F0 m pc ls [.long v]) :=
  W.lret C.1 C.2.1 hr (fun t ht _ => ⟨⟨v, u, rfl, h, hB t ht⟩, hS.F ht⟩) hS.2.2 hd hlk
theorem t_v (C : CallFix p m c cc nL s args Ts own) (hr : meth.sig.returnType = none) (hlk : meth.locks = false) {S : Type} {Qv : S → Prop} {B : S → State → Prop} {u : S} (hS : va_S A s.heap H locs) (hB : ∀ t : State, t.heap = H → B u t) (h : Qv u) (hd : decode cc pc = .ok (.return_, 1)) : W p l e R s m args below meth c H locs cells slots (MQ below (va_Qv Qv B A) args s cells slots A) (F0 m pc ls []) :=
  W.vret C.1 C.2.1 hr (fun t ht _ => ⟨⟨u, rfl, h, hB t ht⟩, hS.F ht⟩) hS.2.2 hd hlk
theorem t_q (C : CallFix p m c cc nL s args Ts own) {Cn : String} (hr : meth.sig.returnType = some (.object Cn)) (hlk : meth.locks = false) {S : Type} {Qv : Option Nat → S → Prop} {B : S → State → Prop} {v : Option Nat} {u : S} (hS : va_S A s.heap H locs) (hB : ∀ t : State, t.heap = H → B u t) (h : Qv v u) (hd : decode cc pc = .ok (.areturn, 1)) : W p l e R s m args below meth c H locs cells slots (MQ below (va_Qq Qv B A) args s cells slots A) (F0 m pc ls [va_rf v]) :=
  W.aret C.1 C.2.1 hr (Or.inl ⟨Cn, rfl⟩) (va_rf_or v) (fun t ht _ => ⟨⟨v, u, rfl, h, hB t ht⟩, hS.F ht⟩) hS.2.2 hd hlk
theorem hw.B (hW : hw D tys q N g A s H locs) : ∀ t : State, t.heap = H → va_P D vwCl (wL q N g) t.heap := fun t ht => by rw [ht]; exact hW.2.1
end RW
/-- a method's start -/
theorem met_w {l : Launch} {y : MethodName} {ws ws' : List Cond} {rm : Room} {cc : ByteArray} {maxL mc ms : Nat} {ret : Option FieldType} {Qc : Array Value → State → Outcome → State → Prop} {D : va_G} {tys : List (ClassId × FieldType)} {q : Nat → Nat} {N sz : Nat} {g : Nat → va_E} {X : State → Prop} {av : List Value}
    (hy : plainName y.cls = true) (hws : ws = Cond.code y cc maxL ret :: ws') (hlen : (lg_sl av).length ≤ maxL)
    (body : ∀ (p : Program) (e : Env) (s : State) (m : MethodId) (below : List Frame) (meth : Method) (c : Code) (ls : Array Slot), CallFix p m c cc maxL s av.toArray ws y.cls → meth.sig.returnType = ret → meth.locks = false → hw D tys q N g (aQ q N sz) s s.heap [] → X s → meth.name = y.name → lv_has ls maxL (lv_args 0 av) →
      W p l e (headSpec ws rm).room s m av.toArray below meth c s.heap [] 0 0 (MQ below Qc av.toArray s mc ms (aQ q N sz)) (F0 m 0 ls [])) : Met l y ws rm (va_Pc av (mP D tys q N g sz X)) Qc mc ms (aQ q N sz) := by
  refine Met.ofW (cc := cc) (maxL := maxL) (ret := ret) hy hws ?_
  intro p e s m args below meth c s₁ B hml hv
  obtain ⟨rfl, hsz, hP, hK, hD0, hX⟩ := hv
  subst hsz
  have hl := lv_entry av hlen
  rw [lg_entry_eq]
  refine body p e s m below meth c _ ⟨B.exec, B.bytes, hml, findClass_of_methodNamed B.named, atoms_spec (ws := ws) B.pre⟩ B.returns B.notSynchronized ⟨hK, hP, wL_D hD0 (fun i hi _ => Or.inl ⟨i, hi, rfl⟩), va_S.rf, fun x h => Or.inr h⟩ hX (name_of_methodNamed B.named B.method).1 hl
/-! a long's compare, then a branch -/
theorem lc_tri (x y : Int64) : x < y ∨ x = y ∨ y < x := by
  rw [Int64.lt_iff_toInt_lt, Int64.lt_iff_toInt_lt, ← Int64.toInt_inj]
  omega
theorem lc_lt {x y : Int64} : lg_cmp x y < 0 ↔ x < y := by
  unfold lg_cmp
  rcases lc_tri x y with h | h | h
  · have h1 : ¬ x > y := fun z => Int64.lt_irrefl (Int64.lt_trans h z)
    have h2 : ¬ x = y := fun z => Int64.lt_irrefl (z ▸ h)
    simp [h1, h2, h]
  · subst h; simp [Int64.lt_irrefl]
  · have h1 : ¬ x < y := fun z => Int64.lt_irrefl (Int64.lt_trans h z)
    simp [h, h1]
theorem lc_eq {x y : Int64} : lg_cmp x y = 0 ↔ x = y := by
  unfold lg_cmp
  rcases lc_tri x y with h | h | h
  · have h1 : ¬ x > y := fun z => Int64.lt_irrefl (Int64.lt_trans h z)
    have h2 : ¬ x = y := fun z => Int64.lt_irrefl (z ▸ h)
    simp [h1, h2]
  · subst h; simp [Int64.lt_irrefl]
  · have h1 : ¬ x = y := fun z => Int64.lt_irrefl (z ▸ h)
    simp [h, h1]
theorem lc_gt {x y : Int64} : 0 < lg_cmp x y ↔ y < x := by
  unfold lg_cmp
  rcases lc_tri x y with h | h | h
  · have h1 : ¬ x > y := fun z => Int64.lt_irrefl (Int64.lt_trans h z)
    have h2 : ¬ x = y := fun z => Int64.lt_irrefl (z ▸ h)
    simp [h1, h2]
  · subst h; simp [Int64.lt_irrefl]
  · have h1 : ¬ x = y := fun z => Int64.lt_irrefl (z ▸ h)
    simp [h]
theorem lc_ge {x y : Int64} : 0 ≤ lg_cmp x y ↔ y ≤ x := by
  rw [← Int32.not_lt, lc_lt, Int64.not_lt]
theorem lc_le {x y : Int64} : lg_cmp x y ≤ 0 ↔ x ≤ y := by
  rw [← Int32.not_lt, lc_gt, Int64.not_lt]
theorem lc_ne {x y : Int64} : ¬ lg_cmp x y = 0 ↔ ¬ x = y := not_congr lc_eq
