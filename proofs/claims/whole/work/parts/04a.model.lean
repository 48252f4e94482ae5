abbrev rmX11_in : Room := { frames := 0, cells := 0, slots := 0, locals := 0 }
def vX11_in (x0 : Int64) (x2 : Int64) (x4 : Int64) (Q : Int32 → Prop) : Prop := (x0 < x2 → Q (0 : Int32)) ∧ (¬ (x0 < x2) → (x4 < x0 → Q (0 : Int32)) ∧ (¬ (x4 < x0) → Q (1 : Int32)))
set_option maxRecDepth 100000 in
set_option maxHeartbeats 4000000 in
theorem sX11_in {p : Program} {l : Launch} {e : Env} {s : State} {m : MethodId} {args : Array Value} {below : List Frame} {meth : Method} {c : Code} {D : va_G} {q : Nat → Nat} {A : Nat → Prop} {tys : List (ClassId × FieldType)} {N : Nat} {g : Nat → va_E} (C : CallFix p m c cX11_in 6 s args wsX11_in RX11) (hr : meth.sig.returnType = (some .boolean)) (hlk : meth.locks = false) (Q : Int32 → Prop) : ∀ (x0 : Int64) (x2 : Int64) (x4 : Int64) (H : Heap) (locs : List Loc) (ls : Array Slot), vX11_in x0 x2 x4 Q → hw D tys q N g A s H locs → lv_has ls 6 [(0, .long x0), (2, .long x2), (4, .long x4)] → W p l e (headSpec wsX11_in rmX11_in).room s m args below meth c H locs 0 0 (MQ below (va_Qi (fun r (_ : Unit) => Q r) (fun _ _ => True) A) args s 0 0 A) (F0 m 0 ls []) := by
  intro x0 x2 x4 H locs ls h hW hl
  unfold vX11_in at h
  refine lv_lload_n C.1 C.2.1 dX11_in_0 rfl (lv_at hl 0 rfl) ?_
  refine lv_lload_n C.1 C.2.1 dX11_in_1 rfl (lv_at hl 1 rfl) ?_
  refine W.lcmp C.1 C.2.1 dX11_in_2 ?_
  refine lv_if_lt (tgt := 17) C.1 C.2.1 dX11_in_3 (by decide) (fun c1 => ?_) (fun c1 => ?_)
  · replace h := h.1 (lc_lt.mp c1)
    refine lv_iconst (v := 0) C.1 C.2.1 dX11_in_17 (by decide) ?_
    exact t_z C hr hlk (u := ()) (Or.inl rfl) hW.2.2.2.1 (fun _ _ => trivial) h dX11_in_18
  · replace h := h.2 (fun z => c1 (lc_lt.mpr z))
    refine lv_lload_n C.1 C.2.1 dX11_in_6 rfl (lv_at hl 0 rfl) ?_
    refine lv_lload C.1 C.2.1 dX11_in_7 (lv_at hl 2 rfl) ?_
    refine W.lcmp C.1 C.2.1 dX11_in_9 ?_
    refine lv_if_gt (tgt := 17) C.1 C.2.1 dX11_in_10 (by decide) (fun c2 => ?_) (fun c2 => ?_)
    · replace h := h.1 (lc_gt.mp c2)
      refine lv_iconst (v := 0) C.1 C.2.1 dX11_in_17 (by decide) ?_
      exact t_z C hr hlk (u := ()) (Or.inl rfl) hW.2.2.2.1 (fun _ _ => trivial) h dX11_in_18
    · replace h := h.2 (fun z => c2 (lc_gt.mpr z))
      refine lv_iconst (v := 1) C.1 C.2.1 dX11_in_13 (by decide) ?_
      refine lv_goto (tgt := 18) C.1 C.2.1 dX11_in_14 (by decide) ?_
      exact t_z C hr hlk (u := ()) (Or.inr rfl) hW.2.2.2.1 (fun _ _ => trivial) h dX11_in_18
set_option maxRecDepth 100000 in
set_option maxHeartbeats 4000000 in
theorem mtX11_in (l : Launch) (D : va_G) (q : Nat → Nat) (g : Nat → va_E) (sz : Nat) (x0 : Int64) (x2 : Int64) (x4 : Int64) (Q : Int32 → Prop) (h : vX11_in x0 x2 x4 Q) : Met l yX11_in wsX11_in rmX11_in (va_Pc [.long x0, .long x2, .long x4] (mP D [] q 0 g sz tX)) (va_Qi (fun r (_ : Unit) => Q r) (fun _ _ => True) (aQ q 0 sz)) 0 0 (aQ q 0 sz) := by
  refine met_w (cc := cX11_in) (maxL := 6) (ret := (some .boolean)) (by decide) rfl (Nat.le_of_ble_eq_true rfl) ?_
  intro p e s m below meth c ls C hr hlk hW hX hnm hl
  exact sX11_in C hr hlk Q x0 x2 x4 _ _ _ h hW hl
abbrev rmX11_lost : Room := { frames := 0, cells := 0, slots := 0, locals := 0 }
def vX11_lost (Q : Int64 → Prop) : Prop := Q (-9223372036854775808 : Int64)
set_option maxRecDepth 100000 in
set_option maxHeartbeats 4000000 in
theorem sX11_lost {p : Program} {l : Launch} {e : Env} {s : State} {m : MethodId} {args : Array Value} {below : List Frame} {meth : Method} {c : Code} {D : va_G} {q : Nat → Nat} {A : Nat → Prop} {tys : List (ClassId × FieldType)} {N : Nat} {g : Nat → va_E} (C : CallFix p m c cX11_lost 0 s args wsX11_lost RX11) (hr : meth.sig.returnType = (some .long)) (hlk : meth.locks = false) (Q : Int64 → Prop) : ∀ (H : Heap) (locs : List Loc) (ls : Array Slot), vX11_lost  Q → hw D tys q N g A s H locs → lv_has ls 0 [] → W p l e (headSpec wsX11_lost rmX11_lost).room s m args below meth c H locs 0 0 (MQ below (va_Ql (fun r (_ : Unit) => Q r) (fun _ _ => True) A) args s 0 0 A) (F0 m 0 ls []) := by
  intro  H locs ls h hW hl
  unfold vX11_lost at h
  refine lv_ldc2 (v := (-9223372036854775808)) C.1 C.2.1 C.2.2.2.1 (C.2.2.2.2 (.constantLong RX11 43 (-9223372036854775808)) (by decide +kernel)) dX11_lost_0 ?_
  exact t_l C hr hlk (u := ()) hW.2.2.2.1 (fun _ _ => trivial) h dX11_lost_3
set_option maxRecDepth 100000 in
set_option maxHeartbeats 4000000 in
theorem mtX11_lost (l : Launch) (D : va_G) (q : Nat → Nat) (g : Nat → va_E) (sz : Nat) (Q : Int64 → Prop) (h : vX11_lost  Q) : Met l yX11_lost wsX11_lost rmX11_lost (va_Pc [] (mP D [] q 0 g sz tX)) (va_Ql (fun r (_ : Unit) => Q r) (fun _ _ => True) (aQ q 0 sz)) 0 0 (aQ q 0 sz) := by
  refine met_w (cc := cX11_lost) (maxL := 0) (ret := (some .long)) (by decide) rfl (Nat.le_of_ble_eq_true rfl) ?_
  intro p e s m below meth c ls C hr hlk hW hX hnm hl
  exact sX11_lost C hr hlk Q  _ _ _ h hW hl
abbrev rmX11_held : Room := { frames := 0, cells := 0, slots := 0, locals := 0 }
def vX11_held (x0 : Int32) (x1 : Int32) (x2 : Int32) (Q : Int32 → Prop) : Prop := (x1 ≤ x0 → (x0 ≤ x2 → Q x0) ∧ (¬ (x0 ≤ x2) → Q x2)) ∧ (¬ (x1 ≤ x0) → Q x1)
set_option maxRecDepth 100000 in
set_option maxHeartbeats 4000000 in
theorem sX11_held {p : Program} {l : Launch} {e : Env} {s : State} {m : MethodId} {args : Array Value} {below : List Frame} {meth : Method} {c : Code} {D : va_G} {q : Nat → Nat} {A : Nat → Prop} {tys : List (ClassId × FieldType)} {N : Nat} {g : Nat → va_E} (C : CallFix p m c cX11_held 3 s args wsX11_held RX11) (hr : meth.sig.returnType = (some .int)) (hlk : meth.locks = false) (Q : Int32 → Prop) : ∀ (x0 : Int32) (x1 : Int32) (x2 : Int32) (H : Heap) (locs : List Loc) (ls : Array Slot), vX11_held x0 x1 x2 Q → hw D tys q N g A s H locs → lv_has ls 3 [(0, .int x0), (1, .int x1), (2, .int x2)] → W p l e (headSpec wsX11_held rmX11_held).room s m args below meth c H locs 0 0 (MQ below (va_Qi (fun r (_ : Unit) => Q r) (fun _ _ => True) A) args s 0 0 A) (F0 m 0 ls []) := by
  intro x0 x1 x2 H locs ls h hW hl
  unfold vX11_held at h
  refine lv_iload_n C.1 C.2.1 dX11_held_0 rfl (lv_at hl 0 rfl) ?_
  refine lv_iload_n C.1 C.2.1 dX11_held_1 rfl (lv_at hl 1 rfl) ?_
  refine lv_icmp_ge (tgt := 9) C.1 C.2.1 dX11_held_2 (by decide) (fun c1 => ?_) (fun c1 => ?_)
  · replace h := h.1 c1
    refine lv_iload_n C.1 C.2.1 dX11_held_9 rfl (lv_at hl 0 rfl) ?_
    refine lv_iload_n C.1 C.2.1 dX11_held_10 rfl (lv_at hl 2 rfl) ?_
    refine lv_icmp_le (tgt := 18) C.1 C.2.1 dX11_held_11 (by decide) (fun c2 => ?_) (fun c2 => ?_)
    · replace h := h.1 c2
      refine lv_iload_n C.1 C.2.1 dX11_held_18 rfl (lv_at hl 0 rfl) ?_
      exact t_i C hr hlk (u := ()) hW.2.2.2.1 (fun _ _ => trivial) h dX11_held_19
    · replace h := h.2 c2
      refine lv_iload_n C.1 C.2.1 dX11_held_14 rfl (lv_at hl 2 rfl) ?_
      refine lv_goto (tgt := 19) C.1 C.2.1 dX11_held_15 (by decide) ?_
      exact t_i C hr hlk (u := ()) hW.2.2.2.1 (fun _ _ => trivial) h dX11_held_19
  · replace h := h.2 c1
    refine lv_iload_n C.1 C.2.1 dX11_held_5 rfl (lv_at hl 1 rfl) ?_
    refine lv_goto (tgt := 19) C.1 C.2.1 dX11_held_6 (by decide) ?_
    exact t_i C hr hlk (u := ()) hW.2.2.2.1 (fun _ _ => trivial) h dX11_held_19
set_option maxRecDepth 100000 in
set_option maxHeartbeats 4000000 in
theorem mtX11_held (l : Launch) (D : va_G) (q : Nat → Nat) (g : Nat → va_E) (sz : Nat) (x0 : Int32) (x1 : Int32) (x2 : Int32) (Q : Int32 → Prop) (h : vX11_held x0 x1 x2 Q) : Met l yX11_held wsX11_held rmX11_held (va_Pc [.int x0, .int x1, .int x2] (mP D [] q 0 g sz tX)) (va_Qi (fun r (_ : Unit) => Q r) (fun _ _ => True) (aQ q 0 sz)) 0 0 (aQ q 0 sz) := by
  refine met_w (cc := cX11_held) (maxL := 3) (ret := (some .int)) (by decide) rfl (Nat.le_of_ble_eq_true rfl) ?_
  intro p e s m below meth c ls C hr hlk hW hX hnm hl
  exact sX11_held C hr hlk Q x0 x1 x2 _ _ _ h hW hl
abbrev rmX11_sizeOf : Room := { frames := 0, cells := 0, slots := 0, locals := 0 }
def vX11_sizeOf (x0 : Int32) (Q : Int32 → Prop) : Prop := (0 ≤ x0 → Q x0) ∧ (¬ (0 ≤ x0) → Q (-x0))
set_option maxRecDepth 100000 in
set_option maxHeartbeats 4000000 in
theorem sX11_sizeOf {p : Program} {l : Launch} {e : Env} {s : State} {m : MethodId} {args : Array Value} {below : List Frame} {meth : Method} {c : Code} {D : va_G} {q : Nat → Nat} {A : Nat → Prop} {tys : List (ClassId × FieldType)} {N : Nat} {g : Nat → va_E} (C : CallFix p m c cX11_sizeOf 1 s args wsX11_sizeOf RX11) (hr : meth.sig.returnType = (some .int)) (hlk : meth.locks = false) (Q : Int32 → Prop) : ∀ (x0 : Int32) (H : Heap) (locs : List Loc) (ls : Array Slot), vX11_sizeOf x0 Q → hw D tys q N g A s H locs → lv_has ls 1 [(0, .int x0)] → W p l e (headSpec wsX11_sizeOf rmX11_sizeOf).room s m args below meth c H locs 0 0 (MQ below (va_Qi (fun r (_ : Unit) => Q r) (fun _ _ => True) A) args s 0 0 A) (F0 m 0 ls []) := by
  intro x0 H locs ls h hW hl
  unfold vX11_sizeOf at h
  refine lv_iload_n C.1 C.2.1 dX11_sizeOf_0 rfl (lv_at hl 0 rfl) ?_
  refine lv_if_ge (tgt := 9) C.1 C.2.1 dX11_sizeOf_1 (by decide) (fun c1 => ?_) (fun c1 => ?_)
  · replace h := h.1 c1
    refine lv_iload_n C.1 C.2.1 dX11_sizeOf_9 rfl (lv_at hl 0 rfl) ?_
    exact t_i C hr hlk (u := ()) hW.2.2.2.1 (fun _ _ => trivial) h dX11_sizeOf_10
  · replace h := h.2 c1
    refine lv_iload_n C.1 C.2.1 dX11_sizeOf_4 rfl (lv_at hl 0 rfl) ?_
    refine lv_ineg C.1 C.2.1 dX11_sizeOf_5 ?_
    refine lv_goto (tgt := 10) C.1 C.2.1 dX11_sizeOf_6 (by decide) ?_
    exact t_i C hr hlk (u := ()) hW.2.2.2.1 (fun _ _ => trivial) h dX11_sizeOf_10
set_option maxRecDepth 100000 in
set_option maxHeartbeats 4000000 in
theorem mtX11_sizeOf (l : Launch) (D : va_G) (q : Nat → Nat) (g : Nat → va_E) (sz : Nat) (x0 : Int32) (Q : Int32 → Prop) (h : vX11_sizeOf x0 Q) : Met l yX11_sizeOf wsX11_sizeOf rmX11_sizeOf (va_Pc [.int x0] (mP D [] q 0 g sz tX)) (va_Qi (fun r (_ : Unit) => Q r) (fun _ _ => True) (aQ q 0 sz)) 0 0 (aQ q 0 sz) := by
  refine met_w (cc := cX11_sizeOf) (maxL := 1) (ret := (some .int)) (by decide) rfl (Nat.le_of_ble_eq_true rfl) ?_
  intro p e s m below meth c ls C hr hlk hW hX hnm hl
  exact sX11_sizeOf C hr hlk Q x0 _ _ _ h hW hl
abbrev rmX11_reduced : Room := { frames := 0, cells := 0, slots := 0, locals := 0 }
def vX11_reduced_17 (Q : Int64 → Prop) : Nat → Int64 → Int64 → Int32 → Int64 → Int64 → Prop
  | 0, _, _, _, _, _ => False
  | fu+1, x0, x2, x4, x5, x7 => (x7 = (0 : Int64) → (¬ x4 = 0 → ¬ x5 = 0 ∧ (Q (x2 / x5))) ∧ (x4 = 0 → ¬ x5 = 0 ∧ (Q (x0 / x5)))) ∧ (¬ (x7 = (0 : Int64)) → ¬ x7 = 0 ∧ (∀ x9_6 : Int64, x9_6 = x5 - x5 / x7 * x7 → vX11_reduced_17 Q fu x0 x2 x4 x7 x9_6))
def vX11_reduced_12 (Q : Int64 → Prop) (x0 : Int64) (x2 : Int64) (x4 : Int32) (y0 : Int64) : Prop := ∃ n17, vX11_reduced_17 Q n17 x0 x2 x4 y0 x2
def vX11_reduced (x0 : Int64) (x2 : Int64) (x4 : Int32) (Q : Int64 → Prop) : Prop := ((0 : Int64) ≤ x0 → vX11_reduced_12 Q x0 x2 x4 x0) ∧ (¬ ((0 : Int64) ≤ x0) → vX11_reduced_12 Q x0 x2 x4 (-x0))
set_option maxRecDepth 100000 in
set_option maxHeartbeats 4000000 in
theorem sX11_reduced_17 {p : Program} {l : Launch} {e : Env} {s : State} {m : MethodId} {args : Array Value} {below : List Frame} {meth : Method} {c : Code} {D : va_G} {q : Nat → Nat} {A : Nat → Prop} {tys : List (ClassId × FieldType)} {N : Nat} {g : Nat → va_E} (C : CallFix p m c cX11_reduced 11 s args wsX11_reduced RX11) (hr : meth.sig.returnType = (some .long)) (hlk : meth.locks = false) (Q : Int64 → Prop) : ∀ (fu : Nat) (x0 : Int64) (x2 : Int64) (x4 : Int32) (x5 : Int64) (x7 : Int64) (H : Heap) (locs : List Loc) (ls : Array Slot), vX11_reduced_17 Q fu x0 x2 x4 x5 x7 → hw D tys q N g A s H locs → lv_has ls 11 [(0, .long x0), (2, .long x2), (4, .int x4), (5, .long x5), (7, .long x7)] → W p l e (headSpec wsX11_reduced rmX11_reduced).room s m args below meth c H locs 0 0 (MQ below (va_Ql (fun r (_ : Unit) => Q r) (fun _ _ => True) A) args s 0 0 A) (F0 m 17 ls []) := by
  intro fu
  induction fu with
  | zero =>
    intro x0 x2 x4 x5 x7 H locs ls h
    exact h.elim
  | succ fu ih =>
    intro x0 x2 x4 x5 x7 H locs ls h hW hl
    refine lv_lload C.1 C.2.1 dX11_reduced_17 (lv_at hl 4 rfl) ?_
    refine lv_lconst (v := 0) C.1 C.2.1 dX11_reduced_19 (by decide) ?_
    refine W.lcmp C.1 C.2.1 dX11_reduced_20 ?_
    refine lv_if_eq (tgt := 42) C.1 C.2.1 dX11_reduced_21 (by decide) (fun c2 => ?_) (fun c2 => ?_)
    · replace h := h.1 (lc_eq.mp c2)
      refine lv_iload C.1 C.2.1 dX11_reduced_42 (lv_at hl 2 rfl) ?_
      refine lv_if_ne (tgt := 51) C.1 C.2.1 dX11_reduced_44 (by decide) (fun c3 => ?_) (fun c3 => ?_)
      · replace h := h.1 c3
        refine lv_lload_n C.1 C.2.1 dX11_reduced_51 rfl (lv_at hl 1 rfl) ?_
        refine lv_lload C.1 C.2.1 dX11_reduced_52 (lv_at hl 3 rfl) ?_
        obtain ⟨hs4, h⟩ := h
        refine lv_ldiv C.1 C.2.1 dX11_reduced_54 hs4 ?_
        exact t_l C hr hlk (u := ()) hW.2.2.2.1 (fun _ _ => trivial) h dX11_reduced_55
      · replace h := h.2 c3
        refine lv_lload_n C.1 C.2.1 dX11_reduced_47 rfl (lv_at hl 0 rfl) ?_
        refine lv_goto (tgt := 52) C.1 C.2.1 dX11_reduced_48 (by decide) ?_
        refine lv_lload C.1 C.2.1 dX11_reduced_52 (lv_at hl 3 rfl) ?_
        obtain ⟨hs5, h⟩ := h
        refine lv_ldiv C.1 C.2.1 dX11_reduced_54 hs5 ?_
        exact t_l C hr hlk (u := ()) hW.2.2.2.1 (fun _ _ => trivial) h dX11_reduced_55
    · replace h := h.2 (fun z => c2 (lc_eq.mpr z))
      refine lv_lload C.1 C.2.1 dX11_reduced_24 (lv_at hl 3 rfl) ?_
      refine lv_lload C.1 C.2.1 dX11_reduced_26 (lv_at hl 4 rfl) ?_
      obtain ⟨hs7, h⟩ := h
      refine lv_lrem C.1 C.2.1 dX11_reduced_28 hs7 ?_
      refine lv_topl (fun x9_6 ex9_6 => ?_)
      replace h := h x9_6 ex9_6
      refine lv_lstore (lv' := [(9, .long x9_6), (0, .long x0), (2, .long x2), (4, .int x4), (5, .long x5), (7, .long x7)]) C.1 C.2.1 dX11_reduced_29 hl (by decide) rfl (fun ls hl => ?_)
      refine lv_lload C.1 C.2.1 dX11_reduced_31 (lv_at hl 5 rfl) ?_
      refine lv_lstore (lv' := [(5, .long x7), (9, .long x9_6), (0, .long x0), (2, .long x2), (4, .int x4), (7, .long x7)]) C.1 C.2.1 dX11_reduced_33 hl (by decide) rfl (fun ls hl => ?_)
      refine lv_lload C.1 C.2.1 dX11_reduced_35 (lv_at hl 1 rfl) ?_
      refine lv_lstore (lv' := [(7, .long x9_6), (5, .long x7), (9, .long x9_6), (0, .long x0), (2, .long x2), (4, .int x4)]) C.1 C.2.1 dX11_reduced_37 hl (by decide) rfl (fun ls hl => ?_)
      refine lv_goto (tgt := 17) C.1 C.2.1 dX11_reduced_39 (by decide) ?_
      exact ih x0 x2 x4 x7 x9_6 _ _ _ h hW (lv_sub hl [3, 4, 5, 1, 0] rfl)
set_option maxRecDepth 100000 in
set_option maxHeartbeats 4000000 in
theorem sX11_reduced_12 {p : Program} {l : Launch} {e : Env} {s : State} {m : MethodId} {args : Array Value} {below : List Frame} {meth : Method} {c : Code} {D : va_G} {q : Nat → Nat} {A : Nat → Prop} {tys : List (ClassId × FieldType)} {N : Nat} {g : Nat → va_E} (C : CallFix p m c cX11_reduced 11 s args wsX11_reduced RX11) (hr : meth.sig.returnType = (some .long)) (hlk : meth.locks = false) (Q : Int64 → Prop) : ∀ (x0 : Int64) (x2 : Int64) (x4 : Int32) (y0 : Int64) (H : Heap) (locs : List Loc) (ls : Array Slot), vX11_reduced_12 Q x0 x2 x4 y0 → hw D tys q N g A s H locs → lv_has ls 11 [(0, .long x0), (2, .long x2), (4, .int x4)] → W p l e (headSpec wsX11_reduced rmX11_reduced).room s m args below meth c H locs 0 0 (MQ below (va_Ql (fun r (_ : Unit) => Q r) (fun _ _ => True) A) args s 0 0 A) (F0 m 12 ls [.long y0]) := by
  intro x0 x2 x4 y0 H locs ls h hW hl
  unfold vX11_reduced_12 at h
  refine lv_lstore (lv' := [(5, .long y0), (0, .long x0), (2, .long x2), (4, .int x4)]) C.1 C.2.1 dX11_reduced_12 hl (by decide) rfl (fun ls hl => ?_)
  refine lv_lload_n C.1 C.2.1 dX11_reduced_14 rfl (lv_at hl 2 rfl) ?_
  refine lv_lstore (lv' := [(7, .long x2), (5, .long y0), (0, .long x0), (2, .long x2), (4, .int x4)]) C.1 C.2.1 dX11_reduced_15 hl (by decide) rfl (fun ls hl => ?_)
  obtain ⟨n9, h⟩ := h
  exact sX11_reduced_17 C hr hlk Q n9 x0 x2 x4 y0 x2 _ _ _ h hW (lv_sub hl [2, 3, 4, 1, 0] rfl)
set_option maxRecDepth 100000 in
set_option maxHeartbeats 4000000 in
theorem sX11_reduced {p : Program} {l : Launch} {e : Env} {s : State} {m : MethodId} {args : Array Value} {below : List Frame} {meth : Method} {c : Code} {D : va_G} {q : Nat → Nat} {A : Nat → Prop} {tys : List (ClassId × FieldType)} {N : Nat} {g : Nat → va_E} (C : CallFix p m c cX11_reduced 11 s args wsX11_reduced RX11) (hr : meth.sig.returnType = (some .long)) (hlk : meth.locks = false) (Q : Int64 → Prop) : ∀ (x0 : Int64) (x2 : Int64) (x4 : Int32) (H : Heap) (locs : List Loc) (ls : Array Slot), vX11_reduced x0 x2 x4 Q → hw D tys q N g A s H locs → lv_has ls 11 [(0, .long x0), (2, .long x2), (4, .int x4)] → W p l e (headSpec wsX11_reduced rmX11_reduced).room s m args below meth c H locs 0 0 (MQ below (va_Ql (fun r (_ : Unit) => Q r) (fun _ _ => True) A) args s 0 0 A) (F0 m 0 ls []) := by
  intro x0 x2 x4 H locs ls h hW hl
  unfold vX11_reduced at h
  refine lv_lload_n C.1 C.2.1 dX11_reduced_0 rfl (lv_at hl 0 rfl) ?_
  refine lv_lconst (v := 0) C.1 C.2.1 dX11_reduced_1 (by decide) ?_
  refine W.lcmp C.1 C.2.1 dX11_reduced_2 ?_
  refine lv_if_ge (tgt := 11) C.1 C.2.1 dX11_reduced_3 (by decide) (fun c1 => ?_) (fun c1 => ?_)
  · replace h := h.1 (lc_ge.mp c1)
    refine lv_lload_n C.1 C.2.1 dX11_reduced_11 rfl (lv_at hl 0 rfl) ?_
    exact sX11_reduced_12 C hr hlk Q x0 x2 x4 x0 _ _ _ h hW (lv_sub hl [0, 1, 2] rfl)
  · replace h := h.2 (fun z => c1 (lc_ge.mpr z))
    refine lv_lload_n C.1 C.2.1 dX11_reduced_6 rfl (lv_at hl 0 rfl) ?_
    refine lv_lneg C.1 C.2.1 dX11_reduced_7 ?_
    refine lv_goto (tgt := 12) C.1 C.2.1 dX11_reduced_8 (by decide) ?_
    exact sX11_reduced_12 C hr hlk Q x0 x2 x4 (-x0) _ _ _ h hW (lv_sub hl [0, 1, 2] rfl)
set_option maxRecDepth 100000 in
set_option maxHeartbeats 4000000 in
theorem mtX11_reduced (l : Launch) (D : va_G) (q : Nat → Nat) (g : Nat → va_E) (sz : Nat) (x0 : Int64) (x2 : Int64) (x4 : Int32) (Q : Int64 → Prop) (h : vX11_reduced x0 x2 x4 Q) : Met l yX11_reduced wsX11_reduced rmX11_reduced (va_Pc [.long x0, .long x2, .int x4] (mP D [] q 0 g sz tX)) (va_Ql (fun r (_ : Unit) => Q r) (fun _ _ => True) (aQ q 0 sz)) 0 0 (aQ q 0 sz) := by
  refine met_w (cc := cX11_reduced) (maxL := 11) (ret := (some .long)) (by decide) rfl (Nat.le_of_ble_eq_true rfl) ?_
  intro p e s m below meth c ls C hr hlk hW hX hnm hl
  exact sX11_reduced C hr hlk Q x0 x2 x4 _ _ _ h hW hl
theorem inX11_refused : ∀ w ∈ wsX110, w ∈ wsX11_refused := fun _ h => List.mem_cons_of_mem _ (List.mem_append_right _ h)
abbrev rmX11_refused : Room := { frames := 0, cells := 0, slots := 0, locals := 0 }
def vX11_refused (x1 : Int32) (f : Nat → Int32) (a : Nat → Nat → Int32) (Q : Int32 → (Nat → Int32) → (Nat → Nat → Int32) → Prop) : Prop := ∀ f1 : Nat → Int32, f1 = va_up f 0 (0 : Int32) → Q x1 f1 a
set_option maxRecDepth 100000 in
set_option maxHeartbeats 4000000 in
theorem sX11_refused {p : Program} {l : Launch} {e : Env} {s : State} {m : MethodId} {args : Array Value} {below : List Frame} {meth : Method} {c : Code} {D : va_G} {q : Nat → Nat} {A : Nat → Prop} {cI : ClassId} (C : CallFix p m c cX11_refused 2 s args wsX11_refused RX11) (hr : meth.sig.returnType = (some .int)) (hlk : meth.locks = false) (Q : Int32 → (Nat → Int32) → (Nat → Nat → Int32) → Prop) : ∀ (x1 : Int32) (f : Nat → Int32) (a : Nat → Nat → Int32) (H : Heap) (locs : List Loc) (ls : Array Slot), vX11_refused x1 f a Q → hw D [(cI, .int)] q 12 (gM q cI f a) A s H locs → lv_has ls 2 [(0, .ref (q 0)), (1, .int x1)] → W p l e (headSpec wsX11_refused rmX11_refused).room s m args below meth c H locs 0 0 (MQ below (QMi D q cI Q A) args s 0 0 A) (F0 m 0 ls []) := by
  intro x1 f a H locs ls h hW hl
  unfold vX11_refused at h
  refine lv_aload_n C.1 C.2.1 dX11_refused_0 rfl (lv_at hl 0 rfl) ?_
  refine lv_iconst (v := 0) C.1 C.2.1 dX11_refused_1 (by decide) ?_
  refine r_put C hW (ci := 11) (T := TX11) (n := 21) (ref := "BallMinderModel") 0 (by decide) rfl rfl 0 (by decide) inX11_refused tyX11 tyX11_ok nmX11 (by decide +kernel) (fun _ h9 => h9) rfl rfl rfl (Nat.le_of_ble_eq_true rfl) dX11_refused_2 (fun H locs hW => ?_)
  replace hW := gM_put (k := 0) rfl hW
  obtain ⟨f1, ef1⟩ : ∃ z : Nat → Int32, z = va_up f 0 (0 : Int32) := ⟨_, rfl⟩
  rw [← ef1] at hW
  replace h := h f1 ef1
  refine lv_iload_n C.1 C.2.1 dX11_refused_5 rfl (lv_at hl 1 rfl) ?_
  exact t_i C hr hlk (u := (f1, a)) hW.2.2.2.1 hW.B h dX11_refused_6
set_option maxRecDepth 100000 in
set_option maxHeartbeats 4000000 in
theorem mtX11_refused (l : Launch) (D : va_G) (q : Nat → Nat) (cI : ClassId) (sz : Nat) (x1 : Int32) (f : Nat → Int32) (a : Nat → Nat → Int32) (Q : Int32 → (Nat → Int32) → (Nat → Nat → Int32) → Prop) (h : vX11_refused x1 f a Q) : Met l yX11_refused wsX11_refused rmX11_refused (va_Pc [.ref (q 0), .int x1] (mP D [(cI, .int)] q 12 (gM q cI f a) sz tX)) (QMi D q cI Q (aQ q 12 sz)) 0 0 (aQ q 12 sz) := by
  refine met_w (cc := cX11_refused) (maxL := 2) (ret := (some .int)) (by decide) rfl (Nat.le_of_ble_eq_true rfl) ?_
  intro p e s m below meth c ls C hr hlk hW hX hnm hl
  exact sX11_refused C hr hlk Q x1 f a _ _ _ h hW hl
theorem inX11_failed : ∀ w ∈ wsX110, w ∈ wsX11_failed := fun _ h => List.mem_cons_of_mem _ (List.mem_append_right _ h)
abbrev rmX11_failed : Room := { frames := 0, cells := 0, slots := 0, locals := 0 }
def vX11_failed (x1 : Int32) (f : Nat → Int32) (a : Nat → Nat → Int32) (Q : Int32 → (Nat → Int32) → (Nat → Nat → Int32) → Prop) : Prop := ∀ f1 : Nat → Int32, f1 = va_up f 0 x1 → Q ((-10 : Int32) - x1) f1 a
set_option maxRecDepth 100000 in
set_option maxHeartbeats 4000000 in
theorem sX11_failed {p : Program} {l : Launch} {e : Env} {s : State} {m : MethodId} {args : Array Value} {below : List Frame} {meth : Method} {c : Code} {D : va_G} {q : Nat → Nat} {A : Nat → Prop} {cI : ClassId} (C : CallFix p m c cX11_failed 2 s args wsX11_failed RX11) (hr : meth.sig.returnType = (some .int)) (hlk : meth.locks = false) (Q : Int32 → (Nat → Int32) → (Nat → Nat → Int32) → Prop) : ∀ (x1 : Int32) (f : Nat → Int32) (a : Nat → Nat → Int32) (H : Heap) (locs : List Loc) (ls : Array Slot), vX11_failed x1 f a Q → hw D [(cI, .int)] q 12 (gM q cI f a) A s H locs → lv_has ls 2 [(0, .ref (q 0)), (1, .int x1)] → W p l e (headSpec wsX11_failed rmX11_failed).room s m args below meth c H locs 0 0 (MQ below (QMi D q cI Q A) args s 0 0 A) (F0 m 0 ls []) := by
  intro x1 f a H locs ls h hW hl
  unfold vX11_failed at h
  refine lv_aload_n C.1 C.2.1 dX11_failed_0 rfl (lv_at hl 0 rfl) ?_
  refine lv_iload_n C.1 C.2.1 dX11_failed_1 rfl (lv_at hl 1 rfl) ?_
  refine r_put C hW (ci := 11) (T := TX11) (n := 21) (ref := "BallMinderModel") 0 (by decide) rfl rfl 0 (by decide) inX11_failed tyX11 tyX11_ok nmX11 (by decide +kernel) (fun _ h9 => h9) rfl rfl rfl (Nat.le_of_ble_eq_true rfl) dX11_failed_2 (fun H locs hW => ?_)
  replace hW := gM_put (k := 0) rfl hW
  obtain ⟨f1, ef1⟩ : ∃ z : Nat → Int32, z = va_up f 0 x1 := ⟨_, rfl⟩
  rw [← ef1] at hW
  replace h := h f1 ef1
  refine lv_bipush (v := -10) C.1 C.2.1 dX11_failed_5 (by decide) ?_
  refine lv_iload_n C.1 C.2.1 dX11_failed_7 rfl (lv_at hl 1 rfl) ?_
  refine lv_isub C.1 C.2.1 dX11_failed_8 ?_
  exact t_i C hr hlk (u := (f1, a)) hW.2.2.2.1 hW.B h dX11_failed_9
set_option maxRecDepth 100000 in
set_option maxHeartbeats 4000000 in
theorem mtX11_failed (l : Launch) (D : va_G) (q : Nat → Nat) (cI : ClassId) (sz : Nat) (x1 : Int32) (f : Nat → Int32) (a : Nat → Nat → Int32) (Q : Int32 → (Nat → Int32) → (Nat → Nat → Int32) → Prop) (h : vX11_failed x1 f a Q) : Met l yX11_failed wsX11_failed rmX11_failed (va_Pc [.ref (q 0), .int x1] (mP D [(cI, .int)] q 12 (gM q cI f a) sz tX)) (QMi D q cI Q (aQ q 12 sz)) 0 0 (aQ q 12 sz) := by
  refine met_w (cc := cX11_failed) (maxL := 2) (ret := (some .int)) (by decide) rfl (Nat.le_of_ble_eq_true rfl) ?_
  intro p e s m below meth c ls C hr hlk hW hX hnm hl
  exact sX11_failed C hr hlk Q x1 f a _ _ _ h hW hl
theorem inX11_failedLong : ∀ w ∈ wsX110, w ∈ wsX11_failedLong := fun _ h => List.mem_cons_of_mem _ (List.mem_append_right _ h)
abbrev rmX11_failedLong : Room := { frames := 1, cells := 0, slots := 0, locals := 19 }
def vX11_failedLong (x1 : Int32) (f : Nat → Int32) (a : Nat → Nat → Int32) (Q : Int64 → (Nat → Int32) → (Nat → Nat → Int32) → Prop) : Prop := ∀ f1 : Nat → Int32, f1 = va_up f 0 x1 → vX11_lost  (fun r2 => Q r2 f1 a)
set_option maxRecDepth 100000 in
set_option maxHeartbeats 4000000 in
theorem sX11_failedLong {p : Program} {l : Launch} {e : Env} {s : State} {m : MethodId} {args : Array Value} {below : List Frame} {meth : Method} {c : Code} {D : va_G} {q : Nat → Nat} {A : Nat → Prop} {cI : ClassId} (C : CallFix p m c cX11_failedLong 2 s args wsX11_failedLong RX11) (hr : meth.sig.returnType = (some .long)) (hlk : meth.locks = false) (Q : Int64 → (Nat → Int32) → (Nat → Nat → Int32) → Prop) : ∀ (x1 : Int32) (f : Nat → Int32) (a : Nat → Nat → Int32) (H : Heap) (locs : List Loc) (ls : Array Slot), vX11_failedLong x1 f a Q → hw D [(cI, .int)] q 12 (gM q cI f a) A s H locs → lv_has ls 2 [(0, .ref (q 0)), (1, .int x1)] → W p l e (headSpec wsX11_failedLong rmX11_failedLong).room s m args below meth c H locs 0 0 (MQ below (QMl D q cI Q A) args s 0 0 A) (F0 m 0 ls []) := by
  intro x1 f a H locs ls h hW hl
  unfold vX11_failedLong at h
  refine lv_aload_n C.1 C.2.1 dX11_failedLong_0 rfl (lv_at hl 0 rfl) ?_
  refine lv_iload_n C.1 C.2.1 dX11_failedLong_1 rfl (lv_at hl 1 rfl) ?_
  refine r_put C hW (ci := 11) (T := TX11) (n := 21) (ref := "BallMinderModel") 0 (by decide) rfl rfl 0 (by decide) inX11_failedLong tyX11 tyX11_ok nmX11 (by decide +kernel) (fun _ h9 => h9) rfl rfl rfl (Nat.le_of_ble_eq_true rfl) dX11_failedLong_2 (fun H locs hW => ?_)
  replace hW := gM_put (k := 0) rfl hW
  obtain ⟨f1, ef1⟩ : ∃ z : Nat → Int32, z = va_up f 0 x1 := ⟨_, rfl⟩
  rw [← ef1] at hW
  replace h := h f1 ef1
  refine k_pl hW (va_runS (As := []) (rest := []) C (mtX11_lost l D q _ H.size  _ h) (va_cwS 0 C.2.2.2.2 gX11_failedLong_X11_lost rfl rfl rfl (by decide +kernel) ⟨Nat.le_of_ble_eq_true rfl, Nat.le_of_ble_eq_true rfl⟩) ⟨mP_blind tX_B, fun U hU hV => ⟨rfl, hW.pre0 hU hV trivial⟩⟩ rfl rfl hl.1 rfl (lv_room (Nat.le_of_ble_eq_true rfl)) dX11_failedLong_5 ⟨Nat.zero_le _, Nat.zero_le _⟩) (fun r2 H locs h hW => ?_)
  exact t_l C hr hlk (u := (f1, a)) hW.2.2.2.1 hW.B h dX11_failedLong_8
set_option maxRecDepth 100000 in
set_option maxHeartbeats 4000000 in
theorem mtX11_failedLong (l : Launch) (D : va_G) (q : Nat → Nat) (cI : ClassId) (sz : Nat) (x1 : Int32) (f : Nat → Int32) (a : Nat → Nat → Int32) (Q : Int64 → (Nat → Int32) → (Nat → Nat → Int32) → Prop) (h : vX11_failedLong x1 f a Q) : Met l yX11_failedLong wsX11_failedLong rmX11_failedLong (va_Pc [.ref (q 0), .int x1] (mP D [(cI, .int)] q 12 (gM q cI f a) sz tX)) (QMl D q cI Q (aQ q 12 sz)) 0 0 (aQ q 12 sz) := by
  refine met_w (cc := cX11_failedLong) (maxL := 2) (ret := (some .long)) (by decide) rfl (Nat.le_of_ble_eq_true rfl) ?_
  intro p e s m below meth c ls C hr hlk hW hX hnm hl
  exact sX11_failedLong C hr hlk Q x1 f a _ _ _ h hW hl
abbrev rmX11_isBeyond : Room := { frames := 0, cells := 0, slots := 0, locals := 0 }
def vX11_isBeyond (x0 : Int32) (x1 : Int64) (x3 : Int32) (Q : Int32 → Prop) : Prop := (x0 < 0 → Q (1 : Int32)) ∧ (¬ (x0 < 0) → (x1 < (0 : Int64) → Q (1 : Int32)) ∧ (¬ (x1 < (0 : Int64)) → ((x0.toInt64 + x1) ≤ x3.toInt64 → Q (0 : Int32)) ∧ (¬ ((x0.toInt64 + x1) ≤ x3.toInt64) → Q (1 : Int32))))
set_option maxRecDepth 100000 in
set_option maxHeartbeats 4000000 in
theorem sX11_isBeyond {p : Program} {l : Launch} {e : Env} {s : State} {m : MethodId} {args : Array Value} {below : List Frame} {meth : Method} {c : Code} {D : va_G} {q : Nat → Nat} {A : Nat → Prop} {tys : List (ClassId × FieldType)} {N : Nat} {g : Nat → va_E} (C : CallFix p m c cX11_isBeyond 4 s args wsX11_isBeyond RX11) (hr : meth.sig.returnType = (some .boolean)) (hlk : meth.locks = false) (Q : Int32 → Prop) : ∀ (x0 : Int32) (x1 : Int64) (x3 : Int32) (H : Heap) (locs : List Loc) (ls : Array Slot), vX11_isBeyond x0 x1 x3 Q → hw D tys q N g A s H locs → lv_has ls 4 [(0, .int x0), (1, .long x1), (3, .int x3)] → W p l e (headSpec wsX11_isBeyond rmX11_isBeyond).room s m args below meth c H locs 0 0 (MQ below (va_Qi (fun r (_ : Unit) => Q r) (fun _ _ => True) A) args s 0 0 A) (F0 m 0 ls []) := by
  intro x0 x1 x3 H locs ls h hW hl
  unfold vX11_isBeyond at h
  refine lv_iload_n C.1 C.2.1 dX11_isBeyond_0 rfl (lv_at hl 0 rfl) ?_
  refine lv_if_lt (tgt := 20) C.1 C.2.1 dX11_isBeyond_1 (by decide) (fun c1 => ?_) (fun c1 => ?_)
  · replace h := h.1 c1
    refine lv_iconst (v := 1) C.1 C.2.1 dX11_isBeyond_20 (by decide) ?_
    refine lv_goto (tgt := 25) C.1 C.2.1 dX11_isBeyond_21 (by decide) ?_
    exact t_z C hr hlk (u := ()) (Or.inr rfl) hW.2.2.2.1 (fun _ _ => trivial) h dX11_isBeyond_25
  · replace h := h.2 c1
    refine lv_lload_n C.1 C.2.1 dX11_isBeyond_4 rfl (lv_at hl 1 rfl) ?_
    refine lv_lconst (v := 0) C.1 C.2.1 dX11_isBeyond_5 (by decide) ?_
    refine W.lcmp C.1 C.2.1 dX11_isBeyond_6 ?_
    refine lv_if_lt (tgt := 20) C.1 C.2.1 dX11_isBeyond_7 (by decide) (fun c2 => ?_) (fun c2 => ?_)
    · replace h := h.1 (lc_lt.mp c2)
      refine lv_iconst (v := 1) C.1 C.2.1 dX11_isBeyond_20 (by decide) ?_
      refine lv_goto (tgt := 25) C.1 C.2.1 dX11_isBeyond_21 (by decide) ?_
      exact t_z C hr hlk (u := ()) (Or.inr rfl) hW.2.2.2.1 (fun _ _ => trivial) h dX11_isBeyond_25
    · replace h := h.2 (fun z => c2 (lc_lt.mpr z))
      refine lv_iload_n C.1 C.2.1 dX11_isBeyond_10 rfl (lv_at hl 0 rfl) ?_
      refine lv_i2l C.1 C.2.1 dX11_isBeyond_11 rfl ?_
      refine lv_lload_n C.1 C.2.1 dX11_isBeyond_12 rfl (lv_at hl 1 rfl) ?_
      refine lv_ladd C.1 C.2.1 dX11_isBeyond_13 ?_
      refine lv_iload_n C.1 C.2.1 dX11_isBeyond_14 rfl (lv_at hl 2 rfl) ?_
      refine lv_i2l C.1 C.2.1 dX11_isBeyond_15 rfl ?_
      refine W.lcmp C.1 C.2.1 dX11_isBeyond_16 ?_
      refine lv_if_le (tgt := 24) C.1 C.2.1 dX11_isBeyond_17 (by decide) (fun c3 => ?_) (fun c3 => ?_)
      · replace h := h.1 (lc_le.mp c3)
        refine lv_iconst (v := 0) C.1 C.2.1 dX11_isBeyond_24 (by decide) ?_
        exact t_z C hr hlk (u := ()) (Or.inl rfl) hW.2.2.2.1 (fun _ _ => trivial) h dX11_isBeyond_25
      · replace h := h.2 (fun z => c3 (lc_le.mpr z))
        refine lv_iconst (v := 1) C.1 C.2.1 dX11_isBeyond_20 (by decide) ?_
        refine lv_goto (tgt := 25) C.1 C.2.1 dX11_isBeyond_21 (by decide) ?_
        exact t_z C hr hlk (u := ()) (Or.inr rfl) hW.2.2.2.1 (fun _ _ => trivial) h dX11_isBeyond_25
set_option maxRecDepth 100000 in
set_option maxHeartbeats 4000000 in
theorem mtX11_isBeyond (l : Launch) (D : va_G) (q : Nat → Nat) (g : Nat → va_E) (sz : Nat) (x0 : Int32) (x1 : Int64) (x3 : Int32) (Q : Int32 → Prop) (h : vX11_isBeyond x0 x1 x3 Q) : Met l yX11_isBeyond wsX11_isBeyond rmX11_isBeyond (va_Pc [.int x0, .long x1, .int x3] (mP D [] q 0 g sz tX)) (va_Qi (fun r (_ : Unit) => Q r) (fun _ _ => True) (aQ q 0 sz)) 0 0 (aQ q 0 sz) := by
  refine met_w (cc := cX11_isBeyond) (maxL := 4) (ret := (some .boolean)) (by decide) rfl (Nat.le_of_ble_eq_true rfl) ?_
  intro p e s m below meth c ls C hr hlk hW hX hnm hl
  exact sX11_isBeyond C hr hlk Q x0 x1 x3 _ _ _ h hW hl
theorem inX11_barred : ∀ w ∈ wsX110, w ∈ wsX11_barred := fun _ h => List.mem_cons_of_mem _ (List.mem_append_right _ h)
abbrev rmX11_barred : Room := { frames := 1, cells := 0, slots := 0, locals := 23 }
def vX11_barred_25 (Q : Int32 → (Nat → Int32) → (Nat → Nat → Int32) → Prop) (x1 : Int32) (x3 : Int32) (x4 : Int64) (f : Nat → Int32) (a : Nat → Nat → Int32) : Prop := vp_in x1 4 ∧ ((0 ≤ (a 8 x1.toNatClampNeg) → ((0 : Int64) ≤ x4 → vp_in x1 4 ∧ (vX11_isBeyond x3 x4 (a 8 x1.toNatClampNeg) (fun r7 => (r7 = 0 → Q (0 : Int32) f a) ∧ (¬ (r7 = 0) → vX11_failed (3 : Int32) f a (fun r9 f10 a11 => Q r9 f10 a11))))) ∧ (¬ ((0 : Int64) ≤ x4) → vX11_failed (4 : Int32) f a (fun r12 f13 a14 => Q r12 f13 a14))) ∧ (¬ (0 ≤ (a 8 x1.toNatClampNeg)) → vX11_failed (1 : Int32) f a (fun r15 f16 a17 => Q r15 f16 a17)))
def vX11_barred (x1 : Int32) (x2 : Int32) (x3 : Int32) (x4 : Int64) (f : Nat → Int32) (a : Nat → Nat → Int32) (Q : Int32 → (Nat → Int32) → (Nat → Nat → Int32) → Prop) : Prop := vp_in x1 4 ∧ (((a 8 x1.toNatClampNeg) < 0 → vX11_barred_25 Q x1 x3 x4 f a) ∧ (¬ ((a 8 x1.toNatClampNeg) < 0) → vp_in x1 4 ∧ (((a 9 x1.toNatClampNeg) = x2 → vX11_barred_25 Q x1 x3 x4 f a) ∧ (¬ ((a 9 x1.toNatClampNeg) = x2) → vX11_failed (2 : Int32) f a (fun r20 f21 a22 => Q r20 f21 a22)))))
set_option maxRecDepth 100000 in
set_option maxHeartbeats 4000000 in
theorem sX11_barred_25 {p : Program} {l : Launch} {e : Env} {s : State} {m : MethodId} {args : Array Value} {below : List Frame} {meth : Method} {c : Code} {D : va_G} {q : Nat → Nat} {A : Nat → Prop} {cI : ClassId} (C : CallFix p m c cX11_barred 6 s args wsX11_barred RX11) (hr : meth.sig.returnType = (some .int)) (hlk : meth.locks = false) (Q : Int32 → (Nat → Int32) → (Nat → Nat → Int32) → Prop) : ∀ (x1 : Int32) (x3 : Int32) (x4 : Int64) (f : Nat → Int32) (a : Nat → Nat → Int32) (H : Heap) (locs : List Loc) (ls : Array Slot), vX11_barred_25 Q x1 x3 x4 f a → hw D [(cI, .int)] q 12 (gM q cI f a) A s H locs → lv_has ls 6 [(0, .ref (q 0)), (1, .int x1), (3, .int x3), (4, .long x4)] → W p l e (headSpec wsX11_barred rmX11_barred).room s m args below meth c H locs 0 0 (MQ below (QMi D q cI Q A) args s 0 0 A) (F0 m 25 ls []) := by
  intro x1 x3 x4 f a H locs ls h hW hl
  unfold vX11_barred_25 at h
  refine lv_aload_n C.1 C.2.1 dX11_barred_25 rfl (lv_at hl 0 rfl) ?_
  refine r_get C hW (ci := 11) (T := TX11) (n := 21) (ref := "BallMinderModel") (v := .ref (q 8)) 0 (by decide) rfl rfl 16 (by decide) inX11_barred (by decide +kernel) (fun _ h9 => h9) rfl dX11_barred_26 ?_
  refine lv_iload_n C.1 C.2.1 dX11_barred_29 rfl (lv_at hl 1 rfl) ?_
  obtain ⟨hs3, h⟩ := h
  refine r_iald C hW (cA := cI) (n := 4) (f := a 8) 8 0 (by decide) rfl rfl hs3 dX11_barred_30 ?_
  refine lv_if_ge (tgt := 40) C.1 C.2.1 dX11_barred_31 (by decide) (fun c4 => ?_) (fun c4 => ?_)
  · replace h := h.1 c4
    refine lv_lload C.1 C.2.1 dX11_barred_40 (lv_at hl 3 rfl) ?_
    refine lv_lconst (v := 0) C.1 C.2.1 dX11_barred_42 (by decide) ?_
    refine W.lcmp C.1 C.2.1 dX11_barred_43 ?_
    refine lv_if_ge (tgt := 53) C.1 C.2.1 dX11_barred_44 (by decide) (fun c5 => ?_) (fun c5 => ?_)
    · replace h := h.1 (lc_ge.mp c5)
      refine lv_iload_n C.1 C.2.1 dX11_barred_53 rfl (lv_at hl 2 rfl) ?_
      refine lv_lload C.1 C.2.1 dX11_barred_54 (lv_at hl 3 rfl) ?_
      refine lv_aload_n C.1 C.2.1 dX11_barred_56 rfl (lv_at hl 0 rfl) ?_
      refine r_get C hW (ci := 11) (T := TX11) (n := 21) (ref := "BallMinderModel") (v := .ref (q 8)) 0 (by decide) rfl rfl 16 (by decide) inX11_barred (by decide +kernel) (fun _ h9 => h9) rfl dX11_barred_57 ?_
      refine lv_iload_n C.1 C.2.1 dX11_barred_60 rfl (lv_at hl 1 rfl) ?_
      obtain ⟨hs6, h⟩ := h
      refine r_iald C hW (cA := cI) (n := 4) (f := a 8) 8 0 (by decide) rfl rfl hs6 dX11_barred_61 ?_
      refine k_pi hW (va_runS (As := [.int x3, .long x4, .int (a 8 x1.toNatClampNeg)]) (rest := []) C (mtX11_isBeyond l D q _ H.size x3 x4 (a 8 x1.toNatClampNeg) _ h) (va_cwS 3 C.2.2.2.2 gX11_barred_X11_isBeyond rfl rfl rfl (by decide +kernel) ⟨Nat.le_of_ble_eq_true rfl, Nat.le_of_ble_eq_true rfl⟩) ⟨mP_blind tX_B, fun U hU hV => ⟨rfl, hW.pre0 hU hV trivial⟩⟩ rfl rfl hl.1 rfl (lv_room (Nat.le_of_ble_eq_true rfl)) dX11_barred_62 ⟨Nat.zero_le _, Nat.zero_le _⟩) (fun r7 H locs h hW => ?_)
      refine lv_if_eq (tgt := 76) C.1 C.2.1 dX11_barred_65 (by decide) (fun c8 => ?_) (fun c8 => ?_)
      · replace h := h.1 c8
        refine lv_iconst (v := 0) C.1 C.2.1 dX11_barred_76 (by decide) ?_
        exact t_i C hr hlk (u := (f, a)) hW.2.2.2.1 hW.B h dX11_barred_77
      · replace h := h.2 c8
        refine lv_aload_n C.1 C.2.1 dX11_barred_68 rfl (lv_at hl 0 rfl) ?_
        refine lv_iconst (v := 3) C.1 C.2.1 dX11_barred_69 (by decide) ?_
        refine k_i hW (va_runV (As := [.int (3 : Int32)]) (rest := []) C (mtX11_failed l D q cI H.size (3 : Int32) f a _ h) (cwV 1 C.2.2.2.2 gX11_barred_X11_failed rfl rfl rfl (by decide +kernel) ⟨Nat.le_of_ble_eq_true rfl, Nat.le_of_ble_eq_true rfl⟩) ⟨mP_blind tX_B, va_recv hW.1 hW.2.1 (ci := 11) (q0 := 0) rfl (wL_get (by decide)), fun U hU hV => ⟨rfl, hW.pre hU hV trivial⟩⟩ rfl rfl hl.1 rfl (lv_room (Nat.le_of_ble_eq_true rfl)) dX11_barred_70 ⟨Nat.zero_le _, Nat.zero_le _⟩) (fun r9 u H locs h hW => ?_)
        obtain ⟨f10, a11⟩ := u
        replace hW : hw D [(cI, .int)] q 12 (gM q cI f10 a11) A s H locs := hW
        refine lv_goto (tgt := 77) C.1 C.2.1 dX11_barred_73 (by decide) ?_
        exact t_i C hr hlk (u := (f10, a11)) hW.2.2.2.1 hW.B h dX11_barred_77
    · replace h := h.2 (fun z => c5 (lc_ge.mpr z))
      refine lv_aload_n C.1 C.2.1 dX11_barred_47 rfl (lv_at hl 0 rfl) ?_
      refine lv_iconst (v := 4) C.1 C.2.1 dX11_barred_48 (by decide) ?_
      refine k_i hW (va_runV (As := [.int (4 : Int32)]) (rest := []) C (mtX11_failed l D q cI H.size (4 : Int32) f a _ h) (cwV 1 C.2.2.2.2 gX11_barred_X11_failed rfl rfl rfl (by decide +kernel) ⟨Nat.le_of_ble_eq_true rfl, Nat.le_of_ble_eq_true rfl⟩) ⟨mP_blind tX_B, va_recv hW.1 hW.2.1 (ci := 11) (q0 := 0) rfl (wL_get (by decide)), fun U hU hV => ⟨rfl, hW.pre hU hV trivial⟩⟩ rfl rfl hl.1 rfl (lv_room (Nat.le_of_ble_eq_true rfl)) dX11_barred_49 ⟨Nat.zero_le _, Nat.zero_le _⟩) (fun r12 u H locs h hW => ?_)
      obtain ⟨f13, a14⟩ := u
      replace hW : hw D [(cI, .int)] q 12 (gM q cI f13 a14) A s H locs := hW
      exact t_i C hr hlk (u := (f13, a14)) hW.2.2.2.1 hW.B h dX11_barred_52
  · replace h := h.2 c4
    refine lv_aload_n C.1 C.2.1 dX11_barred_34 rfl (lv_at hl 0 rfl) ?_
    refine lv_iconst (v := 1) C.1 C.2.1 dX11_barred_35 (by decide) ?_
    refine k_i hW (va_runV (As := [.int (1 : Int32)]) (rest := []) C (mtX11_failed l D q cI H.size (1 : Int32) f a _ h) (cwV 1 C.2.2.2.2 gX11_barred_X11_failed rfl rfl rfl (by decide +kernel) ⟨Nat.le_of_ble_eq_true rfl, Nat.le_of_ble_eq_true rfl⟩) ⟨mP_blind tX_B, va_recv hW.1 hW.2.1 (ci := 11) (q0 := 0) rfl (wL_get (by decide)), fun U hU hV => ⟨rfl, hW.pre hU hV trivial⟩⟩ rfl rfl hl.1 rfl (lv_room (Nat.le_of_ble_eq_true rfl)) dX11_barred_36 ⟨Nat.zero_le _, Nat.zero_le _⟩) (fun r15 u H locs h hW => ?_)
    obtain ⟨f16, a17⟩ := u
    replace hW : hw D [(cI, .int)] q 12 (gM q cI f16 a17) A s H locs := hW
    exact t_i C hr hlk (u := (f16, a17)) hW.2.2.2.1 hW.B h dX11_barred_39
set_option maxRecDepth 100000 in
set_option maxHeartbeats 4000000 in
theorem sX11_barred {p : Program} {l : Launch} {e : Env} {s : State} {m : MethodId} {args : Array Value} {below : List Frame} {meth : Method} {c : Code} {D : va_G} {q : Nat → Nat} {A : Nat → Prop} {cI : ClassId} (C : CallFix p m c cX11_barred 6 s args wsX11_barred RX11) (hr : meth.sig.returnType = (some .int)) (hlk : meth.locks = false) (Q : Int32 → (Nat → Int32) → (Nat → Nat → Int32) → Prop) : ∀ (x1 : Int32) (x2 : Int32) (x3 : Int32) (x4 : Int64) (f : Nat → Int32) (a : Nat → Nat → Int32) (H : Heap) (locs : List Loc) (ls : Array Slot), vX11_barred x1 x2 x3 x4 f a Q → hw D [(cI, .int)] q 12 (gM q cI f a) A s H locs → lv_has ls 6 [(0, .ref (q 0)), (1, .int x1), (2, .int x2), (3, .int x3), (4, .long x4)] → W p l e (headSpec wsX11_barred rmX11_barred).room s m args below meth c H locs 0 0 (MQ below (QMi D q cI Q A) args s 0 0 A) (F0 m 0 ls []) := by
  intro x1 x2 x3 x4 f a H locs ls h hW hl
  unfold vX11_barred at h
  refine lv_aload_n C.1 C.2.1 dX11_barred_0 rfl (lv_at hl 0 rfl) ?_
  refine r_get C hW (ci := 11) (T := TX11) (n := 21) (ref := "BallMinderModel") (v := .ref (q 8)) 0 (by decide) rfl rfl 16 (by decide) inX11_barred (by decide +kernel) (fun _ h9 => h9) rfl dX11_barred_1 ?_
  refine lv_iload_n C.1 C.2.1 dX11_barred_4 rfl (lv_at hl 1 rfl) ?_
  obtain ⟨hs1, h⟩ := h
  refine r_iald C hW (cA := cI) (n := 4) (f := a 8) 8 0 (by decide) rfl rfl hs1 dX11_barred_5 ?_
  refine lv_if_lt (tgt := 25) C.1 C.2.1 dX11_barred_6 (by decide) (fun c2 => ?_) (fun c2 => ?_)
  · replace h := h.1 c2
    exact sX11_barred_25 C hr hlk Q x1 x3 x4 f a _ _ _ h hW (lv_sub hl [0, 1, 3, 4] rfl)
  · replace h := h.2 c2
    refine lv_aload_n C.1 C.2.1 dX11_barred_9 rfl (lv_at hl 0 rfl) ?_
    refine r_get C hW (ci := 11) (T := TX11) (n := 21) (ref := "BallMinderModel") (v := .ref (q 9)) 0 (by decide) rfl rfl 17 (by decide) inX11_barred (by decide +kernel) (fun _ h9 => h9) rfl dX11_barred_10 ?_
    refine lv_iload_n C.1 C.2.1 dX11_barred_13 rfl (lv_at hl 1 rfl) ?_
    obtain ⟨hs18, h⟩ := h
    refine r_iald C hW (cA := cI) (n := 4) (f := a 9) 9 0 (by decide) rfl rfl hs18 dX11_barred_14 ?_
    refine lv_iload_n C.1 C.2.1 dX11_barred_15 rfl (lv_at hl 2 rfl) ?_
    refine lv_icmp_eq (tgt := 25) C.1 C.2.1 dX11_barred_16 (by decide) (fun c19 => ?_) (fun c19 => ?_)
    · replace h := h.1 c19
      exact sX11_barred_25 C hr hlk Q x1 x3 x4 f a _ _ _ h hW (lv_sub hl [0, 1, 3, 4] rfl)
    · replace h := h.2 c19
      refine lv_aload_n C.1 C.2.1 dX11_barred_19 rfl (lv_at hl 0 rfl) ?_
      refine lv_iconst (v := 2) C.1 C.2.1 dX11_barred_20 (by decide) ?_
      refine k_i hW (va_runV (As := [.int (2 : Int32)]) (rest := []) C (mtX11_failed l D q cI H.size (2 : Int32) f a _ h) (cwV 1 C.2.2.2.2 gX11_barred_X11_failed rfl rfl rfl (by decide +kernel) ⟨Nat.le_of_ble_eq_true rfl, Nat.le_of_ble_eq_true rfl⟩) ⟨mP_blind tX_B, va_recv hW.1 hW.2.1 (ci := 11) (q0 := 0) rfl (wL_get (by decide)), fun U hU hV => ⟨rfl, hW.pre hU hV trivial⟩⟩ rfl rfl hl.1 rfl (lv_room (Nat.le_of_ble_eq_true rfl)) dX11_barred_21 ⟨Nat.zero_le _, Nat.zero_le _⟩) (fun r20 u H locs h hW => ?_)
      obtain ⟨f21, a22⟩ := u
      replace hW : hw D [(cI, .int)] q 12 (gM q cI f21 a22) A s H locs := hW
      exact t_i C hr hlk (u := (f21, a22)) hW.2.2.2.1 hW.B h dX11_barred_24
set_option maxRecDepth 100000 in
set_option maxHeartbeats 4000000 in
theorem mtX11_barred (l : Launch) (D : va_G) (q : Nat → Nat) (cI : ClassId) (sz : Nat) (x1 : Int32) (x2 : Int32) (x3 : Int32) (x4 : Int64) (f : Nat → Int32) (a : Nat → Nat → Int32) (Q : Int32 → (Nat → Int32) → (Nat → Nat → Int32) → Prop) (h : vX11_barred x1 x2 x3 x4 f a Q) : Met l yX11_barred wsX11_barred rmX11_barred (va_Pc [.ref (q 0), .int x1, .int x2, .int x3, .long x4] (mP D [(cI, .int)] q 12 (gM q cI f a) sz tX)) (QMi D q cI Q (aQ q 12 sz)) 0 0 (aQ q 12 sz) := by
  refine met_w (cc := cX11_barred) (maxL := 6) (ret := (some .int)) (by decide) rfl (Nat.le_of_ble_eq_true rfl) ?_
  intro p e s m below meth c ls C hr hlk hW hX hnm hl
  exact sX11_barred C hr hlk Q x1 x2 x3 x4 f a _ _ _ h hW hl
abbrev rmX11_leastOf : Room := { frames := 0, cells := 0, slots := 0, locals := 0 }
def vX11_leastOf (x0 : Int32) (Q : Int32 → Prop) : Prop := (x0 = 0 → Q (1 : Int32)) ∧ (¬ (x0 = 0) → (x0 = (2 : Int32) → Q (1 : Int32)) ∧ (¬ (x0 = (2 : Int32)) → (x0 = (5 : Int32) → Q (1 : Int32)) ∧ (¬ (x0 = (5 : Int32)) → (¬ x0 = (8 : Int32) → Q (0 : Int32)) ∧ (x0 = (8 : Int32) → Q (1 : Int32)))))
set_option maxRecDepth 100000 in
set_option maxHeartbeats 4000000 in
theorem sX11_leastOf {p : Program} {l : Launch} {e : Env} {s : State} {m : MethodId} {args : Array Value} {below : List Frame} {meth : Method} {c : Code} {D : va_G} {q : Nat → Nat} {A : Nat → Prop} {tys : List (ClassId × FieldType)} {N : Nat} {g : Nat → va_E} (C : CallFix p m c cX11_leastOf 1 s args wsX11_leastOf RX11) (hr : meth.sig.returnType = (some .int)) (hlk : meth.locks = false) (Q : Int32 → Prop) : ∀ (x0 : Int32) (H : Heap) (locs : List Loc) (ls : Array Slot), vX11_leastOf x0 Q → hw D tys q N g A s H locs → lv_has ls 1 [(0, .int x0)] → W p l e (headSpec wsX11_leastOf rmX11_leastOf).room s m args below meth c H locs 0 0 (MQ below (va_Qi (fun r (_ : Unit) => Q r) (fun _ _ => True) A) args s 0 0 A) (F0 m 0 ls []) := by
  intro x0 H locs ls h hW hl
  unfold vX11_leastOf at h
  refine lv_iload_n C.1 C.2.1 dX11_leastOf_0 rfl (lv_at hl 0 rfl) ?_
  refine lv_if_eq (tgt := 20) C.1 C.2.1 dX11_leastOf_1 (by decide) (fun c1 => ?_) (fun c1 => ?_)
  · replace h := h.1 c1
    refine lv_iconst (v := 1) C.1 C.2.1 dX11_leastOf_20 (by decide) ?_
    refine lv_goto (tgt := 25) C.1 C.2.1 dX11_leastOf_21 (by decide) ?_
    exact t_i C hr hlk (u := ()) hW.2.2.2.1 (fun _ _ => trivial) h dX11_leastOf_25
  · replace h := h.2 c1
    refine lv_iload_n C.1 C.2.1 dX11_leastOf_4 rfl (lv_at hl 0 rfl) ?_
    refine lv_iconst (v := 2) C.1 C.2.1 dX11_leastOf_5 (by decide) ?_
    refine lv_icmp_eq (tgt := 20) C.1 C.2.1 dX11_leastOf_6 (by decide) (fun c2 => ?_) (fun c2 => ?_)
    · replace h := h.1 c2
      refine lv_iconst (v := 1) C.1 C.2.1 dX11_leastOf_20 (by decide) ?_
      refine lv_goto (tgt := 25) C.1 C.2.1 dX11_leastOf_21 (by decide) ?_
      exact t_i C hr hlk (u := ()) hW.2.2.2.1 (fun _ _ => trivial) h dX11_leastOf_25
    · replace h := h.2 c2
      refine lv_iload_n C.1 C.2.1 dX11_leastOf_9 rfl (lv_at hl 0 rfl) ?_
      refine lv_iconst (v := 5) C.1 C.2.1 dX11_leastOf_10 (by decide) ?_
      refine lv_icmp_eq (tgt := 20) C.1 C.2.1 dX11_leastOf_11 (by decide) (fun c3 => ?_) (fun c3 => ?_)
      · replace h := h.1 c3
        refine lv_iconst (v := 1) C.1 C.2.1 dX11_leastOf_20 (by decide) ?_
        refine lv_goto (tgt := 25) C.1 C.2.1 dX11_leastOf_21 (by decide) ?_
        exact t_i C hr hlk (u := ()) hW.2.2.2.1 (fun _ _ => trivial) h dX11_leastOf_25
      · replace h := h.2 c3
        refine lv_iload_n C.1 C.2.1 dX11_leastOf_14 rfl (lv_at hl 0 rfl) ?_
        refine lv_bipush (v := 8) C.1 C.2.1 dX11_leastOf_15 (by decide) ?_
        refine lv_icmp_ne (tgt := 24) C.1 C.2.1 dX11_leastOf_17 (by decide) (fun c4 => ?_) (fun c4 => ?_)
        · replace h := h.1 c4
          refine lv_iconst (v := 0) C.1 C.2.1 dX11_leastOf_24 (by decide) ?_
          exact t_i C hr hlk (u := ()) hW.2.2.2.1 (fun _ _ => trivial) h dX11_leastOf_25
        · replace h := h.2 c4
          refine lv_iconst (v := 1) C.1 C.2.1 dX11_leastOf_20 (by decide) ?_
          refine lv_goto (tgt := 25) C.1 C.2.1 dX11_leastOf_21 (by decide) ?_
          exact t_i C hr hlk (u := ()) hW.2.2.2.1 (fun _ _ => trivial) h dX11_leastOf_25
set_option maxRecDepth 100000 in
set_option maxHeartbeats 4000000 in
theorem mtX11_leastOf (l : Launch) (D : va_G) (q : Nat → Nat) (g : Nat → va_E) (sz : Nat) (x0 : Int32) (Q : Int32 → Prop) (h : vX11_leastOf x0 Q) : Met l yX11_leastOf wsX11_leastOf rmX11_leastOf (va_Pc [.int x0] (mP D [] q 0 g sz tX)) (va_Qi (fun r (_ : Unit) => Q r) (fun _ _ => True) (aQ q 0 sz)) 0 0 (aQ q 0 sz) := by
  refine met_w (cc := cX11_leastOf) (maxL := 1) (ret := (some .int)) (by decide) rfl (Nat.le_of_ble_eq_true rfl) ?_
  intro p e s m below meth c ls C hr hlk hW hX hnm hl
  exact sX11_leastOf C hr hlk Q x0 _ _ _ h hW hl
abbrev rmX11_greatestOf : Room := { frames := 0, cells := 0, slots := 0, locals := 0 }
def vX11_greatestOf (x0 : Int32) (Q : Int32 → Prop) : Prop := (x0 = (1 : Int32) → Q (20 : Int32)) ∧ (¬ (x0 = (1 : Int32)) → (¬ x0 = (6 : Int32) → (¬ x0 = (7 : Int32) → (¬ x0 = (8 : Int32) → Q (99 : Int32)) ∧ (x0 = (8 : Int32) → Q (50 : Int32))) ∧ (x0 = (7 : Int32) → Q (3 : Int32))) ∧ (x0 = (6 : Int32) → Q (20 : Int32)))
set_option maxRecDepth 100000 in
set_option maxHeartbeats 4000000 in
theorem sX11_greatestOf {p : Program} {l : Launch} {e : Env} {s : State} {m : MethodId} {args : Array Value} {below : List Frame} {meth : Method} {c : Code} {D : va_G} {q : Nat → Nat} {A : Nat → Prop} {tys : List (ClassId × FieldType)} {N : Nat} {g : Nat → va_E} (C : CallFix p m c cX11_greatestOf 1 s args wsX11_greatestOf RX11) (hr : meth.sig.returnType = (some .int)) (hlk : meth.locks = false) (Q : Int32 → Prop) : ∀ (x0 : Int32) (H : Heap) (locs : List Loc) (ls : Array Slot), vX11_greatestOf x0 Q → hw D tys q N g A s H locs → lv_has ls 1 [(0, .int x0)] → W p l e (headSpec wsX11_greatestOf rmX11_greatestOf).room s m args below meth c H locs 0 0 (MQ below (va_Qi (fun r (_ : Unit) => Q r) (fun _ _ => True) A) args s 0 0 A) (F0 m 0 ls []) := by
  intro x0 H locs ls h hW hl
  unfold vX11_greatestOf at h
  refine lv_iload_n C.1 C.2.1 dX11_greatestOf_0 rfl (lv_at hl 0 rfl) ?_
  refine lv_iconst (v := 1) C.1 C.2.1 dX11_greatestOf_1 (by decide) ?_
  refine lv_icmp_eq (tgt := 11) C.1 C.2.1 dX11_greatestOf_2 (by decide) (fun c1 => ?_) (fun c1 => ?_)
  · replace h := h.1 c1
    refine lv_bipush (v := 20) C.1 C.2.1 dX11_greatestOf_11 (by decide) ?_
    refine lv_goto (tgt := 39) C.1 C.2.1 dX11_greatestOf_13 (by decide) ?_
    exact t_i C hr hlk (u := ()) hW.2.2.2.1 (fun _ _ => trivial) h dX11_greatestOf_39
  · replace h := h.2 c1
    refine lv_iload_n C.1 C.2.1 dX11_greatestOf_5 rfl (lv_at hl 0 rfl) ?_
    refine lv_bipush (v := 6) C.1 C.2.1 dX11_greatestOf_6 (by decide) ?_
    refine lv_icmp_ne (tgt := 16) C.1 C.2.1 dX11_greatestOf_8 (by decide) (fun c2 => ?_) (fun c2 => ?_)
    · replace h := h.1 c2
      refine lv_iload_n C.1 C.2.1 dX11_greatestOf_16 rfl (lv_at hl 0 rfl) ?_
      refine lv_bipush (v := 7) C.1 C.2.1 dX11_greatestOf_17 (by decide) ?_
      refine lv_icmp_ne (tgt := 26) C.1 C.2.1 dX11_greatestOf_19 (by decide) (fun c3 => ?_) (fun c3 => ?_)
      · replace h := h.1 c3
        refine lv_iload_n C.1 C.2.1 dX11_greatestOf_26 rfl (lv_at hl 0 rfl) ?_
        refine lv_bipush (v := 8) C.1 C.2.1 dX11_greatestOf_27 (by decide) ?_
        refine lv_icmp_ne (tgt := 37) C.1 C.2.1 dX11_greatestOf_29 (by decide) (fun c4 => ?_) (fun c4 => ?_)
        · replace h := h.1 c4
          refine lv_bipush (v := 99) C.1 C.2.1 dX11_greatestOf_37 (by decide) ?_
          exact t_i C hr hlk (u := ()) hW.2.2.2.1 (fun _ _ => trivial) h dX11_greatestOf_39
        · replace h := h.2 c4
          refine lv_bipush (v := 50) C.1 C.2.1 dX11_greatestOf_32 (by decide) ?_
          refine lv_goto (tgt := 39) C.1 C.2.1 dX11_greatestOf_34 (by decide) ?_
          exact t_i C hr hlk (u := ()) hW.2.2.2.1 (fun _ _ => trivial) h dX11_greatestOf_39
      · replace h := h.2 c3
        refine lv_iconst (v := 3) C.1 C.2.1 dX11_greatestOf_22 (by decide) ?_
        refine lv_goto (tgt := 39) C.1 C.2.1 dX11_greatestOf_23 (by decide) ?_
        exact t_i C hr hlk (u := ()) hW.2.2.2.1 (fun _ _ => trivial) h dX11_greatestOf_39
    · replace h := h.2 c2
      refine lv_bipush (v := 20) C.1 C.2.1 dX11_greatestOf_11 (by decide) ?_
      refine lv_goto (tgt := 39) C.1 C.2.1 dX11_greatestOf_13 (by decide) ?_
      exact t_i C hr hlk (u := ()) hW.2.2.2.1 (fun _ _ => trivial) h dX11_greatestOf_39
set_option maxRecDepth 100000 in
set_option maxHeartbeats 4000000 in
theorem mtX11_greatestOf (l : Launch) (D : va_G) (q : Nat → Nat) (g : Nat → va_E) (sz : Nat) (x0 : Int32) (Q : Int32 → Prop) (h : vX11_greatestOf x0 Q) : Met l yX11_greatestOf wsX11_greatestOf rmX11_greatestOf (va_Pc [.int x0] (mP D [] q 0 g sz tX)) (va_Qi (fun r (_ : Unit) => Q r) (fun _ _ => True) (aQ q 0 sz)) 0 0 (aQ q 0 sz) := by
  refine met_w (cc := cX11_greatestOf) (maxL := 1) (ret := (some .int)) (by decide) rfl (Nat.le_of_ble_eq_true rfl) ?_
  intro p e s m below meth c ls C hr hlk hW hX hnm hl
  exact sX11_greatestOf C hr hlk Q x0 _ _ _ h hW hl
abbrev rmX11_firstOf : Room := { frames := 0, cells := 0, slots := 0, locals := 0 }
def vX11_firstOf (x0 : Int32) (Q : Int32 → Prop) : Prop := (x0 = 0 → Q (10 : Int32)) ∧ (¬ (x0 = 0) → (¬ x0 = (5 : Int32) → ((3 : Int32) ≤ x0 → (x0 = (6 : Int32) → Q (0 : Int32)) ∧ (¬ (x0 = (6 : Int32)) → (¬ x0 = (7 : Int32) → Q (5 : Int32)) ∧ (x0 = (7 : Int32) → Q (0 : Int32)))) ∧ (¬ ((3 : Int32) ≤ x0) → Q (1 : Int32))) ∧ (x0 = (5 : Int32) → Q (10 : Int32)))
set_option maxRecDepth 100000 in
set_option maxHeartbeats 4000000 in
theorem sX11_firstOf {p : Program} {l : Launch} {e : Env} {s : State} {m : MethodId} {args : Array Value} {below : List Frame} {meth : Method} {c : Code} {D : va_G} {q : Nat → Nat} {A : Nat → Prop} {tys : List (ClassId × FieldType)} {N : Nat} {g : Nat → va_E} (C : CallFix p m c cX11_firstOf 1 s args wsX11_firstOf RX11) (hr : meth.sig.returnType = (some .int)) (hlk : meth.locks = false) (Q : Int32 → Prop) : ∀ (x0 : Int32) (H : Heap) (locs : List Loc) (ls : Array Slot), vX11_firstOf x0 Q → hw D tys q N g A s H locs → lv_has ls 1 [(0, .int x0)] → W p l e (headSpec wsX11_firstOf rmX11_firstOf).room s m args below meth c H locs 0 0 (MQ below (va_Qi (fun r (_ : Unit) => Q r) (fun _ _ => True) A) args s 0 0 A) (F0 m 0 ls []) := by
  intro x0 H locs ls h hW hl
  unfold vX11_firstOf at h
  refine lv_iload_n C.1 C.2.1 dX11_firstOf_0 rfl (lv_at hl 0 rfl) ?_
  refine lv_if_eq (tgt := 9) C.1 C.2.1 dX11_firstOf_1 (by decide) (fun c1 => ?_) (fun c1 => ?_)
  · replace h := h.1 c1
    refine lv_bipush (v := 10) C.1 C.2.1 dX11_firstOf_9 (by decide) ?_
    refine lv_goto (tgt := 40) C.1 C.2.1 dX11_firstOf_11 (by decide) ?_
    exact t_i C hr hlk (u := ()) hW.2.2.2.1 (fun _ _ => trivial) h dX11_firstOf_40
  · replace h := h.2 c1
    refine lv_iload_n C.1 C.2.1 dX11_firstOf_4 rfl (lv_at hl 0 rfl) ?_
    refine lv_iconst (v := 5) C.1 C.2.1 dX11_firstOf_5 (by decide) ?_
    refine lv_icmp_ne (tgt := 14) C.1 C.2.1 dX11_firstOf_6 (by decide) (fun c2 => ?_) (fun c2 => ?_)
    · replace h := h.1 c2
      refine lv_iload_n C.1 C.2.1 dX11_firstOf_14 rfl (lv_at hl 0 rfl) ?_
      refine lv_iconst (v := 3) C.1 C.2.1 dX11_firstOf_15 (by decide) ?_
      refine lv_icmp_ge (tgt := 23) C.1 C.2.1 dX11_firstOf_16 (by decide) (fun c3 => ?_) (fun c3 => ?_)
      · replace h := h.1 c3
        refine lv_iload_n C.1 C.2.1 dX11_firstOf_23 rfl (lv_at hl 0 rfl) ?_
        refine lv_bipush (v := 6) C.1 C.2.1 dX11_firstOf_24 (by decide) ?_
        refine lv_icmp_eq (tgt := 35) C.1 C.2.1 dX11_firstOf_26 (by decide) (fun c4 => ?_) (fun c4 => ?_)
        · replace h := h.1 c4
          refine lv_iconst (v := 0) C.1 C.2.1 dX11_firstOf_35 (by decide) ?_
          refine lv_goto (tgt := 40) C.1 C.2.1 dX11_firstOf_36 (by decide) ?_
          exact t_i C hr hlk (u := ()) hW.2.2.2.1 (fun _ _ => trivial) h dX11_firstOf_40
        · replace h := h.2 c4
          refine lv_iload_n C.1 C.2.1 dX11_firstOf_29 rfl (lv_at hl 0 rfl) ?_
          refine lv_bipush (v := 7) C.1 C.2.1 dX11_firstOf_30 (by decide) ?_
          refine lv_icmp_ne (tgt := 39) C.1 C.2.1 dX11_firstOf_32 (by decide) (fun c5 => ?_) (fun c5 => ?_)
          · replace h := h.1 c5
            refine lv_iconst (v := 5) C.1 C.2.1 dX11_firstOf_39 (by decide) ?_
            exact t_i C hr hlk (u := ()) hW.2.2.2.1 (fun _ _ => trivial) h dX11_firstOf_40
          · replace h := h.2 c5
            refine lv_iconst (v := 0) C.1 C.2.1 dX11_firstOf_35 (by decide) ?_
            refine lv_goto (tgt := 40) C.1 C.2.1 dX11_firstOf_36 (by decide) ?_
            exact t_i C hr hlk (u := ()) hW.2.2.2.1 (fun _ _ => trivial) h dX11_firstOf_40
      · replace h := h.2 c3
        refine lv_iconst (v := 1) C.1 C.2.1 dX11_firstOf_19 (by decide) ?_
        refine lv_goto (tgt := 40) C.1 C.2.1 dX11_firstOf_20 (by decide) ?_
        exact t_i C hr hlk (u := ()) hW.2.2.2.1 (fun _ _ => trivial) h dX11_firstOf_40
    · replace h := h.2 c2
      refine lv_bipush (v := 10) C.1 C.2.1 dX11_firstOf_9 (by decide) ?_
      refine lv_goto (tgt := 40) C.1 C.2.1 dX11_firstOf_11 (by decide) ?_
      exact t_i C hr hlk (u := ()) hW.2.2.2.1 (fun _ _ => trivial) h dX11_firstOf_40
set_option maxRecDepth 100000 in
set_option maxHeartbeats 4000000 in
theorem mtX11_firstOf (l : Launch) (D : va_G) (q : Nat → Nat) (g : Nat → va_E) (sz : Nat) (x0 : Int32) (Q : Int32 → Prop) (h : vX11_firstOf x0 Q) : Met l yX11_firstOf wsX11_firstOf rmX11_firstOf (va_Pc [.int x0] (mP D [] q 0 g sz tX)) (va_Qi (fun r (_ : Unit) => Q r) (fun _ _ => True) (aQ q 0 sz)) 0 0 (aQ q 0 sz) := by
  refine met_w (cc := cX11_firstOf) (maxL := 1) (ret := (some .int)) (by decide) rfl (Nat.le_of_ble_eq_true rfl) ?_
  intro p e s m below meth c ls C hr hlk hW hX hnm hl
  exact sX11_firstOf C hr hlk Q x0 _ _ _ h hW hl
abbrev rmX11_isNumber : Room := { frames := 1, cells := 0, slots := 0, locals := 25 }
def vX11_isNumber (x0 : Int32) (x1 : Int32) (Q : Int32 → Prop) : Prop := vX11_leastOf x0 (fun r1 => vX11_greatestOf x0 (fun r2 => vX11_in x1.toInt64 r1.toInt64 r2.toInt64 (fun r3 => (r3 = 0 ∨ r3 = 1) ∧ Q r3)))
set_option maxRecDepth 100000 in
set_option maxHeartbeats 4000000 in
theorem sX11_isNumber {p : Program} {l : Launch} {e : Env} {s : State} {m : MethodId} {args : Array Value} {below : List Frame} {meth : Method} {c : Code} {D : va_G} {q : Nat → Nat} {A : Nat → Prop} {tys : List (ClassId × FieldType)} {N : Nat} {g : Nat → va_E} (C : CallFix p m c cX11_isNumber 2 s args wsX11_isNumber RX11) (hr : meth.sig.returnType = (some .boolean)) (hlk : meth.locks = false) (Q : Int32 → Prop) : ∀ (x0 : Int32) (x1 : Int32) (H : Heap) (locs : List Loc) (ls : Array Slot), vX11_isNumber x0 x1 Q → hw D tys q N g A s H locs → lv_has ls 2 [(0, .int x0), (1, .int x1)] → W p l e (headSpec wsX11_isNumber rmX11_isNumber).room s m args below meth c H locs 0 0 (MQ below (va_Qi (fun r (_ : Unit) => Q r) (fun _ _ => True) A) args s 0 0 A) (F0 m 0 ls []) := by
  intro x0 x1 H locs ls h hW hl
  unfold vX11_isNumber at h
  refine lv_iload_n C.1 C.2.1 dX11_isNumber_0 rfl (lv_at hl 1 rfl) ?_
  refine lv_i2l C.1 C.2.1 dX11_isNumber_1 rfl ?_
  refine lv_iload_n C.1 C.2.1 dX11_isNumber_2 rfl (lv_at hl 0 rfl) ?_
  refine k_pi hW (va_runS (As := [.int x0]) (rest := [.long x1.toInt64]) C (mtX11_leastOf l D q _ H.size x0 _ h) (va_cwS 1 C.2.2.2.2 gX11_isNumber_X11_leastOf rfl rfl rfl (by decide +kernel) ⟨Nat.le_of_ble_eq_true rfl, Nat.le_of_ble_eq_true rfl⟩) ⟨mP_blind tX_B, fun U hU hV => ⟨rfl, hW.pre0 hU hV trivial⟩⟩ rfl rfl hl.1 rfl (lv_room (Nat.le_of_ble_eq_true rfl)) dX11_isNumber_3 ⟨Nat.zero_le _, Nat.zero_le _⟩) (fun r1 H locs h hW => ?_)
  refine lv_i2l C.1 C.2.1 dX11_isNumber_6 rfl ?_
  refine lv_iload_n C.1 C.2.1 dX11_isNumber_7 rfl (lv_at hl 0 rfl) ?_
  refine k_pi hW (va_runS (As := [.int x0]) (rest := [.long r1.toInt64, .long x1.toInt64]) C (mtX11_greatestOf l D q _ H.size x0 _ h) (va_cwS 1 C.2.2.2.2 gX11_isNumber_X11_greatestOf rfl rfl rfl (by decide +kernel) ⟨Nat.le_of_ble_eq_true rfl, Nat.le_of_ble_eq_true rfl⟩) ⟨mP_blind tX_B, fun U hU hV => ⟨rfl, hW.pre0 hU hV trivial⟩⟩ rfl rfl hl.1 rfl (lv_room (Nat.le_of_ble_eq_true rfl)) dX11_isNumber_8 ⟨Nat.zero_le _, Nat.zero_le _⟩) (fun r2 H locs h hW => ?_)
  refine lv_i2l C.1 C.2.1 dX11_isNumber_11 rfl ?_
  refine k_pi hW (va_runS (As := [.long x1.toInt64, .long r1.toInt64, .long r2.toInt64]) (rest := []) C (mtX11_in l D q _ H.size x1.toInt64 r1.toInt64 r2.toInt64 _ h) (va_cwS 3 C.2.2.2.2 gX11_isNumber_X11_in rfl rfl rfl (by decide +kernel) ⟨Nat.le_of_ble_eq_true rfl, Nat.le_of_ble_eq_true rfl⟩) ⟨mP_blind tX_B, fun U hU hV => ⟨rfl, hW.pre0 hU hV trivial⟩⟩ rfl rfl hl.1 rfl (lv_room (Nat.le_of_ble_eq_true rfl)) dX11_isNumber_12 ⟨Nat.zero_le _, Nat.zero_le _⟩) (fun r3 H locs h hW => ?_)
  exact t_z C hr hlk (u := ()) h.1 hW.2.2.2.1 (fun _ _ => trivial) h.2 dX11_isNumber_15
set_option maxRecDepth 100000 in
set_option maxHeartbeats 4000000 in
theorem mtX11_isNumber (l : Launch) (D : va_G) (q : Nat → Nat) (g : Nat → va_E) (sz : Nat) (x0 : Int32) (x1 : Int32) (Q : Int32 → Prop) (h : vX11_isNumber x0 x1 Q) : Met l yX11_isNumber wsX11_isNumber rmX11_isNumber (va_Pc [.int x0, .int x1] (mP D [] q 0 g sz tX)) (va_Qi (fun r (_ : Unit) => Q r) (fun _ _ => True) (aQ q 0 sz)) 0 0 (aQ q 0 sz) := by
  refine met_w (cc := cX11_isNumber) (maxL := 2) (ret := (some .boolean)) (by decide) rfl (Nat.le_of_ble_eq_true rfl) ?_
  intro p e s m below meth c ls C hr hlk hW hX hnm hl
  exact sX11_isNumber C hr hlk Q x0 x1 _ _ _ h hW hl
abbrev rmX11_whatBy : Room := { frames := 0, cells := 0, slots := 0, locals := 0 }
def vX11_whatBy (x0 : Int32) (Q : Int32 → Prop) : Prop := (x0 = 98 → Q (2 : Int32)) ∧ (x0 = 100 → Q (7 : Int32)) ∧ (x0 = 103 → Q (5 : Int32)) ∧ (x0 = 105 → Q (6 : Int32)) ∧ (x0 = 107 → Q (4 : Int32)) ∧ (x0 = 111 → Q (3 : Int32)) ∧ (x0 = 114 → Q (1 : Int32)) ∧ (x0 = 115 → Q (8 : Int32)) ∧ (x0 = 119 → Q (0 : Int32)) ∧ (¬ x0 = 98 → ¬ x0 = 100 → ¬ x0 = 103 → ¬ x0 = 105 → ¬ x0 = 107 → ¬ x0 = 111 → ¬ x0 = 114 → ¬ x0 = 115 → ¬ x0 = 119 → Q (-9 : Int32))
set_option maxRecDepth 100000 in
set_option maxHeartbeats 4000000 in
theorem sX11_whatBy {p : Program} {l : Launch} {e : Env} {s : State} {m : MethodId} {args : Array Value} {below : List Frame} {meth : Method} {c : Code} {D : va_G} {q : Nat → Nat} {A : Nat → Prop} {tys : List (ClassId × FieldType)} {N : Nat} {g : Nat → va_E} (C : CallFix p m c cX11_whatBy 1 s args wsX11_whatBy RX11) (hr : meth.sig.returnType = (some .int)) (hlk : meth.locks = false) (Q : Int32 → Prop) : ∀ (x0 : Int32) (H : Heap) (locs : List Loc) (ls : Array Slot), vX11_whatBy x0 Q → hw D tys q N g A s H locs → lv_has ls 1 [(0, .int x0)] → W p l e (headSpec wsX11_whatBy rmX11_whatBy).room s m args below meth c H locs 0 0 (MQ below (va_Qi (fun r (_ : Unit) => Q r) (fun _ _ => True) A) args s 0 0 A) (F0 m 0 ls []) := by
  intro x0 H locs ls h hW hl
  unfold vX11_whatBy at h
  refine lv_iload_n C.1 C.2.1 dX11_whatBy_0 rfl (lv_at hl 0 rfl) ?_
  by_cases c98 : x0 = 98
  · replace h := h.1 c98
    refine lv_tableIn (tgt := 108) C.1 C.2.1 dX11_whatBy_1 (by rw [c98]; decide) (by rw [c98]; decide) (by rw [c98]; rfl) (by decide) ?_
    refine lv_iconst (v := 2) C.1 C.2.1 dX11_whatBy_108 (by decide) ?_
    exact t_i C hr hlk (u := ()) hW.2.2.2.1 (fun _ _ => trivial) h dX11_whatBy_109
  by_cases c100 : x0 = 100
  · replace h := h.2.1 c100
    refine lv_tableIn (tgt := 119) C.1 C.2.1 dX11_whatBy_1 (by rw [c100]; decide) (by rw [c100]; decide) (by rw [c100]; rfl) (by decide) ?_
    refine lv_bipush (v := 7) C.1 C.2.1 dX11_whatBy_119 (by decide) ?_
    exact t_i C hr hlk (u := ()) hW.2.2.2.1 (fun _ _ => trivial) h dX11_whatBy_121
  by_cases c103 : x0 = 103
  · replace h := h.2.2.1 c103
    refine lv_tableIn (tgt := 114) C.1 C.2.1 dX11_whatBy_1 (by rw [c103]; decide) (by rw [c103]; decide) (by rw [c103]; rfl) (by decide) ?_
    refine lv_iconst (v := 5) C.1 C.2.1 dX11_whatBy_114 (by decide) ?_
    exact t_i C hr hlk (u := ()) hW.2.2.2.1 (fun _ _ => trivial) h dX11_whatBy_115
  by_cases c105 : x0 = 105
  · replace h := h.2.2.2.1 c105
    refine lv_tableIn (tgt := 116) C.1 C.2.1 dX11_whatBy_1 (by rw [c105]; decide) (by rw [c105]; decide) (by rw [c105]; rfl) (by decide) ?_
    refine lv_bipush (v := 6) C.1 C.2.1 dX11_whatBy_116 (by decide) ?_
    exact t_i C hr hlk (u := ()) hW.2.2.2.1 (fun _ _ => trivial) h dX11_whatBy_118
  by_cases c107 : x0 = 107
  · replace h := h.2.2.2.2.1 c107
    refine lv_tableIn (tgt := 112) C.1 C.2.1 dX11_whatBy_1 (by rw [c107]; decide) (by rw [c107]; decide) (by rw [c107]; rfl) (by decide) ?_
    refine lv_iconst (v := 4) C.1 C.2.1 dX11_whatBy_112 (by decide) ?_
    exact t_i C hr hlk (u := ()) hW.2.2.2.1 (fun _ _ => trivial) h dX11_whatBy_113
  by_cases c111 : x0 = 111
  · replace h := h.2.2.2.2.2.1 c111
    refine lv_tableIn (tgt := 110) C.1 C.2.1 dX11_whatBy_1 (by rw [c111]; decide) (by rw [c111]; decide) (by rw [c111]; rfl) (by decide) ?_
    refine lv_iconst (v := 3) C.1 C.2.1 dX11_whatBy_110 (by decide) ?_
    exact t_i C hr hlk (u := ()) hW.2.2.2.1 (fun _ _ => trivial) h dX11_whatBy_111
  by_cases c114 : x0 = 114
  · replace h := h.2.2.2.2.2.2.1 c114
    refine lv_tableIn (tgt := 106) C.1 C.2.1 dX11_whatBy_1 (by rw [c114]; decide) (by rw [c114]; decide) (by rw [c114]; rfl) (by decide) ?_
    refine lv_iconst (v := 1) C.1 C.2.1 dX11_whatBy_106 (by decide) ?_
    exact t_i C hr hlk (u := ()) hW.2.2.2.1 (fun _ _ => trivial) h dX11_whatBy_107
  by_cases c115 : x0 = 115
  · replace h := h.2.2.2.2.2.2.2.1 c115
    refine lv_tableIn (tgt := 122) C.1 C.2.1 dX11_whatBy_1 (by rw [c115]; decide) (by rw [c115]; decide) (by rw [c115]; rfl) (by decide) ?_
    refine lv_bipush (v := 8) C.1 C.2.1 dX11_whatBy_122 (by decide) ?_
    exact t_i C hr hlk (u := ()) hW.2.2.2.1 (fun _ _ => trivial) h dX11_whatBy_124
  by_cases c119 : x0 = 119
  · replace h := h.2.2.2.2.2.2.2.2.1 c119
    refine lv_tableIn (tgt := 104) C.1 C.2.1 dX11_whatBy_1 (by rw [c119]; decide) (by rw [c119]; decide) (by rw [c119]; rfl) (by decide) ?_
    refine lv_iconst (v := 0) C.1 C.2.1 dX11_whatBy_104 (by decide) ?_
    exact t_i C hr hlk (u := ()) hW.2.2.2.1 (fun _ _ => trivial) h dX11_whatBy_105
  replace h := h.2.2.2.2.2.2.2.2.2 c98 c100 c103 c105 c107 c111 c114 c115 c119
  have kd : W p l e (headSpec wsX11_whatBy rmX11_whatBy).room s m args below meth c H locs 0 0 (MQ below (va_Qi (fun r (_ : Unit) => Q r) (fun _ _ => True) A) args s 0 0 A) (F0 m 125 ls []) := by
    refine lv_bipush (v := -9) C.1 C.2.1 dX11_whatBy_125 (by decide) ?_
    exact t_i C hr hlk (u := ()) hW.2.2.2.1 (fun _ _ => trivial) h dX11_whatBy_127
  by_cases g1 : x0.toInt < 98
  · exact lv_tableOut (tgt := 125) C.1 C.2.1 dX11_whatBy_1 (Or.inl g1) (by decide) kd
  by_cases g2 : 119 < x0.toInt
  · exact lv_tableOut (tgt := 125) C.1 C.2.1 dX11_whatBy_1 (Or.inr g2) (by decide) kd
  have n98 : ¬ x0.toInt = 98 := lv_neT c98 (by decide)
  have n100 : ¬ x0.toInt = 100 := lv_neT c100 (by decide)
  have n103 : ¬ x0.toInt = 103 := lv_neT c103 (by decide)
  have n105 : ¬ x0.toInt = 105 := lv_neT c105 (by decide)
  have n107 : ¬ x0.toInt = 107 := lv_neT c107 (by decide)
  have n111 : ¬ x0.toInt = 111 := lv_neT c111 (by decide)
  have n114 : ¬ x0.toInt = 114 := lv_neT c114 (by decide)
  have n115 : ¬ x0.toInt = 115 := lv_neT c115 (by decide)
  have n119 : ¬ x0.toInt = 119 := lv_neT c119 (by decide)
  rcases (show x0.toInt = 99 ∨ x0.toInt = 101 ∨ x0.toInt = 102 ∨ x0.toInt = 104 ∨ x0.toInt = 106 ∨ x0.toInt = 108 ∨ x0.toInt = 109 ∨ x0.toInt = 110 ∨ x0.toInt = 112 ∨ x0.toInt = 113 ∨ x0.toInt = 116 ∨ x0.toInt = 117 ∨ x0.toInt = 118 by omega) with z9 | z9 | z9 | z9 | z9 | z9 | z9 | z9 | z9 | z9 | z9 | z9 | z9
  · exact lv_tableIn (tgt := 125) C.1 C.2.1 dX11_whatBy_1 g1 g2 (by rw [z9]; rfl) (by decide) kd
  · exact lv_tableIn (tgt := 125) C.1 C.2.1 dX11_whatBy_1 g1 g2 (by rw [z9]; rfl) (by decide) kd
  · exact lv_tableIn (tgt := 125) C.1 C.2.1 dX11_whatBy_1 g1 g2 (by rw [z9]; rfl) (by decide) kd
  · exact lv_tableIn (tgt := 125) C.1 C.2.1 dX11_whatBy_1 g1 g2 (by rw [z9]; rfl) (by decide) kd
  · exact lv_tableIn (tgt := 125) C.1 C.2.1 dX11_whatBy_1 g1 g2 (by rw [z9]; rfl) (by decide) kd
  · exact lv_tableIn (tgt := 125) C.1 C.2.1 dX11_whatBy_1 g1 g2 (by rw [z9]; rfl) (by decide) kd
  · exact lv_tableIn (tgt := 125) C.1 C.2.1 dX11_whatBy_1 g1 g2 (by rw [z9]; rfl) (by decide) kd
  · exact lv_tableIn (tgt := 125) C.1 C.2.1 dX11_whatBy_1 g1 g2 (by rw [z9]; rfl) (by decide) kd
  · exact lv_tableIn (tgt := 125) C.1 C.2.1 dX11_whatBy_1 g1 g2 (by rw [z9]; rfl) (by decide) kd
  · exact lv_tableIn (tgt := 125) C.1 C.2.1 dX11_whatBy_1 g1 g2 (by rw [z9]; rfl) (by decide) kd
  · exact lv_tableIn (tgt := 125) C.1 C.2.1 dX11_whatBy_1 g1 g2 (by rw [z9]; rfl) (by decide) kd
  · exact lv_tableIn (tgt := 125) C.1 C.2.1 dX11_whatBy_1 g1 g2 (by rw [z9]; rfl) (by decide) kd
  · exact lv_tableIn (tgt := 125) C.1 C.2.1 dX11_whatBy_1 g1 g2 (by rw [z9]; rfl) (by decide) kd
set_option maxRecDepth 100000 in
set_option maxHeartbeats 4000000 in
theorem mtX11_whatBy (l : Launch) (D : va_G) (q : Nat → Nat) (g : Nat → va_E) (sz : Nat) (x0 : Int32) (Q : Int32 → Prop) (h : vX11_whatBy x0 Q) : Met l yX11_whatBy wsX11_whatBy rmX11_whatBy (va_Pc [.int x0] (mP D [] q 0 g sz tX)) (va_Qi (fun r (_ : Unit) => Q r) (fun _ _ => True) (aQ q 0 sz)) 0 0 (aQ q 0 sz) := by
  refine met_w (cc := cX11_whatBy) (maxL := 1) (ret := (some .int)) (by decide) rfl (Nat.le_of_ble_eq_true rfl) ?_
  intro p e s m below meth c ls C hr hlk hW hX hnm hl
  exact sX11_whatBy C hr hlk Q x0 _ _ _ h hW hl
