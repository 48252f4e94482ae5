theorem inX11_noMill : ∀ w ∈ wsX110, w ∈ wsX11_noMill := fun _ h => List.mem_cons_of_mem _ (List.mem_append_right _ h)
abbrev rmX11_noMill : Room := { frames := 1, cells := 0, slots := 0, locals := 25 }
def vX11_noMill (x1 : Int32) (f : Nat → Int32) (a : Nat → Nat → Int32) (Q : Int32 → (Nat → Int32) → (Nat → Nat → Int32) → Prop) : Prop := vX11_in x1.toInt64 (0 : Int64) (((f 1).toInt64) - (1 : Int64)) (fun r1 => (¬ r1 = 0 → Q (0 : Int32) f a) ∧ (r1 = 0 → Q (1 : Int32) f a))
set_option maxRecDepth 100000 in
set_option maxHeartbeats 4000000 in
theorem sX11_noMill {p : Program} {l : Launch} {e : Env} {s : State} {m : MethodId} {args : Array Value} {below : List Frame} {meth : Method} {c : Code} {D : va_G} {q : Nat → Nat} {A : Nat → Prop} {cI : ClassId} (C : CallFix p m c cX11_noMill 2 s args wsX11_noMill RX11) (hr : meth.sig.returnType = (some .boolean)) (hlk : meth.locks = false) (Q : Int32 → (Nat → Int32) → (Nat → Nat → Int32) → Prop) : ∀ (x1 : Int32) (f : Nat → Int32) (a : Nat → Nat → Int32) (H : Heap) (locs : List Loc) (ls : Array Slot), vX11_noMill x1 f a Q → hw D [(cI, .int)] q 12 (gM q cI f a) A s H locs → lv_has ls 2 [(0, .ref (q 0)), (1, .int x1)] → W p l e (headSpec wsX11_noMill rmX11_noMill).room s m args below meth c H locs 0 0 (MQ below (QMi D q cI Q A) args s 0 0 A) (F0 m 0 ls []) := by
  intro x1 f a H locs ls h hW hl
  unfold vX11_noMill at h
  refine lv_iload_n C.1 C.2.1 dX11_noMill_0 rfl (lv_at hl 1 rfl) ?_
  refine lv_i2l C.1 C.2.1 dX11_noMill_1 rfl ?_
  refine lv_lconst (v := 0) C.1 C.2.1 dX11_noMill_2 (by decide) ?_
  refine lv_aload_n C.1 C.2.1 dX11_noMill_3 rfl (lv_at hl 0 rfl) ?_
  refine r_get C hW (ci := 11) (T := TX11) (n := 21) (ref := "BallMinderModel") (v := .int (f 1)) 0 (by decide) rfl rfl 1 (by decide) inX11_noMill (by decide +kernel) (fun _ h9 => h9) rfl dX11_noMill_4 ?_
  refine lv_i2l C.1 C.2.1 dX11_noMill_7 rfl ?_
  refine lv_lconst (v := 1) C.1 C.2.1 dX11_noMill_8 (by decide) ?_
  refine lv_lsub C.1 C.2.1 dX11_noMill_9 ?_
  refine k_pi hW (va_runS (As := [.long x1.toInt64, .long (0 : Int64), .long (((f 1).toInt64) - (1 : Int64))]) (rest := []) C (mtX11_in l D q _ H.size x1.toInt64 (0 : Int64) (((f 1).toInt64) - (1 : Int64)) _ h) (va_cwS 3 C.2.2.2.2 gX11_noMill_X11_in rfl rfl rfl (by decide +kernel) ⟨Nat.le_of_ble_eq_true rfl, Nat.le_of_ble_eq_true rfl⟩) ⟨mP_blind tX_B, fun U hU hV => ⟨rfl, hW.pre0 hU hV trivial⟩⟩ rfl rfl hl.1 rfl (lv_room (Nat.le_of_ble_eq_true rfl)) dX11_noMill_10 ⟨Nat.zero_le _, Nat.zero_le _⟩) (fun r1 H locs h hW => ?_)
  refine lv_if_ne (tgt := 20) C.1 C.2.1 dX11_noMill_13 (by decide) (fun c2 => ?_) (fun c2 => ?_)
  · replace h := h.1 c2
    refine lv_iconst (v := 0) C.1 C.2.1 dX11_noMill_20 (by decide) ?_
    exact t_z C hr hlk (u := (f, a)) (Or.inl rfl) hW.2.2.2.1 hW.B h dX11_noMill_21
  · replace h := h.2 c2
    refine lv_iconst (v := 1) C.1 C.2.1 dX11_noMill_16 (by decide) ?_
    refine lv_goto (tgt := 21) C.1 C.2.1 dX11_noMill_17 (by decide) ?_
    exact t_z C hr hlk (u := (f, a)) (Or.inr rfl) hW.2.2.2.1 hW.B h dX11_noMill_21
set_option maxRecDepth 100000 in
set_option maxHeartbeats 4000000 in
theorem mtX11_noMill (l : Launch) (D : va_G) (q : Nat → Nat) (cI : ClassId) (sz : Nat) (x1 : Int32) (f : Nat → Int32) (a : Nat → Nat → Int32) (Q : Int32 → (Nat → Int32) → (Nat → Nat → Int32) → Prop) (h : vX11_noMill x1 f a Q) : Met l yX11_noMill wsX11_noMill rmX11_noMill (va_Pc [.ref (q 0), .int x1] (mP D [(cI, .int)] q 12 (gM q cI f a) sz tX)) (QMi D q cI Q (aQ q 12 sz)) 0 0 (aQ q 12 sz) := by
  refine met_w (cc := cX11_noMill) (maxL := 2) (ret := (some .boolean)) (by decide) rfl (Nat.le_of_ble_eq_true rfl) ?_
  intro p e s m below meth c ls C hr hlk hW hX hnm hl
  exact sX11_noMill C hr hlk Q x1 f a _ _ _ h hW hl
theorem inX11_of : ∀ w ∈ wsX110, w ∈ wsX11_of := fun _ h => List.mem_cons_of_mem _ (List.mem_append_right _ h)
abbrev rmX11_of : Room := { frames := 0, cells := 0, slots := 0, locals := 0 }
def vX11_of (x1 : Int32) (x2 : Int32) (f : Nat → Int32) (a : Nat → Nat → Int32) (Q : Int32 → (Nat → Int32) → (Nat → Nat → Int32) → Prop) : Prop := vp_in (((9 : Int32) * x1) + x2) 72 ∧ (Q (a 2 (((9 : Int32) * x1) + x2).toNatClampNeg) f a)
set_option maxRecDepth 100000 in
set_option maxHeartbeats 4000000 in
theorem sX11_of {p : Program} {l : Launch} {e : Env} {s : State} {m : MethodId} {args : Array Value} {below : List Frame} {meth : Method} {c : Code} {D : va_G} {q : Nat → Nat} {A : Nat → Prop} {cI : ClassId} (C : CallFix p m c cX11_of 3 s args wsX11_of RX11) (hr : meth.sig.returnType = (some .int)) (hlk : meth.locks = false) (Q : Int32 → (Nat → Int32) → (Nat → Nat → Int32) → Prop) : ∀ (x1 : Int32) (x2 : Int32) (f : Nat → Int32) (a : Nat → Nat → Int32) (H : Heap) (locs : List Loc) (ls : Array Slot), vX11_of x1 x2 f a Q → hw D [(cI, .int)] q 12 (gM q cI f a) A s H locs → lv_has ls 3 [(0, .ref (q 0)), (1, .int x1), (2, .int x2)] → W p l e (headSpec wsX11_of rmX11_of).room s m args below meth c H locs 0 0 (MQ below (QMi D q cI Q A) args s 0 0 A) (F0 m 0 ls []) := by
  intro x1 x2 f a H locs ls h hW hl
  unfold vX11_of at h
  refine lv_aload_n C.1 C.2.1 dX11_of_0 rfl (lv_at hl 0 rfl) ?_
  refine r_get C hW (ci := 11) (T := TX11) (n := 21) (ref := "BallMinderModel") (v := .ref (q 2)) 0 (by decide) rfl rfl 3 (by decide) inX11_of (by decide +kernel) (fun _ h9 => h9) rfl dX11_of_1 ?_
  refine lv_bipush (v := 9) C.1 C.2.1 dX11_of_4 (by decide) ?_
  refine lv_iload_n C.1 C.2.1 dX11_of_6 rfl (lv_at hl 1 rfl) ?_
  refine lv_imul C.1 C.2.1 dX11_of_7 ?_
  refine lv_iload_n C.1 C.2.1 dX11_of_8 rfl (lv_at hl 2 rfl) ?_
  refine lv_iadd C.1 C.2.1 dX11_of_9 ?_
  obtain ⟨hs1, h⟩ := h
  refine r_iald C hW (cA := cI) (n := 72) (f := a 2) 2 0 (by decide) rfl rfl hs1 dX11_of_10 ?_
  exact t_i C hr hlk (u := (f, a)) hW.2.2.2.1 hW.B h dX11_of_11
set_option maxRecDepth 100000 in
set_option maxHeartbeats 4000000 in
theorem mtX11_of (l : Launch) (D : va_G) (q : Nat → Nat) (cI : ClassId) (sz : Nat) (x1 : Int32) (x2 : Int32) (f : Nat → Int32) (a : Nat → Nat → Int32) (Q : Int32 → (Nat → Int32) → (Nat → Nat → Int32) → Prop) (h : vX11_of x1 x2 f a Q) : Met l yX11_of wsX11_of rmX11_of (va_Pc [.ref (q 0), .int x1, .int x2] (mP D [(cI, .int)] q 12 (gM q cI f a) sz tX)) (QMi D q cI Q (aQ q 12 sz)) 0 0 (aQ q 12 sz) := by
  refine met_w (cc := cX11_of) (maxL := 3) (ret := (some .int)) (by decide) rfl (Nat.le_of_ble_eq_true rfl) ?_
  intro p e s m below meth c ls C hr hlk hW hX hnm hl
  exact sX11_of C hr hlk Q x1 x2 f a _ _ _ h hW hl
theorem inX11_readDrawing : ∀ w ∈ wsX110, w ∈ wsX11_readDrawing := fun _ h => List.mem_cons_of_mem _ (List.mem_append_right _ h)
abbrev rmX11_readDrawing : Room := { frames := 2, cells := 0, slots := 0, locals := 46 }
def vX11_readDrawing_224 (K30 : Int32 → Int32 → Int32 → Int32 → Int32 → (Nat → Int32) → (Nat → Nat → Int32) → Prop) (Q : Int32 → (Nat → Int32) → (Nat → Nat → Int32) → Prop) (x1 : Int32) (x2 : Int32) (x4 : Int32) (x5 : Int32) (y0 : Int32) (y1 : Int32) (f : Nat → Int32) (a : Nat → Nat → Int32) : Prop := ∀ x3_18 : Int32, x3_18 = y1 + y0 → K30 x1 x2 x3_18 x4 x5 f a
def vX11_readDrawing_213 (K30 : Int32 → Int32 → Int32 → Int32 → Int32 → (Nat → Int32) → (Nat → Nat → Int32) → Prop) (Q : Int32 → (Nat → Int32) → (Nat → Nat → Int32) → Prop) (x1 : Int32) (x2 : Int32) (x3 : Int32) (x4 : Int32) (x5 : Int32) (f : Nat → Int32) (a : Nat → Nat → Int32) : Prop := (x5 = 0 → vX11_readDrawing_224 K30 Q x1 x2 x4 x5 (0 : Int32) x3 f a) ∧ (¬ (x5 = 0) → vX11_readDrawing_224 K30 Q x1 x2 x4 x5 (1 : Int32) x3 f a)
def vX11_readDrawing_184 (K30 : Int32 → Int32 → Int32 → Int32 → Int32 → (Nat → Int32) → (Nat → Nat → Int32) → Prop) (Q : Int32 → (Nat → Int32) → (Nat → Nat → Int32) → Prop) (x1 : Int32) (x2 : Int32) (x3 : Int32) (x4 : Int32) (y0 : Int32) (f : Nat → Int32) (a : Nat → Nat → Int32) : Prop := (y0 = 0 → vX11_readDrawing_213 K30 Q x1 x2 x3 x4 y0 f a) ∧ (¬ (y0 = 0) → vp_in (x1 + x3) 240 ∧ ((¬ (a 10 (x1 + x3).toNatClampNeg) = (59 : Int32) → Q x3 f a) ∧ ((a 10 (x1 + x3).toNatClampNeg) = (59 : Int32) → (¬ x4 = (9 : Int32) → vX11_readDrawing_213 K30 Q x1 x2 x3 x4 y0 f a) ∧ (x4 = (9 : Int32) → Q x3 f a))))
def vX11_readDrawing_143 (K30 : Int32 → Int32 → Int32 → Int32 → Int32 → (Nat → Int32) → (Nat → Nat → Int32) → Prop) (Q : Int32 → (Nat → Int32) → (Nat → Nat → Int32) → Prop) (x1 : Int32) (x2 : Int32) (x3 : Int32) (x4 : Int32) (x6 : Int32) (x7 : Int32) (x8 : Int32) (f : Nat → Int32) (a : Nat → Nat → Int32) : Prop := (x3 = x7 → Q x7 f a) ∧ (¬ (x3 = x7) → vX11_isNumber x6 x8 (fun r10 => (¬ r10 = 0 → vp_in x6 9 ∧ (∀ a13 : Nat → Nat → Int32, a13 = va_up a 3 (upd (a 3) x6.toNatClampNeg x8) → ∀ x4_14 : Int32, x4_14 = x4 + (1 : Int32) → (x2 ≤ x3 → vX11_readDrawing_184 K30 Q x1 x2 x3 x4_14 (0 : Int32) f a13) ∧ (¬ (x2 ≤ x3) → vX11_readDrawing_184 K30 Q x1 x2 x3 x4_14 (1 : Int32) f a13))) ∧ (r10 = 0 → Q x7 f a)))
def vX11_readDrawing_84 (K30 : Int32 → Int32 → Int32 → Int32 → Int32 → (Nat → Int32) → (Nat → Nat → Int32) → Prop) (Q : Int32 → (Nat → Int32) → (Nat → Nat → Int32) → Prop) : Nat → Int32 → Int32 → Int32 → Int32 → Int32 → Int32 → Int32 → (Nat → Int32) → (Nat → Nat → Int32) → Prop
  | 0, _, _, _, _, _, _, _, _, _ => False
  | fu+1, x1, x2, x3, x4, x6, x7, x8, f, a => (x2 ≤ x3 → vX11_readDrawing_143 K30 Q x1 x2 x3 x4 x6 x7 x8 f a) ∧ (¬ (x2 ≤ x3) → ((x7 + (2 : Int32)) ≤ x3 → vX11_readDrawing_143 K30 Q x1 x2 x3 x4 x6 x7 x8 f a) ∧ (¬ ((x7 + (2 : Int32)) ≤ x3) → vp_in (x1 + x3) 240 ∧ (vX11_in ((a 10 (x1 + x3).toNatClampNeg).toInt64) (48 : Int64) (57 : Int64) (fun r24 => (r24 = 0 → vX11_readDrawing_143 K30 Q x1 x2 x3 x4 x6 x7 x8 f a) ∧ (¬ (r24 = 0) → vp_in (x1 + x3) 240 ∧ (∀ x8_27 : Int32, x8_27 = (((10 : Int32) * x8) + (a 10 (x1 + x3).toNatClampNeg)) - (48 : Int32) → ∀ x3_28 : Int32, x3_28 = x3 + (1 : Int32) → vX11_readDrawing_84 K30 Q fu x1 x2 x3_28 x4 x6 x7 x8_27 f a))))))
def vX11_readDrawing_56 (K30 : Int32 → Int32 → Int32 → Int32 → Int32 → (Nat → Int32) → (Nat → Nat → Int32) → Prop) (Q : Int32 → (Nat → Int32) → (Nat → Nat → Int32) → Prop) (x1 : Int32) (x2 : Int32) (x3 : Int32) (x4 : Int32) (y0 : Int32) (f : Nat → Int32) (a : Nat → Nat → Int32) : Prop := (y0 < 0 → Q x3 f a) ∧ (¬ (y0 < 0) → vp_in y0 9 ∧ (((a 3 y0.toNatClampNeg) < 0 → ∀ x3_7 : Int32, x3_7 = x3 + (1 : Int32) → ∃ n84, vX11_readDrawing_84 K30 Q n84 x1 x2 x3_7 x4 y0 x3_7 (0 : Int32) f a) ∧ (¬ ((a 3 y0.toNatClampNeg) < 0) → Q x3 f a)))
def vX11_readDrawing_30 (Q : Int32 → (Nat → Int32) → (Nat → Nat → Int32) → Prop) : Nat → Int32 → Int32 → Int32 → Int32 → Int32 → (Nat → Int32) → (Nat → Nat → Int32) → Prop
  | 0, _, _, _, _, _, _, _ => False
  | fu+1, x1, x2, x3, x4, x5, f, a => (x5 = 0 → Q (-9 : Int32) f a) ∧ (¬ (x5 = 0) → (x2 ≤ x3 → vX11_readDrawing_56 (vX11_readDrawing_30 Q fu) Q x1 x2 x3 x4 (-9 : Int32) f a) ∧ (¬ (x2 ≤ x3) → vp_in (x1 + x3) 240 ∧ (vX11_whatBy (a 10 (x1 + x3).toNatClampNeg) (fun r30 => vX11_readDrawing_56 (vX11_readDrawing_30 Q fu) Q x1 x2 x3 x4 r30 f a))))
def vX11_readDrawing_2 (Q : Int32 → (Nat → Int32) → (Nat → Nat → Int32) → Prop) : Nat → Int32 → Int32 → Int32 → (Nat → Int32) → (Nat → Nat → Int32) → Prop
  | 0, _, _, _, _, _ => False
  | fu+1, x1, x2, x3, f, a => ((9 : Int32) ≤ x3 → ∃ n30, vX11_readDrawing_30 Q n30 x1 x2 (0 : Int32) (0 : Int32) (1 : Int32) f a) ∧ (¬ ((9 : Int32) ≤ x3) → vp_in x3 9 ∧ (∀ a32 : Nat → Nat → Int32, a32 = va_up a 3 (upd (a 3) x3.toNatClampNeg (-9 : Int32)) → ∀ x3_33 : Int32, x3_33 = x3 + (1 : Int32) → vX11_readDrawing_2 Q fu x1 x2 x3_33 f a32))
def vX11_readDrawing (x1 : Int32) (x2 : Int32) (f : Nat → Int32) (a : Nat → Nat → Int32) (Q : Int32 → (Nat → Int32) → (Nat → Nat → Int32) → Prop) : Prop := ∃ n2, vX11_readDrawing_2 Q n2 x1 x2 (0 : Int32) f a
set_option maxRecDepth 100000 in
set_option maxHeartbeats 4000000 in
theorem sX11_readDrawing_224 {p : Program} {l : Launch} {e : Env} {s : State} {m : MethodId} {args : Array Value} {below : List Frame} {meth : Method} {c : Code} {D : va_G} {q : Nat → Nat} {A : Nat → Prop} {cI : ClassId} (C : CallFix p m c cX11_readDrawing 9 s args wsX11_readDrawing RX11) (hr : meth.sig.returnType = (some .int)) (hlk : meth.locks = false) (Q : Int32 → (Nat → Int32) → (Nat → Nat → Int32) → Prop) (K30 : Int32 → Int32 → Int32 → Int32 → Int32 → (Nat → Int32) → (Nat → Nat → Int32) → Prop) (hK30 : ∀ (x1 : Int32) (x2 : Int32) (x3 : Int32) (x4 : Int32) (x5 : Int32) (f : Nat → Int32) (a : Nat → Nat → Int32) (H : Heap) (locs : List Loc) (ls : Array Slot), K30 x1 x2 x3 x4 x5 f a → hw D [(cI, .int)] q 12 (gM q cI f a) A s H locs → lv_has ls 9 [(0, .ref (q 0)), (1, .int x1), (2, .int x2), (3, .int x3), (4, .int x4), (5, .int x5)] → W p l e (headSpec wsX11_readDrawing rmX11_readDrawing).room s m args below meth c H locs 0 0 (MQ below (QMi D q cI Q A) args s 0 0 A) (F0 m 30 ls [])) : ∀ (x1 : Int32) (x2 : Int32) (x4 : Int32) (x5 : Int32) (y0 : Int32) (y1 : Int32) (f : Nat → Int32) (a : Nat → Nat → Int32) (H : Heap) (locs : List Loc) (ls : Array Slot), vX11_readDrawing_224 K30 Q x1 x2 x4 x5 y0 y1 f a → hw D [(cI, .int)] q 12 (gM q cI f a) A s H locs → lv_has ls 9 [(0, .ref (q 0)), (1, .int x1), (2, .int x2), (4, .int x4), (5, .int x5)] → W p l e (headSpec wsX11_readDrawing rmX11_readDrawing).room s m args below meth c H locs 0 0 (MQ below (QMi D q cI Q A) args s 0 0 A) (F0 m 224 ls [.int y0, .int y1]) := by
  intro x1 x2 x4 x5 y0 y1 f a H locs ls h hW hl
  unfold vX11_readDrawing_224 at h
  refine lv_iadd C.1 C.2.1 dX11_readDrawing_224 ?_
  refine lv_topi (fun x3_18 ex3_18 => ?_)
  replace h := h x3_18 ex3_18
  refine lv_istore_n (lv' := [(3, .int x3_18), (0, .ref (q 0)), (1, .int x1), (2, .int x2), (4, .int x4), (5, .int x5)]) C.1 C.2.1 dX11_readDrawing_225 rfl hl (by decide) rfl (fun ls hl => ?_)
  refine lv_goto (tgt := 30) C.1 C.2.1 dX11_readDrawing_226 (by decide) ?_
  exact hK30 x1 x2 x3_18 x4 x5 f a _ _ _ h hW (lv_sub hl [1, 2, 3, 0, 4, 5] rfl)
set_option maxRecDepth 100000 in
set_option maxHeartbeats 4000000 in
theorem sX11_readDrawing_213 {p : Program} {l : Launch} {e : Env} {s : State} {m : MethodId} {args : Array Value} {below : List Frame} {meth : Method} {c : Code} {D : va_G} {q : Nat → Nat} {A : Nat → Prop} {cI : ClassId} (C : CallFix p m c cX11_readDrawing 9 s args wsX11_readDrawing RX11) (hr : meth.sig.returnType = (some .int)) (hlk : meth.locks = false) (Q : Int32 → (Nat → Int32) → (Nat → Nat → Int32) → Prop) (K30 : Int32 → Int32 → Int32 → Int32 → Int32 → (Nat → Int32) → (Nat → Nat → Int32) → Prop) (hK30 : ∀ (x1 : Int32) (x2 : Int32) (x3 : Int32) (x4 : Int32) (x5 : Int32) (f : Nat → Int32) (a : Nat → Nat → Int32) (H : Heap) (locs : List Loc) (ls : Array Slot), K30 x1 x2 x3 x4 x5 f a → hw D [(cI, .int)] q 12 (gM q cI f a) A s H locs → lv_has ls 9 [(0, .ref (q 0)), (1, .int x1), (2, .int x2), (3, .int x3), (4, .int x4), (5, .int x5)] → W p l e (headSpec wsX11_readDrawing rmX11_readDrawing).room s m args below meth c H locs 0 0 (MQ below (QMi D q cI Q A) args s 0 0 A) (F0 m 30 ls [])) : ∀ (x1 : Int32) (x2 : Int32) (x3 : Int32) (x4 : Int32) (x5 : Int32) (f : Nat → Int32) (a : Nat → Nat → Int32) (H : Heap) (locs : List Loc) (ls : Array Slot), vX11_readDrawing_213 K30 Q x1 x2 x3 x4 x5 f a → hw D [(cI, .int)] q 12 (gM q cI f a) A s H locs → lv_has ls 9 [(0, .ref (q 0)), (1, .int x1), (2, .int x2), (3, .int x3), (4, .int x4), (5, .int x5)] → W p l e (headSpec wsX11_readDrawing rmX11_readDrawing).room s m args below meth c H locs 0 0 (MQ below (QMi D q cI Q A) args s 0 0 A) (F0 m 213 ls []) := by
  intro x1 x2 x3 x4 x5 f a H locs ls h hW hl
  unfold vX11_readDrawing_213 at h
  refine lv_iload_n C.1 C.2.1 dX11_readDrawing_213 rfl (lv_at hl 3 rfl) ?_
  refine lv_iload C.1 C.2.1 dX11_readDrawing_214 (lv_at hl 5 rfl) ?_
  refine lv_if_eq (tgt := 223) C.1 C.2.1 dX11_readDrawing_216 (by decide) (fun c17 => ?_) (fun c17 => ?_)
  · replace h := h.1 c17
    refine lv_iconst (v := 0) C.1 C.2.1 dX11_readDrawing_223 (by decide) ?_
    exact sX11_readDrawing_224 C hr hlk Q K30 hK30 x1 x2 x4 x5 (0 : Int32) x3 f a _ _ _ h hW (lv_sub hl [0, 1, 2, 4, 5] rfl)
  · replace h := h.2 c17
    refine lv_iconst (v := 1) C.1 C.2.1 dX11_readDrawing_219 (by decide) ?_
    refine lv_goto (tgt := 224) C.1 C.2.1 dX11_readDrawing_220 (by decide) ?_
    exact sX11_readDrawing_224 C hr hlk Q K30 hK30 x1 x2 x4 x5 (1 : Int32) x3 f a _ _ _ h hW (lv_sub hl [0, 1, 2, 4, 5] rfl)
set_option maxRecDepth 100000 in
set_option maxHeartbeats 4000000 in
theorem sX11_readDrawing_184 {p : Program} {l : Launch} {e : Env} {s : State} {m : MethodId} {args : Array Value} {below : List Frame} {meth : Method} {c : Code} {D : va_G} {q : Nat → Nat} {A : Nat → Prop} {cI : ClassId} (C : CallFix p m c cX11_readDrawing 9 s args wsX11_readDrawing RX11) (hr : meth.sig.returnType = (some .int)) (hlk : meth.locks = false) (Q : Int32 → (Nat → Int32) → (Nat → Nat → Int32) → Prop) (K30 : Int32 → Int32 → Int32 → Int32 → Int32 → (Nat → Int32) → (Nat → Nat → Int32) → Prop) (hK30 : ∀ (x1 : Int32) (x2 : Int32) (x3 : Int32) (x4 : Int32) (x5 : Int32) (f : Nat → Int32) (a : Nat → Nat → Int32) (H : Heap) (locs : List Loc) (ls : Array Slot), K30 x1 x2 x3 x4 x5 f a → hw D [(cI, .int)] q 12 (gM q cI f a) A s H locs → lv_has ls 9 [(0, .ref (q 0)), (1, .int x1), (2, .int x2), (3, .int x3), (4, .int x4), (5, .int x5)] → W p l e (headSpec wsX11_readDrawing rmX11_readDrawing).room s m args below meth c H locs 0 0 (MQ below (QMi D q cI Q A) args s 0 0 A) (F0 m 30 ls [])) : ∀ (x1 : Int32) (x2 : Int32) (x3 : Int32) (x4 : Int32) (y0 : Int32) (f : Nat → Int32) (a : Nat → Nat → Int32) (H : Heap) (locs : List Loc) (ls : Array Slot), vX11_readDrawing_184 K30 Q x1 x2 x3 x4 y0 f a → hw D [(cI, .int)] q 12 (gM q cI f a) A s H locs → lv_has ls 9 [(0, .ref (q 0)), (1, .int x1), (2, .int x2), (3, .int x3), (4, .int x4)] → W p l e (headSpec wsX11_readDrawing rmX11_readDrawing).room s m args below meth c H locs 0 0 (MQ below (QMi D q cI Q A) args s 0 0 A) (F0 m 184 ls [.int y0]) := by
  intro x1 x2 x3 x4 y0 f a H locs ls h hW hl
  unfold vX11_readDrawing_184 at h
  refine lv_istore (lv' := [(5, .int y0), (0, .ref (q 0)), (1, .int x1), (2, .int x2), (3, .int x3), (4, .int x4)]) C.1 C.2.1 dX11_readDrawing_184 hl (by decide) rfl (fun ls hl => ?_)
  refine lv_iload C.1 C.2.1 dX11_readDrawing_186 (lv_at hl 0 rfl) ?_
  refine lv_if_eq (tgt := 213) C.1 C.2.1 dX11_readDrawing_188 (by decide) (fun c16 => ?_) (fun c16 => ?_)
  · replace h := h.1 c16
    exact sX11_readDrawing_213 C hr hlk Q K30 hK30 x1 x2 x3 x4 y0 f a _ _ _ h hW (lv_sub hl [1, 2, 3, 4, 5, 0] rfl)
  · replace h := h.2 c16
    refine lv_aload_n C.1 C.2.1 dX11_readDrawing_191 rfl (lv_at hl 1 rfl) ?_
    refine r_get C hW (ci := 11) (T := TX11) (n := 21) (ref := "BallMinderModel") (v := .ref (q 10)) 0 (by decide) rfl rfl 18 (by decide) inX11_readDrawing (by decide +kernel) (fun _ h9 => h9) rfl dX11_readDrawing_192 ?_
    refine lv_iload_n C.1 C.2.1 dX11_readDrawing_195 rfl (lv_at hl 2 rfl) ?_
    refine lv_iload_n C.1 C.2.1 dX11_readDrawing_196 rfl (lv_at hl 4 rfl) ?_
    refine lv_iadd C.1 C.2.1 dX11_readDrawing_197 ?_
    obtain ⟨hs19, h⟩ := h
    refine r_iald C hW (cA := cI) (n := 240) (f := a 10) 10 0 (by decide) rfl rfl hs19 dX11_readDrawing_198 ?_
    refine lv_bipush (v := 59) C.1 C.2.1 dX11_readDrawing_199 (by decide) ?_
    refine lv_icmp_ne (tgt := 211) C.1 C.2.1 dX11_readDrawing_201 (by decide) (fun c20 => ?_) (fun c20 => ?_)
    · replace h := h.1 c20
      refine lv_iload_n C.1 C.2.1 dX11_readDrawing_211 rfl (lv_at hl 4 rfl) ?_
      exact t_i C hr hlk (u := (f, a)) hW.2.2.2.1 hW.B h dX11_readDrawing_212
    · replace h := h.2 c20
      refine lv_iload C.1 C.2.1 dX11_readDrawing_204 (lv_at hl 5 rfl) ?_
      refine lv_bipush (v := 9) C.1 C.2.1 dX11_readDrawing_206 (by decide) ?_
      refine lv_icmp_ne (tgt := 213) C.1 C.2.1 dX11_readDrawing_208 (by decide) (fun c21 => ?_) (fun c21 => ?_)
      · replace h := h.1 c21
        exact sX11_readDrawing_213 C hr hlk Q K30 hK30 x1 x2 x3 x4 y0 f a _ _ _ h hW (lv_sub hl [1, 2, 3, 4, 5, 0] rfl)
      · replace h := h.2 c21
        refine lv_iload_n C.1 C.2.1 dX11_readDrawing_211 rfl (lv_at hl 4 rfl) ?_
        exact t_i C hr hlk (u := (f, a)) hW.2.2.2.1 hW.B h dX11_readDrawing_212
set_option maxRecDepth 100000 in
set_option maxHeartbeats 4000000 in
theorem sX11_readDrawing_143 {p : Program} {l : Launch} {e : Env} {s : State} {m : MethodId} {args : Array Value} {below : List Frame} {meth : Method} {c : Code} {D : va_G} {q : Nat → Nat} {A : Nat → Prop} {cI : ClassId} (C : CallFix p m c cX11_readDrawing 9 s args wsX11_readDrawing RX11) (hr : meth.sig.returnType = (some .int)) (hlk : meth.locks = false) (Q : Int32 → (Nat → Int32) → (Nat → Nat → Int32) → Prop) (K30 : Int32 → Int32 → Int32 → Int32 → Int32 → (Nat → Int32) → (Nat → Nat → Int32) → Prop) (hK30 : ∀ (x1 : Int32) (x2 : Int32) (x3 : Int32) (x4 : Int32) (x5 : Int32) (f : Nat → Int32) (a : Nat → Nat → Int32) (H : Heap) (locs : List Loc) (ls : Array Slot), K30 x1 x2 x3 x4 x5 f a → hw D [(cI, .int)] q 12 (gM q cI f a) A s H locs → lv_has ls 9 [(0, .ref (q 0)), (1, .int x1), (2, .int x2), (3, .int x3), (4, .int x4), (5, .int x5)] → W p l e (headSpec wsX11_readDrawing rmX11_readDrawing).room s m args below meth c H locs 0 0 (MQ below (QMi D q cI Q A) args s 0 0 A) (F0 m 30 ls [])) : ∀ (x1 : Int32) (x2 : Int32) (x3 : Int32) (x4 : Int32) (x6 : Int32) (x7 : Int32) (x8 : Int32) (f : Nat → Int32) (a : Nat → Nat → Int32) (H : Heap) (locs : List Loc) (ls : Array Slot), vX11_readDrawing_143 K30 Q x1 x2 x3 x4 x6 x7 x8 f a → hw D [(cI, .int)] q 12 (gM q cI f a) A s H locs → lv_has ls 9 [(0, .ref (q 0)), (1, .int x1), (2, .int x2), (3, .int x3), (4, .int x4), (6, .int x6), (7, .int x7), (8, .int x8)] → W p l e (headSpec wsX11_readDrawing rmX11_readDrawing).room s m args below meth c H locs 0 0 (MQ below (QMi D q cI Q A) args s 0 0 A) (F0 m 143 ls []) := by
  intro x1 x2 x3 x4 x6 x7 x8 f a H locs ls h hW hl
  unfold vX11_readDrawing_143 at h
  refine lv_iload_n C.1 C.2.1 dX11_readDrawing_143 rfl (lv_at hl 3 rfl) ?_
  refine lv_iload C.1 C.2.1 dX11_readDrawing_144 (lv_at hl 6 rfl) ?_
  refine lv_icmp_eq (tgt := 159) C.1 C.2.1 dX11_readDrawing_146 (by decide) (fun c9 => ?_) (fun c9 => ?_)
  · replace h := h.1 c9
    refine lv_iload C.1 C.2.1 dX11_readDrawing_159 (lv_at hl 6 rfl) ?_
    exact t_i C hr hlk (u := (f, a)) hW.2.2.2.1 hW.B h dX11_readDrawing_161
  · replace h := h.2 c9
    refine lv_iload C.1 C.2.1 dX11_readDrawing_149 (lv_at hl 5 rfl) ?_
    refine lv_iload C.1 C.2.1 dX11_readDrawing_151 (lv_at hl 7 rfl) ?_
    refine k_pi hW (va_runS (As := [.int x6, .int x8]) (rest := []) C (mtX11_isNumber l D q _ H.size x6 x8 _ h) (va_cwS 2 C.2.2.2.2 gX11_readDrawing_X11_isNumber rfl rfl rfl (by decide +kernel) ⟨Nat.le_of_ble_eq_true rfl, Nat.le_of_ble_eq_true rfl⟩) ⟨mP_blind tX_B, fun U hU hV => ⟨rfl, hW.pre0 hU hV trivial⟩⟩ rfl rfl hl.1 rfl (lv_room (Nat.le_of_ble_eq_true rfl)) dX11_readDrawing_153 ⟨Nat.zero_le _, Nat.zero_le _⟩) (fun r10 H locs h hW => ?_)
    refine lv_if_ne (tgt := 162) C.1 C.2.1 dX11_readDrawing_156 (by decide) (fun c11 => ?_) (fun c11 => ?_)
    · replace h := h.1 c11
      refine lv_aload_n C.1 C.2.1 dX11_readDrawing_162 rfl (lv_at hl 0 rfl) ?_
      refine r_get C hW (ci := 11) (T := TX11) (n := 21) (ref := "BallMinderModel") (v := .ref (q 3)) 0 (by decide) rfl rfl 4 (by decide) inX11_readDrawing (by decide +kernel) (fun _ h9 => h9) rfl dX11_readDrawing_163 ?_
      refine lv_iload C.1 C.2.1 dX11_readDrawing_166 (lv_at hl 5 rfl) ?_
      refine lv_iload C.1 C.2.1 dX11_readDrawing_168 (lv_at hl 7 rfl) ?_
      obtain ⟨hs12, h⟩ := h
      refine r_iast C hW (cA := cI) (n := 9) (f := a 3) 3 0 (by decide) rfl rfl hs12 dX11_readDrawing_170 (fun H locs hW => ?_)
      replace hW := gM_ast (k := 3) (n := 9) (by decide) rfl hW
      obtain ⟨a13, ea13⟩ : ∃ z : Nat → Nat → Int32, z = va_up a 3 (upd (a 3) x6.toNatClampNeg x8) := ⟨_, rfl⟩
      rw [← ea13] at hW
      replace h := h a13 ea13
      obtain ⟨x4_14, ex4_14⟩ : ∃ z : Int32, z = x4 + (1 : Int32) := ⟨_, rfl⟩
      replace h := h x4_14 ex4_14
      refine lv_iinc (v := x4_14) (lv' := [(4, .int x4_14), (0, .ref (q 0)), (1, .int x1), (2, .int x2), (3, .int x3), (6, .int x6), (7, .int x7), (8, .int x8)]) C.1 C.2.1 dX11_readDrawing_171 hl (k := 4) rfl (by rw [ex4_14]; rfl) (by decide) rfl (fun ls hl => ?_)
      refine lv_iload_n C.1 C.2.1 dX11_readDrawing_174 rfl (lv_at hl 4 rfl) ?_
      refine lv_iload_n C.1 C.2.1 dX11_readDrawing_175 rfl (lv_at hl 3 rfl) ?_
      refine lv_icmp_ge (tgt := 183) C.1 C.2.1 dX11_readDrawing_176 (by decide) (fun c15 => ?_) (fun c15 => ?_)
      · replace h := h.1 c15
        refine lv_iconst (v := 0) C.1 C.2.1 dX11_readDrawing_183 (by decide) ?_
        exact sX11_readDrawing_184 C hr hlk Q K30 hK30 x1 x2 x3 x4_14 (0 : Int32) f a13 _ _ _ h hW (lv_sub hl [1, 2, 3, 4, 0] rfl)
      · replace h := h.2 c15
        refine lv_iconst (v := 1) C.1 C.2.1 dX11_readDrawing_179 (by decide) ?_
        refine lv_goto (tgt := 184) C.1 C.2.1 dX11_readDrawing_180 (by decide) ?_
        exact sX11_readDrawing_184 C hr hlk Q K30 hK30 x1 x2 x3 x4_14 (1 : Int32) f a13 _ _ _ h hW (lv_sub hl [1, 2, 3, 4, 0] rfl)
    · replace h := h.2 c11
      refine lv_iload C.1 C.2.1 dX11_readDrawing_159 (lv_at hl 6 rfl) ?_
      exact t_i C hr hlk (u := (f, a)) hW.2.2.2.1 hW.B h dX11_readDrawing_161
set_option maxRecDepth 100000 in
set_option maxHeartbeats 4000000 in
theorem sX11_readDrawing_84 {p : Program} {l : Launch} {e : Env} {s : State} {m : MethodId} {args : Array Value} {below : List Frame} {meth : Method} {c : Code} {D : va_G} {q : Nat → Nat} {A : Nat → Prop} {cI : ClassId} (C : CallFix p m c cX11_readDrawing 9 s args wsX11_readDrawing RX11) (hr : meth.sig.returnType = (some .int)) (hlk : meth.locks = false) (Q : Int32 → (Nat → Int32) → (Nat → Nat → Int32) → Prop) (K30 : Int32 → Int32 → Int32 → Int32 → Int32 → (Nat → Int32) → (Nat → Nat → Int32) → Prop) (hK30 : ∀ (x1 : Int32) (x2 : Int32) (x3 : Int32) (x4 : Int32) (x5 : Int32) (f : Nat → Int32) (a : Nat → Nat → Int32) (H : Heap) (locs : List Loc) (ls : Array Slot), K30 x1 x2 x3 x4 x5 f a → hw D [(cI, .int)] q 12 (gM q cI f a) A s H locs → lv_has ls 9 [(0, .ref (q 0)), (1, .int x1), (2, .int x2), (3, .int x3), (4, .int x4), (5, .int x5)] → W p l e (headSpec wsX11_readDrawing rmX11_readDrawing).room s m args below meth c H locs 0 0 (MQ below (QMi D q cI Q A) args s 0 0 A) (F0 m 30 ls [])) : ∀ (fu : Nat) (x1 : Int32) (x2 : Int32) (x3 : Int32) (x4 : Int32) (x6 : Int32) (x7 : Int32) (x8 : Int32) (f : Nat → Int32) (a : Nat → Nat → Int32) (H : Heap) (locs : List Loc) (ls : Array Slot), vX11_readDrawing_84 K30 Q fu x1 x2 x3 x4 x6 x7 x8 f a → hw D [(cI, .int)] q 12 (gM q cI f a) A s H locs → lv_has ls 9 [(0, .ref (q 0)), (1, .int x1), (2, .int x2), (3, .int x3), (4, .int x4), (6, .int x6), (7, .int x7), (8, .int x8)] → W p l e (headSpec wsX11_readDrawing rmX11_readDrawing).room s m args below meth c H locs 0 0 (MQ below (QMi D q cI Q A) args s 0 0 A) (F0 m 84 ls []) := by
  intro fu
  induction fu with
  | zero =>
    intro x1 x2 x3 x4 x6 x7 x8 f a H locs ls h
    exact h.elim
  | succ fu ih =>
    intro x1 x2 x3 x4 x6 x7 x8 f a H locs ls h hW hl
    refine lv_iload_n C.1 C.2.1 dX11_readDrawing_84 rfl (lv_at hl 3 rfl) ?_
    refine lv_iload_n C.1 C.2.1 dX11_readDrawing_85 rfl (lv_at hl 2 rfl) ?_
    refine lv_icmp_ge (tgt := 143) C.1 C.2.1 dX11_readDrawing_86 (by decide) (fun c8 => ?_) (fun c8 => ?_)
    · replace h := h.1 c8
      exact sX11_readDrawing_143 C hr hlk Q K30 hK30 x1 x2 x3 x4 x6 x7 x8 f a _ _ _ h hW (lv_sub hl [0, 1, 2, 3, 4, 5, 6, 7] rfl)
    · replace h := h.2 c8
      refine lv_iload_n C.1 C.2.1 dX11_readDrawing_89 rfl (lv_at hl 3 rfl) ?_
      refine lv_iload C.1 C.2.1 dX11_readDrawing_90 (lv_at hl 6 rfl) ?_
      refine lv_iconst (v := 2) C.1 C.2.1 dX11_readDrawing_92 (by decide) ?_
      refine lv_iadd C.1 C.2.1 dX11_readDrawing_93 ?_
      refine lv_icmp_ge (tgt := 143) C.1 C.2.1 dX11_readDrawing_94 (by decide) (fun c22 => ?_) (fun c22 => ?_)
      · replace h := h.1 c22
        exact sX11_readDrawing_143 C hr hlk Q K30 hK30 x1 x2 x3 x4 x6 x7 x8 f a _ _ _ h hW (lv_sub hl [0, 1, 2, 3, 4, 5, 6, 7] rfl)
      · replace h := h.2 c22
        refine lv_aload_n C.1 C.2.1 dX11_readDrawing_97 rfl (lv_at hl 0 rfl) ?_
        refine r_get C hW (ci := 11) (T := TX11) (n := 21) (ref := "BallMinderModel") (v := .ref (q 10)) 0 (by decide) rfl rfl 18 (by decide) inX11_readDrawing (by decide +kernel) (fun _ h9 => h9) rfl dX11_readDrawing_98 ?_
        refine lv_iload_n C.1 C.2.1 dX11_readDrawing_101 rfl (lv_at hl 1 rfl) ?_
        refine lv_iload_n C.1 C.2.1 dX11_readDrawing_102 rfl (lv_at hl 3 rfl) ?_
        refine lv_iadd C.1 C.2.1 dX11_readDrawing_103 ?_
        obtain ⟨hs23, h⟩ := h
        refine r_iald C hW (cA := cI) (n := 240) (f := a 10) 10 0 (by decide) rfl rfl hs23 dX11_readDrawing_104 ?_
        refine lv_i2l C.1 C.2.1 dX11_readDrawing_105 rfl ?_
        refine lv_ldc2 (v := (48)) C.1 C.2.1 C.2.2.2.1 (C.2.2.2.2 (.constantLong RX11 77 (48)) (by decide +kernel)) dX11_readDrawing_106 ?_
        refine lv_ldc2 (v := (57)) C.1 C.2.1 C.2.2.2.1 (C.2.2.2.2 (.constantLong RX11 79 (57)) (by decide +kernel)) dX11_readDrawing_109 ?_
        refine k_pi hW (va_runS (As := [.long ((a 10 (x1 + x3).toNatClampNeg).toInt64), .long (48 : Int64), .long (57 : Int64)]) (rest := []) C (mtX11_in l D q _ H.size ((a 10 (x1 + x3).toNatClampNeg).toInt64) (48 : Int64) (57 : Int64) _ h) (va_cwS 3 C.2.2.2.2 gX11_readDrawing_X11_in rfl rfl rfl (by decide +kernel) ⟨Nat.le_of_ble_eq_true rfl, Nat.le_of_ble_eq_true rfl⟩) ⟨mP_blind tX_B, fun U hU hV => ⟨rfl, hW.pre0 hU hV trivial⟩⟩ rfl rfl hl.1 rfl (lv_room (Nat.le_of_ble_eq_true rfl)) dX11_readDrawing_112 ⟨Nat.zero_le _, Nat.zero_le _⟩) (fun r24 H locs h hW => ?_)
        refine lv_if_eq (tgt := 143) C.1 C.2.1 dX11_readDrawing_115 (by decide) (fun c25 => ?_) (fun c25 => ?_)
        · replace h := h.1 c25
          exact sX11_readDrawing_143 C hr hlk Q K30 hK30 x1 x2 x3 x4 x6 x7 x8 f a _ _ _ h hW (lv_sub hl [0, 1, 2, 3, 4, 5, 6, 7] rfl)
        · replace h := h.2 c25
          refine lv_bipush (v := 10) C.1 C.2.1 dX11_readDrawing_118 (by decide) ?_
          refine lv_iload C.1 C.2.1 dX11_readDrawing_120 (lv_at hl 7 rfl) ?_
          refine lv_imul C.1 C.2.1 dX11_readDrawing_122 ?_
          refine lv_aload_n C.1 C.2.1 dX11_readDrawing_123 rfl (lv_at hl 0 rfl) ?_
          refine r_get C hW (ci := 11) (T := TX11) (n := 21) (ref := "BallMinderModel") (v := .ref (q 10)) 0 (by decide) rfl rfl 18 (by decide) inX11_readDrawing (by decide +kernel) (fun _ h9 => h9) rfl dX11_readDrawing_124 ?_
          refine lv_iload_n C.1 C.2.1 dX11_readDrawing_127 rfl (lv_at hl 1 rfl) ?_
          refine lv_iload_n C.1 C.2.1 dX11_readDrawing_128 rfl (lv_at hl 3 rfl) ?_
          refine lv_iadd C.1 C.2.1 dX11_readDrawing_129 ?_
          obtain ⟨hs26, h⟩ := h
          refine r_iald C hW (cA := cI) (n := 240) (f := a 10) 10 0 (by decide) rfl rfl hs26 dX11_readDrawing_130 ?_
          refine lv_iadd C.1 C.2.1 dX11_readDrawing_131 ?_
          refine lv_bipush (v := 48) C.1 C.2.1 dX11_readDrawing_132 (by decide) ?_
          refine lv_isub C.1 C.2.1 dX11_readDrawing_134 ?_
          refine lv_topi (fun x8_27 ex8_27 => ?_)
          replace h := h x8_27 ex8_27
          refine lv_istore (lv' := [(8, .int x8_27), (0, .ref (q 0)), (1, .int x1), (2, .int x2), (3, .int x3), (4, .int x4), (6, .int x6), (7, .int x7)]) C.1 C.2.1 dX11_readDrawing_135 hl (by decide) rfl (fun ls hl => ?_)
          obtain ⟨x3_28, ex3_28⟩ : ∃ z : Int32, z = x3 + (1 : Int32) := ⟨_, rfl⟩
          replace h := h x3_28 ex3_28
          refine lv_iinc (v := x3_28) (lv' := [(3, .int x3_28), (8, .int x8_27), (0, .ref (q 0)), (1, .int x1), (2, .int x2), (4, .int x4), (6, .int x6), (7, .int x7)]) C.1 C.2.1 dX11_readDrawing_137 hl (k := 4) rfl (by rw [ex3_28]; rfl) (by decide) rfl (fun ls hl => ?_)
          refine lv_goto (tgt := 84) C.1 C.2.1 dX11_readDrawing_140 (by decide) ?_
          exact ih x1 x2 x3_28 x4 x6 x7 x8_27 f a _ _ _ h hW (lv_sub hl [2, 3, 4, 0, 5, 6, 7, 1] rfl)
set_option maxRecDepth 100000 in
set_option maxHeartbeats 4000000 in
theorem sX11_readDrawing_56 {p : Program} {l : Launch} {e : Env} {s : State} {m : MethodId} {args : Array Value} {below : List Frame} {meth : Method} {c : Code} {D : va_G} {q : Nat → Nat} {A : Nat → Prop} {cI : ClassId} (C : CallFix p m c cX11_readDrawing 9 s args wsX11_readDrawing RX11) (hr : meth.sig.returnType = (some .int)) (hlk : meth.locks = false) (Q : Int32 → (Nat → Int32) → (Nat → Nat → Int32) → Prop) (K30 : Int32 → Int32 → Int32 → Int32 → Int32 → (Nat → Int32) → (Nat → Nat → Int32) → Prop) (hK30 : ∀ (x1 : Int32) (x2 : Int32) (x3 : Int32) (x4 : Int32) (x5 : Int32) (f : Nat → Int32) (a : Nat → Nat → Int32) (H : Heap) (locs : List Loc) (ls : Array Slot), K30 x1 x2 x3 x4 x5 f a → hw D [(cI, .int)] q 12 (gM q cI f a) A s H locs → lv_has ls 9 [(0, .ref (q 0)), (1, .int x1), (2, .int x2), (3, .int x3), (4, .int x4), (5, .int x5)] → W p l e (headSpec wsX11_readDrawing rmX11_readDrawing).room s m args below meth c H locs 0 0 (MQ below (QMi D q cI Q A) args s 0 0 A) (F0 m 30 ls [])) : ∀ (x1 : Int32) (x2 : Int32) (x3 : Int32) (x4 : Int32) (y0 : Int32) (f : Nat → Int32) (a : Nat → Nat → Int32) (H : Heap) (locs : List Loc) (ls : Array Slot), vX11_readDrawing_56 K30 Q x1 x2 x3 x4 y0 f a → hw D [(cI, .int)] q 12 (gM q cI f a) A s H locs → lv_has ls 9 [(0, .ref (q 0)), (1, .int x1), (2, .int x2), (3, .int x3), (4, .int x4)] → W p l e (headSpec wsX11_readDrawing rmX11_readDrawing).room s m args below meth c H locs 0 0 (MQ below (QMi D q cI Q A) args s 0 0 A) (F0 m 56 ls [.int y0]) := by
  intro x1 x2 x3 x4 y0 f a H locs ls h hW hl
  unfold vX11_readDrawing_56 at h
  refine lv_istore (lv' := [(6, .int y0), (0, .ref (q 0)), (1, .int x1), (2, .int x2), (3, .int x3), (4, .int x4)]) C.1 C.2.1 dX11_readDrawing_56 hl (by decide) rfl (fun ls hl => ?_)
  refine lv_iload C.1 C.2.1 dX11_readDrawing_58 (lv_at hl 0 rfl) ?_
  refine lv_if_lt (tgt := 73) C.1 C.2.1 dX11_readDrawing_60 (by decide) (fun c4 => ?_) (fun c4 => ?_)
  · replace h := h.1 c4
    refine lv_iload_n C.1 C.2.1 dX11_readDrawing_73 rfl (lv_at hl 4 rfl) ?_
    exact t_i C hr hlk (u := (f, a)) hW.2.2.2.1 hW.B h dX11_readDrawing_74
  · replace h := h.2 c4
    refine lv_aload_n C.1 C.2.1 dX11_readDrawing_63 rfl (lv_at hl 1 rfl) ?_
    refine r_get C hW (ci := 11) (T := TX11) (n := 21) (ref := "BallMinderModel") (v := .ref (q 3)) 0 (by decide) rfl rfl 4 (by decide) inX11_readDrawing (by decide +kernel) (fun _ h9 => h9) rfl dX11_readDrawing_64 ?_
    refine lv_iload C.1 C.2.1 dX11_readDrawing_67 (lv_at hl 0 rfl) ?_
    obtain ⟨hs5, h⟩ := h
    refine r_iald C hW (cA := cI) (n := 9) (f := a 3) 3 0 (by decide) rfl rfl hs5 dX11_readDrawing_69 ?_
    refine lv_if_lt (tgt := 75) C.1 C.2.1 dX11_readDrawing_70 (by decide) (fun c6 => ?_) (fun c6 => ?_)
    · replace h := h.1 c6
      obtain ⟨x3_7, ex3_7⟩ : ∃ z : Int32, z = x3 + (1 : Int32) := ⟨_, rfl⟩
      replace h := h x3_7 ex3_7
      refine lv_iinc (v := x3_7) (lv' := [(3, .int x3_7), (6, .int y0), (0, .ref (q 0)), (1, .int x1), (2, .int x2), (4, .int x4)]) C.1 C.2.1 dX11_readDrawing_75 hl (k := 4) rfl (by rw [ex3_7]; rfl) (by decide) rfl (fun ls hl => ?_)
      refine lv_iload_n C.1 C.2.1 dX11_readDrawing_78 rfl (lv_at hl 0 rfl) ?_
      refine lv_istore (lv' := [(7, .int x3_7), (3, .int x3_7), (6, .int y0), (0, .ref (q 0)), (1, .int x1), (2, .int x2), (4, .int x4)]) C.1 C.2.1 dX11_readDrawing_79 hl (by decide) rfl (fun ls hl => ?_)
      refine lv_iconst (v := 0) C.1 C.2.1 dX11_readDrawing_81 (by decide) ?_
      refine lv_istore (lv' := [(8, .int (0 : Int32)), (7, .int x3_7), (3, .int x3_7), (6, .int y0), (0, .ref (q 0)), (1, .int x1), (2, .int x2), (4, .int x4)]) C.1 C.2.1 dX11_readDrawing_82 hl (by decide) rfl (fun ls hl => ?_)
      obtain ⟨n9, h⟩ := h
      exact sX11_readDrawing_84 C hr hlk Q K30 hK30 n9 x1 x2 x3_7 x4 y0 x3_7 (0 : Int32) f a _ _ _ h hW (lv_sub hl [4, 5, 6, 2, 7, 3, 1, 0] rfl)
    · replace h := h.2 c6
      refine lv_iload_n C.1 C.2.1 dX11_readDrawing_73 rfl (lv_at hl 4 rfl) ?_
      exact t_i C hr hlk (u := (f, a)) hW.2.2.2.1 hW.B h dX11_readDrawing_74
set_option maxRecDepth 100000 in
set_option maxHeartbeats 4000000 in
theorem sX11_readDrawing_30 {p : Program} {l : Launch} {e : Env} {s : State} {m : MethodId} {args : Array Value} {below : List Frame} {meth : Method} {c : Code} {D : va_G} {q : Nat → Nat} {A : Nat → Prop} {cI : ClassId} (C : CallFix p m c cX11_readDrawing 9 s args wsX11_readDrawing RX11) (hr : meth.sig.returnType = (some .int)) (hlk : meth.locks = false) (Q : Int32 → (Nat → Int32) → (Nat → Nat → Int32) → Prop) : ∀ (fu : Nat) (x1 : Int32) (x2 : Int32) (x3 : Int32) (x4 : Int32) (x5 : Int32) (f : Nat → Int32) (a : Nat → Nat → Int32) (H : Heap) (locs : List Loc) (ls : Array Slot), vX11_readDrawing_30 Q fu x1 x2 x3 x4 x5 f a → hw D [(cI, .int)] q 12 (gM q cI f a) A s H locs → lv_has ls 9 [(0, .ref (q 0)), (1, .int x1), (2, .int x2), (3, .int x3), (4, .int x4), (5, .int x5)] → W p l e (headSpec wsX11_readDrawing rmX11_readDrawing).room s m args below meth c H locs 0 0 (MQ below (QMi D q cI Q A) args s 0 0 A) (F0 m 30 ls []) := by
  intro fu
  induction fu with
  | zero =>
    intro x1 x2 x3 x4 x5 f a H locs ls h
    exact h.elim
  | succ fu ih =>
    intro x1 x2 x3 x4 x5 f a H locs ls h hW hl
    refine lv_iload C.1 C.2.1 dX11_readDrawing_30 (lv_at hl 5 rfl) ?_
    refine lv_if_eq (tgt := 229) C.1 C.2.1 dX11_readDrawing_32 (by decide) (fun c2 => ?_) (fun c2 => ?_)
    · replace h := h.1 c2
      refine lv_bipush (v := -9) C.1 C.2.1 dX11_readDrawing_229 (by decide) ?_
      exact t_i C hr hlk (u := (f, a)) hW.2.2.2.1 hW.B h dX11_readDrawing_231
    · replace h := h.2 c2
      refine lv_iload_n C.1 C.2.1 dX11_readDrawing_35 rfl (lv_at hl 3 rfl) ?_
      refine lv_iload_n C.1 C.2.1 dX11_readDrawing_36 rfl (lv_at hl 2 rfl) ?_
      refine lv_icmp_ge (tgt := 54) C.1 C.2.1 dX11_readDrawing_37 (by decide) (fun c3 => ?_) (fun c3 => ?_)
      · replace h := h.1 c3
        refine lv_bipush (v := -9) C.1 C.2.1 dX11_readDrawing_54 (by decide) ?_
        exact sX11_readDrawing_56 C hr hlk Q _ ih x1 x2 x3 x4 (-9 : Int32) f a _ _ _ h hW (lv_sub hl [0, 1, 2, 3, 4] rfl)
      · replace h := h.2 c3
        refine lv_aload_n C.1 C.2.1 dX11_readDrawing_40 rfl (lv_at hl 0 rfl) ?_
        refine r_get C hW (ci := 11) (T := TX11) (n := 21) (ref := "BallMinderModel") (v := .ref (q 10)) 0 (by decide) rfl rfl 18 (by decide) inX11_readDrawing (by decide +kernel) (fun _ h9 => h9) rfl dX11_readDrawing_41 ?_
        refine lv_iload_n C.1 C.2.1 dX11_readDrawing_44 rfl (lv_at hl 1 rfl) ?_
        refine lv_iload_n C.1 C.2.1 dX11_readDrawing_45 rfl (lv_at hl 3 rfl) ?_
        refine lv_iadd C.1 C.2.1 dX11_readDrawing_46 ?_
        obtain ⟨hs29, h⟩ := h
        refine r_iald C hW (cA := cI) (n := 240) (f := a 10) 10 0 (by decide) rfl rfl hs29 dX11_readDrawing_47 ?_
        refine k_pi hW (va_runS (As := [.int (a 10 (x1 + x3).toNatClampNeg)]) (rest := []) C (mtX11_whatBy l D q _ H.size (a 10 (x1 + x3).toNatClampNeg) _ h) (va_cwS 1 C.2.2.2.2 gX11_readDrawing_X11_whatBy rfl rfl rfl (by decide +kernel) ⟨Nat.le_of_ble_eq_true rfl, Nat.le_of_ble_eq_true rfl⟩) ⟨mP_blind tX_B, fun U hU hV => ⟨rfl, hW.pre0 hU hV trivial⟩⟩ rfl rfl hl.1 rfl (lv_room (Nat.le_of_ble_eq_true rfl)) dX11_readDrawing_48 ⟨Nat.zero_le _, Nat.zero_le _⟩) (fun r30 H locs h hW => ?_)
        refine lv_goto (tgt := 56) C.1 C.2.1 dX11_readDrawing_51 (by decide) ?_
        exact sX11_readDrawing_56 C hr hlk Q _ ih x1 x2 x3 x4 r30 f a _ _ _ h hW (lv_sub hl [0, 1, 2, 3, 4] rfl)
set_option maxRecDepth 100000 in
set_option maxHeartbeats 4000000 in
theorem sX11_readDrawing_2 {p : Program} {l : Launch} {e : Env} {s : State} {m : MethodId} {args : Array Value} {below : List Frame} {meth : Method} {c : Code} {D : va_G} {q : Nat → Nat} {A : Nat → Prop} {cI : ClassId} (C : CallFix p m c cX11_readDrawing 9 s args wsX11_readDrawing RX11) (hr : meth.sig.returnType = (some .int)) (hlk : meth.locks = false) (Q : Int32 → (Nat → Int32) → (Nat → Nat → Int32) → Prop) : ∀ (fu : Nat) (x1 : Int32) (x2 : Int32) (x3 : Int32) (f : Nat → Int32) (a : Nat → Nat → Int32) (H : Heap) (locs : List Loc) (ls : Array Slot), vX11_readDrawing_2 Q fu x1 x2 x3 f a → hw D [(cI, .int)] q 12 (gM q cI f a) A s H locs → lv_has ls 9 [(0, .ref (q 0)), (1, .int x1), (2, .int x2), (3, .int x3)] → W p l e (headSpec wsX11_readDrawing rmX11_readDrawing).room s m args below meth c H locs 0 0 (MQ below (QMi D q cI Q A) args s 0 0 A) (F0 m 2 ls []) := by
  intro fu
  induction fu with
  | zero =>
    intro x1 x2 x3 f a H locs ls h
    exact h.elim
  | succ fu ih =>
    intro x1 x2 x3 f a H locs ls h hW hl
    refine lv_iload_n C.1 C.2.1 dX11_readDrawing_2 rfl (lv_at hl 3 rfl) ?_
    refine lv_bipush (v := 9) C.1 C.2.1 dX11_readDrawing_3 (by decide) ?_
    refine lv_icmp_ge (tgt := 22) C.1 C.2.1 dX11_readDrawing_5 (by decide) (fun c1 => ?_) (fun c1 => ?_)
    · replace h := h.1 c1
      refine lv_iconst (v := 0) C.1 C.2.1 dX11_readDrawing_22 (by decide) ?_
      refine lv_istore_n (lv' := [(3, .int (0 : Int32)), (0, .ref (q 0)), (1, .int x1), (2, .int x2)]) C.1 C.2.1 dX11_readDrawing_23 rfl hl (by decide) rfl (fun ls hl => ?_)
      refine lv_iconst (v := 0) C.1 C.2.1 dX11_readDrawing_24 (by decide) ?_
      refine lv_istore (lv' := [(4, .int (0 : Int32)), (3, .int (0 : Int32)), (0, .ref (q 0)), (1, .int x1), (2, .int x2)]) C.1 C.2.1 dX11_readDrawing_25 hl (by decide) rfl (fun ls hl => ?_)
      refine lv_iconst (v := 1) C.1 C.2.1 dX11_readDrawing_27 (by decide) ?_
      refine lv_istore (lv' := [(5, .int (1 : Int32)), (4, .int (0 : Int32)), (3, .int (0 : Int32)), (0, .ref (q 0)), (1, .int x1), (2, .int x2)]) C.1 C.2.1 dX11_readDrawing_28 hl (by decide) rfl (fun ls hl => ?_)
      obtain ⟨n9, h⟩ := h
      exact sX11_readDrawing_30 C hr hlk Q n9 x1 x2 (0 : Int32) (0 : Int32) (1 : Int32) f a _ _ _ h hW (lv_sub hl [3, 4, 5, 2, 1, 0] rfl)
    · replace h := h.2 c1
      refine lv_aload_n C.1 C.2.1 dX11_readDrawing_8 rfl (lv_at hl 0 rfl) ?_
      refine r_get C hW (ci := 11) (T := TX11) (n := 21) (ref := "BallMinderModel") (v := .ref (q 3)) 0 (by decide) rfl rfl 4 (by decide) inX11_readDrawing (by decide +kernel) (fun _ h9 => h9) rfl dX11_readDrawing_9 ?_
      refine lv_iload_n C.1 C.2.1 dX11_readDrawing_12 rfl (lv_at hl 3 rfl) ?_
      refine lv_bipush (v := -9) C.1 C.2.1 dX11_readDrawing_13 (by decide) ?_
      obtain ⟨hs31, h⟩ := h
      refine r_iast C hW (cA := cI) (n := 9) (f := a 3) 3 0 (by decide) rfl rfl hs31 dX11_readDrawing_15 (fun H locs hW => ?_)
      replace hW := gM_ast (k := 3) (n := 9) (by decide) rfl hW
      obtain ⟨a32, ea32⟩ : ∃ z : Nat → Nat → Int32, z = va_up a 3 (upd (a 3) x3.toNatClampNeg (-9 : Int32)) := ⟨_, rfl⟩
      rw [← ea32] at hW
      replace h := h a32 ea32
      obtain ⟨x3_33, ex3_33⟩ : ∃ z : Int32, z = x3 + (1 : Int32) := ⟨_, rfl⟩
      replace h := h x3_33 ex3_33
      refine lv_iinc (v := x3_33) (lv' := [(3, .int x3_33), (0, .ref (q 0)), (1, .int x1), (2, .int x2)]) C.1 C.2.1 dX11_readDrawing_16 hl (k := 3) rfl (by rw [ex3_33]; rfl) (by decide) rfl (fun ls hl => ?_)
      refine lv_goto (tgt := 2) C.1 C.2.1 dX11_readDrawing_19 (by decide) ?_
      exact ih x1 x2 x3_33 f a32 _ _ _ h hW (lv_sub hl [1, 2, 3, 0] rfl)
set_option maxRecDepth 100000 in
set_option maxHeartbeats 4000000 in
theorem sX11_readDrawing {p : Program} {l : Launch} {e : Env} {s : State} {m : MethodId} {args : Array Value} {below : List Frame} {meth : Method} {c : Code} {D : va_G} {q : Nat → Nat} {A : Nat → Prop} {cI : ClassId} (C : CallFix p m c cX11_readDrawing 9 s args wsX11_readDrawing RX11) (hr : meth.sig.returnType = (some .int)) (hlk : meth.locks = false) (Q : Int32 → (Nat → Int32) → (Nat → Nat → Int32) → Prop) : ∀ (x1 : Int32) (x2 : Int32) (f : Nat → Int32) (a : Nat → Nat → Int32) (H : Heap) (locs : List Loc) (ls : Array Slot), vX11_readDrawing x1 x2 f a Q → hw D [(cI, .int)] q 12 (gM q cI f a) A s H locs → lv_has ls 9 [(0, .ref (q 0)), (1, .int x1), (2, .int x2)] → W p l e (headSpec wsX11_readDrawing rmX11_readDrawing).room s m args below meth c H locs 0 0 (MQ below (QMi D q cI Q A) args s 0 0 A) (F0 m 0 ls []) := by
  intro x1 x2 f a H locs ls h hW hl
  unfold vX11_readDrawing at h
  refine lv_iconst (v := 0) C.1 C.2.1 dX11_readDrawing_0 (by decide) ?_
  refine lv_istore_n (lv' := [(3, .int (0 : Int32)), (0, .ref (q 0)), (1, .int x1), (2, .int x2)]) C.1 C.2.1 dX11_readDrawing_1 rfl hl (by decide) rfl (fun ls hl => ?_)
  obtain ⟨n9, h⟩ := h
  exact sX11_readDrawing_2 C hr hlk Q n9 x1 x2 (0 : Int32) f a _ _ _ h hW (lv_sub hl [1, 2, 3, 0] rfl)
set_option maxRecDepth 100000 in
set_option maxHeartbeats 4000000 in
theorem mtX11_readDrawing (l : Launch) (D : va_G) (q : Nat → Nat) (cI : ClassId) (sz : Nat) (x1 : Int32) (x2 : Int32) (f : Nat → Int32) (a : Nat → Nat → Int32) (Q : Int32 → (Nat → Int32) → (Nat → Nat → Int32) → Prop) (h : vX11_readDrawing x1 x2 f a Q) : Met l yX11_readDrawing wsX11_readDrawing rmX11_readDrawing (va_Pc [.ref (q 0), .int x1, .int x2] (mP D [(cI, .int)] q 12 (gM q cI f a) sz tX)) (QMi D q cI Q (aQ q 12 sz)) 0 0 (aQ q 12 sz) := by
  refine met_w (cc := cX11_readDrawing) (maxL := 9) (ret := (some .int)) (by decide) rfl (Nat.le_of_ble_eq_true rfl) ?_
  intro p e s m below meth c ls C hr hlk hW hX hnm hl
  exact sX11_readDrawing C hr hlk Q x1 x2 f a _ _ _ h hW hl
abbrev rmX11_noSheet : Room := { frames := 1, cells := 0, slots := 0, locals := 25 }
def vX11_noSheet (x0 : Int32) (Q : Int32 → Prop) : Prop := vX11_in x0.toInt64 (0 : Int64) (3 : Int64) (fun r1 => (¬ r1 = 0 → Q (0 : Int32)) ∧ (r1 = 0 → Q (1 : Int32)))
set_option maxRecDepth 100000 in
set_option maxHeartbeats 4000000 in
theorem sX11_noSheet {p : Program} {l : Launch} {e : Env} {s : State} {m : MethodId} {args : Array Value} {below : List Frame} {meth : Method} {c : Code} {D : va_G} {q : Nat → Nat} {A : Nat → Prop} {tys : List (ClassId × FieldType)} {N : Nat} {g : Nat → va_E} (C : CallFix p m c cX11_noSheet 1 s args wsX11_noSheet RX11) (hr : meth.sig.returnType = (some .boolean)) (hlk : meth.locks = false) (Q : Int32 → Prop) : ∀ (x0 : Int32) (H : Heap) (locs : List Loc) (ls : Array Slot), vX11_noSheet x0 Q → hw D tys q N g A s H locs → lv_has ls 1 [(0, .int x0)] → W p l e (headSpec wsX11_noSheet rmX11_noSheet).room s m args below meth c H locs 0 0 (MQ below (va_Qi (fun r (_ : Unit) => Q r) (fun _ _ => True) A) args s 0 0 A) (F0 m 0 ls []) := by
  intro x0 H locs ls h hW hl
  unfold vX11_noSheet at h
  refine lv_iload_n C.1 C.2.1 dX11_noSheet_0 rfl (lv_at hl 0 rfl) ?_
  refine lv_i2l C.1 C.2.1 dX11_noSheet_1 rfl ?_
  refine lv_lconst (v := 0) C.1 C.2.1 dX11_noSheet_2 (by decide) ?_
  refine lv_ldc2 (v := (3)) C.1 C.2.1 C.2.2.2.1 (C.2.2.2.2 (.constantLong RX11 215 (3)) (by decide +kernel)) dX11_noSheet_3 ?_
  refine k_pi hW (va_runS (As := [.long x0.toInt64, .long (0 : Int64), .long (3 : Int64)]) (rest := []) C (mtX11_in l D q _ H.size x0.toInt64 (0 : Int64) (3 : Int64) _ h) (va_cwS 3 C.2.2.2.2 gX11_noSheet_X11_in rfl rfl rfl (by decide +kernel) ⟨Nat.le_of_ble_eq_true rfl, Nat.le_of_ble_eq_true rfl⟩) ⟨mP_blind tX_B, fun U hU hV => ⟨rfl, hW.pre0 hU hV trivial⟩⟩ rfl rfl hl.1 rfl (lv_room (Nat.le_of_ble_eq_true rfl)) dX11_noSheet_6 ⟨Nat.zero_le _, Nat.zero_le _⟩) (fun r1 H locs h hW => ?_)
  refine lv_if_ne (tgt := 16) C.1 C.2.1 dX11_noSheet_9 (by decide) (fun c2 => ?_) (fun c2 => ?_)
  · replace h := h.1 c2
    refine lv_iconst (v := 0) C.1 C.2.1 dX11_noSheet_16 (by decide) ?_
    exact t_z C hr hlk (u := ()) (Or.inl rfl) hW.2.2.2.1 (fun _ _ => trivial) h dX11_noSheet_17
  · replace h := h.2 c2
    refine lv_iconst (v := 1) C.1 C.2.1 dX11_noSheet_12 (by decide) ?_
    refine lv_goto (tgt := 17) C.1 C.2.1 dX11_noSheet_13 (by decide) ?_
    exact t_z C hr hlk (u := ()) (Or.inr rfl) hW.2.2.2.1 (fun _ _ => trivial) h dX11_noSheet_17
set_option maxRecDepth 100000 in
set_option maxHeartbeats 4000000 in
theorem mtX11_noSheet (l : Launch) (D : va_G) (q : Nat → Nat) (g : Nat → va_E) (sz : Nat) (x0 : Int32) (Q : Int32 → Prop) (h : vX11_noSheet x0 Q) : Met l yX11_noSheet wsX11_noSheet rmX11_noSheet (va_Pc [.int x0] (mP D [] q 0 g sz tX)) (va_Qi (fun r (_ : Unit) => Q r) (fun _ _ => True) (aQ q 0 sz)) 0 0 (aQ q 0 sz) := by
  refine met_w (cc := cX11_noSheet) (maxL := 1) (ret := (some .boolean)) (by decide) rfl (Nat.le_of_ble_eq_true rfl) ?_
  intro p e s m below meth c ls C hr hlk hW hX hnm hl
  exact sX11_noSheet C hr hlk Q x0 _ _ _ h hW hl
theorem inX11_mill : ∀ w ∈ wsX110, w ∈ wsX11_mill := fun _ h => List.mem_cons_of_mem _ (List.mem_append_right _ h)
abbrev rmX11_mill : Room := { frames := 3, cells := 0, slots := 0, locals := 74 }
def vX11_mill_37 (Q : Int32 → (Nat → Int32) → (Nat → Nat → Int32) → Prop) (f : Nat → Int32) (a : Nat → Nat → Int32) : Prop := vX11_refused (-2 : Int32) f a (fun r5 f6 a7 => Q r5 f6 a7)
def vX11_mill_170 (K124 : Int32 → (Nat → Int32) → (Nat → Nat → Int32) → Prop) (Q : Int32 → (Nat → Int32) → (Nat → Nat → Int32) → Prop) (x8 : Int32) (y0 : Int32) (y1 : Int32) (f : Nat → Int32) (a : Nat → Nat → Int32) : Prop := vp_in y1 72 ∧ (∀ a30 : Nat → Nat → Int32, a30 = va_up a 2 (upd (a 2) y1.toNatClampNeg y0) → ∀ x8_31 : Int32, x8_31 = x8 + (1 : Int32) → K124 x8_31 f a30)
def vX11_mill_124 (Q : Int32 → (Nat → Int32) → (Nat → Nat → Int32) → Prop) : Nat → Int32 → (Nat → Int32) → (Nat → Nat → Int32) → Prop
  | 0, _, _, _ => False
  | fu+1, x8, f, a => ((9 : Int32) ≤ x8 → ∀ f22 : Nat → Int32, f22 = va_up f 1 ((f 1) + (1 : Int32)) → vX11_refused ((f22 1) - (1 : Int32)) f22 a (fun r23 f24 a25 => Q r23 f24 a25)) ∧ (¬ ((9 : Int32) ≤ x8) → vp_in x8 9 ∧ ((0 ≤ (a 3 x8.toNatClampNeg) → vp_in x8 9 ∧ (vX11_mill_170 (vX11_mill_124 Q fu) Q x8 (a 3 x8.toNatClampNeg) (((9 : Int32) * (f 1)) + x8) f a)) ∧ (¬ (0 ≤ (a 3 x8.toNatClampNeg)) → vX11_firstOf x8 (fun r32 => vX11_mill_170 (vX11_mill_124 Q fu) Q x8 r32 (((9 : Int32) * (f 1)) + x8) f a))))
def vX11_mill (x1 : Int32) (x2 : Int32) (x3 : Int32) (x4 : Int32) (x5 : Int32) (f : Nat → Int32) (a : Nat → Nat → Int32) (Q : Int32 → (Nat → Int32) → (Nat → Nat → Int32) → Prop) : Prop := vX11_noSheet x2 (fun r1 => (r1 = 0 → vX11_in x1.toInt64 (0 : Int64) (2 : Int64) (fun r3 => (r3 = 0 → vX11_mill_37 Q f a) ∧ (¬ (r3 = 0) → vX11_in x3.toInt64 (0 : Int64) (2 : Int64) (fun r8 => (¬ r8 = 0 → vX11_barred x2 x3 x4 x5.toInt64 f a (fun r10 f11 a12 => (0 ≤ r10 → vX11_readDrawing (((60 : Int32) * x2) + x4) x5 f11 a12 (fun r14 f15 a16 => (r14 < 0 → (¬ (f15 1) = (8 : Int32) → vp_in (f15 1) 8 ∧ (∀ a20 : Nat → Nat → Int32, a20 = va_up a16 1 (upd (a16 1) (f15 1).toNatClampNeg x1) → ∃ n124, vX11_mill_124 Q n124 (0 : Int32) f15 a20)) ∧ ((f15 1) = (8 : Int32) → vX11_refused (-4 : Int32) f15 a16 (fun r33 f34 a35 => Q r33 f34 a35))) ∧ (¬ (r14 < 0) → vX11_refused ((-100 : Int32) - r14) f15 a16 (fun r36 f37 a38 => Q r36 f37 a38)))) ∧ (¬ (0 ≤ r10) → Q r10 f11 a12))) ∧ (r8 = 0 → vX11_mill_37 Q f a))))) ∧ (¬ (r1 = 0) → vX11_refused (-1 : Int32) f a (fun r39 f40 a41 => Q r39 f40 a41)))
set_option maxRecDepth 100000 in
set_option maxHeartbeats 4000000 in
theorem sX11_mill_37 {p : Program} {l : Launch} {e : Env} {s : State} {m : MethodId} {args : Array Value} {below : List Frame} {meth : Method} {c : Code} {D : va_G} {q : Nat → Nat} {A : Nat → Prop} {cI : ClassId} (C : CallFix p m c cX11_mill 9 s args wsX11_mill RX11) (hr : meth.sig.returnType = (some .int)) (hlk : meth.locks = false) (Q : Int32 → (Nat → Int32) → (Nat → Nat → Int32) → Prop) : ∀ (f : Nat → Int32) (a : Nat → Nat → Int32) (H : Heap) (locs : List Loc) (ls : Array Slot), vX11_mill_37 Q f a → hw D [(cI, .int)] q 12 (gM q cI f a) A s H locs → lv_has ls 9 [(0, .ref (q 0))] → W p l e (headSpec wsX11_mill rmX11_mill).room s m args below meth c H locs 0 0 (MQ below (QMi D q cI Q A) args s 0 0 A) (F0 m 37 ls []) := by
  intro f a H locs ls h hW hl
  unfold vX11_mill_37 at h
  refine lv_aload_n C.1 C.2.1 dX11_mill_37 rfl (lv_at hl 0 rfl) ?_
  refine lv_bipush (v := -2) C.1 C.2.1 dX11_mill_38 (by decide) ?_
  refine k_i hW (va_runV (As := [.int (-2 : Int32)]) (rest := []) C (mtX11_refused l D q cI H.size (-2 : Int32) f a _ h) (cwV 1 C.2.2.2.2 gX11_mill_X11_refused rfl rfl rfl (by decide +kernel) ⟨Nat.le_of_ble_eq_true rfl, Nat.le_of_ble_eq_true rfl⟩) ⟨mP_blind tX_B, va_recv hW.1 hW.2.1 (ci := 11) (q0 := 0) rfl (wL_get (by decide)), fun U hU hV => ⟨rfl, hW.pre hU hV trivial⟩⟩ rfl rfl hl.1 rfl (lv_room (Nat.le_of_ble_eq_true rfl)) dX11_mill_40 ⟨Nat.zero_le _, Nat.zero_le _⟩) (fun r5 u H locs h hW => ?_)
  obtain ⟨f6, a7⟩ := u
  replace hW : hw D [(cI, .int)] q 12 (gM q cI f6 a7) A s H locs := hW
  exact t_i C hr hlk (u := (f6, a7)) hW.2.2.2.1 hW.B h dX11_mill_43
set_option maxRecDepth 100000 in
set_option maxHeartbeats 4000000 in
theorem sX11_mill_170 {p : Program} {l : Launch} {e : Env} {s : State} {m : MethodId} {args : Array Value} {below : List Frame} {meth : Method} {c : Code} {D : va_G} {q : Nat → Nat} {A : Nat → Prop} {cI : ClassId} (C : CallFix p m c cX11_mill 9 s args wsX11_mill RX11) (hr : meth.sig.returnType = (some .int)) (hlk : meth.locks = false) (Q : Int32 → (Nat → Int32) → (Nat → Nat → Int32) → Prop) (K124 : Int32 → (Nat → Int32) → (Nat → Nat → Int32) → Prop) (hK124 : ∀ (x8 : Int32) (f : Nat → Int32) (a : Nat → Nat → Int32) (H : Heap) (locs : List Loc) (ls : Array Slot), K124 x8 f a → hw D [(cI, .int)] q 12 (gM q cI f a) A s H locs → lv_has ls 9 [(0, .ref (q 0)), (8, .int x8)] → W p l e (headSpec wsX11_mill rmX11_mill).room s m args below meth c H locs 0 0 (MQ below (QMi D q cI Q A) args s 0 0 A) (F0 m 124 ls [])) : ∀ (x8 : Int32) (y0 : Int32) (y1 : Int32) (f : Nat → Int32) (a : Nat → Nat → Int32) (H : Heap) (locs : List Loc) (ls : Array Slot), vX11_mill_170 K124 Q x8 y0 y1 f a → hw D [(cI, .int)] q 12 (gM q cI f a) A s H locs → lv_has ls 9 [(0, .ref (q 0)), (8, .int x8)] → W p l e (headSpec wsX11_mill rmX11_mill).room s m args below meth c H locs 0 0 (MQ below (QMi D q cI Q A) args s 0 0 A) (F0 m 170 ls [.int y0, .int y1, .ref (q 2)]) := by
  intro x8 y0 y1 f a H locs ls h hW hl
  unfold vX11_mill_170 at h
  obtain ⟨hs29, h⟩ := h
  refine r_iast C hW (cA := cI) (n := 72) (f := a 2) 2 0 (by decide) rfl rfl hs29 dX11_mill_170 (fun H locs hW => ?_)
  replace hW := gM_ast (k := 2) (n := 72) (by decide) rfl hW
  obtain ⟨a30, ea30⟩ : ∃ z : Nat → Nat → Int32, z = va_up a 2 (upd (a 2) y1.toNatClampNeg y0) := ⟨_, rfl⟩
  rw [← ea30] at hW
  replace h := h a30 ea30
  obtain ⟨x8_31, ex8_31⟩ : ∃ z : Int32, z = x8 + (1 : Int32) := ⟨_, rfl⟩
  replace h := h x8_31 ex8_31
  refine lv_iinc (v := x8_31) (lv' := [(8, .int x8_31), (0, .ref (q 0))]) C.1 C.2.1 dX11_mill_171 hl (k := 1) rfl (by rw [ex8_31]; rfl) (by decide) rfl (fun ls hl => ?_)
  refine lv_goto (tgt := 124) C.1 C.2.1 dX11_mill_174 (by decide) ?_
  exact hK124 x8_31 f a30 _ _ _ h hW (lv_sub hl [1, 0] rfl)
set_option maxRecDepth 100000 in
set_option maxHeartbeats 4000000 in
theorem sX11_mill_124 {p : Program} {l : Launch} {e : Env} {s : State} {m : MethodId} {args : Array Value} {below : List Frame} {meth : Method} {c : Code} {D : va_G} {q : Nat → Nat} {A : Nat → Prop} {cI : ClassId} (C : CallFix p m c cX11_mill 9 s args wsX11_mill RX11) (hr : meth.sig.returnType = (some .int)) (hlk : meth.locks = false) (Q : Int32 → (Nat → Int32) → (Nat → Nat → Int32) → Prop) : ∀ (fu : Nat) (x8 : Int32) (f : Nat → Int32) (a : Nat → Nat → Int32) (H : Heap) (locs : List Loc) (ls : Array Slot), vX11_mill_124 Q fu x8 f a → hw D [(cI, .int)] q 12 (gM q cI f a) A s H locs → lv_has ls 9 [(0, .ref (q 0)), (8, .int x8)] → W p l e (headSpec wsX11_mill rmX11_mill).room s m args below meth c H locs 0 0 (MQ below (QMi D q cI Q A) args s 0 0 A) (F0 m 124 ls []) := by
  intro fu
  induction fu with
  | zero =>
    intro x8 f a H locs ls h
    exact h.elim
  | succ fu ih =>
    intro x8 f a H locs ls h hW hl
    refine lv_iload C.1 C.2.1 dX11_mill_124 (lv_at hl 1 rfl) ?_
    refine lv_bipush (v := 9) C.1 C.2.1 dX11_mill_126 (by decide) ?_
    refine lv_icmp_ge (tgt := 177) C.1 C.2.1 dX11_mill_128 (by decide) (fun c21 => ?_) (fun c21 => ?_)
    · replace h := h.1 c21
      refine lv_aload_n C.1 C.2.1 dX11_mill_177 rfl (lv_at hl 0 rfl) ?_
      refine lv_dup C.1 C.2.1 dX11_mill_178 rfl ?_
      refine r_get C hW (ci := 11) (T := TX11) (n := 21) (ref := "BallMinderModel") (v := .int (f 1)) 0 (by decide) rfl rfl 1 (by decide) inX11_mill (by decide +kernel) (fun _ h9 => h9) rfl dX11_mill_179 ?_
      refine lv_iconst (v := 1) C.1 C.2.1 dX11_mill_182 (by decide) ?_
      refine lv_iadd C.1 C.2.1 dX11_mill_183 ?_
      refine r_put C hW (ci := 11) (T := TX11) (n := 21) (ref := "BallMinderModel") 0 (by decide) rfl rfl 1 (by decide) inX11_mill tyX11 tyX11_ok nmX11 (by decide +kernel) (fun _ h9 => h9) rfl rfl rfl (Nat.le_of_ble_eq_true rfl) dX11_mill_184 (fun H locs hW => ?_)
      replace hW := gM_put (k := 1) rfl hW
      obtain ⟨f22, ef22⟩ : ∃ z : Nat → Int32, z = va_up f 1 ((f 1) + (1 : Int32)) := ⟨_, rfl⟩
      rw [← ef22] at hW
      replace h := h f22 ef22
      refine lv_aload_n C.1 C.2.1 dX11_mill_187 rfl (lv_at hl 0 rfl) ?_
      refine lv_aload_n C.1 C.2.1 dX11_mill_188 rfl (lv_at hl 0 rfl) ?_
      refine r_get C hW (ci := 11) (T := TX11) (n := 21) (ref := "BallMinderModel") (v := .int (f22 1)) 0 (by decide) rfl rfl 1 (by decide) inX11_mill (by decide +kernel) (fun _ h9 => h9) rfl dX11_mill_189 ?_
      refine lv_iconst (v := 1) C.1 C.2.1 dX11_mill_192 (by decide) ?_
      refine lv_isub C.1 C.2.1 dX11_mill_193 ?_
      refine k_i hW (va_runV (As := [.int ((f22 1) - (1 : Int32))]) (rest := []) C (mtX11_refused l D q cI H.size ((f22 1) - (1 : Int32)) f22 a _ h) (cwV 1 C.2.2.2.2 gX11_mill_X11_refused rfl rfl rfl (by decide +kernel) ⟨Nat.le_of_ble_eq_true rfl, Nat.le_of_ble_eq_true rfl⟩) ⟨mP_blind tX_B, va_recv hW.1 hW.2.1 (ci := 11) (q0 := 0) rfl (wL_get (by decide)), fun U hU hV => ⟨rfl, hW.pre hU hV trivial⟩⟩ rfl rfl hl.1 rfl (lv_room (Nat.le_of_ble_eq_true rfl)) dX11_mill_194 ⟨Nat.zero_le _, Nat.zero_le _⟩) (fun r23 u H locs h hW => ?_)
      obtain ⟨f24, a25⟩ := u
      replace hW : hw D [(cI, .int)] q 12 (gM q cI f24 a25) A s H locs := hW
      exact t_i C hr hlk (u := (f24, a25)) hW.2.2.2.1 hW.B h dX11_mill_197
    · replace h := h.2 c21
      refine lv_aload_n C.1 C.2.1 dX11_mill_131 rfl (lv_at hl 0 rfl) ?_
      refine r_get C hW (ci := 11) (T := TX11) (n := 21) (ref := "BallMinderModel") (v := .ref (q 2)) 0 (by decide) rfl rfl 3 (by decide) inX11_mill (by decide +kernel) (fun _ h9 => h9) rfl dX11_mill_132 ?_
      refine lv_bipush (v := 9) C.1 C.2.1 dX11_mill_135 (by decide) ?_
      refine lv_aload_n C.1 C.2.1 dX11_mill_137 rfl (lv_at hl 0 rfl) ?_
      refine r_get C hW (ci := 11) (T := TX11) (n := 21) (ref := "BallMinderModel") (v := .int (f 1)) 0 (by decide) rfl rfl 1 (by decide) inX11_mill (by decide +kernel) (fun _ h9 => h9) rfl dX11_mill_138 ?_
      refine lv_imul C.1 C.2.1 dX11_mill_141 ?_
      refine lv_iload C.1 C.2.1 dX11_mill_142 (lv_at hl 1 rfl) ?_
      refine lv_iadd C.1 C.2.1 dX11_mill_144 ?_
      refine lv_aload_n C.1 C.2.1 dX11_mill_145 rfl (lv_at hl 0 rfl) ?_
      refine r_get C hW (ci := 11) (T := TX11) (n := 21) (ref := "BallMinderModel") (v := .ref (q 3)) 0 (by decide) rfl rfl 4 (by decide) inX11_mill (by decide +kernel) (fun _ h9 => h9) rfl dX11_mill_146 ?_
      refine lv_iload C.1 C.2.1 dX11_mill_149 (lv_at hl 1 rfl) ?_
      obtain ⟨hs26, h⟩ := h
      refine r_iald C hW (cA := cI) (n := 9) (f := a 3) 3 0 (by decide) rfl rfl hs26 dX11_mill_151 ?_
      refine lv_if_ge (tgt := 163) C.1 C.2.1 dX11_mill_152 (by decide) (fun c27 => ?_) (fun c27 => ?_)
      · replace h := h.1 c27
        refine lv_aload_n C.1 C.2.1 dX11_mill_163 rfl (lv_at hl 0 rfl) ?_
        refine r_get C hW (ci := 11) (T := TX11) (n := 21) (ref := "BallMinderModel") (v := .ref (q 3)) 0 (by decide) rfl rfl 4 (by decide) inX11_mill (by decide +kernel) (fun _ h9 => h9) rfl dX11_mill_164 ?_
        refine lv_iload C.1 C.2.1 dX11_mill_167 (lv_at hl 1 rfl) ?_
        obtain ⟨hs28, h⟩ := h
        refine r_iald C hW (cA := cI) (n := 9) (f := a 3) 3 0 (by decide) rfl rfl hs28 dX11_mill_169 ?_
        exact sX11_mill_170 C hr hlk Q _ ih x8 (a 3 x8.toNatClampNeg) (((9 : Int32) * (f 1)) + x8) f a _ _ _ h hW (lv_sub hl [0, 1] rfl)
      · replace h := h.2 c27
        refine lv_iload C.1 C.2.1 dX11_mill_155 (lv_at hl 1 rfl) ?_
        refine k_pi hW (va_runS (As := [.int x8]) (rest := [.int (((9 : Int32) * (f 1)) + x8), .ref (q 2)]) C (mtX11_firstOf l D q _ H.size x8 _ h) (va_cwS 1 C.2.2.2.2 gX11_mill_X11_firstOf rfl rfl rfl (by decide +kernel) ⟨Nat.le_of_ble_eq_true rfl, Nat.le_of_ble_eq_true rfl⟩) ⟨mP_blind tX_B, fun U hU hV => ⟨rfl, hW.pre0 hU hV trivial⟩⟩ rfl rfl hl.1 rfl (lv_room (Nat.le_of_ble_eq_true rfl)) dX11_mill_157 ⟨Nat.zero_le _, Nat.zero_le _⟩) (fun r32 H locs h hW => ?_)
        refine lv_goto (tgt := 170) C.1 C.2.1 dX11_mill_160 (by decide) ?_
        exact sX11_mill_170 C hr hlk Q _ ih x8 r32 (((9 : Int32) * (f 1)) + x8) f a _ _ _ h hW (lv_sub hl [0, 1] rfl)
set_option maxRecDepth 100000 in
set_option maxHeartbeats 4000000 in
theorem sX11_mill {p : Program} {l : Launch} {e : Env} {s : State} {m : MethodId} {args : Array Value} {below : List Frame} {meth : Method} {c : Code} {D : va_G} {q : Nat → Nat} {A : Nat → Prop} {cI : ClassId} (C : CallFix p m c cX11_mill 9 s args wsX11_mill RX11) (hr : meth.sig.returnType = (some .int)) (hlk : meth.locks = false) (Q : Int32 → (Nat → Int32) → (Nat → Nat → Int32) → Prop) : ∀ (x1 : Int32) (x2 : Int32) (x3 : Int32) (x4 : Int32) (x5 : Int32) (f : Nat → Int32) (a : Nat → Nat → Int32) (H : Heap) (locs : List Loc) (ls : Array Slot), vX11_mill x1 x2 x3 x4 x5 f a Q → hw D [(cI, .int)] q 12 (gM q cI f a) A s H locs → lv_has ls 9 [(0, .ref (q 0)), (1, .int x1), (2, .int x2), (3, .int x3), (4, .int x4), (5, .int x5)] → W p l e (headSpec wsX11_mill rmX11_mill).room s m args below meth c H locs 0 0 (MQ below (QMi D q cI Q A) args s 0 0 A) (F0 m 0 ls []) := by
  intro x1 x2 x3 x4 x5 f a H locs ls h hW hl
  unfold vX11_mill at h
  refine lv_iload_n C.1 C.2.1 dX11_mill_0 rfl (lv_at hl 2 rfl) ?_
  refine k_pi hW (va_runS (As := [.int x2]) (rest := []) C (mtX11_noSheet l D q _ H.size x2 _ h) (va_cwS 1 C.2.2.2.2 gX11_mill_X11_noSheet rfl rfl rfl (by decide +kernel) ⟨Nat.le_of_ble_eq_true rfl, Nat.le_of_ble_eq_true rfl⟩) ⟨mP_blind tX_B, fun U hU hV => ⟨rfl, hW.pre0 hU hV trivial⟩⟩ rfl rfl hl.1 rfl (lv_room (Nat.le_of_ble_eq_true rfl)) dX11_mill_1 ⟨Nat.zero_le _, Nat.zero_le _⟩) (fun r1 H locs h hW => ?_)
  refine lv_if_eq (tgt := 13) C.1 C.2.1 dX11_mill_4 (by decide) (fun c2 => ?_) (fun c2 => ?_)
  · replace h := h.1 c2
    refine lv_iload_n C.1 C.2.1 dX11_mill_13 rfl (lv_at hl 1 rfl) ?_
    refine lv_i2l C.1 C.2.1 dX11_mill_14 rfl ?_
    refine lv_lconst (v := 0) C.1 C.2.1 dX11_mill_15 (by decide) ?_
    refine lv_ldc2 (v := (2)) C.1 C.2.1 C.2.2.2.1 (C.2.2.2.2 (.constantLong RX11 92 (2)) (by decide +kernel)) dX11_mill_16 ?_
    refine k_pi hW (va_runS (As := [.long x1.toInt64, .long (0 : Int64), .long (2 : Int64)]) (rest := []) C (mtX11_in l D q _ H.size x1.toInt64 (0 : Int64) (2 : Int64) _ h) (va_cwS 3 C.2.2.2.2 gX11_mill_X11_in rfl rfl rfl (by decide +kernel) ⟨Nat.le_of_ble_eq_true rfl, Nat.le_of_ble_eq_true rfl⟩) ⟨mP_blind tX_B, fun U hU hV => ⟨rfl, hW.pre0 hU hV trivial⟩⟩ rfl rfl hl.1 rfl (lv_room (Nat.le_of_ble_eq_true rfl)) dX11_mill_19 ⟨Nat.zero_le _, Nat.zero_le _⟩) (fun r3 H locs h hW => ?_)
    refine lv_if_eq (tgt := 37) C.1 C.2.1 dX11_mill_22 (by decide) (fun c4 => ?_) (fun c4 => ?_)
    · replace h := h.1 c4
      exact sX11_mill_37 C hr hlk Q f a _ _ _ h hW (lv_sub hl [0] rfl)
    · replace h := h.2 c4
      refine lv_iload_n C.1 C.2.1 dX11_mill_25 rfl (lv_at hl 3 rfl) ?_
      refine lv_i2l C.1 C.2.1 dX11_mill_26 rfl ?_
      refine lv_lconst (v := 0) C.1 C.2.1 dX11_mill_27 (by decide) ?_
      refine lv_ldc2 (v := (2)) C.1 C.2.1 C.2.2.2.1 (C.2.2.2.2 (.constantLong RX11 92 (2)) (by decide +kernel)) dX11_mill_28 ?_
      refine k_pi hW (va_runS (As := [.long x3.toInt64, .long (0 : Int64), .long (2 : Int64)]) (rest := []) C (mtX11_in l D q _ H.size x3.toInt64 (0 : Int64) (2 : Int64) _ h) (va_cwS 3 C.2.2.2.2 gX11_mill_X11_in rfl rfl rfl (by decide +kernel) ⟨Nat.le_of_ble_eq_true rfl, Nat.le_of_ble_eq_true rfl⟩) ⟨mP_blind tX_B, fun U hU hV => ⟨rfl, hW.pre0 hU hV trivial⟩⟩ rfl rfl hl.1 rfl (lv_room (Nat.le_of_ble_eq_true rfl)) dX11_mill_31 ⟨Nat.zero_le _, Nat.zero_le _⟩) (fun r8 H locs h hW => ?_)
      refine lv_if_ne (tgt := 44) C.1 C.2.1 dX11_mill_34 (by decide) (fun c9 => ?_) (fun c9 => ?_)
      · replace h := h.1 c9
        refine lv_aload_n C.1 C.2.1 dX11_mill_44 rfl (lv_at hl 0 rfl) ?_
        refine lv_iload_n C.1 C.2.1 dX11_mill_45 rfl (lv_at hl 2 rfl) ?_
        refine lv_iload_n C.1 C.2.1 dX11_mill_46 rfl (lv_at hl 3 rfl) ?_
        refine lv_iload C.1 C.2.1 dX11_mill_47 (lv_at hl 4 rfl) ?_
        refine lv_iload C.1 C.2.1 dX11_mill_49 (lv_at hl 5 rfl) ?_
        refine lv_i2l C.1 C.2.1 dX11_mill_51 rfl ?_
        refine k_i hW (va_runV (As := [.int x2, .int x3, .int x4, .long x5.toInt64]) (rest := []) C (mtX11_barred l D q cI H.size x2 x3 x4 x5.toInt64 f a _ h) (cwV 4 C.2.2.2.2 gX11_mill_X11_barred rfl rfl rfl (by decide +kernel) ⟨Nat.le_of_ble_eq_true rfl, Nat.le_of_ble_eq_true rfl⟩) ⟨mP_blind tX_B, va_recv hW.1 hW.2.1 (ci := 11) (q0 := 0) rfl (wL_get (by decide)), fun U hU hV => ⟨rfl, hW.pre hU hV trivial⟩⟩ rfl rfl hl.1 rfl (lv_room (Nat.le_of_ble_eq_true rfl)) dX11_mill_52 ⟨Nat.zero_le _, Nat.zero_le _⟩) (fun r10 u H locs h hW => ?_)
        obtain ⟨f11, a12⟩ := u
        replace hW : hw D [(cI, .int)] q 12 (gM q cI f11 a12) A s H locs := hW
        refine lv_istore (lv' := [(6, .int r10), (0, .ref (q 0)), (1, .int x1), (2, .int x2), (3, .int x3), (4, .int x4), (5, .int x5)]) C.1 C.2.1 dX11_mill_55 hl (by decide) rfl (fun ls hl => ?_)
        refine lv_iload C.1 C.2.1 dX11_mill_57 (lv_at hl 0 rfl) ?_
        refine lv_if_ge (tgt := 65) C.1 C.2.1 dX11_mill_59 (by decide) (fun c13 => ?_) (fun c13 => ?_)
        · replace h := h.1 c13
          refine lv_aload_n C.1 C.2.1 dX11_mill_65 rfl (lv_at hl 1 rfl) ?_
          refine lv_bipush (v := 60) C.1 C.2.1 dX11_mill_66 (by decide) ?_
          refine lv_iload_n C.1 C.2.1 dX11_mill_68 rfl (lv_at hl 3 rfl) ?_
          refine lv_imul C.1 C.2.1 dX11_mill_69 ?_
          refine lv_iload C.1 C.2.1 dX11_mill_70 (lv_at hl 5 rfl) ?_
          refine lv_iadd C.1 C.2.1 dX11_mill_72 ?_
          refine lv_iload C.1 C.2.1 dX11_mill_73 (lv_at hl 6 rfl) ?_
          refine k_i hW (va_runV (As := [.int (((60 : Int32) * x2) + x4), .int x5]) (rest := []) C (mtX11_readDrawing l D q cI H.size (((60 : Int32) * x2) + x4) x5 f11 a12 _ h) (cwV 2 C.2.2.2.2 gX11_mill_X11_readDrawing rfl rfl rfl (by decide +kernel) ⟨Nat.le_of_ble_eq_true rfl, Nat.le_of_ble_eq_true rfl⟩) ⟨mP_blind tX_B, va_recv hW.1 hW.2.1 (ci := 11) (q0 := 0) rfl (wL_get (by decide)), fun U hU hV => ⟨rfl, hW.pre hU hV trivial⟩⟩ rfl rfl hl.1 rfl (lv_room (Nat.le_of_ble_eq_true rfl)) dX11_mill_75 ⟨Nat.zero_le _, Nat.zero_le _⟩) (fun r14 u H locs h hW => ?_)
          obtain ⟨f15, a16⟩ := u
          replace hW : hw D [(cI, .int)] q 12 (gM q cI f15 a16) A s H locs := hW
          refine lv_istore (lv' := [(7, .int r14), (6, .int r10), (0, .ref (q 0)), (1, .int x1), (2, .int x2), (3, .int x3), (4, .int x4), (5, .int x5)]) C.1 C.2.1 dX11_mill_78 hl (by decide) rfl (fun ls hl => ?_)
          refine lv_iload C.1 C.2.1 dX11_mill_80 (lv_at hl 0 rfl) ?_
          refine lv_if_lt (tgt := 95) C.1 C.2.1 dX11_mill_82 (by decide) (fun c17 => ?_) (fun c17 => ?_)
          · replace h := h.1 c17
            refine lv_aload_n C.1 C.2.1 dX11_mill_95 rfl (lv_at hl 2 rfl) ?_
            refine r_get C hW (ci := 11) (T := TX11) (n := 21) (ref := "BallMinderModel") (v := .int (f15 1)) 0 (by decide) rfl rfl 1 (by decide) inX11_mill (by decide +kernel) (fun _ h9 => h9) rfl dX11_mill_96 ?_
            refine lv_bipush (v := 8) C.1 C.2.1 dX11_mill_99 (by decide) ?_
            refine lv_icmp_ne (tgt := 111) C.1 C.2.1 dX11_mill_101 (by decide) (fun c18 => ?_) (fun c18 => ?_)
            · replace h := h.1 c18
              refine lv_aload_n C.1 C.2.1 dX11_mill_111 rfl (lv_at hl 2 rfl) ?_
              refine r_get C hW (ci := 11) (T := TX11) (n := 21) (ref := "BallMinderModel") (v := .ref (q 1)) 0 (by decide) rfl rfl 2 (by decide) inX11_mill (by decide +kernel) (fun _ h9 => h9) rfl dX11_mill_112 ?_
              refine lv_aload_n C.1 C.2.1 dX11_mill_115 rfl (lv_at hl 2 rfl) ?_
              refine r_get C hW (ci := 11) (T := TX11) (n := 21) (ref := "BallMinderModel") (v := .int (f15 1)) 0 (by decide) rfl rfl 1 (by decide) inX11_mill (by decide +kernel) (fun _ h9 => h9) rfl dX11_mill_116 ?_
              refine lv_iload_n C.1 C.2.1 dX11_mill_119 rfl (lv_at hl 3 rfl) ?_
              obtain ⟨hs19, h⟩ := h
              refine r_iast C hW (cA := cI) (n := 8) (f := a16 1) 1 0 (by decide) rfl rfl hs19 dX11_mill_120 (fun H locs hW => ?_)
              replace hW := gM_ast (k := 1) (n := 8) (by decide) rfl hW
              obtain ⟨a20, ea20⟩ : ∃ z : Nat → Nat → Int32, z = va_up a16 1 (upd (a16 1) (f15 1).toNatClampNeg x1) := ⟨_, rfl⟩
              rw [← ea20] at hW
              replace h := h a20 ea20
              refine lv_iconst (v := 0) C.1 C.2.1 dX11_mill_121 (by decide) ?_
              refine lv_istore (lv' := [(8, .int (0 : Int32)), (7, .int r14), (6, .int r10), (0, .ref (q 0)), (1, .int x1), (2, .int x2), (3, .int x3), (4, .int x4), (5, .int x5)]) C.1 C.2.1 dX11_mill_122 hl (by decide) rfl (fun ls hl => ?_)
              obtain ⟨n9, h⟩ := h
              exact sX11_mill_124 C hr hlk Q n9 (0 : Int32) f15 a20 _ _ _ h hW (lv_sub hl [3, 0] rfl)
            · replace h := h.2 c18
              refine lv_aload_n C.1 C.2.1 dX11_mill_104 rfl (lv_at hl 2 rfl) ?_
              refine lv_bipush (v := -4) C.1 C.2.1 dX11_mill_105 (by decide) ?_
              refine k_i hW (va_runV (As := [.int (-4 : Int32)]) (rest := []) C (mtX11_refused l D q cI H.size (-4 : Int32) f15 a16 _ h) (cwV 1 C.2.2.2.2 gX11_mill_X11_refused rfl rfl rfl (by decide +kernel) ⟨Nat.le_of_ble_eq_true rfl, Nat.le_of_ble_eq_true rfl⟩) ⟨mP_blind tX_B, va_recv hW.1 hW.2.1 (ci := 11) (q0 := 0) rfl (wL_get (by decide)), fun U hU hV => ⟨rfl, hW.pre hU hV trivial⟩⟩ rfl rfl hl.1 rfl (lv_room (Nat.le_of_ble_eq_true rfl)) dX11_mill_107 ⟨Nat.zero_le _, Nat.zero_le _⟩) (fun r33 u H locs h hW => ?_)
              obtain ⟨f34, a35⟩ := u
              replace hW : hw D [(cI, .int)] q 12 (gM q cI f34 a35) A s H locs := hW
              exact t_i C hr hlk (u := (f34, a35)) hW.2.2.2.1 hW.B h dX11_mill_110
          · replace h := h.2 c17
            refine lv_aload_n C.1 C.2.1 dX11_mill_85 rfl (lv_at hl 2 rfl) ?_
            refine lv_bipush (v := -100) C.1 C.2.1 dX11_mill_86 (by decide) ?_
            refine lv_iload C.1 C.2.1 dX11_mill_88 (lv_at hl 0 rfl) ?_
            refine lv_isub C.1 C.2.1 dX11_mill_90 ?_
            refine k_i hW (va_runV (As := [.int ((-100 : Int32) - r14)]) (rest := []) C (mtX11_refused l D q cI H.size ((-100 : Int32) - r14) f15 a16 _ h) (cwV 1 C.2.2.2.2 gX11_mill_X11_refused rfl rfl rfl (by decide +kernel) ⟨Nat.le_of_ble_eq_true rfl, Nat.le_of_ble_eq_true rfl⟩) ⟨mP_blind tX_B, va_recv hW.1 hW.2.1 (ci := 11) (q0 := 0) rfl (wL_get (by decide)), fun U hU hV => ⟨rfl, hW.pre hU hV trivial⟩⟩ rfl rfl hl.1 rfl (lv_room (Nat.le_of_ble_eq_true rfl)) dX11_mill_91 ⟨Nat.zero_le _, Nat.zero_le _⟩) (fun r36 u H locs h hW => ?_)
            obtain ⟨f37, a38⟩ := u
            replace hW : hw D [(cI, .int)] q 12 (gM q cI f37 a38) A s H locs := hW
            exact t_i C hr hlk (u := (f37, a38)) hW.2.2.2.1 hW.B h dX11_mill_94
        · replace h := h.2 c13
          refine lv_iload C.1 C.2.1 dX11_mill_62 (lv_at hl 0 rfl) ?_
          exact t_i C hr hlk (u := (f11, a12)) hW.2.2.2.1 hW.B h dX11_mill_64
      · replace h := h.2 c9
        exact sX11_mill_37 C hr hlk Q f a _ _ _ h hW (lv_sub hl [0] rfl)
  · replace h := h.2 c2
    refine lv_aload_n C.1 C.2.1 dX11_mill_7 rfl (lv_at hl 0 rfl) ?_
    refine lv_iconst (v := -1) C.1 C.2.1 dX11_mill_8 (by decide) ?_
    refine k_i hW (va_runV (As := [.int (-1 : Int32)]) (rest := []) C (mtX11_refused l D q cI H.size (-1 : Int32) f a _ h) (cwV 1 C.2.2.2.2 gX11_mill_X11_refused rfl rfl rfl (by decide +kernel) ⟨Nat.le_of_ble_eq_true rfl, Nat.le_of_ble_eq_true rfl⟩) ⟨mP_blind tX_B, va_recv hW.1 hW.2.1 (ci := 11) (q0 := 0) rfl (wL_get (by decide)), fun U hU hV => ⟨rfl, hW.pre hU hV trivial⟩⟩ rfl rfl hl.1 rfl (lv_room (Nat.le_of_ble_eq_true rfl)) dX11_mill_9 ⟨Nat.zero_le _, Nat.zero_le _⟩) (fun r39 u H locs h hW => ?_)
    obtain ⟨f40, a41⟩ := u
    replace hW : hw D [(cI, .int)] q 12 (gM q cI f40 a41) A s H locs := hW
    exact t_i C hr hlk (u := (f40, a41)) hW.2.2.2.1 hW.B h dX11_mill_12
set_option maxRecDepth 100000 in
set_option maxHeartbeats 4000000 in
theorem mtX11_mill (l : Launch) (D : va_G) (q : Nat → Nat) (cI : ClassId) (sz : Nat) (x1 : Int32) (x2 : Int32) (x3 : Int32) (x4 : Int32) (x5 : Int32) (f : Nat → Int32) (a : Nat → Nat → Int32) (Q : Int32 → (Nat → Int32) → (Nat → Nat → Int32) → Prop) (h : vX11_mill x1 x2 x3 x4 x5 f a Q) : Met l yX11_mill wsX11_mill rmX11_mill (va_Pc [.ref (q 0), .int x1, .int x2, .int x3, .int x4, .int x5] (mP D [(cI, .int)] q 12 (gM q cI f a) sz tX)) (QMi D q cI Q (aQ q 12 sz)) 0 0 (aQ q 12 sz) := by
  refine met_w (cc := cX11_mill) (maxL := 9) (ret := (some .int)) (by decide) rfl (Nat.le_of_ble_eq_true rfl) ?_
  intro p e s m below meth c ls C hr hlk hW hX hnm hl
  exact sX11_mill C hr hlk Q x1 x2 x3 x4 x5 f a _ _ _ h hW hl
theorem inX11_ofMill : ∀ w ∈ wsX110, w ∈ wsX11_ofMill := fun _ h => List.mem_cons_of_mem _ (List.mem_append_right _ h)
abbrev rmX11_ofMill : Room := { frames := 2, cells := 0, slots := 0, locals := 46 }
def vX11_ofMill (x1 : Int32) (x2 : Int32) (f : Nat → Int32) (a : Nat → Nat → Int32) (Q : Int32 → (Nat → Int32) → (Nat → Nat → Int32) → Prop) : Prop := vX11_noMill x1 f a (fun r1 f2 a3 => (¬ r1 = 0 → Q (-1 : Int32) f2 a3) ∧ (r1 = 0 → vX11_in x2.toInt64 (0 : Int64) (9 : Int64) (fun r5 => (¬ r5 = 0 → (¬ x2 = (9 : Int32) → vX11_of x1 x2 f2 a3 (fun r8 f9 a10 => Q r8 f9 a10)) ∧ (x2 = (9 : Int32) → vp_in x1 8 ∧ (Q (a3 1 x1.toNatClampNeg) f2 a3))) ∧ (r5 = 0 → Q (-1 : Int32) f2 a3))))
set_option maxRecDepth 100000 in
set_option maxHeartbeats 4000000 in
theorem sX11_ofMill {p : Program} {l : Launch} {e : Env} {s : State} {m : MethodId} {args : Array Value} {below : List Frame} {meth : Method} {c : Code} {D : va_G} {q : Nat → Nat} {A : Nat → Prop} {cI : ClassId} (C : CallFix p m c cX11_ofMill 3 s args wsX11_ofMill RX11) (hr : meth.sig.returnType = (some .int)) (hlk : meth.locks = false) (Q : Int32 → (Nat → Int32) → (Nat → Nat → Int32) → Prop) : ∀ (x1 : Int32) (x2 : Int32) (f : Nat → Int32) (a : Nat → Nat → Int32) (H : Heap) (locs : List Loc) (ls : Array Slot), vX11_ofMill x1 x2 f a Q → hw D [(cI, .int)] q 12 (gM q cI f a) A s H locs → lv_has ls 3 [(0, .ref (q 0)), (1, .int x1), (2, .int x2)] → W p l e (headSpec wsX11_ofMill rmX11_ofMill).room s m args below meth c H locs 0 0 (MQ below (QMi D q cI Q A) args s 0 0 A) (F0 m 0 ls []) := by
  intro x1 x2 f a H locs ls h hW hl
  unfold vX11_ofMill at h
  refine lv_aload_n C.1 C.2.1 dX11_ofMill_0 rfl (lv_at hl 0 rfl) ?_
  refine lv_iload_n C.1 C.2.1 dX11_ofMill_1 rfl (lv_at hl 1 rfl) ?_
  refine k_i hW (va_runV (As := [.int x1]) (rest := []) C (mtX11_noMill l D q cI H.size x1 f a _ h) (cwV 1 C.2.2.2.2 gX11_ofMill_X11_noMill rfl rfl rfl (by decide +kernel) ⟨Nat.le_of_ble_eq_true rfl, Nat.le_of_ble_eq_true rfl⟩) ⟨mP_blind tX_B, va_recv hW.1 hW.2.1 (ci := 11) (q0 := 0) rfl (wL_get (by decide)), fun U hU hV => ⟨rfl, hW.pre hU hV trivial⟩⟩ rfl rfl hl.1 rfl (lv_room (Nat.le_of_ble_eq_true rfl)) dX11_ofMill_2 ⟨Nat.zero_le _, Nat.zero_le _⟩) (fun r1 u H locs h hW => ?_)
  obtain ⟨f2, a3⟩ := u
  replace hW : hw D [(cI, .int)] q 12 (gM q cI f2 a3) A s H locs := hW
  refine lv_if_ne (tgt := 20) C.1 C.2.1 dX11_ofMill_5 (by decide) (fun c4 => ?_) (fun c4 => ?_)
  · replace h := h.1 c4
    refine lv_iconst (v := -1) C.1 C.2.1 dX11_ofMill_20 (by decide) ?_
    exact t_i C hr hlk (u := (f2, a3)) hW.2.2.2.1 hW.B h dX11_ofMill_21
  · replace h := h.2 c4
    refine lv_iload_n C.1 C.2.1 dX11_ofMill_8 rfl (lv_at hl 2 rfl) ?_
    refine lv_i2l C.1 C.2.1 dX11_ofMill_9 rfl ?_
    refine lv_lconst (v := 0) C.1 C.2.1 dX11_ofMill_10 (by decide) ?_
    refine lv_ldc2 (v := (9)) C.1 C.2.1 C.2.2.2.1 (C.2.2.2.2 (.constantLong RX11 108 (9)) (by decide +kernel)) dX11_ofMill_11 ?_
    refine k_pi hW (va_runS (As := [.long x2.toInt64, .long (0 : Int64), .long (9 : Int64)]) (rest := []) C (mtX11_in l D q _ H.size x2.toInt64 (0 : Int64) (9 : Int64) _ h) (va_cwS 3 C.2.2.2.2 gX11_ofMill_X11_in rfl rfl rfl (by decide +kernel) ⟨Nat.le_of_ble_eq_true rfl, Nat.le_of_ble_eq_true rfl⟩) ⟨mP_blind tX_B, fun U hU hV => ⟨rfl, hW.pre0 hU hV trivial⟩⟩ rfl rfl hl.1 rfl (lv_room (Nat.le_of_ble_eq_true rfl)) dX11_ofMill_14 ⟨Nat.zero_le _, Nat.zero_le _⟩) (fun r5 H locs h hW => ?_)
    refine lv_if_ne (tgt := 22) C.1 C.2.1 dX11_ofMill_17 (by decide) (fun c6 => ?_) (fun c6 => ?_)
    · replace h := h.1 c6
      refine lv_iload_n C.1 C.2.1 dX11_ofMill_22 rfl (lv_at hl 2 rfl) ?_
      refine lv_bipush (v := 9) C.1 C.2.1 dX11_ofMill_23 (by decide) ?_
      refine lv_icmp_ne (tgt := 37) C.1 C.2.1 dX11_ofMill_25 (by decide) (fun c7 => ?_) (fun c7 => ?_)
      · replace h := h.1 c7
        refine lv_aload_n C.1 C.2.1 dX11_ofMill_37 rfl (lv_at hl 0 rfl) ?_
        refine lv_iload_n C.1 C.2.1 dX11_ofMill_38 rfl (lv_at hl 1 rfl) ?_
        refine lv_iload_n C.1 C.2.1 dX11_ofMill_39 rfl (lv_at hl 2 rfl) ?_
        refine k_i hW (va_runV (As := [.int x1, .int x2]) (rest := []) C (mtX11_of l D q cI H.size x1 x2 f2 a3 _ h) (cwV 2 C.2.2.2.2 gX11_ofMill_X11_of rfl rfl rfl (by decide +kernel) ⟨Nat.le_of_ble_eq_true rfl, Nat.le_of_ble_eq_true rfl⟩) ⟨mP_blind tX_B, va_recv hW.1 hW.2.1 (ci := 11) (q0 := 0) rfl (wL_get (by decide)), fun U hU hV => ⟨rfl, hW.pre hU hV trivial⟩⟩ rfl rfl hl.1 rfl (lv_room (Nat.le_of_ble_eq_true rfl)) dX11_ofMill_40 ⟨Nat.zero_le _, Nat.zero_le _⟩) (fun r8 u H locs h hW => ?_)
        obtain ⟨f9, a10⟩ := u
        replace hW : hw D [(cI, .int)] q 12 (gM q cI f9 a10) A s H locs := hW
        exact t_i C hr hlk (u := (f9, a10)) hW.2.2.2.1 hW.B h dX11_ofMill_43
      · replace h := h.2 c7
        refine lv_aload_n C.1 C.2.1 dX11_ofMill_28 rfl (lv_at hl 0 rfl) ?_
        refine r_get C hW (ci := 11) (T := TX11) (n := 21) (ref := "BallMinderModel") (v := .ref (q 1)) 0 (by decide) rfl rfl 2 (by decide) inX11_ofMill (by decide +kernel) (fun _ h9 => h9) rfl dX11_ofMill_29 ?_
        refine lv_iload_n C.1 C.2.1 dX11_ofMill_32 rfl (lv_at hl 1 rfl) ?_
        obtain ⟨hs11, h⟩ := h
        refine r_iald C hW (cA := cI) (n := 8) (f := a3 1) 1 0 (by decide) rfl rfl hs11 dX11_ofMill_33 ?_
        refine lv_goto (tgt := 43) C.1 C.2.1 dX11_ofMill_34 (by decide) ?_
        exact t_i C hr hlk (u := (f2, a3)) hW.2.2.2.1 hW.B h dX11_ofMill_43
    · replace h := h.2 c6
      refine lv_iconst (v := -1) C.1 C.2.1 dX11_ofMill_20 (by decide) ?_
      exact t_i C hr hlk (u := (f2, a3)) hW.2.2.2.1 hW.B h dX11_ofMill_21
set_option maxRecDepth 100000 in
set_option maxHeartbeats 4000000 in
theorem mtX11_ofMill (l : Launch) (D : va_G) (q : Nat → Nat) (cI : ClassId) (sz : Nat) (x1 : Int32) (x2 : Int32) (f : Nat → Int32) (a : Nat → Nat → Int32) (Q : Int32 → (Nat → Int32) → (Nat → Nat → Int32) → Prop) (h : vX11_ofMill x1 x2 f a Q) : Met l yX11_ofMill wsX11_ofMill rmX11_ofMill (va_Pc [.ref (q 0), .int x1, .int x2] (mP D [(cI, .int)] q 12 (gM q cI f a) sz tX)) (QMi D q cI Q (aQ q 12 sz)) 0 0 (aQ q 12 sz) := by
  refine met_w (cc := cX11_ofMill) (maxL := 3) (ret := (some .int)) (by decide) rfl (Nat.le_of_ble_eq_true rfl) ?_
  intro p e s m below meth c ls C hr hlk hW hX hnm hl
  exact sX11_ofMill C hr hlk Q x1 x2 f a _ _ _ h hW hl
