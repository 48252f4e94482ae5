theorem inX11_traced : ∀ w ∈ wsX110, w ∈ wsX11_traced := fun _ h => List.mem_cons_of_mem _ (List.mem_append_right _ h)
abbrev rmX11_traced : Room := { frames := 0, cells := 0, slots := 0, locals := 0 }
def vX11_traced (x1 : Int32) (f : Nat → Int32) (a : Nat → Nat → Int32) (Q : (Nat → Int32) → (Nat → Nat → Int32) → Prop) : Prop := ∀ f1 : Nat → Int32, f1 = va_up f 20 (((31 : Int32) * (f 20)) + x1) → Q f1 a
set_option maxRecDepth 100000 in
set_option maxHeartbeats 4000000 in
theorem sX11_traced {p : Program} {l : Launch} {e : Env} {s : State} {m : MethodId} {args : Array Value} {below : List Frame} {meth : Method} {c : Code} {D : va_G} {q : Nat → Nat} {A : Nat → Prop} {cI : ClassId} (C : CallFix p m c cX11_traced 2 s args wsX11_traced RX11) (hr : meth.sig.returnType = none) (hlk : meth.locks = false) (Q : (Nat → Int32) → (Nat → Nat → Int32) → Prop) : ∀ (x1 : Int32) (f : Nat → Int32) (a : Nat → Nat → Int32) (H : Heap) (locs : List Loc) (ls : Array Slot), vX11_traced x1 f a Q → hw D [(cI, .int)] q 12 (gM q cI f a) A s H locs → lv_has ls 2 [(0, .ref (q 0)), (1, .int x1)] → W p l e (headSpec wsX11_traced rmX11_traced).room s m args below meth c H locs 0 0 (MQ below (QMv D q cI Q A) args s 0 0 A) (F0 m 0 ls []) := by
  intro x1 f a H locs ls h hW hl
  unfold vX11_traced at h
  refine lv_aload_n C.1 C.2.1 dX11_traced_0 rfl (lv_at hl 0 rfl) ?_
  refine lv_bipush (v := 31) C.1 C.2.1 dX11_traced_1 (by decide) ?_
  refine lv_aload_n C.1 C.2.1 dX11_traced_3 rfl (lv_at hl 0 rfl) ?_
  refine r_get C hW (ci := 11) (T := TX11) (n := 21) (ref := "BallMinderModel") (v := .int (f 20)) 0 (by decide) rfl rfl 20 (by decide) inX11_traced (by decide +kernel) (fun _ h9 => h9) rfl dX11_traced_4 ?_
  refine lv_imul C.1 C.2.1 dX11_traced_7 ?_
  refine lv_iload_n C.1 C.2.1 dX11_traced_8 rfl (lv_at hl 1 rfl) ?_
  refine lv_iadd C.1 C.2.1 dX11_traced_9 ?_
  refine r_put C hW (ci := 11) (T := TX11) (n := 21) (ref := "BallMinderModel") 0 (by decide) rfl rfl 20 (by decide) inX11_traced tyX11 tyX11_ok nmX11 (by decide +kernel) (fun _ h9 => h9) rfl rfl rfl (Nat.le_of_ble_eq_true rfl) dX11_traced_10 (fun H locs hW => ?_)
  replace hW := gM_put (k := 20) rfl hW
  obtain ⟨f1, ef1⟩ : ∃ z : Nat → Int32, z = va_up f 20 (((31 : Int32) * (f 20)) + x1) := ⟨_, rfl⟩
  rw [← ef1] at hW
  replace h := h f1 ef1
  exact t_v C hr hlk (u := (f1, a)) hW.2.2.2.1 hW.B h dX11_traced_13
set_option maxRecDepth 100000 in
set_option maxHeartbeats 4000000 in
theorem mtX11_traced (l : Launch) (D : va_G) (q : Nat → Nat) (cI : ClassId) (sz : Nat) (x1 : Int32) (f : Nat → Int32) (a : Nat → Nat → Int32) (Q : (Nat → Int32) → (Nat → Nat → Int32) → Prop) (h : vX11_traced x1 f a Q) : Met l yX11_traced wsX11_traced rmX11_traced (va_Pc [.ref (q 0), .int x1] (mP D [(cI, .int)] q 12 (gM q cI f a) sz tX)) (QMv D q cI Q (aQ q 12 sz)) 0 0 (aQ q 12 sz) := by
  refine met_w (cc := cX11_traced) (maxL := 2) (ret := none) (by decide) rfl (Nat.le_of_ble_eq_true rfl) ?_
  intro p e s m below meth c ls C hr hlk hW hX hnm hl
  exact sX11_traced C hr hlk Q x1 f a _ _ _ h hW hl
theorem inX11_tell : ∀ w ∈ wsX110, w ∈ wsX11_tell := fun _ h => List.mem_cons_of_mem _ (List.mem_append_right _ h)
abbrev rmX11_tell : Room := { frames := 2, cells := 0, slots := 0, locals := 46 }
def vX11_tell_51 (Q : Int32 → (Nat → Int32) → (Nat → Nat → Int32) → Prop) (x1 : Int32) (x2 : Int32) (f : Nat → Int32) (a : Nat → Nat → Int32) : Prop := vX11_of x1 (0 : Int32) f a (fun r12 f13 a14 => (¬ x2 = 0 → (¬ x2 = (1 : Int32) → Q (((2 : Int32) * r12) + (100 : Int32)) f13 a14) ∧ (x2 = (1 : Int32) → Q (r12 + (100 : Int32)) f13 a14)) ∧ (x2 = 0 → Q r12 f13 a14))
def vX11_tell_36 (Q : Int32 → (Nat → Int32) → (Nat → Nat → Int32) → Prop) (x1 : Int32) (x2 : Int32) (f : Nat → Int32) (a : Nat → Nat → Int32) : Prop := vX11_traced (1 : Int32) f a (fun f9 a10 => (¬ x2 = (2 : Int32) → vX11_tell_51 Q x1 x2 f9 a10) ∧ (x2 = (2 : Int32) → vX11_traced (1 : Int32) f9 a10 (fun f17 a18 => vX11_tell_51 Q x1 x2 f17 a18)))
def vX11_tell_27 (Q : Int32 → (Nat → Int32) → (Nat → Nat → Int32) → Prop) (x1 : Int32) (x2 : Int32) (f : Nat → Int32) (a : Nat → Nat → Int32) : Prop := (x2 ≤ 0 → vX11_tell_36 Q x1 x2 f a) ∧ (¬ (x2 ≤ 0) → vX11_traced (2 : Int32) f a (fun f19 a20 => vX11_tell_36 Q x1 x2 f19 a20))
def vX11_tell (x1 : Int32) (f : Nat → Int32) (a : Nat → Nat → Int32) (Q : Int32 → (Nat → Int32) → (Nat → Nat → Int32) → Prop) : Prop := vX11_noMill x1 f a (fun r1 f2 a3 => (r1 = 0 → vp_in x1 8 ∧ (∀ x2_6 : Int32, x2_6 = a3 1 x1.toNatClampNeg → (¬ x2_6 = (2 : Int32) → vX11_tell_27 Q x1 x2_6 f2 a3) ∧ (x2_6 = (2 : Int32) → vX11_traced (3 : Int32) f2 a3 (fun f21 a22 => vX11_tell_27 Q x1 x2_6 f21 a22)))) ∧ (¬ (r1 = 0) → Q (-1 : Int32) f2 a3))
set_option maxRecDepth 100000 in
set_option maxHeartbeats 4000000 in
theorem sX11_tell_51 {p : Program} {l : Launch} {e : Env} {s : State} {m : MethodId} {args : Array Value} {below : List Frame} {meth : Method} {c : Code} {D : va_G} {q : Nat → Nat} {A : Nat → Prop} {cI : ClassId} (C : CallFix p m c cX11_tell 4 s args wsX11_tell RX11) (hr : meth.sig.returnType = (some .int)) (hlk : meth.locks = false) (Q : Int32 → (Nat → Int32) → (Nat → Nat → Int32) → Prop) : ∀ (x1 : Int32) (x2 : Int32) (f : Nat → Int32) (a : Nat → Nat → Int32) (H : Heap) (locs : List Loc) (ls : Array Slot), vX11_tell_51 Q x1 x2 f a → hw D [(cI, .int)] q 12 (gM q cI f a) A s H locs → lv_has ls 4 [(0, .ref (q 0)), (1, .int x1), (2, .int x2)] → W p l e (headSpec wsX11_tell rmX11_tell).room s m args below meth c H locs 0 0 (MQ below (QMi D q cI Q A) args s 0 0 A) (F0 m 51 ls []) := by
  intro x1 x2 f a H locs ls h hW hl
  unfold vX11_tell_51 at h
  refine lv_aload_n C.1 C.2.1 dX11_tell_51 rfl (lv_at hl 0 rfl) ?_
  refine lv_iload_n C.1 C.2.1 dX11_tell_52 rfl (lv_at hl 1 rfl) ?_
  refine lv_iconst (v := 0) C.1 C.2.1 dX11_tell_53 (by decide) ?_
  refine k_i hW (va_runV (As := [.int x1, .int (0 : Int32)]) (rest := []) C (mtX11_of l D q cI H.size x1 (0 : Int32) f a _ h) (cwV 2 C.2.2.2.2 gX11_tell_X11_of rfl rfl rfl (by decide +kernel) ⟨Nat.le_of_ble_eq_true rfl, Nat.le_of_ble_eq_true rfl⟩) ⟨mP_blind tX_B, va_recv hW.1 hW.2.1 (ci := 11) (q0 := 0) rfl (wL_get (by decide)), fun U hU hV => ⟨rfl, hW.pre hU hV trivial⟩⟩ rfl rfl hl.1 rfl (lv_room (Nat.le_of_ble_eq_true rfl)) dX11_tell_54 ⟨Nat.zero_le _, Nat.zero_le _⟩) (fun r12 u H locs h hW => ?_)
  obtain ⟨f13, a14⟩ := u
  replace hW : hw D [(cI, .int)] q 12 (gM q cI f13 a14) A s H locs := hW
  refine lv_istore_n (lv' := [(3, .int r12), (0, .ref (q 0)), (1, .int x1), (2, .int x2)]) C.1 C.2.1 dX11_tell_57 rfl hl (by decide) rfl (fun ls hl => ?_)
  refine lv_iload_n C.1 C.2.1 dX11_tell_58 rfl (lv_at hl 3 rfl) ?_
  refine lv_if_ne (tgt := 66) C.1 C.2.1 dX11_tell_59 (by decide) (fun c15 => ?_) (fun c15 => ?_)
  · replace h := h.1 c15
    refine lv_iload_n C.1 C.2.1 dX11_tell_66 rfl (lv_at hl 3 rfl) ?_
    refine lv_iconst (v := 1) C.1 C.2.1 dX11_tell_67 (by decide) ?_
    refine lv_icmp_ne (tgt := 78) C.1 C.2.1 dX11_tell_68 (by decide) (fun c16 => ?_) (fun c16 => ?_)
    · replace h := h.1 c16
      refine lv_iconst (v := 2) C.1 C.2.1 dX11_tell_78 (by decide) ?_
      refine lv_iload_n C.1 C.2.1 dX11_tell_79 rfl (lv_at hl 0 rfl) ?_
      refine lv_imul C.1 C.2.1 dX11_tell_80 ?_
      refine lv_bipush (v := 100) C.1 C.2.1 dX11_tell_81 (by decide) ?_
      refine lv_iadd C.1 C.2.1 dX11_tell_83 ?_
      exact t_i C hr hlk (u := (f13, a14)) hW.2.2.2.1 hW.B h dX11_tell_84
    · replace h := h.2 c16
      refine lv_iload_n C.1 C.2.1 dX11_tell_71 rfl (lv_at hl 0 rfl) ?_
      refine lv_bipush (v := 100) C.1 C.2.1 dX11_tell_72 (by decide) ?_
      refine lv_iadd C.1 C.2.1 dX11_tell_74 ?_
      refine lv_goto (tgt := 84) C.1 C.2.1 dX11_tell_75 (by decide) ?_
      exact t_i C hr hlk (u := (f13, a14)) hW.2.2.2.1 hW.B h dX11_tell_84
  · replace h := h.2 c15
    refine lv_iload_n C.1 C.2.1 dX11_tell_62 rfl (lv_at hl 0 rfl) ?_
    refine lv_goto (tgt := 84) C.1 C.2.1 dX11_tell_63 (by decide) ?_
    exact t_i C hr hlk (u := (f13, a14)) hW.2.2.2.1 hW.B h dX11_tell_84
set_option maxRecDepth 100000 in
set_option maxHeartbeats 4000000 in
theorem sX11_tell_36 {p : Program} {l : Launch} {e : Env} {s : State} {m : MethodId} {args : Array Value} {below : List Frame} {meth : Method} {c : Code} {D : va_G} {q : Nat → Nat} {A : Nat → Prop} {cI : ClassId} (C : CallFix p m c cX11_tell 4 s args wsX11_tell RX11) (hr : meth.sig.returnType = (some .int)) (hlk : meth.locks = false) (Q : Int32 → (Nat → Int32) → (Nat → Nat → Int32) → Prop) : ∀ (x1 : Int32) (x2 : Int32) (f : Nat → Int32) (a : Nat → Nat → Int32) (H : Heap) (locs : List Loc) (ls : Array Slot), vX11_tell_36 Q x1 x2 f a → hw D [(cI, .int)] q 12 (gM q cI f a) A s H locs → lv_has ls 4 [(0, .ref (q 0)), (1, .int x1), (2, .int x2)] → W p l e (headSpec wsX11_tell rmX11_tell).room s m args below meth c H locs 0 0 (MQ below (QMi D q cI Q A) args s 0 0 A) (F0 m 36 ls []) := by
  intro x1 x2 f a H locs ls h hW hl
  unfold vX11_tell_36 at h
  refine lv_aload_n C.1 C.2.1 dX11_tell_36 rfl (lv_at hl 0 rfl) ?_
  refine lv_iconst (v := 1) C.1 C.2.1 dX11_tell_37 (by decide) ?_
  refine k_v hW (va_runV (As := [.int (1 : Int32)]) (rest := []) C (mtX11_traced l D q cI H.size (1 : Int32) f a _ h) (cwV 1 C.2.2.2.2 gX11_tell_X11_traced rfl rfl rfl (by decide +kernel) ⟨Nat.le_of_ble_eq_true rfl, Nat.le_of_ble_eq_true rfl⟩) ⟨mP_blind tX_B, va_recv hW.1 hW.2.1 (ci := 11) (q0 := 0) rfl (wL_get (by decide)), fun U hU hV => ⟨rfl, hW.pre hU hV trivial⟩⟩ rfl rfl hl.1 rfl (lv_room (Nat.le_of_ble_eq_true rfl)) dX11_tell_38 ⟨Nat.zero_le _, Nat.zero_le _⟩) (fun u H locs h hW => ?_)
  obtain ⟨f9, a10⟩ := u
  replace hW : hw D [(cI, .int)] q 12 (gM q cI f9 a10) A s H locs := hW
  refine lv_iload_n C.1 C.2.1 dX11_tell_41 rfl (lv_at hl 2 rfl) ?_
  refine lv_iconst (v := 2) C.1 C.2.1 dX11_tell_42 (by decide) ?_
  refine lv_icmp_ne (tgt := 51) C.1 C.2.1 dX11_tell_43 (by decide) (fun c11 => ?_) (fun c11 => ?_)
  · replace h := h.1 c11
    exact sX11_tell_51 C hr hlk Q x1 x2 f9 a10 _ _ _ h hW (lv_sub hl [0, 1, 2] rfl)
  · replace h := h.2 c11
    refine lv_aload_n C.1 C.2.1 dX11_tell_46 rfl (lv_at hl 0 rfl) ?_
    refine lv_iconst (v := 1) C.1 C.2.1 dX11_tell_47 (by decide) ?_
    refine k_v hW (va_runV (As := [.int (1 : Int32)]) (rest := []) C (mtX11_traced l D q cI H.size (1 : Int32) f9 a10 _ h) (cwV 1 C.2.2.2.2 gX11_tell_X11_traced rfl rfl rfl (by decide +kernel) ⟨Nat.le_of_ble_eq_true rfl, Nat.le_of_ble_eq_true rfl⟩) ⟨mP_blind tX_B, va_recv hW.1 hW.2.1 (ci := 11) (q0 := 0) rfl (wL_get (by decide)), fun U hU hV => ⟨rfl, hW.pre hU hV trivial⟩⟩ rfl rfl hl.1 rfl (lv_room (Nat.le_of_ble_eq_true rfl)) dX11_tell_48 ⟨Nat.zero_le _, Nat.zero_le _⟩) (fun u H locs h hW => ?_)
    obtain ⟨f17, a18⟩ := u
    replace hW : hw D [(cI, .int)] q 12 (gM q cI f17 a18) A s H locs := hW
    exact sX11_tell_51 C hr hlk Q x1 x2 f17 a18 _ _ _ h hW (lv_sub hl [0, 1, 2] rfl)
set_option maxRecDepth 100000 in
set_option maxHeartbeats 4000000 in
theorem sX11_tell_27 {p : Program} {l : Launch} {e : Env} {s : State} {m : MethodId} {args : Array Value} {below : List Frame} {meth : Method} {c : Code} {D : va_G} {q : Nat → Nat} {A : Nat → Prop} {cI : ClassId} (C : CallFix p m c cX11_tell 4 s args wsX11_tell RX11) (hr : meth.sig.returnType = (some .int)) (hlk : meth.locks = false) (Q : Int32 → (Nat → Int32) → (Nat → Nat → Int32) → Prop) : ∀ (x1 : Int32) (x2 : Int32) (f : Nat → Int32) (a : Nat → Nat → Int32) (H : Heap) (locs : List Loc) (ls : Array Slot), vX11_tell_27 Q x1 x2 f a → hw D [(cI, .int)] q 12 (gM q cI f a) A s H locs → lv_has ls 4 [(0, .ref (q 0)), (1, .int x1), (2, .int x2)] → W p l e (headSpec wsX11_tell rmX11_tell).room s m args below meth c H locs 0 0 (MQ below (QMi D q cI Q A) args s 0 0 A) (F0 m 27 ls []) := by
  intro x1 x2 f a H locs ls h hW hl
  unfold vX11_tell_27 at h
  refine lv_iload_n C.1 C.2.1 dX11_tell_27 rfl (lv_at hl 2 rfl) ?_
  refine lv_if_le (tgt := 36) C.1 C.2.1 dX11_tell_28 (by decide) (fun c8 => ?_) (fun c8 => ?_)
  · replace h := h.1 c8
    exact sX11_tell_36 C hr hlk Q x1 x2 f a _ _ _ h hW (lv_sub hl [0, 1, 2] rfl)
  · replace h := h.2 c8
    refine lv_aload_n C.1 C.2.1 dX11_tell_31 rfl (lv_at hl 0 rfl) ?_
    refine lv_iconst (v := 2) C.1 C.2.1 dX11_tell_32 (by decide) ?_
    refine k_v hW (va_runV (As := [.int (2 : Int32)]) (rest := []) C (mtX11_traced l D q cI H.size (2 : Int32) f a _ h) (cwV 1 C.2.2.2.2 gX11_tell_X11_traced rfl rfl rfl (by decide +kernel) ⟨Nat.le_of_ble_eq_true rfl, Nat.le_of_ble_eq_true rfl⟩) ⟨mP_blind tX_B, va_recv hW.1 hW.2.1 (ci := 11) (q0 := 0) rfl (wL_get (by decide)), fun U hU hV => ⟨rfl, hW.pre hU hV trivial⟩⟩ rfl rfl hl.1 rfl (lv_room (Nat.le_of_ble_eq_true rfl)) dX11_tell_33 ⟨Nat.zero_le _, Nat.zero_le _⟩) (fun u H locs h hW => ?_)
    obtain ⟨f19, a20⟩ := u
    replace hW : hw D [(cI, .int)] q 12 (gM q cI f19 a20) A s H locs := hW
    exact sX11_tell_36 C hr hlk Q x1 x2 f19 a20 _ _ _ h hW (lv_sub hl [0, 1, 2] rfl)
set_option maxRecDepth 100000 in
set_option maxHeartbeats 4000000 in
theorem sX11_tell {p : Program} {l : Launch} {e : Env} {s : State} {m : MethodId} {args : Array Value} {below : List Frame} {meth : Method} {c : Code} {D : va_G} {q : Nat → Nat} {A : Nat → Prop} {cI : ClassId} (C : CallFix p m c cX11_tell 4 s args wsX11_tell RX11) (hr : meth.sig.returnType = (some .int)) (hlk : meth.locks = false) (Q : Int32 → (Nat → Int32) → (Nat → Nat → Int32) → Prop) : ∀ (x1 : Int32) (f : Nat → Int32) (a : Nat → Nat → Int32) (H : Heap) (locs : List Loc) (ls : Array Slot), vX11_tell x1 f a Q → hw D [(cI, .int)] q 12 (gM q cI f a) A s H locs → lv_has ls 4 [(0, .ref (q 0)), (1, .int x1)] → W p l e (headSpec wsX11_tell rmX11_tell).room s m args below meth c H locs 0 0 (MQ below (QMi D q cI Q A) args s 0 0 A) (F0 m 0 ls []) := by
  intro x1 f a H locs ls h hW hl
  unfold vX11_tell at h
  refine lv_aload_n C.1 C.2.1 dX11_tell_0 rfl (lv_at hl 0 rfl) ?_
  refine lv_iload_n C.1 C.2.1 dX11_tell_1 rfl (lv_at hl 1 rfl) ?_
  refine k_i hW (va_runV (As := [.int x1]) (rest := []) C (mtX11_noMill l D q cI H.size x1 f a _ h) (cwV 1 C.2.2.2.2 gX11_tell_X11_noMill rfl rfl rfl (by decide +kernel) ⟨Nat.le_of_ble_eq_true rfl, Nat.le_of_ble_eq_true rfl⟩) ⟨mP_blind tX_B, va_recv hW.1 hW.2.1 (ci := 11) (q0 := 0) rfl (wL_get (by decide)), fun U hU hV => ⟨rfl, hW.pre hU hV trivial⟩⟩ rfl rfl hl.1 rfl (lv_room (Nat.le_of_ble_eq_true rfl)) dX11_tell_2 ⟨Nat.zero_le _, Nat.zero_le _⟩) (fun r1 u H locs h hW => ?_)
  obtain ⟨f2, a3⟩ := u
  replace hW : hw D [(cI, .int)] q 12 (gM q cI f2 a3) A s H locs := hW
  refine lv_if_eq (tgt := 10) C.1 C.2.1 dX11_tell_5 (by decide) (fun c4 => ?_) (fun c4 => ?_)
  · replace h := h.1 c4
    refine lv_aload_n C.1 C.2.1 dX11_tell_10 rfl (lv_at hl 0 rfl) ?_
    refine r_get C hW (ci := 11) (T := TX11) (n := 21) (ref := "BallMinderModel") (v := .ref (q 1)) 0 (by decide) rfl rfl 2 (by decide) inX11_tell (by decide +kernel) (fun _ h9 => h9) rfl dX11_tell_11 ?_
    refine lv_iload_n C.1 C.2.1 dX11_tell_14 rfl (lv_at hl 1 rfl) ?_
    obtain ⟨hs5, h⟩ := h
    refine r_iald C hW (cA := cI) (n := 8) (f := a3 1) 1 0 (by decide) rfl rfl hs5 dX11_tell_15 ?_
    refine lv_topi (fun x2_6 ex2_6 => ?_)
    replace h := h x2_6 ex2_6
    refine lv_istore_n (lv' := [(2, .int x2_6), (0, .ref (q 0)), (1, .int x1)]) C.1 C.2.1 dX11_tell_16 rfl hl (by decide) rfl (fun ls hl => ?_)
    refine lv_iload_n C.1 C.2.1 dX11_tell_17 rfl (lv_at hl 0 rfl) ?_
    refine lv_iconst (v := 2) C.1 C.2.1 dX11_tell_18 (by decide) ?_
    refine lv_icmp_ne (tgt := 27) C.1 C.2.1 dX11_tell_19 (by decide) (fun c7 => ?_) (fun c7 => ?_)
    · replace h := h.1 c7
      exact sX11_tell_27 C hr hlk Q x1 x2_6 f2 a3 _ _ _ h hW (lv_sub hl [1, 2, 0] rfl)
    · replace h := h.2 c7
      refine lv_aload_n C.1 C.2.1 dX11_tell_22 rfl (lv_at hl 1 rfl) ?_
      refine lv_iconst (v := 3) C.1 C.2.1 dX11_tell_23 (by decide) ?_
      refine k_v hW (va_runV (As := [.int (3 : Int32)]) (rest := []) C (mtX11_traced l D q cI H.size (3 : Int32) f2 a3 _ h) (cwV 1 C.2.2.2.2 gX11_tell_X11_traced rfl rfl rfl (by decide +kernel) ⟨Nat.le_of_ble_eq_true rfl, Nat.le_of_ble_eq_true rfl⟩) ⟨mP_blind tX_B, va_recv hW.1 hW.2.1 (ci := 11) (q0 := 0) rfl (wL_get (by decide)), fun U hU hV => ⟨rfl, hW.pre hU hV trivial⟩⟩ rfl rfl hl.1 rfl (lv_room (Nat.le_of_ble_eq_true rfl)) dX11_tell_24 ⟨Nat.zero_le _, Nat.zero_le _⟩) (fun u H locs h hW => ?_)
      obtain ⟨f21, a22⟩ := u
      replace hW : hw D [(cI, .int)] q 12 (gM q cI f21 a22) A s H locs := hW
      exact sX11_tell_27 C hr hlk Q x1 x2_6 f21 a22 _ _ _ h hW (lv_sub hl [1, 2, 0] rfl)
  · replace h := h.2 c4
    refine lv_iconst (v := -1) C.1 C.2.1 dX11_tell_8 (by decide) ?_
    exact t_i C hr hlk (u := (f2, a3)) hW.2.2.2.1 hW.B h dX11_tell_9
set_option maxRecDepth 100000 in
set_option maxHeartbeats 4000000 in
theorem mtX11_tell (l : Launch) (D : va_G) (q : Nat → Nat) (cI : ClassId) (sz : Nat) (x1 : Int32) (f : Nat → Int32) (a : Nat → Nat → Int32) (Q : Int32 → (Nat → Int32) → (Nat → Nat → Int32) → Prop) (h : vX11_tell x1 f a Q) : Met l yX11_tell wsX11_tell rmX11_tell (va_Pc [.ref (q 0), .int x1] (mP D [(cI, .int)] q 12 (gM q cI f a) sz tX)) (QMi D q cI Q (aQ q 12 sz)) 0 0 (aQ q 12 sz) := by
  refine met_w (cc := cX11_tell) (maxL := 4) (ret := (some .int)) (by decide) rfl (Nat.le_of_ble_eq_true rfl) ?_
  intro p e s m below meth c ls C hr hlk hW hX hnm hl
  exact sX11_tell C hr hlk Q x1 f a _ _ _ h hW hl
theorem inX11_ring : ∀ w ∈ wsX110, w ∈ wsX11_ring := fun _ h => List.mem_cons_of_mem _ (List.mem_append_right _ h)
abbrev rmX11_ring : Room := { frames := 2, cells := 0, slots := 0, locals := 46 }
def vX11_ring_26 (Q : Int32 → (Nat → Int32) → (Nat → Nat → Int32) → Prop) (x1 : Int32) (y0 : Int32) (f : Nat → Int32) (a : Nat → Nat → Int32) : Prop := vX11_traced y0 f a (fun f7 a8 => vp_in x1 8 ∧ ((¬ (a8 1 x1.toNatClampNeg) = (2 : Int32) → Q x1 f7 a8) ∧ ((a8 1 x1.toNatClampNeg) = (2 : Int32) → Q (50 : Int32) f7 a8)))
def vX11_ring (x1 : Int32) (f : Nat → Int32) (a : Nat → Nat → Int32) (Q : Int32 → (Nat → Int32) → (Nat → Nat → Int32) → Prop) : Prop := vX11_noMill x1 f a (fun r1 f2 a3 => (r1 = 0 → vp_in x1 8 ∧ ((¬ (a3 1 x1.toNatClampNeg) = (2 : Int32) → vX11_ring_26 Q x1 (4 : Int32) f2 a3) ∧ ((a3 1 x1.toNatClampNeg) = (2 : Int32) → vX11_ring_26 Q x1 (5 : Int32) f2 a3))) ∧ (¬ (r1 = 0) → Q (-1 : Int32) f2 a3))
set_option maxRecDepth 100000 in
set_option maxHeartbeats 4000000 in
theorem sX11_ring_26 {p : Program} {l : Launch} {e : Env} {s : State} {m : MethodId} {args : Array Value} {below : List Frame} {meth : Method} {c : Code} {D : va_G} {q : Nat → Nat} {A : Nat → Prop} {cI : ClassId} (C : CallFix p m c cX11_ring 2 s args wsX11_ring RX11) (hr : meth.sig.returnType = (some .int)) (hlk : meth.locks = false) (Q : Int32 → (Nat → Int32) → (Nat → Nat → Int32) → Prop) : ∀ (x1 : Int32) (y0 : Int32) (f : Nat → Int32) (a : Nat → Nat → Int32) (H : Heap) (locs : List Loc) (ls : Array Slot), vX11_ring_26 Q x1 y0 f a → hw D [(cI, .int)] q 12 (gM q cI f a) A s H locs → lv_has ls 2 [(0, .ref (q 0)), (1, .int x1)] → W p l e (headSpec wsX11_ring rmX11_ring).room s m args below meth c H locs 0 0 (MQ below (QMi D q cI Q A) args s 0 0 A) (F0 m 26 ls [.int y0, .ref (q 0)]) := by
  intro x1 y0 f a H locs ls h hW hl
  unfold vX11_ring_26 at h
  refine k_v hW (va_runV (As := [.int y0]) (rest := []) C (mtX11_traced l D q cI H.size y0 f a _ h) (cwV 1 C.2.2.2.2 gX11_ring_X11_traced rfl rfl rfl (by decide +kernel) ⟨Nat.le_of_ble_eq_true rfl, Nat.le_of_ble_eq_true rfl⟩) ⟨mP_blind tX_B, va_recv hW.1 hW.2.1 (ci := 11) (q0 := 0) rfl (wL_get (by decide)), fun U hU hV => ⟨rfl, hW.pre hU hV trivial⟩⟩ rfl rfl hl.1 rfl (lv_room (Nat.le_of_ble_eq_true rfl)) dX11_ring_26 ⟨Nat.zero_le _, Nat.zero_le _⟩) (fun u H locs h hW => ?_)
  obtain ⟨f7, a8⟩ := u
  replace hW : hw D [(cI, .int)] q 12 (gM q cI f7 a8) A s H locs := hW
  refine lv_aload_n C.1 C.2.1 dX11_ring_29 rfl (lv_at hl 0 rfl) ?_
  refine r_get C hW (ci := 11) (T := TX11) (n := 21) (ref := "BallMinderModel") (v := .ref (q 1)) 0 (by decide) rfl rfl 2 (by decide) inX11_ring (by decide +kernel) (fun _ h9 => h9) rfl dX11_ring_30 ?_
  refine lv_iload_n C.1 C.2.1 dX11_ring_33 rfl (lv_at hl 1 rfl) ?_
  obtain ⟨hs9, h⟩ := h
  refine r_iald C hW (cA := cI) (n := 8) (f := a8 1) 1 0 (by decide) rfl rfl hs9 dX11_ring_34 ?_
  refine lv_iconst (v := 2) C.1 C.2.1 dX11_ring_35 (by decide) ?_
  refine lv_icmp_ne (tgt := 44) C.1 C.2.1 dX11_ring_36 (by decide) (fun c10 => ?_) (fun c10 => ?_)
  · replace h := h.1 c10
    refine lv_iload_n C.1 C.2.1 dX11_ring_44 rfl (lv_at hl 1 rfl) ?_
    exact t_i C hr hlk (u := (f7, a8)) hW.2.2.2.1 hW.B h dX11_ring_45
  · replace h := h.2 c10
    refine lv_bipush (v := 50) C.1 C.2.1 dX11_ring_39 (by decide) ?_
    refine lv_goto (tgt := 45) C.1 C.2.1 dX11_ring_41 (by decide) ?_
    exact t_i C hr hlk (u := (f7, a8)) hW.2.2.2.1 hW.B h dX11_ring_45
set_option maxRecDepth 100000 in
set_option maxHeartbeats 4000000 in
theorem sX11_ring {p : Program} {l : Launch} {e : Env} {s : State} {m : MethodId} {args : Array Value} {below : List Frame} {meth : Method} {c : Code} {D : va_G} {q : Nat → Nat} {A : Nat → Prop} {cI : ClassId} (C : CallFix p m c cX11_ring 2 s args wsX11_ring RX11) (hr : meth.sig.returnType = (some .int)) (hlk : meth.locks = false) (Q : Int32 → (Nat → Int32) → (Nat → Nat → Int32) → Prop) : ∀ (x1 : Int32) (f : Nat → Int32) (a : Nat → Nat → Int32) (H : Heap) (locs : List Loc) (ls : Array Slot), vX11_ring x1 f a Q → hw D [(cI, .int)] q 12 (gM q cI f a) A s H locs → lv_has ls 2 [(0, .ref (q 0)), (1, .int x1)] → W p l e (headSpec wsX11_ring rmX11_ring).room s m args below meth c H locs 0 0 (MQ below (QMi D q cI Q A) args s 0 0 A) (F0 m 0 ls []) := by
  intro x1 f a H locs ls h hW hl
  unfold vX11_ring at h
  refine lv_aload_n C.1 C.2.1 dX11_ring_0 rfl (lv_at hl 0 rfl) ?_
  refine lv_iload_n C.1 C.2.1 dX11_ring_1 rfl (lv_at hl 1 rfl) ?_
  refine k_i hW (va_runV (As := [.int x1]) (rest := []) C (mtX11_noMill l D q cI H.size x1 f a _ h) (cwV 1 C.2.2.2.2 gX11_ring_X11_noMill rfl rfl rfl (by decide +kernel) ⟨Nat.le_of_ble_eq_true rfl, Nat.le_of_ble_eq_true rfl⟩) ⟨mP_blind tX_B, va_recv hW.1 hW.2.1 (ci := 11) (q0 := 0) rfl (wL_get (by decide)), fun U hU hV => ⟨rfl, hW.pre hU hV trivial⟩⟩ rfl rfl hl.1 rfl (lv_room (Nat.le_of_ble_eq_true rfl)) dX11_ring_2 ⟨Nat.zero_le _, Nat.zero_le _⟩) (fun r1 u H locs h hW => ?_)
  obtain ⟨f2, a3⟩ := u
  replace hW : hw D [(cI, .int)] q 12 (gM q cI f2 a3) A s H locs := hW
  refine lv_if_eq (tgt := 10) C.1 C.2.1 dX11_ring_5 (by decide) (fun c4 => ?_) (fun c4 => ?_)
  · replace h := h.1 c4
    refine lv_aload_n C.1 C.2.1 dX11_ring_10 rfl (lv_at hl 0 rfl) ?_
    refine lv_aload_n C.1 C.2.1 dX11_ring_11 rfl (lv_at hl 0 rfl) ?_
    refine r_get C hW (ci := 11) (T := TX11) (n := 21) (ref := "BallMinderModel") (v := .ref (q 1)) 0 (by decide) rfl rfl 2 (by decide) inX11_ring (by decide +kernel) (fun _ h9 => h9) rfl dX11_ring_12 ?_
    refine lv_iload_n C.1 C.2.1 dX11_ring_15 rfl (lv_at hl 1 rfl) ?_
    obtain ⟨hs5, h⟩ := h
    refine r_iald C hW (cA := cI) (n := 8) (f := a3 1) 1 0 (by decide) rfl rfl hs5 dX11_ring_16 ?_
    refine lv_iconst (v := 2) C.1 C.2.1 dX11_ring_17 (by decide) ?_
    refine lv_icmp_ne (tgt := 25) C.1 C.2.1 dX11_ring_18 (by decide) (fun c6 => ?_) (fun c6 => ?_)
    · replace h := h.1 c6
      refine lv_iconst (v := 4) C.1 C.2.1 dX11_ring_25 (by decide) ?_
      exact sX11_ring_26 C hr hlk Q x1 (4 : Int32) f2 a3 _ _ _ h hW (lv_sub hl [0, 1] rfl)
    · replace h := h.2 c6
      refine lv_iconst (v := 5) C.1 C.2.1 dX11_ring_21 (by decide) ?_
      refine lv_goto (tgt := 26) C.1 C.2.1 dX11_ring_22 (by decide) ?_
      exact sX11_ring_26 C hr hlk Q x1 (5 : Int32) f2 a3 _ _ _ h hW (lv_sub hl [0, 1] rfl)
  · replace h := h.2 c4
    refine lv_iconst (v := -1) C.1 C.2.1 dX11_ring_8 (by decide) ?_
    exact t_i C hr hlk (u := (f2, a3)) hW.2.2.2.1 hW.B h dX11_ring_9
set_option maxRecDepth 100000 in
set_option maxHeartbeats 4000000 in
theorem mtX11_ring (l : Launch) (D : va_G) (q : Nat → Nat) (cI : ClassId) (sz : Nat) (x1 : Int32) (f : Nat → Int32) (a : Nat → Nat → Int32) (Q : Int32 → (Nat → Int32) → (Nat → Nat → Int32) → Prop) (h : vX11_ring x1 f a Q) : Met l yX11_ring wsX11_ring rmX11_ring (va_Pc [.ref (q 0), .int x1] (mP D [(cI, .int)] q 12 (gM q cI f a) sz tX)) (QMi D q cI Q (aQ q 12 sz)) 0 0 (aQ q 12 sz) := by
  refine met_w (cc := cX11_ring) (maxL := 2) (ret := (some .int)) (by decide) rfl (Nat.le_of_ble_eq_true rfl) ?_
  intro p e s m below meth c ls C hr hlk hW hX hnm hl
  exact sX11_ring C hr hlk Q x1 f a _ _ _ h hW hl
theorem inX11_as : ∀ w ∈ wsX110, w ∈ wsX11_as := fun _ h => List.mem_cons_of_mem _ (List.mem_append_right _ h)
abbrev rmX11_as : Room := { frames := 2, cells := 0, slots := 0, locals := 46 }
def vX11_as (x1 : Int32) (x2 : Int32) (f : Nat → Int32) (a : Nat → Nat → Int32) (Q : Int32 → (Nat → Int32) → (Nat → Nat → Int32) → Prop) : Prop := vX11_noMill x1 f a (fun r1 f2 a3 => (r1 = 0 → vX11_in x2.toInt64 (0 : Int64) (2 : Int64) (fun r5 => (¬ r5 = 0 → vp_in x1 8 ∧ (((a3 1 x1.toNatClampNeg) < x2 → vX11_failed (2 : Int32) f2 a3 (fun r9 f10 a11 => Q r9 f10 a11)) ∧ (¬ ((a3 1 x1.toNatClampNeg) < x2) → vX11_refused (1 : Int32) f2 a3 (fun r12 f13 a14 => Q r12 f13 a14)))) ∧ (r5 = 0 → vX11_refused (-2 : Int32) f2 a3 (fun r15 f16 a17 => Q r15 f16 a17)))) ∧ (¬ (r1 = 0) → vX11_refused (-1 : Int32) f2 a3 (fun r18 f19 a20 => Q r18 f19 a20)))
set_option maxRecDepth 100000 in
set_option maxHeartbeats 4000000 in
theorem sX11_as {p : Program} {l : Launch} {e : Env} {s : State} {m : MethodId} {args : Array Value} {below : List Frame} {meth : Method} {c : Code} {D : va_G} {q : Nat → Nat} {A : Nat → Prop} {cI : ClassId} (C : CallFix p m c cX11_as 3 s args wsX11_as RX11) (hr : meth.sig.returnType = (some .int)) (hlk : meth.locks = false) (Q : Int32 → (Nat → Int32) → (Nat → Nat → Int32) → Prop) : ∀ (x1 : Int32) (x2 : Int32) (f : Nat → Int32) (a : Nat → Nat → Int32) (H : Heap) (locs : List Loc) (ls : Array Slot), vX11_as x1 x2 f a Q → hw D [(cI, .int)] q 12 (gM q cI f a) A s H locs → lv_has ls 3 [(0, .ref (q 0)), (1, .int x1), (2, .int x2)] → W p l e (headSpec wsX11_as rmX11_as).room s m args below meth c H locs 0 0 (MQ below (QMi D q cI Q A) args s 0 0 A) (F0 m 0 ls []) := by
  intro x1 x2 f a H locs ls h hW hl
  unfold vX11_as at h
  refine lv_aload_n C.1 C.2.1 dX11_as_0 rfl (lv_at hl 0 rfl) ?_
  refine lv_iload_n C.1 C.2.1 dX11_as_1 rfl (lv_at hl 1 rfl) ?_
  refine k_i hW (va_runV (As := [.int x1]) (rest := []) C (mtX11_noMill l D q cI H.size x1 f a _ h) (cwV 1 C.2.2.2.2 gX11_as_X11_noMill rfl rfl rfl (by decide +kernel) ⟨Nat.le_of_ble_eq_true rfl, Nat.le_of_ble_eq_true rfl⟩) ⟨mP_blind tX_B, va_recv hW.1 hW.2.1 (ci := 11) (q0 := 0) rfl (wL_get (by decide)), fun U hU hV => ⟨rfl, hW.pre hU hV trivial⟩⟩ rfl rfl hl.1 rfl (lv_room (Nat.le_of_ble_eq_true rfl)) dX11_as_2 ⟨Nat.zero_le _, Nat.zero_le _⟩) (fun r1 u H locs h hW => ?_)
  obtain ⟨f2, a3⟩ := u
  replace hW : hw D [(cI, .int)] q 12 (gM q cI f2 a3) A s H locs := hW
  refine lv_if_eq (tgt := 14) C.1 C.2.1 dX11_as_5 (by decide) (fun c4 => ?_) (fun c4 => ?_)
  · replace h := h.1 c4
    refine lv_iload_n C.1 C.2.1 dX11_as_14 rfl (lv_at hl 2 rfl) ?_
    refine lv_i2l C.1 C.2.1 dX11_as_15 rfl ?_
    refine lv_lconst (v := 0) C.1 C.2.1 dX11_as_16 (by decide) ?_
    refine lv_ldc2 (v := (2)) C.1 C.2.1 C.2.2.2.1 (C.2.2.2.2 (.constantLong RX11 92 (2)) (by decide +kernel)) dX11_as_17 ?_
    refine k_pi hW (va_runS (As := [.long x2.toInt64, .long (0 : Int64), .long (2 : Int64)]) (rest := []) C (mtX11_in l D q _ H.size x2.toInt64 (0 : Int64) (2 : Int64) _ h) (va_cwS 3 C.2.2.2.2 gX11_as_X11_in rfl rfl rfl (by decide +kernel) ⟨Nat.le_of_ble_eq_true rfl, Nat.le_of_ble_eq_true rfl⟩) ⟨mP_blind tX_B, fun U hU hV => ⟨rfl, hW.pre0 hU hV trivial⟩⟩ rfl rfl hl.1 rfl (lv_room (Nat.le_of_ble_eq_true rfl)) dX11_as_20 ⟨Nat.zero_le _, Nat.zero_le _⟩) (fun r5 H locs h hW => ?_)
    refine lv_if_ne (tgt := 33) C.1 C.2.1 dX11_as_23 (by decide) (fun c6 => ?_) (fun c6 => ?_)
    · replace h := h.1 c6
      refine lv_aload_n C.1 C.2.1 dX11_as_33 rfl (lv_at hl 0 rfl) ?_
      refine r_get C hW (ci := 11) (T := TX11) (n := 21) (ref := "BallMinderModel") (v := .ref (q 1)) 0 (by decide) rfl rfl 2 (by decide) inX11_as (by decide +kernel) (fun _ h9 => h9) rfl dX11_as_34 ?_
      refine lv_iload_n C.1 C.2.1 dX11_as_37 rfl (lv_at hl 1 rfl) ?_
      obtain ⟨hs7, h⟩ := h
      refine r_iald C hW (cA := cI) (n := 8) (f := a3 1) 1 0 (by decide) rfl rfl hs7 dX11_as_38 ?_
      refine lv_iload_n C.1 C.2.1 dX11_as_39 rfl (lv_at hl 2 rfl) ?_
      refine lv_icmp_lt (tgt := 51) C.1 C.2.1 dX11_as_40 (by decide) (fun c8 => ?_) (fun c8 => ?_)
      · replace h := h.1 c8
        refine lv_aload_n C.1 C.2.1 dX11_as_51 rfl (lv_at hl 0 rfl) ?_
        refine lv_iconst (v := 2) C.1 C.2.1 dX11_as_52 (by decide) ?_
        refine k_i hW (va_runV (As := [.int (2 : Int32)]) (rest := []) C (mtX11_failed l D q cI H.size (2 : Int32) f2 a3 _ h) (cwV 1 C.2.2.2.2 gX11_as_X11_failed rfl rfl rfl (by decide +kernel) ⟨Nat.le_of_ble_eq_true rfl, Nat.le_of_ble_eq_true rfl⟩) ⟨mP_blind tX_B, va_recv hW.1 hW.2.1 (ci := 11) (q0 := 0) rfl (wL_get (by decide)), fun U hU hV => ⟨rfl, hW.pre hU hV trivial⟩⟩ rfl rfl hl.1 rfl (lv_room (Nat.le_of_ble_eq_true rfl)) dX11_as_53 ⟨Nat.zero_le _, Nat.zero_le _⟩) (fun r9 u H locs h hW => ?_)
        obtain ⟨f10, a11⟩ := u
        replace hW : hw D [(cI, .int)] q 12 (gM q cI f10 a11) A s H locs := hW
        exact t_i C hr hlk (u := (f10, a11)) hW.2.2.2.1 hW.B h dX11_as_56
      · replace h := h.2 c8
        refine lv_aload_n C.1 C.2.1 dX11_as_43 rfl (lv_at hl 0 rfl) ?_
        refine lv_iconst (v := 1) C.1 C.2.1 dX11_as_44 (by decide) ?_
        refine k_i hW (va_runV (As := [.int (1 : Int32)]) (rest := []) C (mtX11_refused l D q cI H.size (1 : Int32) f2 a3 _ h) (cwV 1 C.2.2.2.2 gX11_as_X11_refused rfl rfl rfl (by decide +kernel) ⟨Nat.le_of_ble_eq_true rfl, Nat.le_of_ble_eq_true rfl⟩) ⟨mP_blind tX_B, va_recv hW.1 hW.2.1 (ci := 11) (q0 := 0) rfl (wL_get (by decide)), fun U hU hV => ⟨rfl, hW.pre hU hV trivial⟩⟩ rfl rfl hl.1 rfl (lv_room (Nat.le_of_ble_eq_true rfl)) dX11_as_45 ⟨Nat.zero_le _, Nat.zero_le _⟩) (fun r12 u H locs h hW => ?_)
        obtain ⟨f13, a14⟩ := u
        replace hW : hw D [(cI, .int)] q 12 (gM q cI f13 a14) A s H locs := hW
        refine lv_goto (tgt := 56) C.1 C.2.1 dX11_as_48 (by decide) ?_
        exact t_i C hr hlk (u := (f13, a14)) hW.2.2.2.1 hW.B h dX11_as_56
    · replace h := h.2 c6
      refine lv_aload_n C.1 C.2.1 dX11_as_26 rfl (lv_at hl 0 rfl) ?_
      refine lv_bipush (v := -2) C.1 C.2.1 dX11_as_27 (by decide) ?_
      refine k_i hW (va_runV (As := [.int (-2 : Int32)]) (rest := []) C (mtX11_refused l D q cI H.size (-2 : Int32) f2 a3 _ h) (cwV 1 C.2.2.2.2 gX11_as_X11_refused rfl rfl rfl (by decide +kernel) ⟨Nat.le_of_ble_eq_true rfl, Nat.le_of_ble_eq_true rfl⟩) ⟨mP_blind tX_B, va_recv hW.1 hW.2.1 (ci := 11) (q0 := 0) rfl (wL_get (by decide)), fun U hU hV => ⟨rfl, hW.pre hU hV trivial⟩⟩ rfl rfl hl.1 rfl (lv_room (Nat.le_of_ble_eq_true rfl)) dX11_as_29 ⟨Nat.zero_le _, Nat.zero_le _⟩) (fun r15 u H locs h hW => ?_)
      obtain ⟨f16, a17⟩ := u
      replace hW : hw D [(cI, .int)] q 12 (gM q cI f16 a17) A s H locs := hW
      exact t_i C hr hlk (u := (f16, a17)) hW.2.2.2.1 hW.B h dX11_as_32
  · replace h := h.2 c4
    refine lv_aload_n C.1 C.2.1 dX11_as_8 rfl (lv_at hl 0 rfl) ?_
    refine lv_iconst (v := -1) C.1 C.2.1 dX11_as_9 (by decide) ?_
    refine k_i hW (va_runV (As := [.int (-1 : Int32)]) (rest := []) C (mtX11_refused l D q cI H.size (-1 : Int32) f2 a3 _ h) (cwV 1 C.2.2.2.2 gX11_as_X11_refused rfl rfl rfl (by decide +kernel) ⟨Nat.le_of_ble_eq_true rfl, Nat.le_of_ble_eq_true rfl⟩) ⟨mP_blind tX_B, va_recv hW.1 hW.2.1 (ci := 11) (q0 := 0) rfl (wL_get (by decide)), fun U hU hV => ⟨rfl, hW.pre hU hV trivial⟩⟩ rfl rfl hl.1 rfl (lv_room (Nat.le_of_ble_eq_true rfl)) dX11_as_10 ⟨Nat.zero_le _, Nat.zero_le _⟩) (fun r18 u H locs h hW => ?_)
    obtain ⟨f19, a20⟩ := u
    replace hW : hw D [(cI, .int)] q 12 (gM q cI f19 a20) A s H locs := hW
    exact t_i C hr hlk (u := (f19, a20)) hW.2.2.2.1 hW.B h dX11_as_13
set_option maxRecDepth 100000 in
set_option maxHeartbeats 4000000 in
theorem mtX11_as (l : Launch) (D : va_G) (q : Nat → Nat) (cI : ClassId) (sz : Nat) (x1 : Int32) (x2 : Int32) (f : Nat → Int32) (a : Nat → Nat → Int32) (Q : Int32 → (Nat → Int32) → (Nat → Nat → Int32) → Prop) (h : vX11_as x1 x2 f a Q) : Met l yX11_as wsX11_as rmX11_as (va_Pc [.ref (q 0), .int x1, .int x2] (mP D [(cI, .int)] q 12 (gM q cI f a) sz tX)) (QMi D q cI Q (aQ q 12 sz)) 0 0 (aQ q 12 sz) := by
  refine met_w (cc := cX11_as) (maxL := 3) (ret := (some .int)) (by decide) rfl (Nat.le_of_ble_eq_true rfl) ?_
  intro p e s m below meth c ls C hr hlk hW hX hnm hl
  exact sX11_as C hr hlk Q x1 x2 f a _ _ _ h hW hl
theorem inX11_trace : ∀ w ∈ wsX110, w ∈ wsX11_trace := fun _ h => List.mem_cons_of_mem _ (List.mem_append_right _ h)
abbrev rmX11_trace : Room := { frames := 0, cells := 0, slots := 0, locals := 0 }
def vX11_trace (f : Nat → Int32) (a : Nat → Nat → Int32) (Q : Int32 → (Nat → Int32) → (Nat → Nat → Int32) → Prop) : Prop := Q (f 20) f a
set_option maxRecDepth 100000 in
set_option maxHeartbeats 4000000 in
theorem sX11_trace {p : Program} {l : Launch} {e : Env} {s : State} {m : MethodId} {args : Array Value} {below : List Frame} {meth : Method} {c : Code} {D : va_G} {q : Nat → Nat} {A : Nat → Prop} {cI : ClassId} (C : CallFix p m c cX11_trace 1 s args wsX11_trace RX11) (hr : meth.sig.returnType = (some .int)) (hlk : meth.locks = false) (Q : Int32 → (Nat → Int32) → (Nat → Nat → Int32) → Prop) : ∀ (f : Nat → Int32) (a : Nat → Nat → Int32) (H : Heap) (locs : List Loc) (ls : Array Slot), vX11_trace f a Q → hw D [(cI, .int)] q 12 (gM q cI f a) A s H locs → lv_has ls 1 [(0, .ref (q 0))] → W p l e (headSpec wsX11_trace rmX11_trace).room s m args below meth c H locs 0 0 (MQ below (QMi D q cI Q A) args s 0 0 A) (F0 m 0 ls []) := by
  intro f a H locs ls h hW hl
  unfold vX11_trace at h
  refine lv_aload_n C.1 C.2.1 dX11_trace_0 rfl (lv_at hl 0 rfl) ?_
  refine r_get C hW (ci := 11) (T := TX11) (n := 21) (ref := "BallMinderModel") (v := .int (f 20)) 0 (by decide) rfl rfl 20 (by decide) inX11_trace (by decide +kernel) (fun _ h9 => h9) rfl dX11_trace_1 ?_
  exact t_i C hr hlk (u := (f, a)) hW.2.2.2.1 hW.B h dX11_trace_4
set_option maxRecDepth 100000 in
set_option maxHeartbeats 4000000 in
theorem mtX11_trace (l : Launch) (D : va_G) (q : Nat → Nat) (cI : ClassId) (sz : Nat) (f : Nat → Int32) (a : Nat → Nat → Int32) (Q : Int32 → (Nat → Int32) → (Nat → Nat → Int32) → Prop) (h : vX11_trace f a Q) : Met l yX11_trace wsX11_trace rmX11_trace (va_Pc [.ref (q 0)] (mP D [(cI, .int)] q 12 (gM q cI f a) sz tX)) (QMi D q cI Q (aQ q 12 sz)) 0 0 (aQ q 12 sz) := by
  refine met_w (cc := cX11_trace) (maxL := 1) (ret := (some .int)) (by decide) rfl (Nat.le_of_ble_eq_true rfl) ?_
  intro p e s m below meth c ls C hr hlk hW hX hnm hl
  exact sX11_trace C hr hlk Q f a _ _ _ h hW hl
theorem inX11_fault : ∀ w ∈ wsX110, w ∈ wsX11_fault := fun _ h => List.mem_cons_of_mem _ (List.mem_append_right _ h)
abbrev rmX11_fault : Room := { frames := 0, cells := 0, slots := 0, locals := 0 }
def vX11_fault (f : Nat → Int32) (a : Nat → Nat → Int32) (Q : Int32 → (Nat → Int32) → (Nat → Nat → Int32) → Prop) : Prop := Q (f 0) f a
set_option maxRecDepth 100000 in
set_option maxHeartbeats 4000000 in
theorem sX11_fault {p : Program} {l : Launch} {e : Env} {s : State} {m : MethodId} {args : Array Value} {below : List Frame} {meth : Method} {c : Code} {D : va_G} {q : Nat → Nat} {A : Nat → Prop} {cI : ClassId} (C : CallFix p m c cX11_fault 1 s args wsX11_fault RX11) (hr : meth.sig.returnType = (some .int)) (hlk : meth.locks = false) (Q : Int32 → (Nat → Int32) → (Nat → Nat → Int32) → Prop) : ∀ (f : Nat → Int32) (a : Nat → Nat → Int32) (H : Heap) (locs : List Loc) (ls : Array Slot), vX11_fault f a Q → hw D [(cI, .int)] q 12 (gM q cI f a) A s H locs → lv_has ls 1 [(0, .ref (q 0))] → W p l e (headSpec wsX11_fault rmX11_fault).room s m args below meth c H locs 0 0 (MQ below (QMi D q cI Q A) args s 0 0 A) (F0 m 0 ls []) := by
  intro f a H locs ls h hW hl
  unfold vX11_fault at h
  refine lv_aload_n C.1 C.2.1 dX11_fault_0 rfl (lv_at hl 0 rfl) ?_
  refine r_get C hW (ci := 11) (T := TX11) (n := 21) (ref := "BallMinderModel") (v := .int (f 0)) 0 (by decide) rfl rfl 0 (by decide) inX11_fault (by decide +kernel) (fun _ h9 => h9) rfl dX11_fault_1 ?_
  exact t_i C hr hlk (u := (f, a)) hW.2.2.2.1 hW.B h dX11_fault_4
set_option maxRecDepth 100000 in
set_option maxHeartbeats 4000000 in
theorem mtX11_fault (l : Launch) (D : va_G) (q : Nat → Nat) (cI : ClassId) (sz : Nat) (f : Nat → Int32) (a : Nat → Nat → Int32) (Q : Int32 → (Nat → Int32) → (Nat → Nat → Int32) → Prop) (h : vX11_fault f a Q) : Met l yX11_fault wsX11_fault rmX11_fault (va_Pc [.ref (q 0)] (mP D [(cI, .int)] q 12 (gM q cI f a) sz tX)) (QMi D q cI Q (aQ q 12 sz)) 0 0 (aQ q 12 sz) := by
  refine met_w (cc := cX11_fault) (maxL := 1) (ret := (some .int)) (by decide) rfl (Nat.le_of_ble_eq_true rfl) ?_
  intro p e s m below meth c ls C hr hlk hW hX hnm hl
  exact sX11_fault C hr hlk Q f a _ _ _ h hW hl
theorem inX11_many : ∀ w ∈ wsX110, w ∈ wsX11_many := fun _ h => List.mem_cons_of_mem _ (List.mem_append_right _ h)
abbrev rmX11_many : Room := { frames := 0, cells := 0, slots := 0, locals := 0 }
def vX11_many (x1 : Int32) (f : Nat → Int32) (a : Nat → Nat → Int32) (Q : Int32 → (Nat → Int32) → (Nat → Nat → Int32) → Prop) : Prop := (¬ x1 = 0 → (¬ x1 = (1 : Int32) → Q (-2 : Int32) f a) ∧ (x1 = (1 : Int32) → Q (f 14) f a)) ∧ (x1 = 0 → Q (f 1) f a)
set_option maxRecDepth 100000 in
set_option maxHeartbeats 4000000 in
theorem sX11_many {p : Program} {l : Launch} {e : Env} {s : State} {m : MethodId} {args : Array Value} {below : List Frame} {meth : Method} {c : Code} {D : va_G} {q : Nat → Nat} {A : Nat → Prop} {cI : ClassId} (C : CallFix p m c cX11_many 2 s args wsX11_many RX11) (hr : meth.sig.returnType = (some .int)) (hlk : meth.locks = false) (Q : Int32 → (Nat → Int32) → (Nat → Nat → Int32) → Prop) : ∀ (x1 : Int32) (f : Nat → Int32) (a : Nat → Nat → Int32) (H : Heap) (locs : List Loc) (ls : Array Slot), vX11_many x1 f a Q → hw D [(cI, .int)] q 12 (gM q cI f a) A s H locs → lv_has ls 2 [(0, .ref (q 0)), (1, .int x1)] → W p l e (headSpec wsX11_many rmX11_many).room s m args below meth c H locs 0 0 (MQ below (QMi D q cI Q A) args s 0 0 A) (F0 m 0 ls []) := by
  intro x1 f a H locs ls h hW hl
  unfold vX11_many at h
  refine lv_iload_n C.1 C.2.1 dX11_many_0 rfl (lv_at hl 1 rfl) ?_
  refine lv_if_ne (tgt := 11) C.1 C.2.1 dX11_many_1 (by decide) (fun c1 => ?_) (fun c1 => ?_)
  · replace h := h.1 c1
    refine lv_iload_n C.1 C.2.1 dX11_many_11 rfl (lv_at hl 1 rfl) ?_
    refine lv_iconst (v := 1) C.1 C.2.1 dX11_many_12 (by decide) ?_
    refine lv_icmp_ne (tgt := 23) C.1 C.2.1 dX11_many_13 (by decide) (fun c2 => ?_) (fun c2 => ?_)
    · replace h := h.1 c2
      refine lv_bipush (v := -2) C.1 C.2.1 dX11_many_23 (by decide) ?_
      exact t_i C hr hlk (u := (f, a)) hW.2.2.2.1 hW.B h dX11_many_25
    · replace h := h.2 c2
      refine lv_aload_n C.1 C.2.1 dX11_many_16 rfl (lv_at hl 0 rfl) ?_
      refine r_get C hW (ci := 11) (T := TX11) (n := 21) (ref := "BallMinderModel") (v := .int (f 14)) 0 (by decide) rfl rfl 14 (by decide) inX11_many (by decide +kernel) (fun _ h9 => h9) rfl dX11_many_17 ?_
      refine lv_goto (tgt := 25) C.1 C.2.1 dX11_many_20 (by decide) ?_
      exact t_i C hr hlk (u := (f, a)) hW.2.2.2.1 hW.B h dX11_many_25
  · replace h := h.2 c1
    refine lv_aload_n C.1 C.2.1 dX11_many_4 rfl (lv_at hl 0 rfl) ?_
    refine r_get C hW (ci := 11) (T := TX11) (n := 21) (ref := "BallMinderModel") (v := .int (f 1)) 0 (by decide) rfl rfl 1 (by decide) inX11_many (by decide +kernel) (fun _ h9 => h9) rfl dX11_many_5 ?_
    refine lv_goto (tgt := 25) C.1 C.2.1 dX11_many_8 (by decide) ?_
    exact t_i C hr hlk (u := (f, a)) hW.2.2.2.1 hW.B h dX11_many_25
set_option maxRecDepth 100000 in
set_option maxHeartbeats 4000000 in
theorem mtX11_many (l : Launch) (D : va_G) (q : Nat → Nat) (cI : ClassId) (sz : Nat) (x1 : Int32) (f : Nat → Int32) (a : Nat → Nat → Int32) (Q : Int32 → (Nat → Int32) → (Nat → Nat → Int32) → Prop) (h : vX11_many x1 f a Q) : Met l yX11_many wsX11_many rmX11_many (va_Pc [.ref (q 0), .int x1] (mP D [(cI, .int)] q 12 (gM q cI f a) sz tX)) (QMi D q cI Q (aQ q 12 sz)) 0 0 (aQ q 12 sz) := by
  refine met_w (cc := cX11_many) (maxL := 2) (ret := (some .int)) (by decide) rfl (Nat.le_of_ble_eq_true rfl) ?_
  intro p e s m below meth c ls C hr hlk hW hX hnm hl
  exact sX11_many C hr hlk Q x1 f a _ _ _ h hW hl
