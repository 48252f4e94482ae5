theorem inX11_turn : ∀ w ∈ wsX110, w ∈ wsX11_turn := fun _ h => List.mem_cons_of_mem _ (List.mem_append_right _ h)
abbrev rmX11_turn : Room := { frames := 2, cells := 0, slots := 0, locals := 46 }
def vX11_turn (x1 : Int32) (x2 : Int32) (x3 : Int32) (f : Nat → Int32) (a : Nat → Nat → Int32) (Q : Int32 → (Nat → Int32) → (Nat → Nat → Int32) → Prop) : Prop := vX11_noMill x1 f a (fun r1 f2 a3 => (¬ r1 = 0 → Q (-1 : Int32) f2 a3) ∧ (r1 = 0 → vX11_in x2.toInt64 (0 : Int64) (8 : Int64) (fun r5 => (¬ r5 = 0 → vX11_isNumber x2 x3 (fun r7 => (¬ r7 = 0 → vX11_of x1 x2 f2 a3 (fun r9 f10 a11 => vp_in (((9 : Int32) * x1) + x2) 72 ∧ (∀ a13 : Nat → Nat → Int32, a13 = va_up a11 2 (upd (a11 2) (((9 : Int32) * x1) + x2).toNatClampNeg x3) → Q r9 f10 a13))) ∧ (r7 = 0 → Q (-2 : Int32) f2 a3))) ∧ (r5 = 0 → Q (-1 : Int32) f2 a3))))
set_option maxRecDepth 100000 in
set_option maxHeartbeats 4000000 in
theorem sX11_turn {p : Program} {l : Launch} {e : Env} {s : State} {m : MethodId} {args : Array Value} {below : List Frame} {meth : Method} {c : Code} {D : va_G} {q : Nat → Nat} {A : Nat → Prop} {cI : ClassId} (C : CallFix p m c cX11_turn 5 s args wsX11_turn RX11) (hr : meth.sig.returnType = (some .int)) (hlk : meth.locks = false) (Q : Int32 → (Nat → Int32) → (Nat → Nat → Int32) → Prop) : ∀ (x1 : Int32) (x2 : Int32) (x3 : Int32) (f : Nat → Int32) (a : Nat → Nat → Int32) (H : Heap) (locs : List Loc) (ls : Array Slot), vX11_turn x1 x2 x3 f a Q → hw D [(cI, .int)] q 12 (gM q cI f a) A s H locs → lv_has ls 5 [(0, .ref (q 0)), (1, .int x1), (2, .int x2), (3, .int x3)] → W p l e (headSpec wsX11_turn rmX11_turn).room s m args below meth c H locs 0 0 (MQ below (QMi D q cI Q A) args s 0 0 A) (F0 m 0 ls []) := by
  intro x1 x2 x3 f a H locs ls h hW hl
  unfold vX11_turn at h
  refine lv_aload_n C.1 C.2.1 dX11_turn_0 rfl (lv_at hl 0 rfl) ?_
  refine lv_iload_n C.1 C.2.1 dX11_turn_1 rfl (lv_at hl 1 rfl) ?_
  refine k_i hW (va_runV (As := [.int x1]) (rest := []) C (mtX11_noMill l D q cI H.size x1 f a _ h) (cwV 1 C.2.2.2.2 gX11_turn_X11_noMill rfl rfl rfl (by decide +kernel) ⟨Nat.le_of_ble_eq_true rfl, Nat.le_of_ble_eq_true rfl⟩) ⟨mP_blind tX_B, va_recv hW.1 hW.2.1 (ci := 11) (q0 := 0) rfl (wL_get (by decide)), fun U hU hV => ⟨rfl, hW.pre hU hV trivial⟩⟩ rfl rfl hl.1 rfl (lv_room (Nat.le_of_ble_eq_true rfl)) dX11_turn_2 ⟨Nat.zero_le _, Nat.zero_le _⟩) (fun r1 u H locs h hW => ?_)
  obtain ⟨f2, a3⟩ := u
  replace hW : hw D [(cI, .int)] q 12 (gM q cI f2 a3) A s H locs := hW
  refine lv_if_ne (tgt := 20) C.1 C.2.1 dX11_turn_5 (by decide) (fun c4 => ?_) (fun c4 => ?_)
  · replace h := h.1 c4
    refine lv_iconst (v := -1) C.1 C.2.1 dX11_turn_20 (by decide) ?_
    exact t_i C hr hlk (u := (f2, a3)) hW.2.2.2.1 hW.B h dX11_turn_21
  · replace h := h.2 c4
    refine lv_iload_n C.1 C.2.1 dX11_turn_8 rfl (lv_at hl 2 rfl) ?_
    refine lv_i2l C.1 C.2.1 dX11_turn_9 rfl ?_
    refine lv_lconst (v := 0) C.1 C.2.1 dX11_turn_10 (by decide) ?_
    refine lv_ldc2 (v := (8)) C.1 C.2.1 C.2.2.2.1 (C.2.2.2.2 (.constantLong RX11 113 (8)) (by decide +kernel)) dX11_turn_11 ?_
    refine k_pi hW (va_runS (As := [.long x2.toInt64, .long (0 : Int64), .long (8 : Int64)]) (rest := []) C (mtX11_in l D q _ H.size x2.toInt64 (0 : Int64) (8 : Int64) _ h) (va_cwS 3 C.2.2.2.2 gX11_turn_X11_in rfl rfl rfl (by decide +kernel) ⟨Nat.le_of_ble_eq_true rfl, Nat.le_of_ble_eq_true rfl⟩) ⟨mP_blind tX_B, fun U hU hV => ⟨rfl, hW.pre0 hU hV trivial⟩⟩ rfl rfl hl.1 rfl (lv_room (Nat.le_of_ble_eq_true rfl)) dX11_turn_14 ⟨Nat.zero_le _, Nat.zero_le _⟩) (fun r5 H locs h hW => ?_)
    refine lv_if_ne (tgt := 22) C.1 C.2.1 dX11_turn_17 (by decide) (fun c6 => ?_) (fun c6 => ?_)
    · replace h := h.1 c6
      refine lv_iload_n C.1 C.2.1 dX11_turn_22 rfl (lv_at hl 2 rfl) ?_
      refine lv_iload_n C.1 C.2.1 dX11_turn_23 rfl (lv_at hl 3 rfl) ?_
      refine k_pi hW (va_runS (As := [.int x2, .int x3]) (rest := []) C (mtX11_isNumber l D q _ H.size x2 x3 _ h) (va_cwS 2 C.2.2.2.2 gX11_turn_X11_isNumber rfl rfl rfl (by decide +kernel) ⟨Nat.le_of_ble_eq_true rfl, Nat.le_of_ble_eq_true rfl⟩) ⟨mP_blind tX_B, fun U hU hV => ⟨rfl, hW.pre0 hU hV trivial⟩⟩ rfl rfl hl.1 rfl (lv_room (Nat.le_of_ble_eq_true rfl)) dX11_turn_24 ⟨Nat.zero_le _, Nat.zero_le _⟩) (fun r7 H locs h hW => ?_)
      refine lv_if_ne (tgt := 33) C.1 C.2.1 dX11_turn_27 (by decide) (fun c8 => ?_) (fun c8 => ?_)
      · replace h := h.1 c8
        refine lv_aload_n C.1 C.2.1 dX11_turn_33 rfl (lv_at hl 0 rfl) ?_
        refine lv_iload_n C.1 C.2.1 dX11_turn_34 rfl (lv_at hl 1 rfl) ?_
        refine lv_iload_n C.1 C.2.1 dX11_turn_35 rfl (lv_at hl 2 rfl) ?_
        refine k_i hW (va_runV (As := [.int x1, .int x2]) (rest := []) C (mtX11_of l D q cI H.size x1 x2 f2 a3 _ h) (cwV 2 C.2.2.2.2 gX11_turn_X11_of rfl rfl rfl (by decide +kernel) ⟨Nat.le_of_ble_eq_true rfl, Nat.le_of_ble_eq_true rfl⟩) ⟨mP_blind tX_B, va_recv hW.1 hW.2.1 (ci := 11) (q0 := 0) rfl (wL_get (by decide)), fun U hU hV => ⟨rfl, hW.pre hU hV trivial⟩⟩ rfl rfl hl.1 rfl (lv_room (Nat.le_of_ble_eq_true rfl)) dX11_turn_36 ⟨Nat.zero_le _, Nat.zero_le _⟩) (fun r9 u H locs h hW => ?_)
        obtain ⟨f10, a11⟩ := u
        replace hW : hw D [(cI, .int)] q 12 (gM q cI f10 a11) A s H locs := hW
        refine lv_istore (lv' := [(4, .int r9), (0, .ref (q 0)), (1, .int x1), (2, .int x2), (3, .int x3)]) C.1 C.2.1 dX11_turn_39 hl (by decide) rfl (fun ls hl => ?_)
        refine lv_aload_n C.1 C.2.1 dX11_turn_41 rfl (lv_at hl 1 rfl) ?_
        refine r_get C hW (ci := 11) (T := TX11) (n := 21) (ref := "BallMinderModel") (v := .ref (q 2)) 0 (by decide) rfl rfl 3 (by decide) inX11_turn (by decide +kernel) (fun _ h9 => h9) rfl dX11_turn_42 ?_
        refine lv_bipush (v := 9) C.1 C.2.1 dX11_turn_45 (by decide) ?_
        refine lv_iload_n C.1 C.2.1 dX11_turn_47 rfl (lv_at hl 2 rfl) ?_
        refine lv_imul C.1 C.2.1 dX11_turn_48 ?_
        refine lv_iload_n C.1 C.2.1 dX11_turn_49 rfl (lv_at hl 3 rfl) ?_
        refine lv_iadd C.1 C.2.1 dX11_turn_50 ?_
        refine lv_iload_n C.1 C.2.1 dX11_turn_51 rfl (lv_at hl 4 rfl) ?_
        obtain ⟨hs12, h⟩ := h
        refine r_iast C hW (cA := cI) (n := 72) (f := a11 2) 2 0 (by decide) rfl rfl hs12 dX11_turn_52 (fun H locs hW => ?_)
        replace hW := gM_ast (k := 2) (n := 72) (by decide) rfl hW
        obtain ⟨a13, ea13⟩ : ∃ z : Nat → Nat → Int32, z = va_up a11 2 (upd (a11 2) (((9 : Int32) * x1) + x2).toNatClampNeg x3) := ⟨_, rfl⟩
        rw [← ea13] at hW
        replace h := h a13 ea13
        refine lv_iload C.1 C.2.1 dX11_turn_53 (lv_at hl 0 rfl) ?_
        exact t_i C hr hlk (u := (f10, a13)) hW.2.2.2.1 hW.B h dX11_turn_55
      · replace h := h.2 c8
        refine lv_bipush (v := -2) C.1 C.2.1 dX11_turn_30 (by decide) ?_
        exact t_i C hr hlk (u := (f2, a3)) hW.2.2.2.1 hW.B h dX11_turn_32
    · replace h := h.2 c6
      refine lv_iconst (v := -1) C.1 C.2.1 dX11_turn_20 (by decide) ?_
      exact t_i C hr hlk (u := (f2, a3)) hW.2.2.2.1 hW.B h dX11_turn_21
set_option maxRecDepth 100000 in
set_option maxHeartbeats 4000000 in
theorem mtX11_turn (l : Launch) (D : va_G) (q : Nat → Nat) (cI : ClassId) (sz : Nat) (x1 : Int32) (x2 : Int32) (x3 : Int32) (f : Nat → Int32) (a : Nat → Nat → Int32) (Q : Int32 → (Nat → Int32) → (Nat → Nat → Int32) → Prop) (h : vX11_turn x1 x2 x3 f a Q) : Met l yX11_turn wsX11_turn rmX11_turn (va_Pc [.ref (q 0), .int x1, .int x2, .int x3] (mP D [(cI, .int)] q 12 (gM q cI f a) sz tX)) (QMi D q cI Q (aQ q 12 sz)) 0 0 (aQ q 12 sz) := by
  refine met_w (cc := cX11_turn) (maxL := 5) (ret := (some .int)) (by decide) rfl (Nat.le_of_ble_eq_true rfl) ?_
  intro p e s m below meth c ls C hr hlk hW hX hnm hl
  exact sX11_turn C hr hlk Q x1 x2 x3 f a _ _ _ h hW hl
theorem inX11_sumOf : ∀ w ∈ wsX110, w ∈ wsX11_sumOf := fun _ h => List.mem_cons_of_mem _ (List.mem_append_right _ h)
abbrev rmX11_sumOf : Room := { frames := 1, cells := 0, slots := 0, locals := 22 }
def vX11_sumOf_61 (Q : Int64 → (Nat → Int32) → (Nat → Nat → Int32) → Prop) (x1 : Int32) (x3 : Int64) (x5 : Int64) (x7 : Int64) (x9 : Int64) (x11 : Int64) (y0 : Int32) (f : Nat → Int32) (a : Nat → Nat → Int32) : Prop := (¬ y0 = (4 : Int32) → (¬ y0 = (3 : Int32) → (¬ y0 = (2 : Int32) → (¬ y0 = (1 : Int32) → (¬ y0 = 0 → Q (0 : Int64) f a) ∧ (y0 = 0 → vX11_of x1 (6 : Int32) f a (fun r30 f31 a32 => Q r30.toInt64 f31 a32))) ∧ (y0 = (1 : Int32) → vX11_of x1 (5 : Int32) f a (fun r33 f34 a35 => Q ((x5 * x11) + r33.toInt64) f34 a35))) ∧ (y0 = (2 : Int32) → Q ((x3 * x11) + (x5 * x9)) f a)) ∧ (y0 = (3 : Int32) → Q ((x3 * x9) + (x5 * x7)) f a)) ∧ (y0 = (4 : Int32) → Q (x3 * x7) f a)
def vX11_sumOf (x1 : Int32) (x2 : Int32) (f : Nat → Int32) (a : Nat → Nat → Int32) (Q : Int64 → (Nat → Int32) → (Nat → Nat → Int32) → Prop) : Prop := vX11_of x1 (0 : Int32) f a (fun r1 f2 a3 => ∀ x3_4 : Int64, x3_4 = r1.toInt64 → vX11_of x1 (1 : Int32) f2 a3 (fun r5 f6 a7 => ∀ x5_8 : Int64, x5_8 = r5.toInt64 → vX11_of x1 (2 : Int32) f6 a7 (fun r9 f10 a11 => ∀ x7_12 : Int64, x7_12 = r9.toInt64 → vX11_of x1 (3 : Int32) f10 a11 (fun r13 f14 a15 => ∀ x9_16 : Int64, x9_16 = r13.toInt64 → vX11_of x1 (4 : Int32) f14 a15 (fun r17 f18 a19 => ∀ x11_20 : Int64, x11_20 = r17.toInt64 → vX11_of x1 (6 : Int32) f18 a19 (fun r21 f22 a23 => (r21 ≤ 0 → vX11_sumOf_61 Q x1 x3_4 x5_8 x7_12 x9_16 x11_20 (x2 + (1 : Int32)) f22 a23) ∧ (¬ (r21 ≤ 0) → vX11_sumOf_61 Q x1 x3_4 x5_8 x7_12 x9_16 x11_20 x2 f22 a23)))))))
set_option maxRecDepth 100000 in
set_option maxHeartbeats 4000000 in
theorem sX11_sumOf_61 {p : Program} {l : Launch} {e : Env} {s : State} {m : MethodId} {args : Array Value} {below : List Frame} {meth : Method} {c : Code} {D : va_G} {q : Nat → Nat} {A : Nat → Prop} {cI : ClassId} (C : CallFix p m c cX11_sumOf 14 s args wsX11_sumOf RX11) (hr : meth.sig.returnType = (some .long)) (hlk : meth.locks = false) (Q : Int64 → (Nat → Int32) → (Nat → Nat → Int32) → Prop) : ∀ (x1 : Int32) (x3 : Int64) (x5 : Int64) (x7 : Int64) (x9 : Int64) (x11 : Int64) (y0 : Int32) (f : Nat → Int32) (a : Nat → Nat → Int32) (H : Heap) (locs : List Loc) (ls : Array Slot), vX11_sumOf_61 Q x1 x3 x5 x7 x9 x11 y0 f a → hw D [(cI, .int)] q 12 (gM q cI f a) A s H locs → lv_has ls 14 [(0, .ref (q 0)), (1, .int x1), (3, .long x3), (5, .long x5), (7, .long x7), (9, .long x9), (11, .long x11)] → W p l e (headSpec wsX11_sumOf rmX11_sumOf).room s m args below meth c H locs 0 0 (MQ below (QMl D q cI Q A) args s 0 0 A) (F0 m 61 ls [.int y0]) := by
  intro x1 x3 x5 x7 x9 x11 y0 f a H locs ls h hW hl
  unfold vX11_sumOf_61 at h
  refine lv_istore (lv' := [(13, .int y0), (0, .ref (q 0)), (1, .int x1), (3, .long x3), (5, .long x5), (7, .long x7), (9, .long x9), (11, .long x11)]) C.1 C.2.1 dX11_sumOf_61 hl (by decide) rfl (fun ls hl => ?_)
  refine lv_iload C.1 C.2.1 dX11_sumOf_63 (lv_at hl 0 rfl) ?_
  refine lv_iconst (v := 4) C.1 C.2.1 dX11_sumOf_65 (by decide) ?_
  refine lv_icmp_ne (tgt := 76) C.1 C.2.1 dX11_sumOf_66 (by decide) (fun c25 => ?_) (fun c25 => ?_)
  · replace h := h.1 c25
    refine lv_iload C.1 C.2.1 dX11_sumOf_76 (lv_at hl 0 rfl) ?_
    refine lv_iconst (v := 3) C.1 C.2.1 dX11_sumOf_78 (by decide) ?_
    refine lv_icmp_ne (tgt := 95) C.1 C.2.1 dX11_sumOf_79 (by decide) (fun c26 => ?_) (fun c26 => ?_)
    · replace h := h.1 c26
      refine lv_iload C.1 C.2.1 dX11_sumOf_95 (lv_at hl 0 rfl) ?_
      refine lv_iconst (v := 2) C.1 C.2.1 dX11_sumOf_97 (by decide) ?_
      refine lv_icmp_ne (tgt := 114) C.1 C.2.1 dX11_sumOf_98 (by decide) (fun c27 => ?_) (fun c27 => ?_)
      · replace h := h.1 c27
        refine lv_iload C.1 C.2.1 dX11_sumOf_114 (lv_at hl 0 rfl) ?_
        refine lv_iconst (v := 1) C.1 C.2.1 dX11_sumOf_116 (by decide) ?_
        refine lv_icmp_ne (tgt := 136) C.1 C.2.1 dX11_sumOf_117 (by decide) (fun c28 => ?_) (fun c28 => ?_)
        · replace h := h.1 c28
          refine lv_iload C.1 C.2.1 dX11_sumOf_136 (lv_at hl 0 rfl) ?_
          refine lv_if_ne (tgt := 152) C.1 C.2.1 dX11_sumOf_138 (by decide) (fun c29 => ?_) (fun c29 => ?_)
          · replace h := h.1 c29
            refine lv_lconst (v := 0) C.1 C.2.1 dX11_sumOf_152 (by decide) ?_
            exact t_l C hr hlk (u := (f, a)) hW.2.2.2.1 hW.B h dX11_sumOf_153
          · replace h := h.2 c29
            refine lv_aload_n C.1 C.2.1 dX11_sumOf_141 rfl (lv_at hl 1 rfl) ?_
            refine lv_iload_n C.1 C.2.1 dX11_sumOf_142 rfl (lv_at hl 2 rfl) ?_
            refine lv_bipush (v := 6) C.1 C.2.1 dX11_sumOf_143 (by decide) ?_
            refine k_i hW (va_runV (As := [.int x1, .int (6 : Int32)]) (rest := []) C (mtX11_of l D q cI H.size x1 (6 : Int32) f a _ h) (cwV 2 C.2.2.2.2 gX11_sumOf_X11_of rfl rfl rfl (by decide +kernel) ⟨Nat.le_of_ble_eq_true rfl, Nat.le_of_ble_eq_true rfl⟩) ⟨mP_blind tX_B, va_recv hW.1 hW.2.1 (ci := 11) (q0 := 0) rfl (wL_get (by decide)), fun U hU hV => ⟨rfl, hW.pre hU hV trivial⟩⟩ rfl rfl hl.1 rfl (lv_room (Nat.le_of_ble_eq_true rfl)) dX11_sumOf_145 ⟨Nat.zero_le _, Nat.zero_le _⟩) (fun r30 u H locs h hW => ?_)
            obtain ⟨f31, a32⟩ := u
            replace hW : hw D [(cI, .int)] q 12 (gM q cI f31 a32) A s H locs := hW
            refine lv_i2l C.1 C.2.1 dX11_sumOf_148 rfl ?_
            refine lv_goto (tgt := 153) C.1 C.2.1 dX11_sumOf_149 (by decide) ?_
            exact t_l C hr hlk (u := (f31, a32)) hW.2.2.2.1 hW.B h dX11_sumOf_153
        · replace h := h.2 c28
          refine lv_lload C.1 C.2.1 dX11_sumOf_120 (lv_at hl 4 rfl) ?_
          refine lv_lload C.1 C.2.1 dX11_sumOf_122 (lv_at hl 7 rfl) ?_
          refine lv_lmul C.1 C.2.1 dX11_sumOf_124 ?_
          refine lv_aload_n C.1 C.2.1 dX11_sumOf_125 rfl (lv_at hl 1 rfl) ?_
          refine lv_iload_n C.1 C.2.1 dX11_sumOf_126 rfl (lv_at hl 2 rfl) ?_
          refine lv_iconst (v := 5) C.1 C.2.1 dX11_sumOf_127 (by decide) ?_
          refine k_i hW (va_runV (As := [.int x1, .int (5 : Int32)]) (rest := [.long (x5 * x11)]) C (mtX11_of l D q cI H.size x1 (5 : Int32) f a _ h) (cwV 2 C.2.2.2.2 gX11_sumOf_X11_of rfl rfl rfl (by decide +kernel) ⟨Nat.le_of_ble_eq_true rfl, Nat.le_of_ble_eq_true rfl⟩) ⟨mP_blind tX_B, va_recv hW.1 hW.2.1 (ci := 11) (q0 := 0) rfl (wL_get (by decide)), fun U hU hV => ⟨rfl, hW.pre hU hV trivial⟩⟩ rfl rfl hl.1 rfl (lv_room (Nat.le_of_ble_eq_true rfl)) dX11_sumOf_128 ⟨Nat.zero_le _, Nat.zero_le _⟩) (fun r33 u H locs h hW => ?_)
          obtain ⟨f34, a35⟩ := u
          replace hW : hw D [(cI, .int)] q 12 (gM q cI f34 a35) A s H locs := hW
          refine lv_i2l C.1 C.2.1 dX11_sumOf_131 rfl ?_
          refine lv_ladd C.1 C.2.1 dX11_sumOf_132 ?_
          refine lv_goto (tgt := 153) C.1 C.2.1 dX11_sumOf_133 (by decide) ?_
          exact t_l C hr hlk (u := (f34, a35)) hW.2.2.2.1 hW.B h dX11_sumOf_153
      · replace h := h.2 c27
        refine lv_lload_n C.1 C.2.1 dX11_sumOf_101 rfl (lv_at hl 3 rfl) ?_
        refine lv_lload C.1 C.2.1 dX11_sumOf_102 (lv_at hl 7 rfl) ?_
        refine lv_lmul C.1 C.2.1 dX11_sumOf_104 ?_
        refine lv_lload C.1 C.2.1 dX11_sumOf_105 (lv_at hl 4 rfl) ?_
        refine lv_lload C.1 C.2.1 dX11_sumOf_107 (lv_at hl 6 rfl) ?_
        refine lv_lmul C.1 C.2.1 dX11_sumOf_109 ?_
        refine lv_ladd C.1 C.2.1 dX11_sumOf_110 ?_
        refine lv_goto (tgt := 153) C.1 C.2.1 dX11_sumOf_111 (by decide) ?_
        exact t_l C hr hlk (u := (f, a)) hW.2.2.2.1 hW.B h dX11_sumOf_153
    · replace h := h.2 c26
      refine lv_lload_n C.1 C.2.1 dX11_sumOf_82 rfl (lv_at hl 3 rfl) ?_
      refine lv_lload C.1 C.2.1 dX11_sumOf_83 (lv_at hl 6 rfl) ?_
      refine lv_lmul C.1 C.2.1 dX11_sumOf_85 ?_
      refine lv_lload C.1 C.2.1 dX11_sumOf_86 (lv_at hl 4 rfl) ?_
      refine lv_lload C.1 C.2.1 dX11_sumOf_88 (lv_at hl 5 rfl) ?_
      refine lv_lmul C.1 C.2.1 dX11_sumOf_90 ?_
      refine lv_ladd C.1 C.2.1 dX11_sumOf_91 ?_
      refine lv_goto (tgt := 153) C.1 C.2.1 dX11_sumOf_92 (by decide) ?_
      exact t_l C hr hlk (u := (f, a)) hW.2.2.2.1 hW.B h dX11_sumOf_153
  · replace h := h.2 c25
    refine lv_lload_n C.1 C.2.1 dX11_sumOf_69 rfl (lv_at hl 3 rfl) ?_
    refine lv_lload C.1 C.2.1 dX11_sumOf_70 (lv_at hl 5 rfl) ?_
    refine lv_lmul C.1 C.2.1 dX11_sumOf_72 ?_
    refine lv_goto (tgt := 153) C.1 C.2.1 dX11_sumOf_73 (by decide) ?_
    exact t_l C hr hlk (u := (f, a)) hW.2.2.2.1 hW.B h dX11_sumOf_153
set_option maxRecDepth 100000 in
set_option maxHeartbeats 4000000 in
theorem sX11_sumOf {p : Program} {l : Launch} {e : Env} {s : State} {m : MethodId} {args : Array Value} {below : List Frame} {meth : Method} {c : Code} {D : va_G} {q : Nat → Nat} {A : Nat → Prop} {cI : ClassId} (C : CallFix p m c cX11_sumOf 14 s args wsX11_sumOf RX11) (hr : meth.sig.returnType = (some .long)) (hlk : meth.locks = false) (Q : Int64 → (Nat → Int32) → (Nat → Nat → Int32) → Prop) : ∀ (x1 : Int32) (x2 : Int32) (f : Nat → Int32) (a : Nat → Nat → Int32) (H : Heap) (locs : List Loc) (ls : Array Slot), vX11_sumOf x1 x2 f a Q → hw D [(cI, .int)] q 12 (gM q cI f a) A s H locs → lv_has ls 14 [(0, .ref (q 0)), (1, .int x1), (2, .int x2)] → W p l e (headSpec wsX11_sumOf rmX11_sumOf).room s m args below meth c H locs 0 0 (MQ below (QMl D q cI Q A) args s 0 0 A) (F0 m 0 ls []) := by
  intro x1 x2 f a H locs ls h hW hl
  unfold vX11_sumOf at h
  refine lv_aload_n C.1 C.2.1 dX11_sumOf_0 rfl (lv_at hl 0 rfl) ?_
  refine lv_iload_n C.1 C.2.1 dX11_sumOf_1 rfl (lv_at hl 1 rfl) ?_
  refine lv_iconst (v := 0) C.1 C.2.1 dX11_sumOf_2 (by decide) ?_
  refine k_i hW (va_runV (As := [.int x1, .int (0 : Int32)]) (rest := []) C (mtX11_of l D q cI H.size x1 (0 : Int32) f a _ h) (cwV 2 C.2.2.2.2 gX11_sumOf_X11_of rfl rfl rfl (by decide +kernel) ⟨Nat.le_of_ble_eq_true rfl, Nat.le_of_ble_eq_true rfl⟩) ⟨mP_blind tX_B, va_recv hW.1 hW.2.1 (ci := 11) (q0 := 0) rfl (wL_get (by decide)), fun U hU hV => ⟨rfl, hW.pre hU hV trivial⟩⟩ rfl rfl hl.1 rfl (lv_room (Nat.le_of_ble_eq_true rfl)) dX11_sumOf_3 ⟨Nat.zero_le _, Nat.zero_le _⟩) (fun r1 u H locs h hW => ?_)
  obtain ⟨f2, a3⟩ := u
  replace hW : hw D [(cI, .int)] q 12 (gM q cI f2 a3) A s H locs := hW
  refine lv_i2l C.1 C.2.1 dX11_sumOf_6 rfl ?_
  refine lv_topl (fun x3_4 ex3_4 => ?_)
  replace h := h x3_4 ex3_4
  refine lv_lstore_n (lv' := [(3, .long x3_4), (0, .ref (q 0)), (1, .int x1), (2, .int x2)]) C.1 C.2.1 dX11_sumOf_7 rfl hl (by decide) rfl (fun ls hl => ?_)
  refine lv_aload_n C.1 C.2.1 dX11_sumOf_8 rfl (lv_at hl 1 rfl) ?_
  refine lv_iload_n C.1 C.2.1 dX11_sumOf_9 rfl (lv_at hl 2 rfl) ?_
  refine lv_iconst (v := 1) C.1 C.2.1 dX11_sumOf_10 (by decide) ?_
  refine k_i hW (va_runV (As := [.int x1, .int (1 : Int32)]) (rest := []) C (mtX11_of l D q cI H.size x1 (1 : Int32) f2 a3 _ h) (cwV 2 C.2.2.2.2 gX11_sumOf_X11_of rfl rfl rfl (by decide +kernel) ⟨Nat.le_of_ble_eq_true rfl, Nat.le_of_ble_eq_true rfl⟩) ⟨mP_blind tX_B, va_recv hW.1 hW.2.1 (ci := 11) (q0 := 0) rfl (wL_get (by decide)), fun U hU hV => ⟨rfl, hW.pre hU hV trivial⟩⟩ rfl rfl hl.1 rfl (lv_room (Nat.le_of_ble_eq_true rfl)) dX11_sumOf_11 ⟨Nat.zero_le _, Nat.zero_le _⟩) (fun r5 u H locs h hW => ?_)
  obtain ⟨f6, a7⟩ := u
  replace hW : hw D [(cI, .int)] q 12 (gM q cI f6 a7) A s H locs := hW
  refine lv_i2l C.1 C.2.1 dX11_sumOf_14 rfl ?_
  refine lv_topl (fun x5_8 ex5_8 => ?_)
  replace h := h x5_8 ex5_8
  refine lv_lstore (lv' := [(5, .long x5_8), (3, .long x3_4), (0, .ref (q 0)), (1, .int x1), (2, .int x2)]) C.1 C.2.1 dX11_sumOf_15 hl (by decide) rfl (fun ls hl => ?_)
  refine lv_aload_n C.1 C.2.1 dX11_sumOf_17 rfl (lv_at hl 2 rfl) ?_
  refine lv_iload_n C.1 C.2.1 dX11_sumOf_18 rfl (lv_at hl 3 rfl) ?_
  refine lv_iconst (v := 2) C.1 C.2.1 dX11_sumOf_19 (by decide) ?_
  refine k_i hW (va_runV (As := [.int x1, .int (2 : Int32)]) (rest := []) C (mtX11_of l D q cI H.size x1 (2 : Int32) f6 a7 _ h) (cwV 2 C.2.2.2.2 gX11_sumOf_X11_of rfl rfl rfl (by decide +kernel) ⟨Nat.le_of_ble_eq_true rfl, Nat.le_of_ble_eq_true rfl⟩) ⟨mP_blind tX_B, va_recv hW.1 hW.2.1 (ci := 11) (q0 := 0) rfl (wL_get (by decide)), fun U hU hV => ⟨rfl, hW.pre hU hV trivial⟩⟩ rfl rfl hl.1 rfl (lv_room (Nat.le_of_ble_eq_true rfl)) dX11_sumOf_20 ⟨Nat.zero_le _, Nat.zero_le _⟩) (fun r9 u H locs h hW => ?_)
  obtain ⟨f10, a11⟩ := u
  replace hW : hw D [(cI, .int)] q 12 (gM q cI f10 a11) A s H locs := hW
  refine lv_i2l C.1 C.2.1 dX11_sumOf_23 rfl ?_
  refine lv_topl (fun x7_12 ex7_12 => ?_)
  replace h := h x7_12 ex7_12
  refine lv_lstore (lv' := [(7, .long x7_12), (5, .long x5_8), (3, .long x3_4), (0, .ref (q 0)), (1, .int x1), (2, .int x2)]) C.1 C.2.1 dX11_sumOf_24 hl (by decide) rfl (fun ls hl => ?_)
  refine lv_aload_n C.1 C.2.1 dX11_sumOf_26 rfl (lv_at hl 3 rfl) ?_
  refine lv_iload_n C.1 C.2.1 dX11_sumOf_27 rfl (lv_at hl 4 rfl) ?_
  refine lv_iconst (v := 3) C.1 C.2.1 dX11_sumOf_28 (by decide) ?_
  refine k_i hW (va_runV (As := [.int x1, .int (3 : Int32)]) (rest := []) C (mtX11_of l D q cI H.size x1 (3 : Int32) f10 a11 _ h) (cwV 2 C.2.2.2.2 gX11_sumOf_X11_of rfl rfl rfl (by decide +kernel) ⟨Nat.le_of_ble_eq_true rfl, Nat.le_of_ble_eq_true rfl⟩) ⟨mP_blind tX_B, va_recv hW.1 hW.2.1 (ci := 11) (q0 := 0) rfl (wL_get (by decide)), fun U hU hV => ⟨rfl, hW.pre hU hV trivial⟩⟩ rfl rfl hl.1 rfl (lv_room (Nat.le_of_ble_eq_true rfl)) dX11_sumOf_29 ⟨Nat.zero_le _, Nat.zero_le _⟩) (fun r13 u H locs h hW => ?_)
  obtain ⟨f14, a15⟩ := u
  replace hW : hw D [(cI, .int)] q 12 (gM q cI f14 a15) A s H locs := hW
  refine lv_i2l C.1 C.2.1 dX11_sumOf_32 rfl ?_
  refine lv_topl (fun x9_16 ex9_16 => ?_)
  replace h := h x9_16 ex9_16
  refine lv_lstore (lv' := [(9, .long x9_16), (7, .long x7_12), (5, .long x5_8), (3, .long x3_4), (0, .ref (q 0)), (1, .int x1), (2, .int x2)]) C.1 C.2.1 dX11_sumOf_33 hl (by decide) rfl (fun ls hl => ?_)
  refine lv_aload_n C.1 C.2.1 dX11_sumOf_35 rfl (lv_at hl 4 rfl) ?_
  refine lv_iload_n C.1 C.2.1 dX11_sumOf_36 rfl (lv_at hl 5 rfl) ?_
  refine lv_iconst (v := 4) C.1 C.2.1 dX11_sumOf_37 (by decide) ?_
  refine k_i hW (va_runV (As := [.int x1, .int (4 : Int32)]) (rest := []) C (mtX11_of l D q cI H.size x1 (4 : Int32) f14 a15 _ h) (cwV 2 C.2.2.2.2 gX11_sumOf_X11_of rfl rfl rfl (by decide +kernel) ⟨Nat.le_of_ble_eq_true rfl, Nat.le_of_ble_eq_true rfl⟩) ⟨mP_blind tX_B, va_recv hW.1 hW.2.1 (ci := 11) (q0 := 0) rfl (wL_get (by decide)), fun U hU hV => ⟨rfl, hW.pre hU hV trivial⟩⟩ rfl rfl hl.1 rfl (lv_room (Nat.le_of_ble_eq_true rfl)) dX11_sumOf_38 ⟨Nat.zero_le _, Nat.zero_le _⟩) (fun r17 u H locs h hW => ?_)
  obtain ⟨f18, a19⟩ := u
  replace hW : hw D [(cI, .int)] q 12 (gM q cI f18 a19) A s H locs := hW
  refine lv_i2l C.1 C.2.1 dX11_sumOf_41 rfl ?_
  refine lv_topl (fun x11_20 ex11_20 => ?_)
  replace h := h x11_20 ex11_20
  refine lv_lstore (lv' := [(11, .long x11_20), (9, .long x9_16), (7, .long x7_12), (5, .long x5_8), (3, .long x3_4), (0, .ref (q 0)), (1, .int x1), (2, .int x2)]) C.1 C.2.1 dX11_sumOf_42 hl (by decide) rfl (fun ls hl => ?_)
  refine lv_aload_n C.1 C.2.1 dX11_sumOf_44 rfl (lv_at hl 5 rfl) ?_
  refine lv_iload_n C.1 C.2.1 dX11_sumOf_45 rfl (lv_at hl 6 rfl) ?_
  refine lv_bipush (v := 6) C.1 C.2.1 dX11_sumOf_46 (by decide) ?_
  refine k_i hW (va_runV (As := [.int x1, .int (6 : Int32)]) (rest := []) C (mtX11_of l D q cI H.size x1 (6 : Int32) f18 a19 _ h) (cwV 2 C.2.2.2.2 gX11_sumOf_X11_of rfl rfl rfl (by decide +kernel) ⟨Nat.le_of_ble_eq_true rfl, Nat.le_of_ble_eq_true rfl⟩) ⟨mP_blind tX_B, va_recv hW.1 hW.2.1 (ci := 11) (q0 := 0) rfl (wL_get (by decide)), fun U hU hV => ⟨rfl, hW.pre hU hV trivial⟩⟩ rfl rfl hl.1 rfl (lv_room (Nat.le_of_ble_eq_true rfl)) dX11_sumOf_48 ⟨Nat.zero_le _, Nat.zero_le _⟩) (fun r21 u H locs h hW => ?_)
  obtain ⟨f22, a23⟩ := u
  replace hW : hw D [(cI, .int)] q 12 (gM q cI f22 a23) A s H locs := hW
  refine lv_if_le (tgt := 58) C.1 C.2.1 dX11_sumOf_51 (by decide) (fun c24 => ?_) (fun c24 => ?_)
  · replace h := h.1 c24
    refine lv_iload_n C.1 C.2.1 dX11_sumOf_58 rfl (lv_at hl 7 rfl) ?_
    refine lv_iconst (v := 1) C.1 C.2.1 dX11_sumOf_59 (by decide) ?_
    refine lv_iadd C.1 C.2.1 dX11_sumOf_60 ?_
    exact sX11_sumOf_61 C hr hlk Q x1 x3_4 x5_8 x7_12 x9_16 x11_20 (x2 + (1 : Int32)) f22 a23 _ _ _ h hW (lv_sub hl [5, 6, 4, 3, 2, 1, 0] rfl)
  · replace h := h.2 c24
    refine lv_iload_n C.1 C.2.1 dX11_sumOf_54 rfl (lv_at hl 7 rfl) ?_
    refine lv_goto (tgt := 61) C.1 C.2.1 dX11_sumOf_55 (by decide) ?_
    exact sX11_sumOf_61 C hr hlk Q x1 x3_4 x5_8 x7_12 x9_16 x11_20 x2 f22 a23 _ _ _ h hW (lv_sub hl [5, 6, 4, 3, 2, 1, 0] rfl)
set_option maxRecDepth 100000 in
set_option maxHeartbeats 4000000 in
theorem mtX11_sumOf (l : Launch) (D : va_G) (q : Nat → Nat) (cI : ClassId) (sz : Nat) (x1 : Int32) (x2 : Int32) (f : Nat → Int32) (a : Nat → Nat → Int32) (Q : Int64 → (Nat → Int32) → (Nat → Nat → Int32) → Prop) (h : vX11_sumOf x1 x2 f a Q) : Met l yX11_sumOf wsX11_sumOf rmX11_sumOf (va_Pc [.ref (q 0), .int x1, .int x2] (mP D [(cI, .int)] q 12 (gM q cI f a) sz tX)) (QMl D q cI Q (aQ q 12 sz)) 0 0 (aQ q 12 sz) := by
  refine met_w (cc := cX11_sumOf) (maxL := 14) (ret := (some .long)) (by decide) rfl (Nat.le_of_ble_eq_true rfl) ?_
  intro p e s m below meth c ls C hr hlk hW hX hnm hl
  exact sX11_sumOf C hr hlk Q x1 x2 f a _ _ _ h hW hl
theorem inX11_marginOf : ∀ w ∈ wsX110, w ∈ wsX11_marginOf := fun _ h => List.mem_cons_of_mem _ (List.mem_append_right _ h)
abbrev rmX11_marginOf : Room := { frames := 2, cells := 0, slots := 0, locals := 55 }
def vX11_marginOf (x1 : Int32) (f : Nat → Int32) (a : Nat → Nat → Int32) (Q : Int64 → (Nat → Int32) → (Nat → Nat → Int32) → Prop) : Prop := vX11_sumOf x1 (0 : Int32) f a (fun r1 f2 a3 => vX11_sumOf x1 (1 : Int32) f2 a3 (fun r4 f5 a6 => vX11_sumOf x1 (2 : Int32) f5 a6 (fun r7 f8 a9 => vX11_sumOf x1 (3 : Int32) f8 a9 (fun r10 f11 a12 => vX11_of x1 (6 : Int32) f11 a12 (fun r13 f14 a15 => (r13 ≤ 0 → Q ((r7 * r4) - (r10 * r1)) f14 a15) ∧ (¬ (r13 ≤ 0) → vX11_sumOf x1 (4 : Int32) f14 a15 (fun r17 f18 a19 => Q ((((r10 * r7) * r4) - ((r17 * r4) * r4)) - ((r10 * r10) * r1)) f18 a19)))))))
set_option maxRecDepth 100000 in
set_option maxHeartbeats 4000000 in
theorem sX11_marginOf {p : Program} {l : Launch} {e : Env} {s : State} {m : MethodId} {args : Array Value} {below : List Frame} {meth : Method} {c : Code} {D : va_G} {q : Nat → Nat} {A : Nat → Prop} {cI : ClassId} (C : CallFix p m c cX11_marginOf 10 s args wsX11_marginOf RX11) (hr : meth.sig.returnType = (some .long)) (hlk : meth.locks = false) (Q : Int64 → (Nat → Int32) → (Nat → Nat → Int32) → Prop) : ∀ (x1 : Int32) (f : Nat → Int32) (a : Nat → Nat → Int32) (H : Heap) (locs : List Loc) (ls : Array Slot), vX11_marginOf x1 f a Q → hw D [(cI, .int)] q 12 (gM q cI f a) A s H locs → lv_has ls 10 [(0, .ref (q 0)), (1, .int x1)] → W p l e (headSpec wsX11_marginOf rmX11_marginOf).room s m args below meth c H locs 0 0 (MQ below (QMl D q cI Q A) args s 0 0 A) (F0 m 0 ls []) := by
  intro x1 f a H locs ls h hW hl
  unfold vX11_marginOf at h
  refine lv_aload_n C.1 C.2.1 dX11_marginOf_0 rfl (lv_at hl 0 rfl) ?_
  refine lv_iload_n C.1 C.2.1 dX11_marginOf_1 rfl (lv_at hl 1 rfl) ?_
  refine lv_iconst (v := 0) C.1 C.2.1 dX11_marginOf_2 (by decide) ?_
  refine k_l hW (va_runV (As := [.int x1, .int (0 : Int32)]) (rest := []) C (mtX11_sumOf l D q cI H.size x1 (0 : Int32) f a _ h) (cwV 2 C.2.2.2.2 gX11_marginOf_X11_sumOf rfl rfl rfl (by decide +kernel) ⟨Nat.le_of_ble_eq_true rfl, Nat.le_of_ble_eq_true rfl⟩) ⟨mP_blind tX_B, va_recv hW.1 hW.2.1 (ci := 11) (q0 := 0) rfl (wL_get (by decide)), fun U hU hV => ⟨rfl, hW.pre hU hV trivial⟩⟩ rfl rfl hl.1 rfl (lv_room (Nat.le_of_ble_eq_true rfl)) dX11_marginOf_3 ⟨Nat.zero_le _, Nat.zero_le _⟩) (fun r1 u H locs h hW => ?_)
  obtain ⟨f2, a3⟩ := u
  replace hW : hw D [(cI, .int)] q 12 (gM q cI f2 a3) A s H locs := hW
  refine lv_lstore_n (lv' := [(2, .long r1), (0, .ref (q 0)), (1, .int x1)]) C.1 C.2.1 dX11_marginOf_6 rfl hl (by decide) rfl (fun ls hl => ?_)
  refine lv_aload_n C.1 C.2.1 dX11_marginOf_7 rfl (lv_at hl 1 rfl) ?_
  refine lv_iload_n C.1 C.2.1 dX11_marginOf_8 rfl (lv_at hl 2 rfl) ?_
  refine lv_iconst (v := 1) C.1 C.2.1 dX11_marginOf_9 (by decide) ?_
  refine k_l hW (va_runV (As := [.int x1, .int (1 : Int32)]) (rest := []) C (mtX11_sumOf l D q cI H.size x1 (1 : Int32) f2 a3 _ h) (cwV 2 C.2.2.2.2 gX11_marginOf_X11_sumOf rfl rfl rfl (by decide +kernel) ⟨Nat.le_of_ble_eq_true rfl, Nat.le_of_ble_eq_true rfl⟩) ⟨mP_blind tX_B, va_recv hW.1 hW.2.1 (ci := 11) (q0 := 0) rfl (wL_get (by decide)), fun U hU hV => ⟨rfl, hW.pre hU hV trivial⟩⟩ rfl rfl hl.1 rfl (lv_room (Nat.le_of_ble_eq_true rfl)) dX11_marginOf_10 ⟨Nat.zero_le _, Nat.zero_le _⟩) (fun r4 u H locs h hW => ?_)
  obtain ⟨f5, a6⟩ := u
  replace hW : hw D [(cI, .int)] q 12 (gM q cI f5 a6) A s H locs := hW
  refine lv_lstore (lv' := [(4, .long r4), (2, .long r1), (0, .ref (q 0)), (1, .int x1)]) C.1 C.2.1 dX11_marginOf_13 hl (by decide) rfl (fun ls hl => ?_)
  refine lv_aload_n C.1 C.2.1 dX11_marginOf_15 rfl (lv_at hl 2 rfl) ?_
  refine lv_iload_n C.1 C.2.1 dX11_marginOf_16 rfl (lv_at hl 3 rfl) ?_
  refine lv_iconst (v := 2) C.1 C.2.1 dX11_marginOf_17 (by decide) ?_
  refine k_l hW (va_runV (As := [.int x1, .int (2 : Int32)]) (rest := []) C (mtX11_sumOf l D q cI H.size x1 (2 : Int32) f5 a6 _ h) (cwV 2 C.2.2.2.2 gX11_marginOf_X11_sumOf rfl rfl rfl (by decide +kernel) ⟨Nat.le_of_ble_eq_true rfl, Nat.le_of_ble_eq_true rfl⟩) ⟨mP_blind tX_B, va_recv hW.1 hW.2.1 (ci := 11) (q0 := 0) rfl (wL_get (by decide)), fun U hU hV => ⟨rfl, hW.pre hU hV trivial⟩⟩ rfl rfl hl.1 rfl (lv_room (Nat.le_of_ble_eq_true rfl)) dX11_marginOf_18 ⟨Nat.zero_le _, Nat.zero_le _⟩) (fun r7 u H locs h hW => ?_)
  obtain ⟨f8, a9⟩ := u
  replace hW : hw D [(cI, .int)] q 12 (gM q cI f8 a9) A s H locs := hW
  refine lv_lstore (lv' := [(6, .long r7), (4, .long r4), (2, .long r1), (0, .ref (q 0)), (1, .int x1)]) C.1 C.2.1 dX11_marginOf_21 hl (by decide) rfl (fun ls hl => ?_)
  refine lv_aload_n C.1 C.2.1 dX11_marginOf_23 rfl (lv_at hl 3 rfl) ?_
  refine lv_iload_n C.1 C.2.1 dX11_marginOf_24 rfl (lv_at hl 4 rfl) ?_
  refine lv_iconst (v := 3) C.1 C.2.1 dX11_marginOf_25 (by decide) ?_
  refine k_l hW (va_runV (As := [.int x1, .int (3 : Int32)]) (rest := []) C (mtX11_sumOf l D q cI H.size x1 (3 : Int32) f8 a9 _ h) (cwV 2 C.2.2.2.2 gX11_marginOf_X11_sumOf rfl rfl rfl (by decide +kernel) ⟨Nat.le_of_ble_eq_true rfl, Nat.le_of_ble_eq_true rfl⟩) ⟨mP_blind tX_B, va_recv hW.1 hW.2.1 (ci := 11) (q0 := 0) rfl (wL_get (by decide)), fun U hU hV => ⟨rfl, hW.pre hU hV trivial⟩⟩ rfl rfl hl.1 rfl (lv_room (Nat.le_of_ble_eq_true rfl)) dX11_marginOf_26 ⟨Nat.zero_le _, Nat.zero_le _⟩) (fun r10 u H locs h hW => ?_)
  obtain ⟨f11, a12⟩ := u
  replace hW : hw D [(cI, .int)] q 12 (gM q cI f11 a12) A s H locs := hW
  refine lv_lstore (lv' := [(8, .long r10), (6, .long r7), (4, .long r4), (2, .long r1), (0, .ref (q 0)), (1, .int x1)]) C.1 C.2.1 dX11_marginOf_29 hl (by decide) rfl (fun ls hl => ?_)
  refine lv_aload_n C.1 C.2.1 dX11_marginOf_31 rfl (lv_at hl 4 rfl) ?_
  refine lv_iload_n C.1 C.2.1 dX11_marginOf_32 rfl (lv_at hl 5 rfl) ?_
  refine lv_bipush (v := 6) C.1 C.2.1 dX11_marginOf_33 (by decide) ?_
  refine k_i hW (va_runV (As := [.int x1, .int (6 : Int32)]) (rest := []) C (mtX11_of l D q cI H.size x1 (6 : Int32) f11 a12 _ h) (cwV 2 C.2.2.2.2 gX11_marginOf_X11_of rfl rfl rfl (by decide +kernel) ⟨Nat.le_of_ble_eq_true rfl, Nat.le_of_ble_eq_true rfl⟩) ⟨mP_blind tX_B, va_recv hW.1 hW.2.1 (ci := 11) (q0 := 0) rfl (wL_get (by decide)), fun U hU hV => ⟨rfl, hW.pre hU hV trivial⟩⟩ rfl rfl hl.1 rfl (lv_room (Nat.le_of_ble_eq_true rfl)) dX11_marginOf_35 ⟨Nat.zero_le _, Nat.zero_le _⟩) (fun r13 u H locs h hW => ?_)
  obtain ⟨f14, a15⟩ := u
  replace hW : hw D [(cI, .int)] q 12 (gM q cI f14 a15) A s H locs := hW
  refine lv_if_le (tgt := 73) C.1 C.2.1 dX11_marginOf_38 (by decide) (fun c16 => ?_) (fun c16 => ?_)
  · replace h := h.1 c16
    refine lv_lload C.1 C.2.1 dX11_marginOf_73 (lv_at hl 1 rfl) ?_
    refine lv_lload C.1 C.2.1 dX11_marginOf_75 (lv_at hl 2 rfl) ?_
    refine lv_lmul C.1 C.2.1 dX11_marginOf_77 ?_
    refine lv_lload C.1 C.2.1 dX11_marginOf_78 (lv_at hl 0 rfl) ?_
    refine lv_lload_n C.1 C.2.1 dX11_marginOf_80 rfl (lv_at hl 3 rfl) ?_
    refine lv_lmul C.1 C.2.1 dX11_marginOf_81 ?_
    refine lv_lsub C.1 C.2.1 dX11_marginOf_82 ?_
    exact t_l C hr hlk (u := (f14, a15)) hW.2.2.2.1 hW.B h dX11_marginOf_83
  · replace h := h.2 c16
    refine lv_lload C.1 C.2.1 dX11_marginOf_41 (lv_at hl 0 rfl) ?_
    refine lv_lload C.1 C.2.1 dX11_marginOf_43 (lv_at hl 1 rfl) ?_
    refine lv_lmul C.1 C.2.1 dX11_marginOf_45 ?_
    refine lv_lload C.1 C.2.1 dX11_marginOf_46 (lv_at hl 2 rfl) ?_
    refine lv_lmul C.1 C.2.1 dX11_marginOf_48 ?_
    refine lv_aload_n C.1 C.2.1 dX11_marginOf_49 rfl (lv_at hl 4 rfl) ?_
    refine lv_iload_n C.1 C.2.1 dX11_marginOf_50 rfl (lv_at hl 5 rfl) ?_
    refine lv_iconst (v := 4) C.1 C.2.1 dX11_marginOf_51 (by decide) ?_
    refine k_l hW (va_runV (As := [.int x1, .int (4 : Int32)]) (rest := [.long ((r10 * r7) * r4)]) C (mtX11_sumOf l D q cI H.size x1 (4 : Int32) f14 a15 _ h) (cwV 2 C.2.2.2.2 gX11_marginOf_X11_sumOf rfl rfl rfl (by decide +kernel) ⟨Nat.le_of_ble_eq_true rfl, Nat.le_of_ble_eq_true rfl⟩) ⟨mP_blind tX_B, va_recv hW.1 hW.2.1 (ci := 11) (q0 := 0) rfl (wL_get (by decide)), fun U hU hV => ⟨rfl, hW.pre hU hV trivial⟩⟩ rfl rfl hl.1 rfl (lv_room (Nat.le_of_ble_eq_true rfl)) dX11_marginOf_52 ⟨Nat.zero_le _, Nat.zero_le _⟩) (fun r17 u H locs h hW => ?_)
    obtain ⟨f18, a19⟩ := u
    replace hW : hw D [(cI, .int)] q 12 (gM q cI f18 a19) A s H locs := hW
    refine lv_lload C.1 C.2.1 dX11_marginOf_55 (lv_at hl 2 rfl) ?_
    refine lv_lmul C.1 C.2.1 dX11_marginOf_57 ?_
    refine lv_lload C.1 C.2.1 dX11_marginOf_58 (lv_at hl 2 rfl) ?_
    refine lv_lmul C.1 C.2.1 dX11_marginOf_60 ?_
    refine lv_lsub C.1 C.2.1 dX11_marginOf_61 ?_
    refine lv_lload C.1 C.2.1 dX11_marginOf_62 (lv_at hl 0 rfl) ?_
    refine lv_lload C.1 C.2.1 dX11_marginOf_64 (lv_at hl 0 rfl) ?_
    refine lv_lmul C.1 C.2.1 dX11_marginOf_66 ?_
    refine lv_lload_n C.1 C.2.1 dX11_marginOf_67 rfl (lv_at hl 3 rfl) ?_
    refine lv_lmul C.1 C.2.1 dX11_marginOf_68 ?_
    refine lv_lsub C.1 C.2.1 dX11_marginOf_69 ?_
    refine lv_goto (tgt := 83) C.1 C.2.1 dX11_marginOf_70 (by decide) ?_
    exact t_l C hr hlk (u := (f18, a19)) hW.2.2.2.1 hW.B h dX11_marginOf_83
set_option maxRecDepth 100000 in
set_option maxHeartbeats 4000000 in
theorem mtX11_marginOf (l : Launch) (D : va_G) (q : Nat → Nat) (cI : ClassId) (sz : Nat) (x1 : Int32) (f : Nat → Int32) (a : Nat → Nat → Int32) (Q : Int64 → (Nat → Int32) → (Nat → Nat → Int32) → Prop) (h : vX11_marginOf x1 f a Q) : Met l yX11_marginOf wsX11_marginOf rmX11_marginOf (va_Pc [.ref (q 0), .int x1] (mP D [(cI, .int)] q 12 (gM q cI f a) sz tX)) (QMl D q cI Q (aQ q 12 sz)) 0 0 (aQ q 12 sz) := by
  refine met_w (cc := cX11_marginOf) (maxL := 10) (ret := (some .long)) (by decide) rfl (Nat.le_of_ble_eq_true rfl) ?_
  intro p e s m below meth c ls C hr hlk hW hX hnm hl
  exact sX11_marginOf C hr hlk Q x1 f a _ _ _ h hW hl
theorem inX11_nearOf : ∀ w ∈ wsX110, w ∈ wsX11_nearOf := fun _ h => List.mem_cons_of_mem _ (List.mem_append_right _ h)
abbrev rmX11_nearOf : Room := { frames := 3, cells := 0, slots := 0, locals := 84 }
def vX11_nearOf_43 (K4 : Int32 → Int32 → Int32 → (Nat → Int32) → (Nat → Nat → Int32) → Prop) (Q : Int32 → (Nat → Int32) → (Nat → Nat → Int32) → Prop) (x1 : Int32) (x3 : Int32) (y0 : Int32) (f : Nat → Int32) (a : Nat → Nat → Int32) : Prop := ∀ x3_13 : Int32, x3_13 = x3 + (1 : Int32) → K4 x1 y0 x3_13 f a
def vX11_nearOf_42 (K4 : Int32 → Int32 → Int32 → (Nat → Int32) → (Nat → Nat → Int32) → Prop) (Q : Int32 → (Nat → Int32) → (Nat → Nat → Int32) → Prop) (x1 : Int32) (x3 : Int32) (f : Nat → Int32) (a : Nat → Nat → Int32) : Prop := vX11_nearOf_43 K4 Q x1 x3 (0 : Int32) f a
def vX11_nearOf_20 (K4 : Int32 → Int32 → Int32 → (Nat → Int32) → (Nat → Nat → Int32) → Prop) (Q : Int32 → (Nat → Int32) → (Nat → Nat → Int32) → Prop) (x1 : Int32) (x2 : Int32) (x3 : Int32) (y0 : Int32) (y1 : Int32) (f : Nat → Int32) (a : Nat → Nat → Int32) : Prop := (y0 ≤ y1 → vX11_marginOf x1 f a (fun r6 f7 a8 => (x2 = 0 → Q (0 : Int32) f7 a8) ∧ (¬ (x2 = 0) → ((0 : Int64) ≤ r6 → (r6 ≤ (0 : Int64) → Q (1 : Int32) f7 a8) ∧ (¬ (r6 ≤ (0 : Int64)) → Q (2 : Int32) f7 a8)) ∧ (¬ ((0 : Int64) ≤ r6) → Q (0 : Int32) f7 a8)))) ∧ (¬ (y0 ≤ y1) → (x2 = 0 → vX11_nearOf_42 K4 Q x1 x3 f a) ∧ (¬ (x2 = 0) → vX11_sumOf x1 x3 f a (fun r14 f15 a16 => (r14 ≤ (0 : Int64) → vX11_nearOf_42 K4 Q x1 x3 f15 a16) ∧ (¬ (r14 ≤ (0 : Int64)) → vX11_nearOf_43 K4 Q x1 x3 (1 : Int32) f15 a16))))
def vX11_nearOf_4 (Q : Int32 → (Nat → Int32) → (Nat → Nat → Int32) → Prop) : Nat → Int32 → Int32 → Int32 → (Nat → Int32) → (Nat → Nat → Int32) → Prop
  | 0, _, _, _, _, _ => False
  | fu+1, x1, x2, x3, f, a => vX11_of x1 (6 : Int32) f a (fun r1 f2 a3 => (r1 ≤ 0 → vX11_nearOf_20 (vX11_nearOf_4 Q fu) Q x1 x2 x3 (4 : Int32) x3 f2 a3) ∧ (¬ (r1 ≤ 0) → vX11_nearOf_20 (vX11_nearOf_4 Q fu) Q x1 x2 x3 (5 : Int32) x3 f2 a3))
def vX11_nearOf (x1 : Int32) (f : Nat → Int32) (a : Nat → Nat → Int32) (Q : Int32 → (Nat → Int32) → (Nat → Nat → Int32) → Prop) : Prop := ∃ n4, vX11_nearOf_4 Q n4 x1 (1 : Int32) (0 : Int32) f a
set_option maxRecDepth 100000 in
set_option maxHeartbeats 4000000 in
theorem sX11_nearOf_43 {p : Program} {l : Launch} {e : Env} {s : State} {m : MethodId} {args : Array Value} {below : List Frame} {meth : Method} {c : Code} {D : va_G} {q : Nat → Nat} {A : Nat → Prop} {cI : ClassId} (C : CallFix p m c cX11_nearOf 5 s args wsX11_nearOf RX11) (hr : meth.sig.returnType = (some .int)) (hlk : meth.locks = false) (Q : Int32 → (Nat → Int32) → (Nat → Nat → Int32) → Prop) (K4 : Int32 → Int32 → Int32 → (Nat → Int32) → (Nat → Nat → Int32) → Prop) (hK4 : ∀ (x1 : Int32) (x2 : Int32) (x3 : Int32) (f : Nat → Int32) (a : Nat → Nat → Int32) (H : Heap) (locs : List Loc) (ls : Array Slot), K4 x1 x2 x3 f a → hw D [(cI, .int)] q 12 (gM q cI f a) A s H locs → lv_has ls 5 [(0, .ref (q 0)), (1, .int x1), (2, .int x2), (3, .int x3)] → W p l e (headSpec wsX11_nearOf rmX11_nearOf).room s m args below meth c H locs 0 0 (MQ below (QMi D q cI Q A) args s 0 0 A) (F0 m 4 ls [])) : ∀ (x1 : Int32) (x3 : Int32) (y0 : Int32) (f : Nat → Int32) (a : Nat → Nat → Int32) (H : Heap) (locs : List Loc) (ls : Array Slot), vX11_nearOf_43 K4 Q x1 x3 y0 f a → hw D [(cI, .int)] q 12 (gM q cI f a) A s H locs → lv_has ls 5 [(0, .ref (q 0)), (1, .int x1), (3, .int x3)] → W p l e (headSpec wsX11_nearOf rmX11_nearOf).room s m args below meth c H locs 0 0 (MQ below (QMi D q cI Q A) args s 0 0 A) (F0 m 43 ls [.int y0]) := by
  intro x1 x3 y0 f a H locs ls h hW hl
  unfold vX11_nearOf_43 at h
  refine lv_istore_n (lv' := [(2, .int y0), (0, .ref (q 0)), (1, .int x1), (3, .int x3)]) C.1 C.2.1 dX11_nearOf_43 rfl hl (by decide) rfl (fun ls hl => ?_)
  obtain ⟨x3_13, ex3_13⟩ : ∃ z : Int32, z = x3 + (1 : Int32) := ⟨_, rfl⟩
  replace h := h x3_13 ex3_13
  refine lv_iinc (v := x3_13) (lv' := [(3, .int x3_13), (2, .int y0), (0, .ref (q 0)), (1, .int x1)]) C.1 C.2.1 dX11_nearOf_44 hl (k := 3) rfl (by rw [ex3_13]; rfl) (by decide) rfl (fun ls hl => ?_)
  refine lv_goto (tgt := 4) C.1 C.2.1 dX11_nearOf_47 (by decide) ?_
  exact hK4 x1 y0 x3_13 f a _ _ _ h hW (lv_sub hl [2, 3, 1, 0] rfl)
set_option maxRecDepth 100000 in
set_option maxHeartbeats 4000000 in
theorem sX11_nearOf_42 {p : Program} {l : Launch} {e : Env} {s : State} {m : MethodId} {args : Array Value} {below : List Frame} {meth : Method} {c : Code} {D : va_G} {q : Nat → Nat} {A : Nat → Prop} {cI : ClassId} (C : CallFix p m c cX11_nearOf 5 s args wsX11_nearOf RX11) (hr : meth.sig.returnType = (some .int)) (hlk : meth.locks = false) (Q : Int32 → (Nat → Int32) → (Nat → Nat → Int32) → Prop) (K4 : Int32 → Int32 → Int32 → (Nat → Int32) → (Nat → Nat → Int32) → Prop) (hK4 : ∀ (x1 : Int32) (x2 : Int32) (x3 : Int32) (f : Nat → Int32) (a : Nat → Nat → Int32) (H : Heap) (locs : List Loc) (ls : Array Slot), K4 x1 x2 x3 f a → hw D [(cI, .int)] q 12 (gM q cI f a) A s H locs → lv_has ls 5 [(0, .ref (q 0)), (1, .int x1), (2, .int x2), (3, .int x3)] → W p l e (headSpec wsX11_nearOf rmX11_nearOf).room s m args below meth c H locs 0 0 (MQ below (QMi D q cI Q A) args s 0 0 A) (F0 m 4 ls [])) : ∀ (x1 : Int32) (x3 : Int32) (f : Nat → Int32) (a : Nat → Nat → Int32) (H : Heap) (locs : List Loc) (ls : Array Slot), vX11_nearOf_42 K4 Q x1 x3 f a → hw D [(cI, .int)] q 12 (gM q cI f a) A s H locs → lv_has ls 5 [(0, .ref (q 0)), (1, .int x1), (3, .int x3)] → W p l e (headSpec wsX11_nearOf rmX11_nearOf).room s m args below meth c H locs 0 0 (MQ below (QMi D q cI Q A) args s 0 0 A) (F0 m 42 ls []) := by
  intro x1 x3 f a H locs ls h hW hl
  unfold vX11_nearOf_42 at h
  refine lv_iconst (v := 0) C.1 C.2.1 dX11_nearOf_42 (by decide) ?_
  exact sX11_nearOf_43 C hr hlk Q K4 hK4 x1 x3 (0 : Int32) f a _ _ _ h hW (lv_sub hl [0, 1, 2] rfl)
set_option maxRecDepth 100000 in
set_option maxHeartbeats 4000000 in
theorem sX11_nearOf_20 {p : Program} {l : Launch} {e : Env} {s : State} {m : MethodId} {args : Array Value} {below : List Frame} {meth : Method} {c : Code} {D : va_G} {q : Nat → Nat} {A : Nat → Prop} {cI : ClassId} (C : CallFix p m c cX11_nearOf 5 s args wsX11_nearOf RX11) (hr : meth.sig.returnType = (some .int)) (hlk : meth.locks = false) (Q : Int32 → (Nat → Int32) → (Nat → Nat → Int32) → Prop) (K4 : Int32 → Int32 → Int32 → (Nat → Int32) → (Nat → Nat → Int32) → Prop) (hK4 : ∀ (x1 : Int32) (x2 : Int32) (x3 : Int32) (f : Nat → Int32) (a : Nat → Nat → Int32) (H : Heap) (locs : List Loc) (ls : Array Slot), K4 x1 x2 x3 f a → hw D [(cI, .int)] q 12 (gM q cI f a) A s H locs → lv_has ls 5 [(0, .ref (q 0)), (1, .int x1), (2, .int x2), (3, .int x3)] → W p l e (headSpec wsX11_nearOf rmX11_nearOf).room s m args below meth c H locs 0 0 (MQ below (QMi D q cI Q A) args s 0 0 A) (F0 m 4 ls [])) : ∀ (x1 : Int32) (x2 : Int32) (x3 : Int32) (y0 : Int32) (y1 : Int32) (f : Nat → Int32) (a : Nat → Nat → Int32) (H : Heap) (locs : List Loc) (ls : Array Slot), vX11_nearOf_20 K4 Q x1 x2 x3 y0 y1 f a → hw D [(cI, .int)] q 12 (gM q cI f a) A s H locs → lv_has ls 5 [(0, .ref (q 0)), (1, .int x1), (2, .int x2), (3, .int x3)] → W p l e (headSpec wsX11_nearOf rmX11_nearOf).room s m args below meth c H locs 0 0 (MQ below (QMi D q cI Q A) args s 0 0 A) (F0 m 20 ls [.int y0, .int y1]) := by
  intro x1 x2 x3 y0 y1 f a H locs ls h hW hl
  unfold vX11_nearOf_20 at h
  refine lv_icmp_ge (tgt := 50) C.1 C.2.1 dX11_nearOf_20 (by decide) (fun c5 => ?_) (fun c5 => ?_)
  · replace h := h.1 c5
    refine lv_aload_n C.1 C.2.1 dX11_nearOf_50 rfl (lv_at hl 0 rfl) ?_
    refine lv_iload_n C.1 C.2.1 dX11_nearOf_51 rfl (lv_at hl 1 rfl) ?_
    refine k_l hW (va_runV (As := [.int x1]) (rest := []) C (mtX11_marginOf l D q cI H.size x1 f a _ h) (cwV 1 C.2.2.2.2 gX11_nearOf_X11_marginOf rfl rfl rfl (by decide +kernel) ⟨Nat.le_of_ble_eq_true rfl, Nat.le_of_ble_eq_true rfl⟩) ⟨mP_blind tX_B, va_recv hW.1 hW.2.1 (ci := 11) (q0 := 0) rfl (wL_get (by decide)), fun U hU hV => ⟨rfl, hW.pre hU hV trivial⟩⟩ rfl rfl hl.1 rfl (lv_room (Nat.le_of_ble_eq_true rfl)) dX11_nearOf_52 ⟨Nat.zero_le _, Nat.zero_le _⟩) (fun r6 u H locs h hW => ?_)
    obtain ⟨f7, a8⟩ := u
    replace hW : hw D [(cI, .int)] q 12 (gM q cI f7 a8) A s H locs := hW
    refine lv_lstore_n (lv' := [(3, .long r6), (0, .ref (q 0)), (1, .int x1), (2, .int x2)]) C.1 C.2.1 dX11_nearOf_55 rfl hl (by decide) rfl (fun ls hl => ?_)
    refine lv_iload_n C.1 C.2.1 dX11_nearOf_56 rfl (lv_at hl 3 rfl) ?_
    refine lv_if_eq (tgt := 66) C.1 C.2.1 dX11_nearOf_57 (by decide) (fun c9 => ?_) (fun c9 => ?_)
    · replace h := h.1 c9
      refine lv_iconst (v := 0) C.1 C.2.1 dX11_nearOf_66 (by decide) ?_
      refine lv_goto (tgt := 81) C.1 C.2.1 dX11_nearOf_67 (by decide) ?_
      exact t_i C hr hlk (u := (f7, a8)) hW.2.2.2.1 hW.B h dX11_nearOf_81
    · replace h := h.2 c9
      refine lv_lload_n C.1 C.2.1 dX11_nearOf_60 rfl (lv_at hl 0 rfl) ?_
      refine lv_lconst (v := 0) C.1 C.2.1 dX11_nearOf_61 (by decide) ?_
      refine W.lcmp C.1 C.2.1 dX11_nearOf_62 ?_
      refine lv_if_ge (tgt := 70) C.1 C.2.1 dX11_nearOf_63 (by decide) (fun c10 => ?_) (fun c10 => ?_)
      · replace h := h.1 (lc_ge.mp c10)
        refine lv_lload_n C.1 C.2.1 dX11_nearOf_70 rfl (lv_at hl 0 rfl) ?_
        refine lv_lconst (v := 0) C.1 C.2.1 dX11_nearOf_71 (by decide) ?_
        refine W.lcmp C.1 C.2.1 dX11_nearOf_72 ?_
        refine lv_if_le (tgt := 80) C.1 C.2.1 dX11_nearOf_73 (by decide) (fun c11 => ?_) (fun c11 => ?_)
        · replace h := h.1 (lc_le.mp c11)
          refine lv_iconst (v := 1) C.1 C.2.1 dX11_nearOf_80 (by decide) ?_
          exact t_i C hr hlk (u := (f7, a8)) hW.2.2.2.1 hW.B h dX11_nearOf_81
        · replace h := h.2 (fun z => c11 (lc_le.mpr z))
          refine lv_iconst (v := 2) C.1 C.2.1 dX11_nearOf_76 (by decide) ?_
          refine lv_goto (tgt := 81) C.1 C.2.1 dX11_nearOf_77 (by decide) ?_
          exact t_i C hr hlk (u := (f7, a8)) hW.2.2.2.1 hW.B h dX11_nearOf_81
      · replace h := h.2 (fun z => c10 (lc_ge.mpr z))
        refine lv_iconst (v := 0) C.1 C.2.1 dX11_nearOf_66 (by decide) ?_
        refine lv_goto (tgt := 81) C.1 C.2.1 dX11_nearOf_67 (by decide) ?_
        exact t_i C hr hlk (u := (f7, a8)) hW.2.2.2.1 hW.B h dX11_nearOf_81
  · replace h := h.2 c5
    refine lv_iload_n C.1 C.2.1 dX11_nearOf_23 rfl (lv_at hl 2 rfl) ?_
    refine lv_if_eq (tgt := 42) C.1 C.2.1 dX11_nearOf_24 (by decide) (fun c12 => ?_) (fun c12 => ?_)
    · replace h := h.1 c12
      exact sX11_nearOf_42 C hr hlk Q K4 hK4 x1 x3 f a _ _ _ h hW (lv_sub hl [0, 1, 3] rfl)
    · replace h := h.2 c12
      refine lv_aload_n C.1 C.2.1 dX11_nearOf_27 rfl (lv_at hl 0 rfl) ?_
      refine lv_iload_n C.1 C.2.1 dX11_nearOf_28 rfl (lv_at hl 1 rfl) ?_
      refine lv_iload_n C.1 C.2.1 dX11_nearOf_29 rfl (lv_at hl 3 rfl) ?_
      refine k_l hW (va_runV (As := [.int x1, .int x3]) (rest := []) C (mtX11_sumOf l D q cI H.size x1 x3 f a _ h) (cwV 2 C.2.2.2.2 gX11_nearOf_X11_sumOf rfl rfl rfl (by decide +kernel) ⟨Nat.le_of_ble_eq_true rfl, Nat.le_of_ble_eq_true rfl⟩) ⟨mP_blind tX_B, va_recv hW.1 hW.2.1 (ci := 11) (q0 := 0) rfl (wL_get (by decide)), fun U hU hV => ⟨rfl, hW.pre hU hV trivial⟩⟩ rfl rfl hl.1 rfl (lv_room (Nat.le_of_ble_eq_true rfl)) dX11_nearOf_30 ⟨Nat.zero_le _, Nat.zero_le _⟩) (fun r14 u H locs h hW => ?_)
      obtain ⟨f15, a16⟩ := u
      replace hW : hw D [(cI, .int)] q 12 (gM q cI f15 a16) A s H locs := hW
      refine lv_lconst (v := 0) C.1 C.2.1 dX11_nearOf_33 (by decide) ?_
      refine W.lcmp C.1 C.2.1 dX11_nearOf_34 ?_
      refine lv_if_le (tgt := 42) C.1 C.2.1 dX11_nearOf_35 (by decide) (fun c17 => ?_) (fun c17 => ?_)
      · replace h := h.1 (lc_le.mp c17)
        exact sX11_nearOf_42 C hr hlk Q K4 hK4 x1 x3 f15 a16 _ _ _ h hW (lv_sub hl [0, 1, 3] rfl)
      · replace h := h.2 (fun z => c17 (lc_le.mpr z))
        refine lv_iconst (v := 1) C.1 C.2.1 dX11_nearOf_38 (by decide) ?_
        refine lv_goto (tgt := 43) C.1 C.2.1 dX11_nearOf_39 (by decide) ?_
        exact sX11_nearOf_43 C hr hlk Q K4 hK4 x1 x3 (1 : Int32) f15 a16 _ _ _ h hW (lv_sub hl [0, 1, 3] rfl)
set_option maxRecDepth 100000 in
set_option maxHeartbeats 4000000 in
theorem sX11_nearOf_4 {p : Program} {l : Launch} {e : Env} {s : State} {m : MethodId} {args : Array Value} {below : List Frame} {meth : Method} {c : Code} {D : va_G} {q : Nat → Nat} {A : Nat → Prop} {cI : ClassId} (C : CallFix p m c cX11_nearOf 5 s args wsX11_nearOf RX11) (hr : meth.sig.returnType = (some .int)) (hlk : meth.locks = false) (Q : Int32 → (Nat → Int32) → (Nat → Nat → Int32) → Prop) : ∀ (fu : Nat) (x1 : Int32) (x2 : Int32) (x3 : Int32) (f : Nat → Int32) (a : Nat → Nat → Int32) (H : Heap) (locs : List Loc) (ls : Array Slot), vX11_nearOf_4 Q fu x1 x2 x3 f a → hw D [(cI, .int)] q 12 (gM q cI f a) A s H locs → lv_has ls 5 [(0, .ref (q 0)), (1, .int x1), (2, .int x2), (3, .int x3)] → W p l e (headSpec wsX11_nearOf rmX11_nearOf).room s m args below meth c H locs 0 0 (MQ below (QMi D q cI Q A) args s 0 0 A) (F0 m 4 ls []) := by
  intro fu
  induction fu with
  | zero =>
    intro x1 x2 x3 f a H locs ls h
    exact h.elim
  | succ fu ih =>
    intro x1 x2 x3 f a H locs ls h hW hl
    refine lv_iload_n C.1 C.2.1 dX11_nearOf_4 rfl (lv_at hl 3 rfl) ?_
    refine lv_aload_n C.1 C.2.1 dX11_nearOf_5 rfl (lv_at hl 0 rfl) ?_
    refine lv_iload_n C.1 C.2.1 dX11_nearOf_6 rfl (lv_at hl 1 rfl) ?_
    refine lv_bipush (v := 6) C.1 C.2.1 dX11_nearOf_7 (by decide) ?_
    refine k_i hW (va_runV (As := [.int x1, .int (6 : Int32)]) (rest := [.int x3]) C (mtX11_of l D q cI H.size x1 (6 : Int32) f a _ h) (cwV 2 C.2.2.2.2 gX11_nearOf_X11_of rfl rfl rfl (by decide +kernel) ⟨Nat.le_of_ble_eq_true rfl, Nat.le_of_ble_eq_true rfl⟩) ⟨mP_blind tX_B, va_recv hW.1 hW.2.1 (ci := 11) (q0 := 0) rfl (wL_get (by decide)), fun U hU hV => ⟨rfl, hW.pre hU hV trivial⟩⟩ rfl rfl hl.1 rfl (lv_room (Nat.le_of_ble_eq_true rfl)) dX11_nearOf_9 ⟨Nat.zero_le _, Nat.zero_le _⟩) (fun r1 u H locs h hW => ?_)
    obtain ⟨f2, a3⟩ := u
    replace hW : hw D [(cI, .int)] q 12 (gM q cI f2 a3) A s H locs := hW
    refine lv_if_le (tgt := 19) C.1 C.2.1 dX11_nearOf_12 (by decide) (fun c4 => ?_) (fun c4 => ?_)
    · replace h := h.1 c4
      refine lv_iconst (v := 4) C.1 C.2.1 dX11_nearOf_19 (by decide) ?_
      exact sX11_nearOf_20 C hr hlk Q _ ih x1 x2 x3 (4 : Int32) x3 f2 a3 _ _ _ h hW (lv_sub hl [0, 1, 2, 3] rfl)
    · replace h := h.2 c4
      refine lv_iconst (v := 5) C.1 C.2.1 dX11_nearOf_15 (by decide) ?_
      refine lv_goto (tgt := 20) C.1 C.2.1 dX11_nearOf_16 (by decide) ?_
      exact sX11_nearOf_20 C hr hlk Q _ ih x1 x2 x3 (5 : Int32) x3 f2 a3 _ _ _ h hW (lv_sub hl [0, 1, 2, 3] rfl)
set_option maxRecDepth 100000 in
set_option maxHeartbeats 4000000 in
theorem sX11_nearOf {p : Program} {l : Launch} {e : Env} {s : State} {m : MethodId} {args : Array Value} {below : List Frame} {meth : Method} {c : Code} {D : va_G} {q : Nat → Nat} {A : Nat → Prop} {cI : ClassId} (C : CallFix p m c cX11_nearOf 5 s args wsX11_nearOf RX11) (hr : meth.sig.returnType = (some .int)) (hlk : meth.locks = false) (Q : Int32 → (Nat → Int32) → (Nat → Nat → Int32) → Prop) : ∀ (x1 : Int32) (f : Nat → Int32) (a : Nat → Nat → Int32) (H : Heap) (locs : List Loc) (ls : Array Slot), vX11_nearOf x1 f a Q → hw D [(cI, .int)] q 12 (gM q cI f a) A s H locs → lv_has ls 5 [(0, .ref (q 0)), (1, .int x1)] → W p l e (headSpec wsX11_nearOf rmX11_nearOf).room s m args below meth c H locs 0 0 (MQ below (QMi D q cI Q A) args s 0 0 A) (F0 m 0 ls []) := by
  intro x1 f a H locs ls h hW hl
  unfold vX11_nearOf at h
  refine lv_iconst (v := 1) C.1 C.2.1 dX11_nearOf_0 (by decide) ?_
  refine lv_istore_n (lv' := [(2, .int (1 : Int32)), (0, .ref (q 0)), (1, .int x1)]) C.1 C.2.1 dX11_nearOf_1 rfl hl (by decide) rfl (fun ls hl => ?_)
  refine lv_iconst (v := 0) C.1 C.2.1 dX11_nearOf_2 (by decide) ?_
  refine lv_istore_n (lv' := [(3, .int (0 : Int32)), (2, .int (1 : Int32)), (0, .ref (q 0)), (1, .int x1)]) C.1 C.2.1 dX11_nearOf_3 rfl hl (by decide) rfl (fun ls hl => ?_)
  obtain ⟨n9, h⟩ := h
  exact sX11_nearOf_4 C hr hlk Q n9 x1 (1 : Int32) (0 : Int32) f a _ _ _ h hW (lv_sub hl [2, 3, 1, 0] rfl)
set_option maxRecDepth 100000 in
set_option maxHeartbeats 4000000 in
theorem mtX11_nearOf (l : Launch) (D : va_G) (q : Nat → Nat) (cI : ClassId) (sz : Nat) (x1 : Int32) (f : Nat → Int32) (a : Nat → Nat → Int32) (Q : Int32 → (Nat → Int32) → (Nat → Nat → Int32) → Prop) (h : vX11_nearOf x1 f a Q) : Met l yX11_nearOf wsX11_nearOf rmX11_nearOf (va_Pc [.ref (q 0), .int x1] (mP D [(cI, .int)] q 12 (gM q cI f a) sz tX)) (QMi D q cI Q (aQ q 12 sz)) 0 0 (aQ q 12 sz) := by
  refine met_w (cc := cX11_nearOf) (maxL := 5) (ret := (some .int)) (by decide) rfl (Nat.le_of_ble_eq_true rfl) ?_
  intro p e s m below meth c ls C hr hlk hW hX hnm hl
  exact sX11_nearOf C hr hlk Q x1 f a _ _ _ h hW hl
theorem inX11_row : ∀ w ∈ wsX110, w ∈ wsX11_row := fun _ h => List.mem_cons_of_mem _ (List.mem_append_right _ h)
abbrev rmX11_row : Room := { frames := 2, cells := 0, slots := 0, locals := 55 }
def vX11_row_20 (Q : Int64 → (Nat → Int32) → (Nat → Nat → Int32) → Prop) (f : Nat → Int32) (a : Nat → Nat → Int32) : Prop := vX11_lost  (fun r5 => Q r5 f a)
def vX11_row (x1 : Int32) (x2 : Int32) (f : Nat → Int32) (a : Nat → Nat → Int32) (Q : Int64 → (Nat → Int32) → (Nat → Nat → Int32) → Prop) : Prop := vX11_noMill x1 f a (fun r1 f2 a3 => (¬ r1 = 0 → vX11_row_20 Q f2 a3) ∧ (r1 = 0 → vX11_in x2.toInt64 (0 : Int64) (4 : Int64) (fun r6 => (¬ r6 = 0 → vX11_sumOf x1 x2 f2 a3 (fun r8 f9 a10 => Q r8 f9 a10)) ∧ (r6 = 0 → vX11_row_20 Q f2 a3))))
set_option maxRecDepth 100000 in
set_option maxHeartbeats 4000000 in
theorem sX11_row_20 {p : Program} {l : Launch} {e : Env} {s : State} {m : MethodId} {args : Array Value} {below : List Frame} {meth : Method} {c : Code} {D : va_G} {q : Nat → Nat} {A : Nat → Prop} {cI : ClassId} (C : CallFix p m c cX11_row 3 s args wsX11_row RX11) (hr : meth.sig.returnType = (some .long)) (hlk : meth.locks = false) (Q : Int64 → (Nat → Int32) → (Nat → Nat → Int32) → Prop) : ∀ (f : Nat → Int32) (a : Nat → Nat → Int32) (H : Heap) (locs : List Loc) (ls : Array Slot), vX11_row_20 Q f a → hw D [(cI, .int)] q 12 (gM q cI f a) A s H locs → lv_has ls 3 [] → W p l e (headSpec wsX11_row rmX11_row).room s m args below meth c H locs 0 0 (MQ below (QMl D q cI Q A) args s 0 0 A) (F0 m 20 ls []) := by
  intro f a H locs ls h hW hl
  unfold vX11_row_20 at h
  refine k_pl hW (va_runS (As := []) (rest := []) C (mtX11_lost l D q _ H.size  _ h) (va_cwS 0 C.2.2.2.2 gX11_row_X11_lost rfl rfl rfl (by decide +kernel) ⟨Nat.le_of_ble_eq_true rfl, Nat.le_of_ble_eq_true rfl⟩) ⟨mP_blind tX_B, fun U hU hV => ⟨rfl, hW.pre0 hU hV trivial⟩⟩ rfl rfl hl.1 rfl (lv_room (Nat.le_of_ble_eq_true rfl)) dX11_row_20 ⟨Nat.zero_le _, Nat.zero_le _⟩) (fun r5 H locs h hW => ?_)
  refine lv_goto (tgt := 32) C.1 C.2.1 dX11_row_23 (by decide) ?_
  exact t_l C hr hlk (u := (f, a)) hW.2.2.2.1 hW.B h dX11_row_32
set_option maxRecDepth 100000 in
set_option maxHeartbeats 4000000 in
theorem sX11_row {p : Program} {l : Launch} {e : Env} {s : State} {m : MethodId} {args : Array Value} {below : List Frame} {meth : Method} {c : Code} {D : va_G} {q : Nat → Nat} {A : Nat → Prop} {cI : ClassId} (C : CallFix p m c cX11_row 3 s args wsX11_row RX11) (hr : meth.sig.returnType = (some .long)) (hlk : meth.locks = false) (Q : Int64 → (Nat → Int32) → (Nat → Nat → Int32) → Prop) : ∀ (x1 : Int32) (x2 : Int32) (f : Nat → Int32) (a : Nat → Nat → Int32) (H : Heap) (locs : List Loc) (ls : Array Slot), vX11_row x1 x2 f a Q → hw D [(cI, .int)] q 12 (gM q cI f a) A s H locs → lv_has ls 3 [(0, .ref (q 0)), (1, .int x1), (2, .int x2)] → W p l e (headSpec wsX11_row rmX11_row).room s m args below meth c H locs 0 0 (MQ below (QMl D q cI Q A) args s 0 0 A) (F0 m 0 ls []) := by
  intro x1 x2 f a H locs ls h hW hl
  unfold vX11_row at h
  refine lv_aload_n C.1 C.2.1 dX11_row_0 rfl (lv_at hl 0 rfl) ?_
  refine lv_iload_n C.1 C.2.1 dX11_row_1 rfl (lv_at hl 1 rfl) ?_
  refine k_i hW (va_runV (As := [.int x1]) (rest := []) C (mtX11_noMill l D q cI H.size x1 f a _ h) (cwV 1 C.2.2.2.2 gX11_row_X11_noMill rfl rfl rfl (by decide +kernel) ⟨Nat.le_of_ble_eq_true rfl, Nat.le_of_ble_eq_true rfl⟩) ⟨mP_blind tX_B, va_recv hW.1 hW.2.1 (ci := 11) (q0 := 0) rfl (wL_get (by decide)), fun U hU hV => ⟨rfl, hW.pre hU hV trivial⟩⟩ rfl rfl hl.1 rfl (lv_room (Nat.le_of_ble_eq_true rfl)) dX11_row_2 ⟨Nat.zero_le _, Nat.zero_le _⟩) (fun r1 u H locs h hW => ?_)
  obtain ⟨f2, a3⟩ := u
  replace hW : hw D [(cI, .int)] q 12 (gM q cI f2 a3) A s H locs := hW
  refine lv_if_ne (tgt := 20) C.1 C.2.1 dX11_row_5 (by decide) (fun c4 => ?_) (fun c4 => ?_)
  · replace h := h.1 c4
    exact sX11_row_20 C hr hlk Q f2 a3 _ _ _ h hW (lv_sub hl [] rfl)
  · replace h := h.2 c4
    refine lv_iload_n C.1 C.2.1 dX11_row_8 rfl (lv_at hl 2 rfl) ?_
    refine lv_i2l C.1 C.2.1 dX11_row_9 rfl ?_
    refine lv_lconst (v := 0) C.1 C.2.1 dX11_row_10 (by decide) ?_
    refine lv_ldc2 (v := (4)) C.1 C.2.1 C.2.2.2.1 (C.2.2.2.2 (.constantLong RX11 123 (4)) (by decide +kernel)) dX11_row_11 ?_
    refine k_pi hW (va_runS (As := [.long x2.toInt64, .long (0 : Int64), .long (4 : Int64)]) (rest := []) C (mtX11_in l D q _ H.size x2.toInt64 (0 : Int64) (4 : Int64) _ h) (va_cwS 3 C.2.2.2.2 gX11_row_X11_in rfl rfl rfl (by decide +kernel) ⟨Nat.le_of_ble_eq_true rfl, Nat.le_of_ble_eq_true rfl⟩) ⟨mP_blind tX_B, fun U hU hV => ⟨rfl, hW.pre0 hU hV trivial⟩⟩ rfl rfl hl.1 rfl (lv_room (Nat.le_of_ble_eq_true rfl)) dX11_row_14 ⟨Nat.zero_le _, Nat.zero_le _⟩) (fun r6 H locs h hW => ?_)
    refine lv_if_ne (tgt := 26) C.1 C.2.1 dX11_row_17 (by decide) (fun c7 => ?_) (fun c7 => ?_)
    · replace h := h.1 c7
      refine lv_aload_n C.1 C.2.1 dX11_row_26 rfl (lv_at hl 0 rfl) ?_
      refine lv_iload_n C.1 C.2.1 dX11_row_27 rfl (lv_at hl 1 rfl) ?_
      refine lv_iload_n C.1 C.2.1 dX11_row_28 rfl (lv_at hl 2 rfl) ?_
      refine k_l hW (va_runV (As := [.int x1, .int x2]) (rest := []) C (mtX11_sumOf l D q cI H.size x1 x2 f2 a3 _ h) (cwV 2 C.2.2.2.2 gX11_row_X11_sumOf rfl rfl rfl (by decide +kernel) ⟨Nat.le_of_ble_eq_true rfl, Nat.le_of_ble_eq_true rfl⟩) ⟨mP_blind tX_B, va_recv hW.1 hW.2.1 (ci := 11) (q0 := 0) rfl (wL_get (by decide)), fun U hU hV => ⟨rfl, hW.pre hU hV trivial⟩⟩ rfl rfl hl.1 rfl (lv_room (Nat.le_of_ble_eq_true rfl)) dX11_row_29 ⟨Nat.zero_le _, Nat.zero_le _⟩) (fun r8 u H locs h hW => ?_)
      obtain ⟨f9, a10⟩ := u
      replace hW : hw D [(cI, .int)] q 12 (gM q cI f9 a10) A s H locs := hW
      exact t_l C hr hlk (u := (f9, a10)) hW.2.2.2.1 hW.B h dX11_row_32
    · replace h := h.2 c7
      exact sX11_row_20 C hr hlk Q f2 a3 _ _ _ h hW (lv_sub hl [] rfl)
set_option maxRecDepth 100000 in
set_option maxHeartbeats 4000000 in
theorem mtX11_row (l : Launch) (D : va_G) (q : Nat → Nat) (cI : ClassId) (sz : Nat) (x1 : Int32) (x2 : Int32) (f : Nat → Int32) (a : Nat → Nat → Int32) (Q : Int64 → (Nat → Int32) → (Nat → Nat → Int32) → Prop) (h : vX11_row x1 x2 f a Q) : Met l yX11_row wsX11_row rmX11_row (va_Pc [.ref (q 0), .int x1, .int x2] (mP D [(cI, .int)] q 12 (gM q cI f a) sz tX)) (QMl D q cI Q (aQ q 12 sz)) 0 0 (aQ q 12 sz) := by
  refine met_w (cc := cX11_row) (maxL := 3) (ret := (some .long)) (by decide) rfl (Nat.le_of_ble_eq_true rfl) ?_
  intro p e s m below meth c ls C hr hlk hW hX hnm hl
  exact sX11_row C hr hlk Q x1 x2 f a _ _ _ h hW hl
theorem inX11_margin : ∀ w ∈ wsX110, w ∈ wsX11_margin := fun _ h => List.mem_cons_of_mem _ (List.mem_append_right _ h)
abbrev rmX11_margin : Room := { frames := 3, cells := 0, slots := 0, locals := 84 }
def vX11_margin (x1 : Int32) (f : Nat → Int32) (a : Nat → Nat → Int32) (Q : Int64 → (Nat → Int32) → (Nat → Nat → Int32) → Prop) : Prop := vX11_noMill x1 f a (fun r1 f2 a3 => (r1 = 0 → vX11_marginOf x1 f2 a3 (fun r5 f6 a7 => Q r5 f6 a7)) ∧ (¬ (r1 = 0) → vX11_lost  (fun r8 => Q r8 f2 a3)))
set_option maxRecDepth 100000 in
set_option maxHeartbeats 4000000 in
theorem sX11_margin {p : Program} {l : Launch} {e : Env} {s : State} {m : MethodId} {args : Array Value} {below : List Frame} {meth : Method} {c : Code} {D : va_G} {q : Nat → Nat} {A : Nat → Prop} {cI : ClassId} (C : CallFix p m c cX11_margin 2 s args wsX11_margin RX11) (hr : meth.sig.returnType = (some .long)) (hlk : meth.locks = false) (Q : Int64 → (Nat → Int32) → (Nat → Nat → Int32) → Prop) : ∀ (x1 : Int32) (f : Nat → Int32) (a : Nat → Nat → Int32) (H : Heap) (locs : List Loc) (ls : Array Slot), vX11_margin x1 f a Q → hw D [(cI, .int)] q 12 (gM q cI f a) A s H locs → lv_has ls 2 [(0, .ref (q 0)), (1, .int x1)] → W p l e (headSpec wsX11_margin rmX11_margin).room s m args below meth c H locs 0 0 (MQ below (QMl D q cI Q A) args s 0 0 A) (F0 m 0 ls []) := by
  intro x1 f a H locs ls h hW hl
  unfold vX11_margin at h
  refine lv_aload_n C.1 C.2.1 dX11_margin_0 rfl (lv_at hl 0 rfl) ?_
  refine lv_iload_n C.1 C.2.1 dX11_margin_1 rfl (lv_at hl 1 rfl) ?_
  refine k_i hW (va_runV (As := [.int x1]) (rest := []) C (mtX11_noMill l D q cI H.size x1 f a _ h) (cwV 1 C.2.2.2.2 gX11_margin_X11_noMill rfl rfl rfl (by decide +kernel) ⟨Nat.le_of_ble_eq_true rfl, Nat.le_of_ble_eq_true rfl⟩) ⟨mP_blind tX_B, va_recv hW.1 hW.2.1 (ci := 11) (q0 := 0) rfl (wL_get (by decide)), fun U hU hV => ⟨rfl, hW.pre hU hV trivial⟩⟩ rfl rfl hl.1 rfl (lv_room (Nat.le_of_ble_eq_true rfl)) dX11_margin_2 ⟨Nat.zero_le _, Nat.zero_le _⟩) (fun r1 u H locs h hW => ?_)
  obtain ⟨f2, a3⟩ := u
  replace hW : hw D [(cI, .int)] q 12 (gM q cI f2 a3) A s H locs := hW
  refine lv_if_eq (tgt := 14) C.1 C.2.1 dX11_margin_5 (by decide) (fun c4 => ?_) (fun c4 => ?_)
  · replace h := h.1 c4
    refine lv_aload_n C.1 C.2.1 dX11_margin_14 rfl (lv_at hl 0 rfl) ?_
    refine lv_iload_n C.1 C.2.1 dX11_margin_15 rfl (lv_at hl 1 rfl) ?_
    refine k_l hW (va_runV (As := [.int x1]) (rest := []) C (mtX11_marginOf l D q cI H.size x1 f2 a3 _ h) (cwV 1 C.2.2.2.2 gX11_margin_X11_marginOf rfl rfl rfl (by decide +kernel) ⟨Nat.le_of_ble_eq_true rfl, Nat.le_of_ble_eq_true rfl⟩) ⟨mP_blind tX_B, va_recv hW.1 hW.2.1 (ci := 11) (q0 := 0) rfl (wL_get (by decide)), fun U hU hV => ⟨rfl, hW.pre hU hV trivial⟩⟩ rfl rfl hl.1 rfl (lv_room (Nat.le_of_ble_eq_true rfl)) dX11_margin_16 ⟨Nat.zero_le _, Nat.zero_le _⟩) (fun r5 u H locs h hW => ?_)
    obtain ⟨f6, a7⟩ := u
    replace hW : hw D [(cI, .int)] q 12 (gM q cI f6 a7) A s H locs := hW
    exact t_l C hr hlk (u := (f6, a7)) hW.2.2.2.1 hW.B h dX11_margin_19
  · replace h := h.2 c4
    refine k_pl hW (va_runS (As := []) (rest := []) C (mtX11_lost l D q _ H.size  _ h) (va_cwS 0 C.2.2.2.2 gX11_margin_X11_lost rfl rfl rfl (by decide +kernel) ⟨Nat.le_of_ble_eq_true rfl, Nat.le_of_ble_eq_true rfl⟩) ⟨mP_blind tX_B, fun U hU hV => ⟨rfl, hW.pre0 hU hV trivial⟩⟩ rfl rfl hl.1 rfl (lv_room (Nat.le_of_ble_eq_true rfl)) dX11_margin_8 ⟨Nat.zero_le _, Nat.zero_le _⟩) (fun r8 H locs h hW => ?_)
    refine lv_goto (tgt := 19) C.1 C.2.1 dX11_margin_11 (by decide) ?_
    exact t_l C hr hlk (u := (f2, a3)) hW.2.2.2.1 hW.B h dX11_margin_19
set_option maxRecDepth 100000 in
set_option maxHeartbeats 4000000 in
theorem mtX11_margin (l : Launch) (D : va_G) (q : Nat → Nat) (cI : ClassId) (sz : Nat) (x1 : Int32) (f : Nat → Int32) (a : Nat → Nat → Int32) (Q : Int64 → (Nat → Int32) → (Nat → Nat → Int32) → Prop) (h : vX11_margin x1 f a Q) : Met l yX11_margin wsX11_margin rmX11_margin (va_Pc [.ref (q 0), .int x1] (mP D [(cI, .int)] q 12 (gM q cI f a) sz tX)) (QMl D q cI Q (aQ q 12 sz)) 0 0 (aQ q 12 sz) := by
  refine met_w (cc := cX11_margin) (maxL := 2) (ret := (some .long)) (by decide) rfl (Nat.le_of_ble_eq_true rfl) ?_
  intro p e s m below meth c ls C hr hlk hW hX hnm hl
  exact sX11_margin C hr hlk Q x1 f a _ _ _ h hW hl
theorem inX11_near : ∀ w ∈ wsX110, w ∈ wsX11_near := fun _ h => List.mem_cons_of_mem _ (List.mem_append_right _ h)
abbrev rmX11_near : Room := { frames := 4, cells := 0, slots := 0, locals := 108 }
def vX11_near (x1 : Int32) (f : Nat → Int32) (a : Nat → Nat → Int32) (Q : Int32 → (Nat → Int32) → (Nat → Nat → Int32) → Prop) : Prop := vX11_noMill x1 f a (fun r1 f2 a3 => (r1 = 0 → vX11_nearOf x1 f2 a3 (fun r5 f6 a7 => Q r5 f6 a7)) ∧ (¬ (r1 = 0) → Q (-1 : Int32) f2 a3))
set_option maxRecDepth 100000 in
set_option maxHeartbeats 4000000 in
theorem sX11_near {p : Program} {l : Launch} {e : Env} {s : State} {m : MethodId} {args : Array Value} {below : List Frame} {meth : Method} {c : Code} {D : va_G} {q : Nat → Nat} {A : Nat → Prop} {cI : ClassId} (C : CallFix p m c cX11_near 2 s args wsX11_near RX11) (hr : meth.sig.returnType = (some .int)) (hlk : meth.locks = false) (Q : Int32 → (Nat → Int32) → (Nat → Nat → Int32) → Prop) : ∀ (x1 : Int32) (f : Nat → Int32) (a : Nat → Nat → Int32) (H : Heap) (locs : List Loc) (ls : Array Slot), vX11_near x1 f a Q → hw D [(cI, .int)] q 12 (gM q cI f a) A s H locs → lv_has ls 2 [(0, .ref (q 0)), (1, .int x1)] → W p l e (headSpec wsX11_near rmX11_near).room s m args below meth c H locs 0 0 (MQ below (QMi D q cI Q A) args s 0 0 A) (F0 m 0 ls []) := by
  intro x1 f a H locs ls h hW hl
  unfold vX11_near at h
  refine lv_aload_n C.1 C.2.1 dX11_near_0 rfl (lv_at hl 0 rfl) ?_
  refine lv_iload_n C.1 C.2.1 dX11_near_1 rfl (lv_at hl 1 rfl) ?_
  refine k_i hW (va_runV (As := [.int x1]) (rest := []) C (mtX11_noMill l D q cI H.size x1 f a _ h) (cwV 1 C.2.2.2.2 gX11_near_X11_noMill rfl rfl rfl (by decide +kernel) ⟨Nat.le_of_ble_eq_true rfl, Nat.le_of_ble_eq_true rfl⟩) ⟨mP_blind tX_B, va_recv hW.1 hW.2.1 (ci := 11) (q0 := 0) rfl (wL_get (by decide)), fun U hU hV => ⟨rfl, hW.pre hU hV trivial⟩⟩ rfl rfl hl.1 rfl (lv_room (Nat.le_of_ble_eq_true rfl)) dX11_near_2 ⟨Nat.zero_le _, Nat.zero_le _⟩) (fun r1 u H locs h hW => ?_)
  obtain ⟨f2, a3⟩ := u
  replace hW : hw D [(cI, .int)] q 12 (gM q cI f2 a3) A s H locs := hW
  refine lv_if_eq (tgt := 12) C.1 C.2.1 dX11_near_5 (by decide) (fun c4 => ?_) (fun c4 => ?_)
  · replace h := h.1 c4
    refine lv_aload_n C.1 C.2.1 dX11_near_12 rfl (lv_at hl 0 rfl) ?_
    refine lv_iload_n C.1 C.2.1 dX11_near_13 rfl (lv_at hl 1 rfl) ?_
    refine k_i hW (va_runV (As := [.int x1]) (rest := []) C (mtX11_nearOf l D q cI H.size x1 f2 a3 _ h) (cwV 1 C.2.2.2.2 gX11_near_X11_nearOf rfl rfl rfl (by decide +kernel) ⟨Nat.le_of_ble_eq_true rfl, Nat.le_of_ble_eq_true rfl⟩) ⟨mP_blind tX_B, va_recv hW.1 hW.2.1 (ci := 11) (q0 := 0) rfl (wL_get (by decide)), fun U hU hV => ⟨rfl, hW.pre hU hV trivial⟩⟩ rfl rfl hl.1 rfl (lv_room (Nat.le_of_ble_eq_true rfl)) dX11_near_14 ⟨Nat.zero_le _, Nat.zero_le _⟩) (fun r5 u H locs h hW => ?_)
    obtain ⟨f6, a7⟩ := u
    replace hW : hw D [(cI, .int)] q 12 (gM q cI f6 a7) A s H locs := hW
    exact t_i C hr hlk (u := (f6, a7)) hW.2.2.2.1 hW.B h dX11_near_17
  · replace h := h.2 c4
    refine lv_iconst (v := -1) C.1 C.2.1 dX11_near_8 (by decide) ?_
    refine lv_goto (tgt := 17) C.1 C.2.1 dX11_near_9 (by decide) ?_
    exact t_i C hr hlk (u := (f2, a3)) hW.2.2.2.1 hW.B h dX11_near_17
set_option maxRecDepth 100000 in
set_option maxHeartbeats 4000000 in
theorem mtX11_near (l : Launch) (D : va_G) (q : Nat → Nat) (cI : ClassId) (sz : Nat) (x1 : Int32) (f : Nat → Int32) (a : Nat → Nat → Int32) (Q : Int32 → (Nat → Int32) → (Nat → Nat → Int32) → Prop) (h : vX11_near x1 f a Q) : Met l yX11_near wsX11_near rmX11_near (va_Pc [.ref (q 0), .int x1] (mP D [(cI, .int)] q 12 (gM q cI f a) sz tX)) (QMi D q cI Q (aQ q 12 sz)) 0 0 (aQ q 12 sz) := by
  refine met_w (cc := cX11_near) (maxL := 2) (ret := (some .int)) (by decide) rfl (Nat.le_of_ble_eq_true rfl) ?_
  intro p e s m below meth c ls C hr hlk hW hX hnm hl
  exact sX11_near C hr hlk Q x1 f a _ _ _ h hW hl
theorem inX11_line : ∀ w ∈ wsX110, w ∈ wsX11_line := fun _ h => List.mem_cons_of_mem _ (List.mem_append_right _ h)
abbrev rmX11_line : Room := { frames := 4, cells := 0, slots := 0, locals := 108 }
def vX11_line_146 (K62 : Int32 → Int32 → Int32 → Int32 → Int32 → Int32 → Int32 → Int32 → (Nat → Int32) → (Nat → Nat → Int32) → Prop) (Q : Int32 → (Nat → Int32) → (Nat → Nat → Int32) → Prop) (x1 : Int32) (x2 : Int32) (x3 : Int32) (x4 : Int32) (x5 : Int32) (x6 : Int32) (x8 : Int32) (y0 : Int32) (f : Nat → Int32) (a : Nat → Nat → Int32) : Prop := ∀ x8_29 : Int32, x8_29 = x8 + (1 : Int32) → K62 x1 x2 x3 x4 x5 x6 y0 x8_29 f a
def vX11_line_132 (K62 : Int32 → Int32 → Int32 → Int32 → Int32 → Int32 → Int32 → Int32 → (Nat → Int32) → (Nat → Nat → Int32) → Prop) (Q : Int32 → (Nat → Int32) → (Nat → Nat → Int32) → Prop) (x1 : Int32) (x2 : Int32) (x3 : Int32) (x4 : Int32) (x5 : Int32) (x7 : Int32) (x8 : Int32) (x9 : Int32) (y0 : Int32) (f : Nat → Int32) (a : Nat → Nat → Int32) : Prop := (x9 = 0 → vX11_line_146 K62 Q x1 x2 x3 x4 x5 y0 x8 x7 f a) ∧ (¬ (x9 = 0) → vX11_line_146 K62 Q x1 x2 x3 x4 x5 y0 x8 x8 f a)
def vX11_line_130 (K62 : Int32 → Int32 → Int32 → Int32 → Int32 → Int32 → Int32 → Int32 → (Nat → Int32) → (Nat → Nat → Int32) → Prop) (Q : Int32 → (Nat → Int32) → (Nat → Nat → Int32) → Prop) (x1 : Int32) (x2 : Int32) (x3 : Int32) (x4 : Int32) (x5 : Int32) (x6 : Int32) (x7 : Int32) (x8 : Int32) (x9 : Int32) (f : Nat → Int32) (a : Nat → Nat → Int32) : Prop := vX11_line_132 K62 Q x1 x2 x3 x4 x5 x7 x8 x9 x6 f a
def vX11_line_112 (K62 : Int32 → Int32 → Int32 → Int32 → Int32 → Int32 → Int32 → Int32 → (Nat → Int32) → (Nat → Nat → Int32) → Prop) (Q : Int32 → (Nat → Int32) → (Nat → Nat → Int32) → Prop) (x1 : Int32) (x2 : Int32) (x3 : Int32) (x4 : Int32) (x6 : Int32) (x7 : Int32) (x8 : Int32) (x9 : Int32) (y0 : Int32) (y1 : Int32) (f : Nat → Int32) (a : Nat → Nat → Int32) : Prop := ∀ x5_26 : Int32, x5_26 = y1 + y0 → (x9 = 0 → vX11_line_130 K62 Q x1 x2 x3 x4 x5_26 x6 x7 x8 x9 f a) ∧ (¬ (x9 = 0) → (0 ≤ x6 → vX11_line_130 K62 Q x1 x2 x3 x4 x5_26 x6 x7 x8 x9 f a) ∧ (¬ (0 ≤ x6) → vX11_line_132 K62 Q x1 x2 x3 x4 x5_26 x7 x8 x9 x8 f a))
def vX11_line_98 (K62 : Int32 → Int32 → Int32 → Int32 → Int32 → Int32 → Int32 → Int32 → (Nat → Int32) → (Nat → Nat → Int32) → Prop) (Q : Int32 → (Nat → Int32) → (Nat → Nat → Int32) → Prop) (x1 : Int32) (x2 : Int32) (x3 : Int32) (x4 : Int32) (x5 : Int32) (x6 : Int32) (x7 : Int32) (x8 : Int32) (y0 : Int32) (f : Nat → Int32) (a : Nat → Nat → Int32) : Prop := (y0 = 0 → vX11_line_112 K62 Q x1 x2 x3 x4 x6 x7 x8 y0 (0 : Int32) x5 f a) ∧ (¬ (y0 = 0) → vX11_line_112 K62 Q x1 x2 x3 x4 x6 x7 x8 y0 (1 : Int32) x5 f a)
def vX11_line_62 (Q : Int32 → (Nat → Int32) → (Nat → Nat → Int32) → Prop) : Nat → Int32 → Int32 → Int32 → Int32 → Int32 → Int32 → Int32 → Int32 → (Nat → Int32) → (Nat → Nat → Int32) → Prop
  | 0, _, _, _, _, _, _, _, _, _, _ => False
  | fu+1, x1, x2, x3, x4, x5, x6, x7, x8, f, a => vX11_greatestOf x2 (fun r13 => (r13 < x8 → vp_in (((9 : Int32) * x1) + x2) 72 ∧ (∀ a16 : Nat → Nat → Int32, a16 = va_up a 2 (upd (a 2) (((9 : Int32) * x1) + x2).toNatClampNeg x4) → (¬ x3 = 0 → (¬ x3 = (1 : Int32) → Q x5 f a16) ∧ (x3 = (1 : Int32) → Q x7 f a16)) ∧ (x3 = 0 → Q x6 f a16))) ∧ (¬ (r13 < x8) → vp_in (((9 : Int32) * x1) + x2) 72 ∧ (∀ a20 : Nat → Nat → Int32, a20 = va_up a 2 (upd (a 2) (((9 : Int32) * x1) + x2).toNatClampNeg x8) → vX11_nearOf x1 f a20 (fun r21 f22 a23 => (¬ r21 = (2 : Int32) → vX11_line_98 (vX11_line_62 Q fu) Q x1 x2 x3 x4 x5 x6 x7 x8 (0 : Int32) f22 a23) ∧ (r21 = (2 : Int32) → vX11_line_98 (vX11_line_62 Q fu) Q x1 x2 x3 x4 x5 x6 x7 x8 (1 : Int32) f22 a23)))))
def vX11_line (x1 : Int32) (x2 : Int32) (x3 : Int32) (f : Nat → Int32) (a : Nat → Nat → Int32) (Q : Int32 → (Nat → Int32) → (Nat → Nat → Int32) → Prop) : Prop := vX11_noMill x1 f a (fun r1 f2 a3 => (¬ r1 = 0 → Q (-1 : Int32) f2 a3) ∧ (r1 = 0 → vX11_in x2.toInt64 (0 : Int64) (6 : Int64) (fun r5 => (¬ r5 = 0 → vX11_in x3.toInt64 (0 : Int64) (2 : Int64) (fun r7 => (¬ r7 = 0 → vX11_of x1 x2 f2 a3 (fun r9 f10 a11 => vX11_leastOf x2 (fun r12 => ∃ n62, vX11_line_62 Q n62 x1 x2 x3 r9 (0 : Int32) (-9 : Int32) (-9 : Int32) r12 f10 a11))) ∧ (r7 = 0 → Q (-2 : Int32) f2 a3))) ∧ (r5 = 0 → Q (-1 : Int32) f2 a3))))
set_option maxRecDepth 100000 in
set_option maxHeartbeats 4000000 in
theorem sX11_line_146 {p : Program} {l : Launch} {e : Env} {s : State} {m : MethodId} {args : Array Value} {below : List Frame} {meth : Method} {c : Code} {D : va_G} {q : Nat → Nat} {A : Nat → Prop} {cI : ClassId} (C : CallFix p m c cX11_line 10 s args wsX11_line RX11) (hr : meth.sig.returnType = (some .int)) (hlk : meth.locks = false) (Q : Int32 → (Nat → Int32) → (Nat → Nat → Int32) → Prop) (K62 : Int32 → Int32 → Int32 → Int32 → Int32 → Int32 → Int32 → Int32 → (Nat → Int32) → (Nat → Nat → Int32) → Prop) (hK62 : ∀ (x1 : Int32) (x2 : Int32) (x3 : Int32) (x4 : Int32) (x5 : Int32) (x6 : Int32) (x7 : Int32) (x8 : Int32) (f : Nat → Int32) (a : Nat → Nat → Int32) (H : Heap) (locs : List Loc) (ls : Array Slot), K62 x1 x2 x3 x4 x5 x6 x7 x8 f a → hw D [(cI, .int)] q 12 (gM q cI f a) A s H locs → lv_has ls 10 [(0, .ref (q 0)), (1, .int x1), (2, .int x2), (3, .int x3), (4, .int x4), (5, .int x5), (6, .int x6), (7, .int x7), (8, .int x8)] → W p l e (headSpec wsX11_line rmX11_line).room s m args below meth c H locs 0 0 (MQ below (QMi D q cI Q A) args s 0 0 A) (F0 m 62 ls [])) : ∀ (x1 : Int32) (x2 : Int32) (x3 : Int32) (x4 : Int32) (x5 : Int32) (x6 : Int32) (x8 : Int32) (y0 : Int32) (f : Nat → Int32) (a : Nat → Nat → Int32) (H : Heap) (locs : List Loc) (ls : Array Slot), vX11_line_146 K62 Q x1 x2 x3 x4 x5 x6 x8 y0 f a → hw D [(cI, .int)] q 12 (gM q cI f a) A s H locs → lv_has ls 10 [(0, .ref (q 0)), (1, .int x1), (2, .int x2), (3, .int x3), (4, .int x4), (5, .int x5), (6, .int x6), (8, .int x8)] → W p l e (headSpec wsX11_line rmX11_line).room s m args below meth c H locs 0 0 (MQ below (QMi D q cI Q A) args s 0 0 A) (F0 m 146 ls [.int y0]) := by
  intro x1 x2 x3 x4 x5 x6 x8 y0 f a H locs ls h hW hl
  unfold vX11_line_146 at h
  refine lv_istore (lv' := [(7, .int y0), (0, .ref (q 0)), (1, .int x1), (2, .int x2), (3, .int x3), (4, .int x4), (5, .int x5), (6, .int x6), (8, .int x8)]) C.1 C.2.1 dX11_line_146 hl (by decide) rfl (fun ls hl => ?_)
  obtain ⟨x8_29, ex8_29⟩ : ∃ z : Int32, z = x8 + (1 : Int32) := ⟨_, rfl⟩
  replace h := h x8_29 ex8_29
  refine lv_iinc (v := x8_29) (lv' := [(8, .int x8_29), (7, .int y0), (0, .ref (q 0)), (1, .int x1), (2, .int x2), (3, .int x3), (4, .int x4), (5, .int x5), (6, .int x6)]) C.1 C.2.1 dX11_line_148 hl (k := 8) rfl (by rw [ex8_29]; rfl) (by decide) rfl (fun ls hl => ?_)
  refine lv_goto (tgt := 62) C.1 C.2.1 dX11_line_151 (by decide) ?_
  exact hK62 x1 x2 x3 x4 x5 x6 y0 x8_29 f a _ _ _ h hW (lv_sub hl [2, 3, 4, 5, 6, 7, 8, 1, 0] rfl)
set_option maxRecDepth 100000 in
set_option maxHeartbeats 4000000 in
theorem sX11_line_132 {p : Program} {l : Launch} {e : Env} {s : State} {m : MethodId} {args : Array Value} {below : List Frame} {meth : Method} {c : Code} {D : va_G} {q : Nat → Nat} {A : Nat → Prop} {cI : ClassId} (C : CallFix p m c cX11_line 10 s args wsX11_line RX11) (hr : meth.sig.returnType = (some .int)) (hlk : meth.locks = false) (Q : Int32 → (Nat → Int32) → (Nat → Nat → Int32) → Prop) (K62 : Int32 → Int32 → Int32 → Int32 → Int32 → Int32 → Int32 → Int32 → (Nat → Int32) → (Nat → Nat → Int32) → Prop) (hK62 : ∀ (x1 : Int32) (x2 : Int32) (x3 : Int32) (x4 : Int32) (x5 : Int32) (x6 : Int32) (x7 : Int32) (x8 : Int32) (f : Nat → Int32) (a : Nat → Nat → Int32) (H : Heap) (locs : List Loc) (ls : Array Slot), K62 x1 x2 x3 x4 x5 x6 x7 x8 f a → hw D [(cI, .int)] q 12 (gM q cI f a) A s H locs → lv_has ls 10 [(0, .ref (q 0)), (1, .int x1), (2, .int x2), (3, .int x3), (4, .int x4), (5, .int x5), (6, .int x6), (7, .int x7), (8, .int x8)] → W p l e (headSpec wsX11_line rmX11_line).room s m args below meth c H locs 0 0 (MQ below (QMi D q cI Q A) args s 0 0 A) (F0 m 62 ls [])) : ∀ (x1 : Int32) (x2 : Int32) (x3 : Int32) (x4 : Int32) (x5 : Int32) (x7 : Int32) (x8 : Int32) (x9 : Int32) (y0 : Int32) (f : Nat → Int32) (a : Nat → Nat → Int32) (H : Heap) (locs : List Loc) (ls : Array Slot), vX11_line_132 K62 Q x1 x2 x3 x4 x5 x7 x8 x9 y0 f a → hw D [(cI, .int)] q 12 (gM q cI f a) A s H locs → lv_has ls 10 [(0, .ref (q 0)), (1, .int x1), (2, .int x2), (3, .int x3), (4, .int x4), (5, .int x5), (7, .int x7), (8, .int x8), (9, .int x9)] → W p l e (headSpec wsX11_line rmX11_line).room s m args below meth c H locs 0 0 (MQ below (QMi D q cI Q A) args s 0 0 A) (F0 m 132 ls [.int y0]) := by
  intro x1 x2 x3 x4 x5 x7 x8 x9 y0 f a H locs ls h hW hl
  unfold vX11_line_132 at h
  refine lv_istore (lv' := [(6, .int y0), (0, .ref (q 0)), (1, .int x1), (2, .int x2), (3, .int x3), (4, .int x4), (5, .int x5), (7, .int x7), (8, .int x8), (9, .int x9)]) C.1 C.2.1 dX11_line_132 hl (by decide) rfl (fun ls hl => ?_)
  refine lv_iload C.1 C.2.1 dX11_line_134 (lv_at hl 9 rfl) ?_
  refine lv_if_eq (tgt := 144) C.1 C.2.1 dX11_line_136 (by decide) (fun c28 => ?_) (fun c28 => ?_)
  · replace h := h.1 c28
    refine lv_iload C.1 C.2.1 dX11_line_144 (lv_at hl 7 rfl) ?_
    exact sX11_line_146 C hr hlk Q K62 hK62 x1 x2 x3 x4 x5 y0 x8 x7 f a _ _ _ h hW (lv_sub hl [1, 2, 3, 4, 5, 6, 0, 8] rfl)
  · replace h := h.2 c28
    refine lv_iload C.1 C.2.1 dX11_line_139 (lv_at hl 8 rfl) ?_
    refine lv_goto (tgt := 146) C.1 C.2.1 dX11_line_141 (by decide) ?_
    exact sX11_line_146 C hr hlk Q K62 hK62 x1 x2 x3 x4 x5 y0 x8 x8 f a _ _ _ h hW (lv_sub hl [1, 2, 3, 4, 5, 6, 0, 8] rfl)
set_option maxRecDepth 100000 in
set_option maxHeartbeats 4000000 in
theorem sX11_line_130 {p : Program} {l : Launch} {e : Env} {s : State} {m : MethodId} {args : Array Value} {below : List Frame} {meth : Method} {c : Code} {D : va_G} {q : Nat → Nat} {A : Nat → Prop} {cI : ClassId} (C : CallFix p m c cX11_line 10 s args wsX11_line RX11) (hr : meth.sig.returnType = (some .int)) (hlk : meth.locks = false) (Q : Int32 → (Nat → Int32) → (Nat → Nat → Int32) → Prop) (K62 : Int32 → Int32 → Int32 → Int32 → Int32 → Int32 → Int32 → Int32 → (Nat → Int32) → (Nat → Nat → Int32) → Prop) (hK62 : ∀ (x1 : Int32) (x2 : Int32) (x3 : Int32) (x4 : Int32) (x5 : Int32) (x6 : Int32) (x7 : Int32) (x8 : Int32) (f : Nat → Int32) (a : Nat → Nat → Int32) (H : Heap) (locs : List Loc) (ls : Array Slot), K62 x1 x2 x3 x4 x5 x6 x7 x8 f a → hw D [(cI, .int)] q 12 (gM q cI f a) A s H locs → lv_has ls 10 [(0, .ref (q 0)), (1, .int x1), (2, .int x2), (3, .int x3), (4, .int x4), (5, .int x5), (6, .int x6), (7, .int x7), (8, .int x8)] → W p l e (headSpec wsX11_line rmX11_line).room s m args below meth c H locs 0 0 (MQ below (QMi D q cI Q A) args s 0 0 A) (F0 m 62 ls [])) : ∀ (x1 : Int32) (x2 : Int32) (x3 : Int32) (x4 : Int32) (x5 : Int32) (x6 : Int32) (x7 : Int32) (x8 : Int32) (x9 : Int32) (f : Nat → Int32) (a : Nat → Nat → Int32) (H : Heap) (locs : List Loc) (ls : Array Slot), vX11_line_130 K62 Q x1 x2 x3 x4 x5 x6 x7 x8 x9 f a → hw D [(cI, .int)] q 12 (gM q cI f a) A s H locs → lv_has ls 10 [(0, .ref (q 0)), (1, .int x1), (2, .int x2), (3, .int x3), (4, .int x4), (5, .int x5), (6, .int x6), (7, .int x7), (8, .int x8), (9, .int x9)] → W p l e (headSpec wsX11_line rmX11_line).room s m args below meth c H locs 0 0 (MQ below (QMi D q cI Q A) args s 0 0 A) (F0 m 130 ls []) := by
  intro x1 x2 x3 x4 x5 x6 x7 x8 x9 f a H locs ls h hW hl
  unfold vX11_line_130 at h
  refine lv_iload C.1 C.2.1 dX11_line_130 (lv_at hl 6 rfl) ?_
  exact sX11_line_132 C hr hlk Q K62 hK62 x1 x2 x3 x4 x5 x7 x8 x9 x6 f a _ _ _ h hW (lv_sub hl [0, 1, 2, 3, 4, 5, 7, 8, 9] rfl)
set_option maxRecDepth 100000 in
set_option maxHeartbeats 4000000 in
theorem sX11_line_112 {p : Program} {l : Launch} {e : Env} {s : State} {m : MethodId} {args : Array Value} {below : List Frame} {meth : Method} {c : Code} {D : va_G} {q : Nat → Nat} {A : Nat → Prop} {cI : ClassId} (C : CallFix p m c cX11_line 10 s args wsX11_line RX11) (hr : meth.sig.returnType = (some .int)) (hlk : meth.locks = false) (Q : Int32 → (Nat → Int32) → (Nat → Nat → Int32) → Prop) (K62 : Int32 → Int32 → Int32 → Int32 → Int32 → Int32 → Int32 → Int32 → (Nat → Int32) → (Nat → Nat → Int32) → Prop) (hK62 : ∀ (x1 : Int32) (x2 : Int32) (x3 : Int32) (x4 : Int32) (x5 : Int32) (x6 : Int32) (x7 : Int32) (x8 : Int32) (f : Nat → Int32) (a : Nat → Nat → Int32) (H : Heap) (locs : List Loc) (ls : Array Slot), K62 x1 x2 x3 x4 x5 x6 x7 x8 f a → hw D [(cI, .int)] q 12 (gM q cI f a) A s H locs → lv_has ls 10 [(0, .ref (q 0)), (1, .int x1), (2, .int x2), (3, .int x3), (4, .int x4), (5, .int x5), (6, .int x6), (7, .int x7), (8, .int x8)] → W p l e (headSpec wsX11_line rmX11_line).room s m args below meth c H locs 0 0 (MQ below (QMi D q cI Q A) args s 0 0 A) (F0 m 62 ls [])) : ∀ (x1 : Int32) (x2 : Int32) (x3 : Int32) (x4 : Int32) (x6 : Int32) (x7 : Int32) (x8 : Int32) (x9 : Int32) (y0 : Int32) (y1 : Int32) (f : Nat → Int32) (a : Nat → Nat → Int32) (H : Heap) (locs : List Loc) (ls : Array Slot), vX11_line_112 K62 Q x1 x2 x3 x4 x6 x7 x8 x9 y0 y1 f a → hw D [(cI, .int)] q 12 (gM q cI f a) A s H locs → lv_has ls 10 [(0, .ref (q 0)), (1, .int x1), (2, .int x2), (3, .int x3), (4, .int x4), (6, .int x6), (7, .int x7), (8, .int x8), (9, .int x9)] → W p l e (headSpec wsX11_line rmX11_line).room s m args below meth c H locs 0 0 (MQ below (QMi D q cI Q A) args s 0 0 A) (F0 m 112 ls [.int y0, .int y1]) := by
  intro x1 x2 x3 x4 x6 x7 x8 x9 y0 y1 f a H locs ls h hW hl
  unfold vX11_line_112 at h
  refine lv_iadd C.1 C.2.1 dX11_line_112 ?_
  refine lv_topi (fun x5_26 ex5_26 => ?_)
  replace h := h x5_26 ex5_26
  refine lv_istore (lv' := [(5, .int x5_26), (0, .ref (q 0)), (1, .int x1), (2, .int x2), (3, .int x3), (4, .int x4), (6, .int x6), (7, .int x7), (8, .int x8), (9, .int x9)]) C.1 C.2.1 dX11_line_113 hl (by decide) rfl (fun ls hl => ?_)
  refine lv_iload C.1 C.2.1 dX11_line_115 (lv_at hl 9 rfl) ?_
  refine lv_if_eq (tgt := 130) C.1 C.2.1 dX11_line_117 (by decide) (fun c27 => ?_) (fun c27 => ?_)
  · replace h := h.1 c27
    exact sX11_line_130 C hr hlk Q K62 hK62 x1 x2 x3 x4 x5_26 x6 x7 x8 x9 f a _ _ _ h hW (lv_sub hl [1, 2, 3, 4, 5, 0, 6, 7, 8, 9] rfl)
  · replace h := h.2 c27
    refine lv_iload C.1 C.2.1 dX11_line_120 (lv_at hl 6 rfl) ?_
    refine lv_if_ge (tgt := 130) C.1 C.2.1 dX11_line_122 (by decide) (fun c30 => ?_) (fun c30 => ?_)
    · replace h := h.1 c30
      exact sX11_line_130 C hr hlk Q K62 hK62 x1 x2 x3 x4 x5_26 x6 x7 x8 x9 f a _ _ _ h hW (lv_sub hl [1, 2, 3, 4, 5, 0, 6, 7, 8, 9] rfl)
    · replace h := h.2 c30
      refine lv_iload C.1 C.2.1 dX11_line_125 (lv_at hl 8 rfl) ?_
      refine lv_goto (tgt := 132) C.1 C.2.1 dX11_line_127 (by decide) ?_
      exact sX11_line_132 C hr hlk Q K62 hK62 x1 x2 x3 x4 x5_26 x7 x8 x9 x8 f a _ _ _ h hW (lv_sub hl [1, 2, 3, 4, 5, 0, 7, 8, 9] rfl)
set_option maxRecDepth 100000 in
set_option maxHeartbeats 4000000 in
theorem sX11_line_98 {p : Program} {l : Launch} {e : Env} {s : State} {m : MethodId} {args : Array Value} {below : List Frame} {meth : Method} {c : Code} {D : va_G} {q : Nat → Nat} {A : Nat → Prop} {cI : ClassId} (C : CallFix p m c cX11_line 10 s args wsX11_line RX11) (hr : meth.sig.returnType = (some .int)) (hlk : meth.locks = false) (Q : Int32 → (Nat → Int32) → (Nat → Nat → Int32) → Prop) (K62 : Int32 → Int32 → Int32 → Int32 → Int32 → Int32 → Int32 → Int32 → (Nat → Int32) → (Nat → Nat → Int32) → Prop) (hK62 : ∀ (x1 : Int32) (x2 : Int32) (x3 : Int32) (x4 : Int32) (x5 : Int32) (x6 : Int32) (x7 : Int32) (x8 : Int32) (f : Nat → Int32) (a : Nat → Nat → Int32) (H : Heap) (locs : List Loc) (ls : Array Slot), K62 x1 x2 x3 x4 x5 x6 x7 x8 f a → hw D [(cI, .int)] q 12 (gM q cI f a) A s H locs → lv_has ls 10 [(0, .ref (q 0)), (1, .int x1), (2, .int x2), (3, .int x3), (4, .int x4), (5, .int x5), (6, .int x6), (7, .int x7), (8, .int x8)] → W p l e (headSpec wsX11_line rmX11_line).room s m args below meth c H locs 0 0 (MQ below (QMi D q cI Q A) args s 0 0 A) (F0 m 62 ls [])) : ∀ (x1 : Int32) (x2 : Int32) (x3 : Int32) (x4 : Int32) (x5 : Int32) (x6 : Int32) (x7 : Int32) (x8 : Int32) (y0 : Int32) (f : Nat → Int32) (a : Nat → Nat → Int32) (H : Heap) (locs : List Loc) (ls : Array Slot), vX11_line_98 K62 Q x1 x2 x3 x4 x5 x6 x7 x8 y0 f a → hw D [(cI, .int)] q 12 (gM q cI f a) A s H locs → lv_has ls 10 [(0, .ref (q 0)), (1, .int x1), (2, .int x2), (3, .int x3), (4, .int x4), (5, .int x5), (6, .int x6), (7, .int x7), (8, .int x8)] → W p l e (headSpec wsX11_line rmX11_line).room s m args below meth c H locs 0 0 (MQ below (QMi D q cI Q A) args s 0 0 A) (F0 m 98 ls [.int y0]) := by
  intro x1 x2 x3 x4 x5 x6 x7 x8 y0 f a H locs ls h hW hl
  unfold vX11_line_98 at h
  refine lv_istore (lv' := [(9, .int y0), (0, .ref (q 0)), (1, .int x1), (2, .int x2), (3, .int x3), (4, .int x4), (5, .int x5), (6, .int x6), (7, .int x7), (8, .int x8)]) C.1 C.2.1 dX11_line_98 hl (by decide) rfl (fun ls hl => ?_)
  refine lv_iload C.1 C.2.1 dX11_line_100 (lv_at hl 6 rfl) ?_
  refine lv_iload C.1 C.2.1 dX11_line_102 (lv_at hl 0 rfl) ?_
  refine lv_if_eq (tgt := 111) C.1 C.2.1 dX11_line_104 (by decide) (fun c25 => ?_) (fun c25 => ?_)
  · replace h := h.1 c25
    refine lv_iconst (v := 0) C.1 C.2.1 dX11_line_111 (by decide) ?_
    exact sX11_line_112 C hr hlk Q K62 hK62 x1 x2 x3 x4 x6 x7 x8 y0 (0 : Int32) x5 f a _ _ _ h hW (lv_sub hl [1, 2, 3, 4, 5, 7, 8, 9, 0] rfl)
  · replace h := h.2 c25
    refine lv_iconst (v := 1) C.1 C.2.1 dX11_line_107 (by decide) ?_
    refine lv_goto (tgt := 112) C.1 C.2.1 dX11_line_108 (by decide) ?_
    exact sX11_line_112 C hr hlk Q K62 hK62 x1 x2 x3 x4 x6 x7 x8 y0 (1 : Int32) x5 f a _ _ _ h hW (lv_sub hl [1, 2, 3, 4, 5, 7, 8, 9, 0] rfl)
set_option maxRecDepth 100000 in
set_option maxHeartbeats 4000000 in
theorem sX11_line_62 {p : Program} {l : Launch} {e : Env} {s : State} {m : MethodId} {args : Array Value} {below : List Frame} {meth : Method} {c : Code} {D : va_G} {q : Nat → Nat} {A : Nat → Prop} {cI : ClassId} (C : CallFix p m c cX11_line 10 s args wsX11_line RX11) (hr : meth.sig.returnType = (some .int)) (hlk : meth.locks = false) (Q : Int32 → (Nat → Int32) → (Nat → Nat → Int32) → Prop) : ∀ (fu : Nat) (x1 : Int32) (x2 : Int32) (x3 : Int32) (x4 : Int32) (x5 : Int32) (x6 : Int32) (x7 : Int32) (x8 : Int32) (f : Nat → Int32) (a : Nat → Nat → Int32) (H : Heap) (locs : List Loc) (ls : Array Slot), vX11_line_62 Q fu x1 x2 x3 x4 x5 x6 x7 x8 f a → hw D [(cI, .int)] q 12 (gM q cI f a) A s H locs → lv_has ls 10 [(0, .ref (q 0)), (1, .int x1), (2, .int x2), (3, .int x3), (4, .int x4), (5, .int x5), (6, .int x6), (7, .int x7), (8, .int x8)] → W p l e (headSpec wsX11_line rmX11_line).room s m args below meth c H locs 0 0 (MQ below (QMi D q cI Q A) args s 0 0 A) (F0 m 62 ls []) := by
  intro fu
  induction fu with
  | zero =>
    intro x1 x2 x3 x4 x5 x6 x7 x8 f a H locs ls h
    exact h.elim
  | succ fu ih =>
    intro x1 x2 x3 x4 x5 x6 x7 x8 f a H locs ls h hW hl
    refine lv_iload C.1 C.2.1 dX11_line_62 (lv_at hl 8 rfl) ?_
    refine lv_iload_n C.1 C.2.1 dX11_line_64 rfl (lv_at hl 2 rfl) ?_
    refine k_pi hW (va_runS (As := [.int x2]) (rest := [.int x8]) C (mtX11_greatestOf l D q _ H.size x2 _ h) (va_cwS 1 C.2.2.2.2 gX11_line_X11_greatestOf rfl rfl rfl (by decide +kernel) ⟨Nat.le_of_ble_eq_true rfl, Nat.le_of_ble_eq_true rfl⟩) ⟨mP_blind tX_B, fun U hU hV => ⟨rfl, hW.pre0 hU hV trivial⟩⟩ rfl rfl hl.1 rfl (lv_room (Nat.le_of_ble_eq_true rfl)) dX11_line_65 ⟨Nat.zero_le _, Nat.zero_le _⟩) (fun r13 H locs h hW => ?_)
    refine lv_icmp_gt (tgt := 154) C.1 C.2.1 dX11_line_68 (by decide) (fun c14 => ?_) (fun c14 => ?_)
    · replace h := h.1 c14
      refine lv_aload_n C.1 C.2.1 dX11_line_154 rfl (lv_at hl 0 rfl) ?_
      refine r_get C hW (ci := 11) (T := TX11) (n := 21) (ref := "BallMinderModel") (v := .ref (q 2)) 0 (by decide) rfl rfl 3 (by decide) inX11_line (by decide +kernel) (fun _ h9 => h9) rfl dX11_line_155 ?_
      refine lv_bipush (v := 9) C.1 C.2.1 dX11_line_158 (by decide) ?_
      refine lv_iload_n C.1 C.2.1 dX11_line_160 rfl (lv_at hl 1 rfl) ?_
      refine lv_imul C.1 C.2.1 dX11_line_161 ?_
      refine lv_iload_n C.1 C.2.1 dX11_line_162 rfl (lv_at hl 2 rfl) ?_
      refine lv_iadd C.1 C.2.1 dX11_line_163 ?_
      refine lv_iload C.1 C.2.1 dX11_line_164 (lv_at hl 4 rfl) ?_
      obtain ⟨hs15, h⟩ := h
      refine r_iast C hW (cA := cI) (n := 72) (f := a 2) 2 0 (by decide) rfl rfl hs15 dX11_line_166 (fun H locs hW => ?_)
      replace hW := gM_ast (k := 2) (n := 72) (by decide) rfl hW
      obtain ⟨a16, ea16⟩ : ∃ z : Nat → Nat → Int32, z = va_up a 2 (upd (a 2) (((9 : Int32) * x1) + x2).toNatClampNeg x4) := ⟨_, rfl⟩
      rw [← ea16] at hW
      replace h := h a16 ea16
      refine lv_iload_n C.1 C.2.1 dX11_line_167 rfl (lv_at hl 3 rfl) ?_
      refine lv_if_ne (tgt := 176) C.1 C.2.1 dX11_line_168 (by decide) (fun c17 => ?_) (fun c17 => ?_)
      · replace h := h.1 c17
        refine lv_iload_n C.1 C.2.1 dX11_line_176 rfl (lv_at hl 3 rfl) ?_
        refine lv_iconst (v := 1) C.1 C.2.1 dX11_line_177 (by decide) ?_
        refine lv_icmp_ne (tgt := 186) C.1 C.2.1 dX11_line_178 (by decide) (fun c18 => ?_) (fun c18 => ?_)
        · replace h := h.1 c18
          refine lv_iload C.1 C.2.1 dX11_line_186 (lv_at hl 5 rfl) ?_
          exact t_i C hr hlk (u := (f, a16)) hW.2.2.2.1 hW.B h dX11_line_188
        · replace h := h.2 c18
          refine lv_iload C.1 C.2.1 dX11_line_181 (lv_at hl 7 rfl) ?_
          refine lv_goto (tgt := 188) C.1 C.2.1 dX11_line_183 (by decide) ?_
          exact t_i C hr hlk (u := (f, a16)) hW.2.2.2.1 hW.B h dX11_line_188
      · replace h := h.2 c17
        refine lv_iload C.1 C.2.1 dX11_line_171 (lv_at hl 6 rfl) ?_
        refine lv_goto (tgt := 188) C.1 C.2.1 dX11_line_173 (by decide) ?_
        exact t_i C hr hlk (u := (f, a16)) hW.2.2.2.1 hW.B h dX11_line_188
    · replace h := h.2 c14
      refine lv_aload_n C.1 C.2.1 dX11_line_71 rfl (lv_at hl 0 rfl) ?_
      refine r_get C hW (ci := 11) (T := TX11) (n := 21) (ref := "BallMinderModel") (v := .ref (q 2)) 0 (by decide) rfl rfl 3 (by decide) inX11_line (by decide +kernel) (fun _ h9 => h9) rfl dX11_line_72 ?_
      refine lv_bipush (v := 9) C.1 C.2.1 dX11_line_75 (by decide) ?_
      refine lv_iload_n C.1 C.2.1 dX11_line_77 rfl (lv_at hl 1 rfl) ?_
      refine lv_imul C.1 C.2.1 dX11_line_78 ?_
      refine lv_iload_n C.1 C.2.1 dX11_line_79 rfl (lv_at hl 2 rfl) ?_
      refine lv_iadd C.1 C.2.1 dX11_line_80 ?_
      refine lv_iload C.1 C.2.1 dX11_line_81 (lv_at hl 8 rfl) ?_
      obtain ⟨hs19, h⟩ := h
      refine r_iast C hW (cA := cI) (n := 72) (f := a 2) 2 0 (by decide) rfl rfl hs19 dX11_line_83 (fun H locs hW => ?_)
      replace hW := gM_ast (k := 2) (n := 72) (by decide) rfl hW
      obtain ⟨a20, ea20⟩ : ∃ z : Nat → Nat → Int32, z = va_up a 2 (upd (a 2) (((9 : Int32) * x1) + x2).toNatClampNeg x8) := ⟨_, rfl⟩
      rw [← ea20] at hW
      replace h := h a20 ea20
      refine lv_aload_n C.1 C.2.1 dX11_line_84 rfl (lv_at hl 0 rfl) ?_
      refine lv_iload_n C.1 C.2.1 dX11_line_85 rfl (lv_at hl 1 rfl) ?_
      refine k_i hW (va_runV (As := [.int x1]) (rest := []) C (mtX11_nearOf l D q cI H.size x1 f a20 _ h) (cwV 1 C.2.2.2.2 gX11_line_X11_nearOf rfl rfl rfl (by decide +kernel) ⟨Nat.le_of_ble_eq_true rfl, Nat.le_of_ble_eq_true rfl⟩) ⟨mP_blind tX_B, va_recv hW.1 hW.2.1 (ci := 11) (q0 := 0) rfl (wL_get (by decide)), fun U hU hV => ⟨rfl, hW.pre hU hV trivial⟩⟩ rfl rfl hl.1 rfl (lv_room (Nat.le_of_ble_eq_true rfl)) dX11_line_86 ⟨Nat.zero_le _, Nat.zero_le _⟩) (fun r21 u H locs h hW => ?_)
      obtain ⟨f22, a23⟩ := u
      replace hW : hw D [(cI, .int)] q 12 (gM q cI f22 a23) A s H locs := hW
      refine lv_iconst (v := 2) C.1 C.2.1 dX11_line_89 (by decide) ?_
      refine lv_icmp_ne (tgt := 97) C.1 C.2.1 dX11_line_90 (by decide) (fun c24 => ?_) (fun c24 => ?_)
      · replace h := h.1 c24
        refine lv_iconst (v := 0) C.1 C.2.1 dX11_line_97 (by decide) ?_
        exact sX11_line_98 C hr hlk Q _ ih x1 x2 x3 x4 x5 x6 x7 x8 (0 : Int32) f22 a23 _ _ _ h hW (lv_sub hl [0, 1, 2, 3, 4, 5, 6, 7, 8] rfl)
      · replace h := h.2 c24
        refine lv_iconst (v := 1) C.1 C.2.1 dX11_line_93 (by decide) ?_
        refine lv_goto (tgt := 98) C.1 C.2.1 dX11_line_94 (by decide) ?_
        exact sX11_line_98 C hr hlk Q _ ih x1 x2 x3 x4 x5 x6 x7 x8 (1 : Int32) f22 a23 _ _ _ h hW (lv_sub hl [0, 1, 2, 3, 4, 5, 6, 7, 8] rfl)
set_option maxRecDepth 100000 in
set_option maxHeartbeats 4000000 in
theorem sX11_line {p : Program} {l : Launch} {e : Env} {s : State} {m : MethodId} {args : Array Value} {below : List Frame} {meth : Method} {c : Code} {D : va_G} {q : Nat → Nat} {A : Nat → Prop} {cI : ClassId} (C : CallFix p m c cX11_line 10 s args wsX11_line RX11) (hr : meth.sig.returnType = (some .int)) (hlk : meth.locks = false) (Q : Int32 → (Nat → Int32) → (Nat → Nat → Int32) → Prop) : ∀ (x1 : Int32) (x2 : Int32) (x3 : Int32) (f : Nat → Int32) (a : Nat → Nat → Int32) (H : Heap) (locs : List Loc) (ls : Array Slot), vX11_line x1 x2 x3 f a Q → hw D [(cI, .int)] q 12 (gM q cI f a) A s H locs → lv_has ls 10 [(0, .ref (q 0)), (1, .int x1), (2, .int x2), (3, .int x3)] → W p l e (headSpec wsX11_line rmX11_line).room s m args below meth c H locs 0 0 (MQ below (QMi D q cI Q A) args s 0 0 A) (F0 m 0 ls []) := by
  intro x1 x2 x3 f a H locs ls h hW hl
  unfold vX11_line at h
  refine lv_aload_n C.1 C.2.1 dX11_line_0 rfl (lv_at hl 0 rfl) ?_
  refine lv_iload_n C.1 C.2.1 dX11_line_1 rfl (lv_at hl 1 rfl) ?_
  refine k_i hW (va_runV (As := [.int x1]) (rest := []) C (mtX11_noMill l D q cI H.size x1 f a _ h) (cwV 1 C.2.2.2.2 gX11_line_X11_noMill rfl rfl rfl (by decide +kernel) ⟨Nat.le_of_ble_eq_true rfl, Nat.le_of_ble_eq_true rfl⟩) ⟨mP_blind tX_B, va_recv hW.1 hW.2.1 (ci := 11) (q0 := 0) rfl (wL_get (by decide)), fun U hU hV => ⟨rfl, hW.pre hU hV trivial⟩⟩ rfl rfl hl.1 rfl (lv_room (Nat.le_of_ble_eq_true rfl)) dX11_line_2 ⟨Nat.zero_le _, Nat.zero_le _⟩) (fun r1 u H locs h hW => ?_)
  obtain ⟨f2, a3⟩ := u
  replace hW : hw D [(cI, .int)] q 12 (gM q cI f2 a3) A s H locs := hW
  refine lv_if_ne (tgt := 20) C.1 C.2.1 dX11_line_5 (by decide) (fun c4 => ?_) (fun c4 => ?_)
  · replace h := h.1 c4
    refine lv_iconst (v := -1) C.1 C.2.1 dX11_line_20 (by decide) ?_
    exact t_i C hr hlk (u := (f2, a3)) hW.2.2.2.1 hW.B h dX11_line_21
  · replace h := h.2 c4
    refine lv_iload_n C.1 C.2.1 dX11_line_8 rfl (lv_at hl 2 rfl) ?_
    refine lv_i2l C.1 C.2.1 dX11_line_9 rfl ?_
    refine lv_lconst (v := 0) C.1 C.2.1 dX11_line_10 (by decide) ?_
    refine lv_ldc2 (v := (6)) C.1 C.2.1 C.2.2.2.1 (C.2.2.2.2 (.constantLong RX11 128 (6)) (by decide +kernel)) dX11_line_11 ?_
    refine k_pi hW (va_runS (As := [.long x2.toInt64, .long (0 : Int64), .long (6 : Int64)]) (rest := []) C (mtX11_in l D q _ H.size x2.toInt64 (0 : Int64) (6 : Int64) _ h) (va_cwS 3 C.2.2.2.2 gX11_line_X11_in rfl rfl rfl (by decide +kernel) ⟨Nat.le_of_ble_eq_true rfl, Nat.le_of_ble_eq_true rfl⟩) ⟨mP_blind tX_B, fun U hU hV => ⟨rfl, hW.pre0 hU hV trivial⟩⟩ rfl rfl hl.1 rfl (lv_room (Nat.le_of_ble_eq_true rfl)) dX11_line_14 ⟨Nat.zero_le _, Nat.zero_le _⟩) (fun r5 H locs h hW => ?_)
    refine lv_if_ne (tgt := 22) C.1 C.2.1 dX11_line_17 (by decide) (fun c6 => ?_) (fun c6 => ?_)
    · replace h := h.1 c6
      refine lv_iload_n C.1 C.2.1 dX11_line_22 rfl (lv_at hl 3 rfl) ?_
      refine lv_i2l C.1 C.2.1 dX11_line_23 rfl ?_
      refine lv_lconst (v := 0) C.1 C.2.1 dX11_line_24 (by decide) ?_
      refine lv_ldc2 (v := (2)) C.1 C.2.1 C.2.2.2.1 (C.2.2.2.2 (.constantLong RX11 92 (2)) (by decide +kernel)) dX11_line_25 ?_
      refine k_pi hW (va_runS (As := [.long x3.toInt64, .long (0 : Int64), .long (2 : Int64)]) (rest := []) C (mtX11_in l D q _ H.size x3.toInt64 (0 : Int64) (2 : Int64) _ h) (va_cwS 3 C.2.2.2.2 gX11_line_X11_in rfl rfl rfl (by decide +kernel) ⟨Nat.le_of_ble_eq_true rfl, Nat.le_of_ble_eq_true rfl⟩) ⟨mP_blind tX_B, fun U hU hV => ⟨rfl, hW.pre0 hU hV trivial⟩⟩ rfl rfl hl.1 rfl (lv_room (Nat.le_of_ble_eq_true rfl)) dX11_line_28 ⟨Nat.zero_le _, Nat.zero_le _⟩) (fun r7 H locs h hW => ?_)
      refine lv_if_ne (tgt := 37) C.1 C.2.1 dX11_line_31 (by decide) (fun c8 => ?_) (fun c8 => ?_)
      · replace h := h.1 c8
        refine lv_aload_n C.1 C.2.1 dX11_line_37 rfl (lv_at hl 0 rfl) ?_
        refine lv_iload_n C.1 C.2.1 dX11_line_38 rfl (lv_at hl 1 rfl) ?_
        refine lv_iload_n C.1 C.2.1 dX11_line_39 rfl (lv_at hl 2 rfl) ?_
        refine k_i hW (va_runV (As := [.int x1, .int x2]) (rest := []) C (mtX11_of l D q cI H.size x1 x2 f2 a3 _ h) (cwV 2 C.2.2.2.2 gX11_line_X11_of rfl rfl rfl (by decide +kernel) ⟨Nat.le_of_ble_eq_true rfl, Nat.le_of_ble_eq_true rfl⟩) ⟨mP_blind tX_B, va_recv hW.1 hW.2.1 (ci := 11) (q0 := 0) rfl (wL_get (by decide)), fun U hU hV => ⟨rfl, hW.pre hU hV trivial⟩⟩ rfl rfl hl.1 rfl (lv_room (Nat.le_of_ble_eq_true rfl)) dX11_line_40 ⟨Nat.zero_le _, Nat.zero_le _⟩) (fun r9 u H locs h hW => ?_)
        obtain ⟨f10, a11⟩ := u
        replace hW : hw D [(cI, .int)] q 12 (gM q cI f10 a11) A s H locs := hW
        refine lv_istore (lv' := [(4, .int r9), (0, .ref (q 0)), (1, .int x1), (2, .int x2), (3, .int x3)]) C.1 C.2.1 dX11_line_43 hl (by decide) rfl (fun ls hl => ?_)
        refine lv_iconst (v := 0) C.1 C.2.1 dX11_line_45 (by decide) ?_
        refine lv_istore (lv' := [(5, .int (0 : Int32)), (4, .int r9), (0, .ref (q 0)), (1, .int x1), (2, .int x2), (3, .int x3)]) C.1 C.2.1 dX11_line_46 hl (by decide) rfl (fun ls hl => ?_)
        refine lv_bipush (v := -9) C.1 C.2.1 dX11_line_48 (by decide) ?_
        refine lv_istore (lv' := [(6, .int (-9 : Int32)), (5, .int (0 : Int32)), (4, .int r9), (0, .ref (q 0)), (1, .int x1), (2, .int x2), (3, .int x3)]) C.1 C.2.1 dX11_line_50 hl (by decide) rfl (fun ls hl => ?_)
        refine lv_bipush (v := -9) C.1 C.2.1 dX11_line_52 (by decide) ?_
        refine lv_istore (lv' := [(7, .int (-9 : Int32)), (6, .int (-9 : Int32)), (5, .int (0 : Int32)), (4, .int r9), (0, .ref (q 0)), (1, .int x1), (2, .int x2), (3, .int x3)]) C.1 C.2.1 dX11_line_54 hl (by decide) rfl (fun ls hl => ?_)
        refine lv_iload_n C.1 C.2.1 dX11_line_56 rfl (lv_at hl 6 rfl) ?_
        refine k_pi hW (va_runS (As := [.int x2]) (rest := []) C (mtX11_leastOf l D q _ H.size x2 _ h) (va_cwS 1 C.2.2.2.2 gX11_line_X11_leastOf rfl rfl rfl (by decide +kernel) ⟨Nat.le_of_ble_eq_true rfl, Nat.le_of_ble_eq_true rfl⟩) ⟨mP_blind tX_B, fun U hU hV => ⟨rfl, hW.pre0 hU hV trivial⟩⟩ rfl rfl hl.1 rfl (lv_room (Nat.le_of_ble_eq_true rfl)) dX11_line_57 ⟨Nat.zero_le _, Nat.zero_le _⟩) (fun r12 H locs h hW => ?_)
        refine lv_istore (lv' := [(8, .int r12), (7, .int (-9 : Int32)), (6, .int (-9 : Int32)), (5, .int (0 : Int32)), (4, .int r9), (0, .ref (q 0)), (1, .int x1), (2, .int x2), (3, .int x3)]) C.1 C.2.1 dX11_line_60 hl (by decide) rfl (fun ls hl => ?_)
        obtain ⟨n9, h⟩ := h
        exact sX11_line_62 C hr hlk Q n9 x1 x2 x3 r9 (0 : Int32) (-9 : Int32) (-9 : Int32) r12 f10 a11 _ _ _ h hW (lv_sub hl [5, 6, 7, 8, 4, 3, 2, 1, 0] rfl)
      · replace h := h.2 c8
        refine lv_bipush (v := -2) C.1 C.2.1 dX11_line_34 (by decide) ?_
        exact t_i C hr hlk (u := (f2, a3)) hW.2.2.2.1 hW.B h dX11_line_36
    · replace h := h.2 c6
      refine lv_iconst (v := -1) C.1 C.2.1 dX11_line_20 (by decide) ?_
      exact t_i C hr hlk (u := (f2, a3)) hW.2.2.2.1 hW.B h dX11_line_21
set_option maxRecDepth 100000 in
set_option maxHeartbeats 4000000 in
theorem mtX11_line (l : Launch) (D : va_G) (q : Nat → Nat) (cI : ClassId) (sz : Nat) (x1 : Int32) (x2 : Int32) (x3 : Int32) (f : Nat → Int32) (a : Nat → Nat → Int32) (Q : Int32 → (Nat → Int32) → (Nat → Nat → Int32) → Prop) (h : vX11_line x1 x2 x3 f a Q) : Met l yX11_line wsX11_line rmX11_line (va_Pc [.ref (q 0), .int x1, .int x2, .int x3] (mP D [(cI, .int)] q 12 (gM q cI f a) sz tX)) (QMi D q cI Q (aQ q 12 sz)) 0 0 (aQ q 12 sz) := by
  refine met_w (cc := cX11_line) (maxL := 10) (ret := (some .int)) (by decide) rfl (Nat.le_of_ble_eq_true rfl) ?_
  intro p e s m below meth c ls C hr hlk hW hX hnm hl
  exact sX11_line C hr hlk Q x1 x2 x3 f a _ _ _ h hW hl
