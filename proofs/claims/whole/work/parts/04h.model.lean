theorem inX11_sheet : ∀ w ∈ wsX110, w ∈ wsX11_sheet := fun _ h => List.mem_cons_of_mem _ (List.mem_append_right _ h)
abbrev rmX11_sheet : Room := { frames := 2, cells := 0, slots := 0, locals := 45 }
def vX11_sheet_31 (Q : Int32 → (Nat → Int32) → (Nat → Nat → Int32) → Prop) (f : Nat → Int32) (a : Nat → Nat → Int32) : Prop := vX11_refused (-2 : Int32) f a (fun r5 f6 a7 => Q r5 f6 a7)
def vX11_sheet_65 (Q : Int32 → (Nat → Int32) → (Nat → Nat → Int32) → Prop) : Nat → Int32 → Int32 → Int32 → (Nat → Int32) → (Nat → Nat → Int32) → Prop
  | 0, _, _, _, _, _ => False
  | fu+1, x1, x3, x4, f, a => (x3 ≤ x4 → vX11_refused (1 : Int32) f a (fun r15 f16 a17 => Q r15 f16 a17)) ∧ (¬ (x3 ≤ x4) → vp_in (((60 : Int32) * x1) + x4) 240 ∧ (∀ a19 : Nat → Nat → Int32, a19 = va_up a 10 (upd (a 10) (((60 : Int32) * x1) + x4).toNatClampNeg (0 : Int32)) → ∀ x4_20 : Int32, x4_20 = x4 + (1 : Int32) → vX11_sheet_65 Q fu x1 x3 x4_20 f a19))
def vX11_sheet (x1 : Int32) (x2 : Int32) (x3 : Int32) (f : Nat → Int32) (a : Nat → Nat → Int32) (Q : Int32 → (Nat → Int32) → (Nat → Nat → Int32) → Prop) : Prop := vX11_noSheet x1 (fun r1 => (r1 = 0 → vX11_in x2.toInt64 (0 : Int64) (2 : Int64) (fun r3 => (r3 = 0 → vX11_sheet_31 Q f a) ∧ (¬ (r3 = 0) → (x3 ≤ (60 : Int32) → (0 ≤ x3 → vp_in x1 4 ∧ (∀ a11 : Nat → Nat → Int32, a11 = va_up a 8 (upd (a 8) x1.toNatClampNeg x3) → vp_in x1 4 ∧ (∀ a13 : Nat → Nat → Int32, a13 = va_up a11 9 (upd (a11 9) x1.toNatClampNeg x2) → ∃ n65, vX11_sheet_65 Q n65 x1 x3 (0 : Int32) f a13))) ∧ (¬ (0 ≤ x3) → vX11_failed (4 : Int32) f a (fun r21 f22 a23 => Q r21 f22 a23))) ∧ (¬ (x3 ≤ (60 : Int32)) → vX11_sheet_31 Q f a)))) ∧ (¬ (r1 = 0) → vX11_refused (-1 : Int32) f a (fun r24 f25 a26 => Q r24 f25 a26)))
set_option maxRecDepth 100000 in
set_option maxHeartbeats 4000000 in
theorem sX11_sheet_31 {p : Program} {l : Launch} {e : Env} {s : State} {m : MethodId} {args : Array Value} {below : List Frame} {meth : Method} {c : Code} {D : va_G} {q : Nat → Nat} {A : Nat → Prop} {cI : ClassId} (C : CallFix p m c cX11_sheet 5 s args wsX11_sheet RX11) (hr : meth.sig.returnType = (some .int)) (hlk : meth.locks = false) (Q : Int32 → (Nat → Int32) → (Nat → Nat → Int32) → Prop) : ∀ (f : Nat → Int32) (a : Nat → Nat → Int32) (H : Heap) (locs : List Loc) (ls : Array Slot), vX11_sheet_31 Q f a → hw D [(cI, .int)] q 12 (gM q cI f a) A s H locs → lv_has ls 5 [(0, .ref (q 0))] → W p l e (headSpec wsX11_sheet rmX11_sheet).room s m args below meth c H locs 0 0 (MQ below (QMi D q cI Q A) args s 0 0 A) (F0 m 31 ls []) := by
  intro f a H locs ls h hW hl
  unfold vX11_sheet_31 at h
  refine lv_aload_n C.1 C.2.1 dX11_sheet_31 rfl (lv_at hl 0 rfl) ?_
  refine lv_bipush (v := -2) C.1 C.2.1 dX11_sheet_32 (by decide) ?_
  refine k_i hW (va_runV (As := [.int (-2 : Int32)]) (rest := []) C (mtX11_refused l D q cI H.size (-2 : Int32) f a _ h) (cwV 1 C.2.2.2.2 gX11_sheet_X11_refused rfl rfl rfl (by decide +kernel) ⟨Nat.le_of_ble_eq_true rfl, Nat.le_of_ble_eq_true rfl⟩) ⟨mP_blind tX_B, va_recv hW.1 hW.2.1 (ci := 11) (q0 := 0) rfl (wL_get (by decide)), fun U hU hV => ⟨rfl, hW.pre hU hV trivial⟩⟩ rfl rfl hl.1 rfl (lv_room (Nat.le_of_ble_eq_true rfl)) dX11_sheet_34 ⟨Nat.zero_le _, Nat.zero_le _⟩) (fun r5 u H locs h hW => ?_)
  obtain ⟨f6, a7⟩ := u
  replace hW : hw D [(cI, .int)] q 12 (gM q cI f6 a7) A s H locs := hW
  exact t_i C hr hlk (u := (f6, a7)) hW.2.2.2.1 hW.B h dX11_sheet_37
set_option maxRecDepth 100000 in
set_option maxHeartbeats 4000000 in
theorem sX11_sheet_65 {p : Program} {l : Launch} {e : Env} {s : State} {m : MethodId} {args : Array Value} {below : List Frame} {meth : Method} {c : Code} {D : va_G} {q : Nat → Nat} {A : Nat → Prop} {cI : ClassId} (C : CallFix p m c cX11_sheet 5 s args wsX11_sheet RX11) (hr : meth.sig.returnType = (some .int)) (hlk : meth.locks = false) (Q : Int32 → (Nat → Int32) → (Nat → Nat → Int32) → Prop) : ∀ (fu : Nat) (x1 : Int32) (x3 : Int32) (x4 : Int32) (f : Nat → Int32) (a : Nat → Nat → Int32) (H : Heap) (locs : List Loc) (ls : Array Slot), vX11_sheet_65 Q fu x1 x3 x4 f a → hw D [(cI, .int)] q 12 (gM q cI f a) A s H locs → lv_has ls 5 [(0, .ref (q 0)), (1, .int x1), (3, .int x3), (4, .int x4)] → W p l e (headSpec wsX11_sheet rmX11_sheet).room s m args below meth c H locs 0 0 (MQ below (QMi D q cI Q A) args s 0 0 A) (F0 m 65 ls []) := by
  intro fu
  induction fu with
  | zero =>
    intro x1 x3 x4 f a H locs ls h
    exact h.elim
  | succ fu ih =>
    intro x1 x3 x4 f a H locs ls h hW hl
    refine lv_iload C.1 C.2.1 dX11_sheet_65 (lv_at hl 3 rfl) ?_
    refine lv_iload_n C.1 C.2.1 dX11_sheet_67 rfl (lv_at hl 2 rfl) ?_
    refine lv_icmp_ge (tgt := 90) C.1 C.2.1 dX11_sheet_68 (by decide) (fun c14 => ?_) (fun c14 => ?_)
    · replace h := h.1 c14
      refine lv_aload_n C.1 C.2.1 dX11_sheet_90 rfl (lv_at hl 0 rfl) ?_
      refine lv_iconst (v := 1) C.1 C.2.1 dX11_sheet_91 (by decide) ?_
      refine k_i hW (va_runV (As := [.int (1 : Int32)]) (rest := []) C (mtX11_refused l D q cI H.size (1 : Int32) f a _ h) (cwV 1 C.2.2.2.2 gX11_sheet_X11_refused rfl rfl rfl (by decide +kernel) ⟨Nat.le_of_ble_eq_true rfl, Nat.le_of_ble_eq_true rfl⟩) ⟨mP_blind tX_B, va_recv hW.1 hW.2.1 (ci := 11) (q0 := 0) rfl (wL_get (by decide)), fun U hU hV => ⟨rfl, hW.pre hU hV trivial⟩⟩ rfl rfl hl.1 rfl (lv_room (Nat.le_of_ble_eq_true rfl)) dX11_sheet_92 ⟨Nat.zero_le _, Nat.zero_le _⟩) (fun r15 u H locs h hW => ?_)
      obtain ⟨f16, a17⟩ := u
      replace hW : hw D [(cI, .int)] q 12 (gM q cI f16 a17) A s H locs := hW
      exact t_i C hr hlk (u := (f16, a17)) hW.2.2.2.1 hW.B h dX11_sheet_95
    · replace h := h.2 c14
      refine lv_aload_n C.1 C.2.1 dX11_sheet_71 rfl (lv_at hl 0 rfl) ?_
      refine r_get C hW (ci := 11) (T := TX11) (n := 21) (ref := "BallMinderModel") (v := .ref (q 10)) 0 (by decide) rfl rfl 18 (by decide) inX11_sheet (by decide +kernel) (fun _ h9 => h9) rfl dX11_sheet_72 ?_
      refine lv_bipush (v := 60) C.1 C.2.1 dX11_sheet_75 (by decide) ?_
      refine lv_iload_n C.1 C.2.1 dX11_sheet_77 rfl (lv_at hl 1 rfl) ?_
      refine lv_imul C.1 C.2.1 dX11_sheet_78 ?_
      refine lv_iload C.1 C.2.1 dX11_sheet_79 (lv_at hl 3 rfl) ?_
      refine lv_iadd C.1 C.2.1 dX11_sheet_81 ?_
      refine lv_iconst (v := 0) C.1 C.2.1 dX11_sheet_82 (by decide) ?_
      obtain ⟨hs18, h⟩ := h
      refine r_iast C hW (cA := cI) (n := 240) (f := a 10) 10 0 (by decide) rfl rfl hs18 dX11_sheet_83 (fun H locs hW => ?_)
      replace hW := gM_ast (k := 10) (n := 240) (by decide) rfl hW
      obtain ⟨a19, ea19⟩ : ∃ z : Nat → Nat → Int32, z = va_up a 10 (upd (a 10) (((60 : Int32) * x1) + x4).toNatClampNeg (0 : Int32)) := ⟨_, rfl⟩
      rw [← ea19] at hW
      replace h := h a19 ea19
      obtain ⟨x4_20, ex4_20⟩ : ∃ z : Int32, z = x4 + (1 : Int32) := ⟨_, rfl⟩
      replace h := h x4_20 ex4_20
      refine lv_iinc (v := x4_20) (lv' := [(4, .int x4_20), (0, .ref (q 0)), (1, .int x1), (3, .int x3)]) C.1 C.2.1 dX11_sheet_84 hl (k := 3) rfl (by rw [ex4_20]; rfl) (by decide) rfl (fun ls hl => ?_)
      refine lv_goto (tgt := 65) C.1 C.2.1 dX11_sheet_87 (by decide) ?_
      exact ih x1 x3 x4_20 f a19 _ _ _ h hW (lv_sub hl [1, 2, 3, 0] rfl)
set_option maxRecDepth 100000 in
set_option maxHeartbeats 4000000 in
theorem sX11_sheet {p : Program} {l : Launch} {e : Env} {s : State} {m : MethodId} {args : Array Value} {below : List Frame} {meth : Method} {c : Code} {D : va_G} {q : Nat → Nat} {A : Nat → Prop} {cI : ClassId} (C : CallFix p m c cX11_sheet 5 s args wsX11_sheet RX11) (hr : meth.sig.returnType = (some .int)) (hlk : meth.locks = false) (Q : Int32 → (Nat → Int32) → (Nat → Nat → Int32) → Prop) : ∀ (x1 : Int32) (x2 : Int32) (x3 : Int32) (f : Nat → Int32) (a : Nat → Nat → Int32) (H : Heap) (locs : List Loc) (ls : Array Slot), vX11_sheet x1 x2 x3 f a Q → hw D [(cI, .int)] q 12 (gM q cI f a) A s H locs → lv_has ls 5 [(0, .ref (q 0)), (1, .int x1), (2, .int x2), (3, .int x3)] → W p l e (headSpec wsX11_sheet rmX11_sheet).room s m args below meth c H locs 0 0 (MQ below (QMi D q cI Q A) args s 0 0 A) (F0 m 0 ls []) := by
  intro x1 x2 x3 f a H locs ls h hW hl
  unfold vX11_sheet at h
  refine lv_iload_n C.1 C.2.1 dX11_sheet_0 rfl (lv_at hl 1 rfl) ?_
  refine k_pi hW (va_runS (As := [.int x1]) (rest := []) C (mtX11_noSheet l D q _ H.size x1 _ h) (va_cwS 1 C.2.2.2.2 gX11_sheet_X11_noSheet rfl rfl rfl (by decide +kernel) ⟨Nat.le_of_ble_eq_true rfl, Nat.le_of_ble_eq_true rfl⟩) ⟨mP_blind tX_B, fun U hU hV => ⟨rfl, hW.pre0 hU hV trivial⟩⟩ rfl rfl hl.1 rfl (lv_room (Nat.le_of_ble_eq_true rfl)) dX11_sheet_1 ⟨Nat.zero_le _, Nat.zero_le _⟩) (fun r1 H locs h hW => ?_)
  refine lv_if_eq (tgt := 13) C.1 C.2.1 dX11_sheet_4 (by decide) (fun c2 => ?_) (fun c2 => ?_)
  · replace h := h.1 c2
    refine lv_iload_n C.1 C.2.1 dX11_sheet_13 rfl (lv_at hl 2 rfl) ?_
    refine lv_i2l C.1 C.2.1 dX11_sheet_14 rfl ?_
    refine lv_lconst (v := 0) C.1 C.2.1 dX11_sheet_15 (by decide) ?_
    refine lv_ldc2 (v := (2)) C.1 C.2.1 C.2.2.2.1 (C.2.2.2.2 (.constantLong RX11 92 (2)) (by decide +kernel)) dX11_sheet_16 ?_
    refine k_pi hW (va_runS (As := [.long x2.toInt64, .long (0 : Int64), .long (2 : Int64)]) (rest := []) C (mtX11_in l D q _ H.size x2.toInt64 (0 : Int64) (2 : Int64) _ h) (va_cwS 3 C.2.2.2.2 gX11_sheet_X11_in rfl rfl rfl (by decide +kernel) ⟨Nat.le_of_ble_eq_true rfl, Nat.le_of_ble_eq_true rfl⟩) ⟨mP_blind tX_B, fun U hU hV => ⟨rfl, hW.pre0 hU hV trivial⟩⟩ rfl rfl hl.1 rfl (lv_room (Nat.le_of_ble_eq_true rfl)) dX11_sheet_19 ⟨Nat.zero_le _, Nat.zero_le _⟩) (fun r3 H locs h hW => ?_)
    refine lv_if_eq (tgt := 31) C.1 C.2.1 dX11_sheet_22 (by decide) (fun c4 => ?_) (fun c4 => ?_)
    · replace h := h.1 c4
      exact sX11_sheet_31 C hr hlk Q f a _ _ _ h hW (lv_sub hl [0] rfl)
    · replace h := h.2 c4
      refine lv_iload_n C.1 C.2.1 dX11_sheet_25 rfl (lv_at hl 3 rfl) ?_
      refine lv_bipush (v := 60) C.1 C.2.1 dX11_sheet_26 (by decide) ?_
      refine lv_icmp_le (tgt := 38) C.1 C.2.1 dX11_sheet_28 (by decide) (fun c8 => ?_) (fun c8 => ?_)
      · replace h := h.1 c8
        refine lv_iload_n C.1 C.2.1 dX11_sheet_38 rfl (lv_at hl 3 rfl) ?_
        refine lv_if_ge (tgt := 48) C.1 C.2.1 dX11_sheet_39 (by decide) (fun c9 => ?_) (fun c9 => ?_)
        · replace h := h.1 c9
          refine lv_aload_n C.1 C.2.1 dX11_sheet_48 rfl (lv_at hl 0 rfl) ?_
          refine r_get C hW (ci := 11) (T := TX11) (n := 21) (ref := "BallMinderModel") (v := .ref (q 8)) 0 (by decide) rfl rfl 16 (by decide) inX11_sheet (by decide +kernel) (fun _ h9 => h9) rfl dX11_sheet_49 ?_
          refine lv_iload_n C.1 C.2.1 dX11_sheet_52 rfl (lv_at hl 1 rfl) ?_
          refine lv_iload_n C.1 C.2.1 dX11_sheet_53 rfl (lv_at hl 3 rfl) ?_
          obtain ⟨hs10, h⟩ := h
          refine r_iast C hW (cA := cI) (n := 4) (f := a 8) 8 0 (by decide) rfl rfl hs10 dX11_sheet_54 (fun H locs hW => ?_)
          replace hW := gM_ast (k := 8) (n := 4) (by decide) rfl hW
          obtain ⟨a11, ea11⟩ : ∃ z : Nat → Nat → Int32, z = va_up a 8 (upd (a 8) x1.toNatClampNeg x3) := ⟨_, rfl⟩
          rw [← ea11] at hW
          replace h := h a11 ea11
          refine lv_aload_n C.1 C.2.1 dX11_sheet_55 rfl (lv_at hl 0 rfl) ?_
          refine r_get C hW (ci := 11) (T := TX11) (n := 21) (ref := "BallMinderModel") (v := .ref (q 9)) 0 (by decide) rfl rfl 17 (by decide) inX11_sheet (by decide +kernel) (fun _ h9 => h9) rfl dX11_sheet_56 ?_
          refine lv_iload_n C.1 C.2.1 dX11_sheet_59 rfl (lv_at hl 1 rfl) ?_
          refine lv_iload_n C.1 C.2.1 dX11_sheet_60 rfl (lv_at hl 2 rfl) ?_
          obtain ⟨hs12, h⟩ := h
          refine r_iast C hW (cA := cI) (n := 4) (f := a11 9) 9 0 (by decide) rfl rfl hs12 dX11_sheet_61 (fun H locs hW => ?_)
          replace hW := gM_ast (k := 9) (n := 4) (by decide) rfl hW
          obtain ⟨a13, ea13⟩ : ∃ z : Nat → Nat → Int32, z = va_up a11 9 (upd (a11 9) x1.toNatClampNeg x2) := ⟨_, rfl⟩
          rw [← ea13] at hW
          replace h := h a13 ea13
          refine lv_iconst (v := 0) C.1 C.2.1 dX11_sheet_62 (by decide) ?_
          refine lv_istore (lv' := [(4, .int (0 : Int32)), (0, .ref (q 0)), (1, .int x1), (2, .int x2), (3, .int x3)]) C.1 C.2.1 dX11_sheet_63 hl (by decide) rfl (fun ls hl => ?_)
          obtain ⟨n9, h⟩ := h
          exact sX11_sheet_65 C hr hlk Q n9 x1 x3 (0 : Int32) f a13 _ _ _ h hW (lv_sub hl [1, 2, 4, 0] rfl)
        · replace h := h.2 c9
          refine lv_aload_n C.1 C.2.1 dX11_sheet_42 rfl (lv_at hl 0 rfl) ?_
          refine lv_iconst (v := 4) C.1 C.2.1 dX11_sheet_43 (by decide) ?_
          refine k_i hW (va_runV (As := [.int (4 : Int32)]) (rest := []) C (mtX11_failed l D q cI H.size (4 : Int32) f a _ h) (cwV 1 C.2.2.2.2 gX11_sheet_X11_failed rfl rfl rfl (by decide +kernel) ⟨Nat.le_of_ble_eq_true rfl, Nat.le_of_ble_eq_true rfl⟩) ⟨mP_blind tX_B, va_recv hW.1 hW.2.1 (ci := 11) (q0 := 0) rfl (wL_get (by decide)), fun U hU hV => ⟨rfl, hW.pre hU hV trivial⟩⟩ rfl rfl hl.1 rfl (lv_room (Nat.le_of_ble_eq_true rfl)) dX11_sheet_44 ⟨Nat.zero_le _, Nat.zero_le _⟩) (fun r21 u H locs h hW => ?_)
          obtain ⟨f22, a23⟩ := u
          replace hW : hw D [(cI, .int)] q 12 (gM q cI f22 a23) A s H locs := hW
          exact t_i C hr hlk (u := (f22, a23)) hW.2.2.2.1 hW.B h dX11_sheet_47
      · replace h := h.2 c8
        exact sX11_sheet_31 C hr hlk Q f a _ _ _ h hW (lv_sub hl [0] rfl)
  · replace h := h.2 c2
    refine lv_aload_n C.1 C.2.1 dX11_sheet_7 rfl (lv_at hl 0 rfl) ?_
    refine lv_iconst (v := -1) C.1 C.2.1 dX11_sheet_8 (by decide) ?_
    refine k_i hW (va_runV (As := [.int (-1 : Int32)]) (rest := []) C (mtX11_refused l D q cI H.size (-1 : Int32) f a _ h) (cwV 1 C.2.2.2.2 gX11_sheet_X11_refused rfl rfl rfl (by decide +kernel) ⟨Nat.le_of_ble_eq_true rfl, Nat.le_of_ble_eq_true rfl⟩) ⟨mP_blind tX_B, va_recv hW.1 hW.2.1 (ci := 11) (q0 := 0) rfl (wL_get (by decide)), fun U hU hV => ⟨rfl, hW.pre hU hV trivial⟩⟩ rfl rfl hl.1 rfl (lv_room (Nat.le_of_ble_eq_true rfl)) dX11_sheet_9 ⟨Nat.zero_le _, Nat.zero_le _⟩) (fun r24 u H locs h hW => ?_)
    obtain ⟨f25, a26⟩ := u
    replace hW : hw D [(cI, .int)] q 12 (gM q cI f25 a26) A s H locs := hW
    exact t_i C hr hlk (u := (f25, a26)) hW.2.2.2.1 hW.B h dX11_sheet_12
set_option maxRecDepth 100000 in
set_option maxHeartbeats 4000000 in
theorem mtX11_sheet (l : Launch) (D : va_G) (q : Nat → Nat) (cI : ClassId) (sz : Nat) (x1 : Int32) (x2 : Int32) (x3 : Int32) (f : Nat → Int32) (a : Nat → Nat → Int32) (Q : Int32 → (Nat → Int32) → (Nat → Nat → Int32) → Prop) (h : vX11_sheet x1 x2 x3 f a Q) : Met l yX11_sheet wsX11_sheet rmX11_sheet (va_Pc [.ref (q 0), .int x1, .int x2, .int x3] (mP D [(cI, .int)] q 12 (gM q cI f a) sz tX)) (QMi D q cI Q (aQ q 12 sz)) 0 0 (aQ q 12 sz) := by
  refine met_w (cc := cX11_sheet) (maxL := 5) (ret := (some .int)) (by decide) rfl (Nat.le_of_ble_eq_true rfl) ?_
  intro p e s m below meth c ls C hr hlk hW hX hnm hl
  exact sX11_sheet C hr hlk Q x1 x2 x3 f a _ _ _ h hW hl
theorem inX11_lose : ∀ w ∈ wsX110, w ∈ wsX11_lose := fun _ h => List.mem_cons_of_mem _ (List.mem_append_right _ h)
abbrev rmX11_lose : Room := { frames := 2, cells := 0, slots := 0, locals := 45 }
def vX11_lose_23 (Q : Int32 → (Nat → Int32) → (Nat → Nat → Int32) → Prop) (x1 : Int32) (y0 : Int32) (f : Nat → Int32) (a : Nat → Nat → Int32) : Prop := vp_in x1 4 ∧ (∀ a6 : Nat → Nat → Int32, a6 = va_up a 8 (upd (a 8) x1.toNatClampNeg (-1 : Int32)) → Q y0 f a6)
def vX11_lose (x1 : Int32) (f : Nat → Int32) (a : Nat → Nat → Int32) (Q : Int32 → (Nat → Int32) → (Nat → Nat → Int32) → Prop) : Prop := vX11_noSheet x1 (fun r1 => (r1 = 0 → vp_in x1 4 ∧ ((0 ≤ (a 8 x1.toNatClampNeg) → vX11_lose_23 Q x1 (1 : Int32) f a) ∧ (¬ (0 ≤ (a 8 x1.toNatClampNeg)) → vX11_lose_23 Q x1 (0 : Int32) f a))) ∧ (¬ (r1 = 0) → Q (-1 : Int32) f a))
set_option maxRecDepth 100000 in
set_option maxHeartbeats 4000000 in
theorem sX11_lose_23 {p : Program} {l : Launch} {e : Env} {s : State} {m : MethodId} {args : Array Value} {below : List Frame} {meth : Method} {c : Code} {D : va_G} {q : Nat → Nat} {A : Nat → Prop} {cI : ClassId} (C : CallFix p m c cX11_lose 3 s args wsX11_lose RX11) (hr : meth.sig.returnType = (some .int)) (hlk : meth.locks = false) (Q : Int32 → (Nat → Int32) → (Nat → Nat → Int32) → Prop) : ∀ (x1 : Int32) (y0 : Int32) (f : Nat → Int32) (a : Nat → Nat → Int32) (H : Heap) (locs : List Loc) (ls : Array Slot), vX11_lose_23 Q x1 y0 f a → hw D [(cI, .int)] q 12 (gM q cI f a) A s H locs → lv_has ls 3 [(0, .ref (q 0)), (1, .int x1)] → W p l e (headSpec wsX11_lose rmX11_lose).room s m args below meth c H locs 0 0 (MQ below (QMi D q cI Q A) args s 0 0 A) (F0 m 23 ls [.int y0]) := by
  intro x1 y0 f a H locs ls h hW hl
  unfold vX11_lose_23 at h
  refine lv_istore_n (lv' := [(2, .int y0), (0, .ref (q 0)), (1, .int x1)]) C.1 C.2.1 dX11_lose_23 rfl hl (by decide) rfl (fun ls hl => ?_)
  refine lv_aload_n C.1 C.2.1 dX11_lose_24 rfl (lv_at hl 1 rfl) ?_
  refine r_get C hW (ci := 11) (T := TX11) (n := 21) (ref := "BallMinderModel") (v := .ref (q 8)) 0 (by decide) rfl rfl 16 (by decide) inX11_lose (by decide +kernel) (fun _ h9 => h9) rfl dX11_lose_25 ?_
  refine lv_iload_n C.1 C.2.1 dX11_lose_28 rfl (lv_at hl 2 rfl) ?_
  refine lv_iconst (v := -1) C.1 C.2.1 dX11_lose_29 (by decide) ?_
  obtain ⟨hs5, h⟩ := h
  refine r_iast C hW (cA := cI) (n := 4) (f := a 8) 8 0 (by decide) rfl rfl hs5 dX11_lose_30 (fun H locs hW => ?_)
  replace hW := gM_ast (k := 8) (n := 4) (by decide) rfl hW
  obtain ⟨a6, ea6⟩ : ∃ z : Nat → Nat → Int32, z = va_up a 8 (upd (a 8) x1.toNatClampNeg (-1 : Int32)) := ⟨_, rfl⟩
  rw [← ea6] at hW
  replace h := h a6 ea6
  refine lv_iload_n C.1 C.2.1 dX11_lose_31 rfl (lv_at hl 0 rfl) ?_
  exact t_i C hr hlk (u := (f, a6)) hW.2.2.2.1 hW.B h dX11_lose_32
set_option maxRecDepth 100000 in
set_option maxHeartbeats 4000000 in
theorem sX11_lose {p : Program} {l : Launch} {e : Env} {s : State} {m : MethodId} {args : Array Value} {below : List Frame} {meth : Method} {c : Code} {D : va_G} {q : Nat → Nat} {A : Nat → Prop} {cI : ClassId} (C : CallFix p m c cX11_lose 3 s args wsX11_lose RX11) (hr : meth.sig.returnType = (some .int)) (hlk : meth.locks = false) (Q : Int32 → (Nat → Int32) → (Nat → Nat → Int32) → Prop) : ∀ (x1 : Int32) (f : Nat → Int32) (a : Nat → Nat → Int32) (H : Heap) (locs : List Loc) (ls : Array Slot), vX11_lose x1 f a Q → hw D [(cI, .int)] q 12 (gM q cI f a) A s H locs → lv_has ls 3 [(0, .ref (q 0)), (1, .int x1)] → W p l e (headSpec wsX11_lose rmX11_lose).room s m args below meth c H locs 0 0 (MQ below (QMi D q cI Q A) args s 0 0 A) (F0 m 0 ls []) := by
  intro x1 f a H locs ls h hW hl
  unfold vX11_lose at h
  refine lv_iload_n C.1 C.2.1 dX11_lose_0 rfl (lv_at hl 1 rfl) ?_
  refine k_pi hW (va_runS (As := [.int x1]) (rest := []) C (mtX11_noSheet l D q _ H.size x1 _ h) (va_cwS 1 C.2.2.2.2 gX11_lose_X11_noSheet rfl rfl rfl (by decide +kernel) ⟨Nat.le_of_ble_eq_true rfl, Nat.le_of_ble_eq_true rfl⟩) ⟨mP_blind tX_B, fun U hU hV => ⟨rfl, hW.pre0 hU hV trivial⟩⟩ rfl rfl hl.1 rfl (lv_room (Nat.le_of_ble_eq_true rfl)) dX11_lose_1 ⟨Nat.zero_le _, Nat.zero_le _⟩) (fun r1 H locs h hW => ?_)
  refine lv_if_eq (tgt := 9) C.1 C.2.1 dX11_lose_4 (by decide) (fun c2 => ?_) (fun c2 => ?_)
  · replace h := h.1 c2
    refine lv_aload_n C.1 C.2.1 dX11_lose_9 rfl (lv_at hl 0 rfl) ?_
    refine r_get C hW (ci := 11) (T := TX11) (n := 21) (ref := "BallMinderModel") (v := .ref (q 8)) 0 (by decide) rfl rfl 16 (by decide) inX11_lose (by decide +kernel) (fun _ h9 => h9) rfl dX11_lose_10 ?_
    refine lv_iload_n C.1 C.2.1 dX11_lose_13 rfl (lv_at hl 1 rfl) ?_
    obtain ⟨hs3, h⟩ := h
    refine r_iald C hW (cA := cI) (n := 4) (f := a 8) 8 0 (by decide) rfl rfl hs3 dX11_lose_14 ?_
    refine lv_if_ge (tgt := 22) C.1 C.2.1 dX11_lose_15 (by decide) (fun c4 => ?_) (fun c4 => ?_)
    · replace h := h.1 c4
      refine lv_iconst (v := 1) C.1 C.2.1 dX11_lose_22 (by decide) ?_
      exact sX11_lose_23 C hr hlk Q x1 (1 : Int32) f a _ _ _ h hW (lv_sub hl [0, 1] rfl)
    · replace h := h.2 c4
      refine lv_iconst (v := 0) C.1 C.2.1 dX11_lose_18 (by decide) ?_
      refine lv_goto (tgt := 23) C.1 C.2.1 dX11_lose_19 (by decide) ?_
      exact sX11_lose_23 C hr hlk Q x1 (0 : Int32) f a _ _ _ h hW (lv_sub hl [0, 1] rfl)
  · replace h := h.2 c2
    refine lv_iconst (v := -1) C.1 C.2.1 dX11_lose_7 (by decide) ?_
    exact t_i C hr hlk (u := (f, a)) hW.2.2.2.1 hW.B h dX11_lose_8
set_option maxRecDepth 100000 in
set_option maxHeartbeats 4000000 in
theorem mtX11_lose (l : Launch) (D : va_G) (q : Nat → Nat) (cI : ClassId) (sz : Nat) (x1 : Int32) (f : Nat → Int32) (a : Nat → Nat → Int32) (Q : Int32 → (Nat → Int32) → (Nat → Nat → Int32) → Prop) (h : vX11_lose x1 f a Q) : Met l yX11_lose wsX11_lose rmX11_lose (va_Pc [.ref (q 0), .int x1] (mP D [(cI, .int)] q 12 (gM q cI f a) sz tX)) (QMi D q cI Q (aQ q 12 sz)) 0 0 (aQ q 12 sz) := by
  refine met_w (cc := cX11_lose) (maxL := 3) (ret := (some .int)) (by decide) rfl (Nat.le_of_ble_eq_true rfl) ?_
  intro p e s m below meth c ls C hr hlk hW hX hnm hl
  exact sX11_lose C hr hlk Q x1 f a _ _ _ h hW hl
theorem inX11_noCell : ∀ w ∈ wsX110, w ∈ wsX11_noCell := fun _ h => List.mem_cons_of_mem _ (List.mem_append_right _ h)
abbrev rmX11_noCell : Room := { frames := 1, cells := 0, slots := 0, locals := 25 }
def vX11_noCell (x1 : Int32) (x2 : Int32) (f : Nat → Int32) (a : Nat → Nat → Int32) (Q : Int32 → (Nat → Int32) → (Nat → Nat → Int32) → Prop) : Prop := vp_in x1 4 ∧ ((0 ≤ (a 8 x1.toNatClampNeg) → vp_in x1 4 ∧ (vX11_in x2.toInt64 (0 : Int64) (((a 8 x1.toNatClampNeg).toInt64) - (1 : Int64)) (fun r4 => (r4 = 0 → Q (3 : Int32) f a) ∧ (¬ (r4 = 0) → Q (0 : Int32) f a)))) ∧ (¬ (0 ≤ (a 8 x1.toNatClampNeg)) → Q (1 : Int32) f a))
set_option maxRecDepth 100000 in
set_option maxHeartbeats 4000000 in
theorem sX11_noCell {p : Program} {l : Launch} {e : Env} {s : State} {m : MethodId} {args : Array Value} {below : List Frame} {meth : Method} {c : Code} {D : va_G} {q : Nat → Nat} {A : Nat → Prop} {cI : ClassId} (C : CallFix p m c cX11_noCell 3 s args wsX11_noCell RX11) (hr : meth.sig.returnType = (some .int)) (hlk : meth.locks = false) (Q : Int32 → (Nat → Int32) → (Nat → Nat → Int32) → Prop) : ∀ (x1 : Int32) (x2 : Int32) (f : Nat → Int32) (a : Nat → Nat → Int32) (H : Heap) (locs : List Loc) (ls : Array Slot), vX11_noCell x1 x2 f a Q → hw D [(cI, .int)] q 12 (gM q cI f a) A s H locs → lv_has ls 3 [(0, .ref (q 0)), (1, .int x1), (2, .int x2)] → W p l e (headSpec wsX11_noCell rmX11_noCell).room s m args below meth c H locs 0 0 (MQ below (QMi D q cI Q A) args s 0 0 A) (F0 m 0 ls []) := by
  intro x1 x2 f a H locs ls h hW hl
  unfold vX11_noCell at h
  refine lv_aload_n C.1 C.2.1 dX11_noCell_0 rfl (lv_at hl 0 rfl) ?_
  refine r_get C hW (ci := 11) (T := TX11) (n := 21) (ref := "BallMinderModel") (v := .ref (q 8)) 0 (by decide) rfl rfl 16 (by decide) inX11_noCell (by decide +kernel) (fun _ h9 => h9) rfl dX11_noCell_1 ?_
  refine lv_iload_n C.1 C.2.1 dX11_noCell_4 rfl (lv_at hl 1 rfl) ?_
  obtain ⟨hs1, h⟩ := h
  refine r_iald C hW (cA := cI) (n := 4) (f := a 8) 8 0 (by decide) rfl rfl hs1 dX11_noCell_5 ?_
  refine lv_if_ge (tgt := 13) C.1 C.2.1 dX11_noCell_6 (by decide) (fun c2 => ?_) (fun c2 => ?_)
  · replace h := h.1 c2
    refine lv_iload_n C.1 C.2.1 dX11_noCell_13 rfl (lv_at hl 2 rfl) ?_
    refine lv_i2l C.1 C.2.1 dX11_noCell_14 rfl ?_
    refine lv_lconst (v := 0) C.1 C.2.1 dX11_noCell_15 (by decide) ?_
    refine lv_aload_n C.1 C.2.1 dX11_noCell_16 rfl (lv_at hl 0 rfl) ?_
    refine r_get C hW (ci := 11) (T := TX11) (n := 21) (ref := "BallMinderModel") (v := .ref (q 8)) 0 (by decide) rfl rfl 16 (by decide) inX11_noCell (by decide +kernel) (fun _ h9 => h9) rfl dX11_noCell_17 ?_
    refine lv_iload_n C.1 C.2.1 dX11_noCell_20 rfl (lv_at hl 1 rfl) ?_
    obtain ⟨hs3, h⟩ := h
    refine r_iald C hW (cA := cI) (n := 4) (f := a 8) 8 0 (by decide) rfl rfl hs3 dX11_noCell_21 ?_
    refine lv_i2l C.1 C.2.1 dX11_noCell_22 rfl ?_
    refine lv_lconst (v := 1) C.1 C.2.1 dX11_noCell_23 (by decide) ?_
    refine lv_lsub C.1 C.2.1 dX11_noCell_24 ?_
    refine k_pi hW (va_runS (As := [.long x2.toInt64, .long (0 : Int64), .long (((a 8 x1.toNatClampNeg).toInt64) - (1 : Int64))]) (rest := []) C (mtX11_in l D q _ H.size x2.toInt64 (0 : Int64) (((a 8 x1.toNatClampNeg).toInt64) - (1 : Int64)) _ h) (va_cwS 3 C.2.2.2.2 gX11_noCell_X11_in rfl rfl rfl (by decide +kernel) ⟨Nat.le_of_ble_eq_true rfl, Nat.le_of_ble_eq_true rfl⟩) ⟨mP_blind tX_B, fun U hU hV => ⟨rfl, hW.pre0 hU hV trivial⟩⟩ rfl rfl hl.1 rfl (lv_room (Nat.le_of_ble_eq_true rfl)) dX11_noCell_25 ⟨Nat.zero_le _, Nat.zero_le _⟩) (fun r4 H locs h hW => ?_)
    refine lv_if_eq (tgt := 35) C.1 C.2.1 dX11_noCell_28 (by decide) (fun c5 => ?_) (fun c5 => ?_)
    · replace h := h.1 c5
      refine lv_iconst (v := 3) C.1 C.2.1 dX11_noCell_35 (by decide) ?_
      exact t_i C hr hlk (u := (f, a)) hW.2.2.2.1 hW.B h dX11_noCell_36
    · replace h := h.2 c5
      refine lv_iconst (v := 0) C.1 C.2.1 dX11_noCell_31 (by decide) ?_
      refine lv_goto (tgt := 36) C.1 C.2.1 dX11_noCell_32 (by decide) ?_
      exact t_i C hr hlk (u := (f, a)) hW.2.2.2.1 hW.B h dX11_noCell_36
  · replace h := h.2 c2
    refine lv_iconst (v := 1) C.1 C.2.1 dX11_noCell_9 (by decide) ?_
    refine lv_goto (tgt := 36) C.1 C.2.1 dX11_noCell_10 (by decide) ?_
    exact t_i C hr hlk (u := (f, a)) hW.2.2.2.1 hW.B h dX11_noCell_36
set_option maxRecDepth 100000 in
set_option maxHeartbeats 4000000 in
theorem mtX11_noCell (l : Launch) (D : va_G) (q : Nat → Nat) (cI : ClassId) (sz : Nat) (x1 : Int32) (x2 : Int32) (f : Nat → Int32) (a : Nat → Nat → Int32) (Q : Int32 → (Nat → Int32) → (Nat → Nat → Int32) → Prop) (h : vX11_noCell x1 x2 f a Q) : Met l yX11_noCell wsX11_noCell rmX11_noCell (va_Pc [.ref (q 0), .int x1, .int x2] (mP D [(cI, .int)] q 12 (gM q cI f a) sz tX)) (QMi D q cI Q (aQ q 12 sz)) 0 0 (aQ q 12 sz) := by
  refine met_w (cc := cX11_noCell) (maxL := 3) (ret := (some .int)) (by decide) rfl (Nat.le_of_ble_eq_true rfl) ?_
  intro p e s m below meth c ls C hr hlk hW hX hnm hl
  exact sX11_noCell C hr hlk Q x1 x2 f a _ _ _ h hW hl
theorem inX11_put : ∀ w ∈ wsX110, w ∈ wsX11_put := fun _ h => List.mem_cons_of_mem _ (List.mem_append_right _ h)
abbrev rmX11_put : Room := { frames := 2, cells := 0, slots := 0, locals := 47 }
def vX11_put_73 (Q : Int32 → (Nat → Int32) → (Nat → Nat → Int32) → Prop) (y0 : Int32) (y1 : Int32) (f : Nat → Int32) (a : Nat → Nat → Int32) : Prop := vp_in y1 240 ∧ (∀ a12 : Nat → Nat → Int32, a12 = va_up a 10 (upd (a 10) y1.toNatClampNeg y0) → vX11_refused (1 : Int32) f a12 (fun r13 f14 a15 => Q r13 f14 a15))
def vX11_put (x1 : Int32) (x2 : Int32) (x3 : Int32) (f : Nat → Int32) (a : Nat → Nat → Int32) (Q : Int32 → (Nat → Int32) → (Nat → Nat → Int32) → Prop) : Prop := vX11_noSheet x1 (fun r1 => (r1 = 0 → vX11_noCell x1 x2 f a (fun r3 f4 a5 => (r3 ≤ 0 → vp_in x1 4 ∧ ((¬ (a5 9 x1.toNatClampNeg) = 0 → vp_in x1 4 ∧ ((¬ (a5 9 x1.toNatClampNeg) = (1 : Int32) → vX11_put_73 Q x3 (((60 : Int32) * x1) + x2) f4 a5) ∧ ((a5 9 x1.toNatClampNeg) = (1 : Int32) → vX11_put_73 Q x3.toInt16.toInt32 (((60 : Int32) * x1) + x2) f4 a5))) ∧ ((a5 9 x1.toNatClampNeg) = 0 → vX11_put_73 Q x3.toInt8.toInt32 (((60 : Int32) * x1) + x2) f4 a5))) ∧ (¬ (r3 ≤ 0) → vX11_noCell x1 x2 f4 a5 (fun r16 f17 a18 => vX11_failed r16 f17 a18 (fun r19 f20 a21 => Q r19 f20 a21))))) ∧ (¬ (r1 = 0) → vX11_refused (-1 : Int32) f a (fun r22 f23 a24 => Q r22 f23 a24)))
set_option maxRecDepth 100000 in
set_option maxHeartbeats 4000000 in
theorem sX11_put_73 {p : Program} {l : Launch} {e : Env} {s : State} {m : MethodId} {args : Array Value} {below : List Frame} {meth : Method} {c : Code} {D : va_G} {q : Nat → Nat} {A : Nat → Prop} {cI : ClassId} (C : CallFix p m c cX11_put 4 s args wsX11_put RX11) (hr : meth.sig.returnType = (some .int)) (hlk : meth.locks = false) (Q : Int32 → (Nat → Int32) → (Nat → Nat → Int32) → Prop) : ∀ (y0 : Int32) (y1 : Int32) (f : Nat → Int32) (a : Nat → Nat → Int32) (H : Heap) (locs : List Loc) (ls : Array Slot), vX11_put_73 Q y0 y1 f a → hw D [(cI, .int)] q 12 (gM q cI f a) A s H locs → lv_has ls 4 [(0, .ref (q 0))] → W p l e (headSpec wsX11_put rmX11_put).room s m args below meth c H locs 0 0 (MQ below (QMi D q cI Q A) args s 0 0 A) (F0 m 73 ls [.int y0, .int y1, .ref (q 10)]) := by
  intro y0 y1 f a H locs ls h hW hl
  unfold vX11_put_73 at h
  obtain ⟨hs11, h⟩ := h
  refine r_iast C hW (cA := cI) (n := 240) (f := a 10) 10 0 (by decide) rfl rfl hs11 dX11_put_73 (fun H locs hW => ?_)
  replace hW := gM_ast (k := 10) (n := 240) (by decide) rfl hW
  obtain ⟨a12, ea12⟩ : ∃ z : Nat → Nat → Int32, z = va_up a 10 (upd (a 10) y1.toNatClampNeg y0) := ⟨_, rfl⟩
  rw [← ea12] at hW
  replace h := h a12 ea12
  refine lv_aload_n C.1 C.2.1 dX11_put_74 rfl (lv_at hl 0 rfl) ?_
  refine lv_iconst (v := 1) C.1 C.2.1 dX11_put_75 (by decide) ?_
  refine k_i hW (va_runV (As := [.int (1 : Int32)]) (rest := []) C (mtX11_refused l D q cI H.size (1 : Int32) f a12 _ h) (cwV 1 C.2.2.2.2 gX11_put_X11_refused rfl rfl rfl (by decide +kernel) ⟨Nat.le_of_ble_eq_true rfl, Nat.le_of_ble_eq_true rfl⟩) ⟨mP_blind tX_B, va_recv hW.1 hW.2.1 (ci := 11) (q0 := 0) rfl (wL_get (by decide)), fun U hU hV => ⟨rfl, hW.pre hU hV trivial⟩⟩ rfl rfl hl.1 rfl (lv_room (Nat.le_of_ble_eq_true rfl)) dX11_put_76 ⟨Nat.zero_le _, Nat.zero_le _⟩) (fun r13 u H locs h hW => ?_)
  obtain ⟨f14, a15⟩ := u
  replace hW : hw D [(cI, .int)] q 12 (gM q cI f14 a15) A s H locs := hW
  exact t_i C hr hlk (u := (f14, a15)) hW.2.2.2.1 hW.B h dX11_put_79
set_option maxRecDepth 100000 in
set_option maxHeartbeats 4000000 in
theorem sX11_put {p : Program} {l : Launch} {e : Env} {s : State} {m : MethodId} {args : Array Value} {below : List Frame} {meth : Method} {c : Code} {D : va_G} {q : Nat → Nat} {A : Nat → Prop} {cI : ClassId} (C : CallFix p m c cX11_put 4 s args wsX11_put RX11) (hr : meth.sig.returnType = (some .int)) (hlk : meth.locks = false) (Q : Int32 → (Nat → Int32) → (Nat → Nat → Int32) → Prop) : ∀ (x1 : Int32) (x2 : Int32) (x3 : Int32) (f : Nat → Int32) (a : Nat → Nat → Int32) (H : Heap) (locs : List Loc) (ls : Array Slot), vX11_put x1 x2 x3 f a Q → hw D [(cI, .int)] q 12 (gM q cI f a) A s H locs → lv_has ls 4 [(0, .ref (q 0)), (1, .int x1), (2, .int x2), (3, .int x3)] → W p l e (headSpec wsX11_put rmX11_put).room s m args below meth c H locs 0 0 (MQ below (QMi D q cI Q A) args s 0 0 A) (F0 m 0 ls []) := by
  intro x1 x2 x3 f a H locs ls h hW hl
  unfold vX11_put at h
  refine lv_iload_n C.1 C.2.1 dX11_put_0 rfl (lv_at hl 1 rfl) ?_
  refine k_pi hW (va_runS (As := [.int x1]) (rest := []) C (mtX11_noSheet l D q _ H.size x1 _ h) (va_cwS 1 C.2.2.2.2 gX11_put_X11_noSheet rfl rfl rfl (by decide +kernel) ⟨Nat.le_of_ble_eq_true rfl, Nat.le_of_ble_eq_true rfl⟩) ⟨mP_blind tX_B, fun U hU hV => ⟨rfl, hW.pre0 hU hV trivial⟩⟩ rfl rfl hl.1 rfl (lv_room (Nat.le_of_ble_eq_true rfl)) dX11_put_1 ⟨Nat.zero_le _, Nat.zero_le _⟩) (fun r1 H locs h hW => ?_)
  refine lv_if_eq (tgt := 13) C.1 C.2.1 dX11_put_4 (by decide) (fun c2 => ?_) (fun c2 => ?_)
  · replace h := h.1 c2
    refine lv_aload_n C.1 C.2.1 dX11_put_13 rfl (lv_at hl 0 rfl) ?_
    refine lv_iload_n C.1 C.2.1 dX11_put_14 rfl (lv_at hl 1 rfl) ?_
    refine lv_iload_n C.1 C.2.1 dX11_put_15 rfl (lv_at hl 2 rfl) ?_
    refine k_i hW (va_runV (As := [.int x1, .int x2]) (rest := []) C (mtX11_noCell l D q cI H.size x1 x2 f a _ h) (cwV 2 C.2.2.2.2 gX11_put_X11_noCell rfl rfl rfl (by decide +kernel) ⟨Nat.le_of_ble_eq_true rfl, Nat.le_of_ble_eq_true rfl⟩) ⟨mP_blind tX_B, va_recv hW.1 hW.2.1 (ci := 11) (q0 := 0) rfl (wL_get (by decide)), fun U hU hV => ⟨rfl, hW.pre hU hV trivial⟩⟩ rfl rfl hl.1 rfl (lv_room (Nat.le_of_ble_eq_true rfl)) dX11_put_16 ⟨Nat.zero_le _, Nat.zero_le _⟩) (fun r3 u H locs h hW => ?_)
    obtain ⟨f4, a5⟩ := u
    replace hW : hw D [(cI, .int)] q 12 (gM q cI f4 a5) A s H locs := hW
    refine lv_if_le (tgt := 33) C.1 C.2.1 dX11_put_19 (by decide) (fun c6 => ?_) (fun c6 => ?_)
    · replace h := h.1 c6
      refine lv_aload_n C.1 C.2.1 dX11_put_33 rfl (lv_at hl 0 rfl) ?_
      refine r_get C hW (ci := 11) (T := TX11) (n := 21) (ref := "BallMinderModel") (v := .ref (q 10)) 0 (by decide) rfl rfl 18 (by decide) inX11_put (by decide +kernel) (fun _ h9 => h9) rfl dX11_put_34 ?_
      refine lv_bipush (v := 60) C.1 C.2.1 dX11_put_37 (by decide) ?_
      refine lv_iload_n C.1 C.2.1 dX11_put_39 rfl (lv_at hl 1 rfl) ?_
      refine lv_imul C.1 C.2.1 dX11_put_40 ?_
      refine lv_iload_n C.1 C.2.1 dX11_put_41 rfl (lv_at hl 2 rfl) ?_
      refine lv_iadd C.1 C.2.1 dX11_put_42 ?_
      refine lv_aload_n C.1 C.2.1 dX11_put_43 rfl (lv_at hl 0 rfl) ?_
      refine r_get C hW (ci := 11) (T := TX11) (n := 21) (ref := "BallMinderModel") (v := .ref (q 9)) 0 (by decide) rfl rfl 17 (by decide) inX11_put (by decide +kernel) (fun _ h9 => h9) rfl dX11_put_44 ?_
      refine lv_iload_n C.1 C.2.1 dX11_put_47 rfl (lv_at hl 1 rfl) ?_
      obtain ⟨hs7, h⟩ := h
      refine r_iald C hW (cA := cI) (n := 4) (f := a5 9) 9 0 (by decide) rfl rfl hs7 dX11_put_48 ?_
      refine lv_if_ne (tgt := 57) C.1 C.2.1 dX11_put_49 (by decide) (fun c8 => ?_) (fun c8 => ?_)
      · replace h := h.1 c8
        refine lv_aload_n C.1 C.2.1 dX11_put_57 rfl (lv_at hl 0 rfl) ?_
        refine r_get C hW (ci := 11) (T := TX11) (n := 21) (ref := "BallMinderModel") (v := .ref (q 9)) 0 (by decide) rfl rfl 17 (by decide) inX11_put (by decide +kernel) (fun _ h9 => h9) rfl dX11_put_58 ?_
        refine lv_iload_n C.1 C.2.1 dX11_put_61 rfl (lv_at hl 1 rfl) ?_
        obtain ⟨hs9, h⟩ := h
        refine r_iald C hW (cA := cI) (n := 4) (f := a5 9) 9 0 (by decide) rfl rfl hs9 dX11_put_62 ?_
        refine lv_iconst (v := 1) C.1 C.2.1 dX11_put_63 (by decide) ?_
        refine lv_icmp_ne (tgt := 72) C.1 C.2.1 dX11_put_64 (by decide) (fun c10 => ?_) (fun c10 => ?_)
        · replace h := h.1 c10
          refine lv_iload_n C.1 C.2.1 dX11_put_72 rfl (lv_at hl 3 rfl) ?_
          exact sX11_put_73 C hr hlk Q x3 (((60 : Int32) * x1) + x2) f4 a5 _ _ _ h hW (lv_sub hl [0] rfl)
        · replace h := h.2 c10
          refine lv_iload_n C.1 C.2.1 dX11_put_67 rfl (lv_at hl 3 rfl) ?_
          refine lv_i2s C.1 C.2.1 dX11_put_68 rfl ?_
          refine lv_goto (tgt := 73) C.1 C.2.1 dX11_put_69 (by decide) ?_
          exact sX11_put_73 C hr hlk Q x3.toInt16.toInt32 (((60 : Int32) * x1) + x2) f4 a5 _ _ _ h hW (lv_sub hl [0] rfl)
      · replace h := h.2 c8
        refine lv_iload_n C.1 C.2.1 dX11_put_52 rfl (lv_at hl 3 rfl) ?_
        refine lv_i2b C.1 C.2.1 dX11_put_53 rfl ?_
        refine lv_goto (tgt := 73) C.1 C.2.1 dX11_put_54 (by decide) ?_
        exact sX11_put_73 C hr hlk Q x3.toInt8.toInt32 (((60 : Int32) * x1) + x2) f4 a5 _ _ _ h hW (lv_sub hl [0] rfl)
    · replace h := h.2 c6
      refine lv_aload_n C.1 C.2.1 dX11_put_22 rfl (lv_at hl 0 rfl) ?_
      refine lv_aload_n C.1 C.2.1 dX11_put_23 rfl (lv_at hl 0 rfl) ?_
      refine lv_iload_n C.1 C.2.1 dX11_put_24 rfl (lv_at hl 1 rfl) ?_
      refine lv_iload_n C.1 C.2.1 dX11_put_25 rfl (lv_at hl 2 rfl) ?_
      refine k_i hW (va_runV (As := [.int x1, .int x2]) (rest := [.ref (q 0)]) C (mtX11_noCell l D q cI H.size x1 x2 f4 a5 _ h) (cwV 2 C.2.2.2.2 gX11_put_X11_noCell rfl rfl rfl (by decide +kernel) ⟨Nat.le_of_ble_eq_true rfl, Nat.le_of_ble_eq_true rfl⟩) ⟨mP_blind tX_B, va_recv hW.1 hW.2.1 (ci := 11) (q0 := 0) rfl (wL_get (by decide)), fun U hU hV => ⟨rfl, hW.pre hU hV trivial⟩⟩ rfl rfl hl.1 rfl (lv_room (Nat.le_of_ble_eq_true rfl)) dX11_put_26 ⟨Nat.zero_le _, Nat.zero_le _⟩) (fun r16 u H locs h hW => ?_)
      obtain ⟨f17, a18⟩ := u
      replace hW : hw D [(cI, .int)] q 12 (gM q cI f17 a18) A s H locs := hW
      refine k_i hW (va_runV (As := [.int r16]) (rest := []) C (mtX11_failed l D q cI H.size r16 f17 a18 _ h) (cwV 1 C.2.2.2.2 gX11_put_X11_failed rfl rfl rfl (by decide +kernel) ⟨Nat.le_of_ble_eq_true rfl, Nat.le_of_ble_eq_true rfl⟩) ⟨mP_blind tX_B, va_recv hW.1 hW.2.1 (ci := 11) (q0 := 0) rfl (wL_get (by decide)), fun U hU hV => ⟨rfl, hW.pre hU hV trivial⟩⟩ rfl rfl hl.1 rfl (lv_room (Nat.le_of_ble_eq_true rfl)) dX11_put_29 ⟨Nat.zero_le _, Nat.zero_le _⟩) (fun r19 u H locs h hW => ?_)
      obtain ⟨f20, a21⟩ := u
      replace hW : hw D [(cI, .int)] q 12 (gM q cI f20 a21) A s H locs := hW
      exact t_i C hr hlk (u := (f20, a21)) hW.2.2.2.1 hW.B h dX11_put_32
  · replace h := h.2 c2
    refine lv_aload_n C.1 C.2.1 dX11_put_7 rfl (lv_at hl 0 rfl) ?_
    refine lv_iconst (v := -1) C.1 C.2.1 dX11_put_8 (by decide) ?_
    refine k_i hW (va_runV (As := [.int (-1 : Int32)]) (rest := []) C (mtX11_refused l D q cI H.size (-1 : Int32) f a _ h) (cwV 1 C.2.2.2.2 gX11_put_X11_refused rfl rfl rfl (by decide +kernel) ⟨Nat.le_of_ble_eq_true rfl, Nat.le_of_ble_eq_true rfl⟩) ⟨mP_blind tX_B, va_recv hW.1 hW.2.1 (ci := 11) (q0 := 0) rfl (wL_get (by decide)), fun U hU hV => ⟨rfl, hW.pre hU hV trivial⟩⟩ rfl rfl hl.1 rfl (lv_room (Nat.le_of_ble_eq_true rfl)) dX11_put_9 ⟨Nat.zero_le _, Nat.zero_le _⟩) (fun r22 u H locs h hW => ?_)
    obtain ⟨f23, a24⟩ := u
    replace hW : hw D [(cI, .int)] q 12 (gM q cI f23 a24) A s H locs := hW
    exact t_i C hr hlk (u := (f23, a24)) hW.2.2.2.1 hW.B h dX11_put_12
set_option maxRecDepth 100000 in
set_option maxHeartbeats 4000000 in
theorem mtX11_put (l : Launch) (D : va_G) (q : Nat → Nat) (cI : ClassId) (sz : Nat) (x1 : Int32) (x2 : Int32) (x3 : Int32) (f : Nat → Int32) (a : Nat → Nat → Int32) (Q : Int32 → (Nat → Int32) → (Nat → Nat → Int32) → Prop) (h : vX11_put x1 x2 x3 f a Q) : Met l yX11_put wsX11_put rmX11_put (va_Pc [.ref (q 0), .int x1, .int x2, .int x3] (mP D [(cI, .int)] q 12 (gM q cI f a) sz tX)) (QMi D q cI Q (aQ q 12 sz)) 0 0 (aQ q 12 sz) := by
  refine met_w (cc := cX11_put) (maxL := 4) (ret := (some .int)) (by decide) rfl (Nat.le_of_ble_eq_true rfl) ?_
  intro p e s m below meth c ls C hr hlk hW hX hnm hl
  exact sX11_put C hr hlk Q x1 x2 x3 f a _ _ _ h hW hl
theorem inX11_cell : ∀ w ∈ wsX110, w ∈ wsX11_cell := fun _ h => List.mem_cons_of_mem _ (List.mem_append_right _ h)
abbrev rmX11_cell : Room := { frames := 2, cells := 0, slots := 0, locals := 47 }
def vX11_cell_24 (Q : Int64 → (Nat → Int32) → (Nat → Nat → Int32) → Prop) (f : Nat → Int32) (a : Nat → Nat → Int32) : Prop := vX11_lost  (fun r4 => Q r4 f a)
def vX11_cell_53 (Q : Int64 → (Nat → Int32) → (Nat → Nat → Int32) → Prop) (x1 : Int32) (x2 : Int32) (f : Nat → Int32) (a : Nat → Nat → Int32) : Prop := vX11_noCell x1 x2 f a (fun r9 f10 a11 => (r9 ≤ 0 → vp_in (((60 : Int32) * x1) + x2) 240 ∧ (Q ((a11 10 (((60 : Int32) * x1) + x2).toNatClampNeg).toInt64) f10 a11)) ∧ (¬ (r9 ≤ 0) → vX11_noCell x1 x2 f10 a11 (fun r14 f15 a16 => vX11_failedLong r14 f15 a16 (fun r17 f18 a19 => Q r17 f18 a19))))
def vX11_cell (x1 : Int32) (x2 : Int32) (x3 : Int32) (f : Nat → Int32) (a : Nat → Nat → Int32) (Q : Int64 → (Nat → Int32) → (Nat → Nat → Int32) → Prop) : Prop := ∀ f1 : Nat → Int32, f1 = va_up f 0 (0 : Int32) → vX11_noSheet x1 (fun r2 => (¬ r2 = 0 → vX11_cell_24 Q f1 a) ∧ (r2 = 0 → vX11_in x3.toInt64 (0 : Int64) (2 : Int64) (fun r5 => (¬ r5 = 0 → vp_in x1 4 ∧ (((a 8 x1.toNatClampNeg) < 0 → vX11_cell_53 Q x1 x2 f1 a) ∧ (¬ ((a 8 x1.toNatClampNeg) < 0) → vp_in x1 4 ∧ (((a 9 x1.toNatClampNeg) = x3 → vX11_cell_53 Q x1 x2 f1 a) ∧ (¬ ((a 9 x1.toNatClampNeg) = x3) → vX11_failedLong (2 : Int32) f1 a (fun r22 f23 a24 => Q r22 f23 a24)))))) ∧ (r5 = 0 → vX11_cell_24 Q f1 a))))
set_option maxRecDepth 100000 in
set_option maxHeartbeats 4000000 in
theorem sX11_cell_24 {p : Program} {l : Launch} {e : Env} {s : State} {m : MethodId} {args : Array Value} {below : List Frame} {meth : Method} {c : Code} {D : va_G} {q : Nat → Nat} {A : Nat → Prop} {cI : ClassId} (C : CallFix p m c cX11_cell 4 s args wsX11_cell RX11) (hr : meth.sig.returnType = (some .long)) (hlk : meth.locks = false) (Q : Int64 → (Nat → Int32) → (Nat → Nat → Int32) → Prop) : ∀ (f : Nat → Int32) (a : Nat → Nat → Int32) (H : Heap) (locs : List Loc) (ls : Array Slot), vX11_cell_24 Q f a → hw D [(cI, .int)] q 12 (gM q cI f a) A s H locs → lv_has ls 4 [] → W p l e (headSpec wsX11_cell rmX11_cell).room s m args below meth c H locs 0 0 (MQ below (QMl D q cI Q A) args s 0 0 A) (F0 m 24 ls []) := by
  intro f a H locs ls h hW hl
  unfold vX11_cell_24 at h
  refine k_pl hW (va_runS (As := []) (rest := []) C (mtX11_lost l D q _ H.size  _ h) (va_cwS 0 C.2.2.2.2 gX11_cell_X11_lost rfl rfl rfl (by decide +kernel) ⟨Nat.le_of_ble_eq_true rfl, Nat.le_of_ble_eq_true rfl⟩) ⟨mP_blind tX_B, fun U hU hV => ⟨rfl, hW.pre0 hU hV trivial⟩⟩ rfl rfl hl.1 rfl (lv_room (Nat.le_of_ble_eq_true rfl)) dX11_cell_24 ⟨Nat.zero_le _, Nat.zero_le _⟩) (fun r4 H locs h hW => ?_)
  exact t_l C hr hlk (u := (f, a)) hW.2.2.2.1 hW.B h dX11_cell_27
set_option maxRecDepth 100000 in
set_option maxHeartbeats 4000000 in
theorem sX11_cell_53 {p : Program} {l : Launch} {e : Env} {s : State} {m : MethodId} {args : Array Value} {below : List Frame} {meth : Method} {c : Code} {D : va_G} {q : Nat → Nat} {A : Nat → Prop} {cI : ClassId} (C : CallFix p m c cX11_cell 4 s args wsX11_cell RX11) (hr : meth.sig.returnType = (some .long)) (hlk : meth.locks = false) (Q : Int64 → (Nat → Int32) → (Nat → Nat → Int32) → Prop) : ∀ (x1 : Int32) (x2 : Int32) (f : Nat → Int32) (a : Nat → Nat → Int32) (H : Heap) (locs : List Loc) (ls : Array Slot), vX11_cell_53 Q x1 x2 f a → hw D [(cI, .int)] q 12 (gM q cI f a) A s H locs → lv_has ls 4 [(0, .ref (q 0)), (1, .int x1), (2, .int x2)] → W p l e (headSpec wsX11_cell rmX11_cell).room s m args below meth c H locs 0 0 (MQ below (QMl D q cI Q A) args s 0 0 A) (F0 m 53 ls []) := by
  intro x1 x2 f a H locs ls h hW hl
  unfold vX11_cell_53 at h
  refine lv_aload_n C.1 C.2.1 dX11_cell_53 rfl (lv_at hl 0 rfl) ?_
  refine lv_iload_n C.1 C.2.1 dX11_cell_54 rfl (lv_at hl 1 rfl) ?_
  refine lv_iload_n C.1 C.2.1 dX11_cell_55 rfl (lv_at hl 2 rfl) ?_
  refine k_i hW (va_runV (As := [.int x1, .int x2]) (rest := []) C (mtX11_noCell l D q cI H.size x1 x2 f a _ h) (cwV 2 C.2.2.2.2 gX11_cell_X11_noCell rfl rfl rfl (by decide +kernel) ⟨Nat.le_of_ble_eq_true rfl, Nat.le_of_ble_eq_true rfl⟩) ⟨mP_blind tX_B, va_recv hW.1 hW.2.1 (ci := 11) (q0 := 0) rfl (wL_get (by decide)), fun U hU hV => ⟨rfl, hW.pre hU hV trivial⟩⟩ rfl rfl hl.1 rfl (lv_room (Nat.le_of_ble_eq_true rfl)) dX11_cell_56 ⟨Nat.zero_le _, Nat.zero_le _⟩) (fun r9 u H locs h hW => ?_)
  obtain ⟨f10, a11⟩ := u
  replace hW : hw D [(cI, .int)] q 12 (gM q cI f10 a11) A s H locs := hW
  refine lv_if_le (tgt := 75) C.1 C.2.1 dX11_cell_59 (by decide) (fun c12 => ?_) (fun c12 => ?_)
  · replace h := h.1 c12
    refine lv_aload_n C.1 C.2.1 dX11_cell_75 rfl (lv_at hl 0 rfl) ?_
    refine r_get C hW (ci := 11) (T := TX11) (n := 21) (ref := "BallMinderModel") (v := .ref (q 10)) 0 (by decide) rfl rfl 18 (by decide) inX11_cell (by decide +kernel) (fun _ h9 => h9) rfl dX11_cell_76 ?_
    refine lv_bipush (v := 60) C.1 C.2.1 dX11_cell_79 (by decide) ?_
    refine lv_iload_n C.1 C.2.1 dX11_cell_81 rfl (lv_at hl 1 rfl) ?_
    refine lv_imul C.1 C.2.1 dX11_cell_82 ?_
    refine lv_iload_n C.1 C.2.1 dX11_cell_83 rfl (lv_at hl 2 rfl) ?_
    refine lv_iadd C.1 C.2.1 dX11_cell_84 ?_
    obtain ⟨hs13, h⟩ := h
    refine r_iald C hW (cA := cI) (n := 240) (f := a11 10) 10 0 (by decide) rfl rfl hs13 dX11_cell_85 ?_
    refine lv_i2l C.1 C.2.1 dX11_cell_86 rfl ?_
    exact t_l C hr hlk (u := (f10, a11)) hW.2.2.2.1 hW.B h dX11_cell_87
  · replace h := h.2 c12
    refine lv_aload_n C.1 C.2.1 dX11_cell_62 rfl (lv_at hl 0 rfl) ?_
    refine lv_aload_n C.1 C.2.1 dX11_cell_63 rfl (lv_at hl 0 rfl) ?_
    refine lv_iload_n C.1 C.2.1 dX11_cell_64 rfl (lv_at hl 1 rfl) ?_
    refine lv_iload_n C.1 C.2.1 dX11_cell_65 rfl (lv_at hl 2 rfl) ?_
    refine k_i hW (va_runV (As := [.int x1, .int x2]) (rest := [.ref (q 0)]) C (mtX11_noCell l D q cI H.size x1 x2 f10 a11 _ h) (cwV 2 C.2.2.2.2 gX11_cell_X11_noCell rfl rfl rfl (by decide +kernel) ⟨Nat.le_of_ble_eq_true rfl, Nat.le_of_ble_eq_true rfl⟩) ⟨mP_blind tX_B, va_recv hW.1 hW.2.1 (ci := 11) (q0 := 0) rfl (wL_get (by decide)), fun U hU hV => ⟨rfl, hW.pre hU hV trivial⟩⟩ rfl rfl hl.1 rfl (lv_room (Nat.le_of_ble_eq_true rfl)) dX11_cell_66 ⟨Nat.zero_le _, Nat.zero_le _⟩) (fun r14 u H locs h hW => ?_)
    obtain ⟨f15, a16⟩ := u
    replace hW : hw D [(cI, .int)] q 12 (gM q cI f15 a16) A s H locs := hW
    refine k_l hW (va_runV (As := [.int r14]) (rest := []) C (mtX11_failedLong l D q cI H.size r14 f15 a16 _ h) (cwV 1 C.2.2.2.2 gX11_cell_X11_failedLong rfl rfl rfl (by decide +kernel) ⟨Nat.le_of_ble_eq_true rfl, Nat.le_of_ble_eq_true rfl⟩) ⟨mP_blind tX_B, va_recv hW.1 hW.2.1 (ci := 11) (q0 := 0) rfl (wL_get (by decide)), fun U hU hV => ⟨rfl, hW.pre hU hV trivial⟩⟩ rfl rfl hl.1 rfl (lv_room (Nat.le_of_ble_eq_true rfl)) dX11_cell_69 ⟨Nat.zero_le _, Nat.zero_le _⟩) (fun r17 u H locs h hW => ?_)
    obtain ⟨f18, a19⟩ := u
    replace hW : hw D [(cI, .int)] q 12 (gM q cI f18 a19) A s H locs := hW
    refine lv_goto (tgt := 87) C.1 C.2.1 dX11_cell_72 (by decide) ?_
    exact t_l C hr hlk (u := (f18, a19)) hW.2.2.2.1 hW.B h dX11_cell_87
set_option maxRecDepth 100000 in
set_option maxHeartbeats 4000000 in
theorem sX11_cell {p : Program} {l : Launch} {e : Env} {s : State} {m : MethodId} {args : Array Value} {below : List Frame} {meth : Method} {c : Code} {D : va_G} {q : Nat → Nat} {A : Nat → Prop} {cI : ClassId} (C : CallFix p m c cX11_cell 4 s args wsX11_cell RX11) (hr : meth.sig.returnType = (some .long)) (hlk : meth.locks = false) (Q : Int64 → (Nat → Int32) → (Nat → Nat → Int32) → Prop) : ∀ (x1 : Int32) (x2 : Int32) (x3 : Int32) (f : Nat → Int32) (a : Nat → Nat → Int32) (H : Heap) (locs : List Loc) (ls : Array Slot), vX11_cell x1 x2 x3 f a Q → hw D [(cI, .int)] q 12 (gM q cI f a) A s H locs → lv_has ls 4 [(0, .ref (q 0)), (1, .int x1), (2, .int x2), (3, .int x3)] → W p l e (headSpec wsX11_cell rmX11_cell).room s m args below meth c H locs 0 0 (MQ below (QMl D q cI Q A) args s 0 0 A) (F0 m 0 ls []) := by
  intro x1 x2 x3 f a H locs ls h hW hl
  unfold vX11_cell at h
  refine lv_aload_n C.1 C.2.1 dX11_cell_0 rfl (lv_at hl 0 rfl) ?_
  refine lv_iconst (v := 0) C.1 C.2.1 dX11_cell_1 (by decide) ?_
  refine r_put C hW (ci := 11) (T := TX11) (n := 21) (ref := "BallMinderModel") 0 (by decide) rfl rfl 0 (by decide) inX11_cell tyX11 tyX11_ok nmX11 (by decide +kernel) (fun _ h9 => h9) rfl rfl rfl (Nat.le_of_ble_eq_true rfl) dX11_cell_2 (fun H locs hW => ?_)
  replace hW := gM_put (k := 0) rfl hW
  obtain ⟨f1, ef1⟩ : ∃ z : Nat → Int32, z = va_up f 0 (0 : Int32) := ⟨_, rfl⟩
  rw [← ef1] at hW
  replace h := h f1 ef1
  refine lv_iload_n C.1 C.2.1 dX11_cell_5 rfl (lv_at hl 1 rfl) ?_
  refine k_pi hW (va_runS (As := [.int x1]) (rest := []) C (mtX11_noSheet l D q _ H.size x1 _ h) (va_cwS 1 C.2.2.2.2 gX11_cell_X11_noSheet rfl rfl rfl (by decide +kernel) ⟨Nat.le_of_ble_eq_true rfl, Nat.le_of_ble_eq_true rfl⟩) ⟨mP_blind tX_B, fun U hU hV => ⟨rfl, hW.pre0 hU hV trivial⟩⟩ rfl rfl hl.1 rfl (lv_room (Nat.le_of_ble_eq_true rfl)) dX11_cell_6 ⟨Nat.zero_le _, Nat.zero_le _⟩) (fun r2 H locs h hW => ?_)
  refine lv_if_ne (tgt := 24) C.1 C.2.1 dX11_cell_9 (by decide) (fun c3 => ?_) (fun c3 => ?_)
  · replace h := h.1 c3
    exact sX11_cell_24 C hr hlk Q f1 a _ _ _ h hW (lv_sub hl [] rfl)
  · replace h := h.2 c3
    refine lv_iload_n C.1 C.2.1 dX11_cell_12 rfl (lv_at hl 3 rfl) ?_
    refine lv_i2l C.1 C.2.1 dX11_cell_13 rfl ?_
    refine lv_lconst (v := 0) C.1 C.2.1 dX11_cell_14 (by decide) ?_
    refine lv_ldc2 (v := (2)) C.1 C.2.1 C.2.2.2.1 (C.2.2.2.2 (.constantLong RX11 92 (2)) (by decide +kernel)) dX11_cell_15 ?_
    refine k_pi hW (va_runS (As := [.long x3.toInt64, .long (0 : Int64), .long (2 : Int64)]) (rest := []) C (mtX11_in l D q _ H.size x3.toInt64 (0 : Int64) (2 : Int64) _ h) (va_cwS 3 C.2.2.2.2 gX11_cell_X11_in rfl rfl rfl (by decide +kernel) ⟨Nat.le_of_ble_eq_true rfl, Nat.le_of_ble_eq_true rfl⟩) ⟨mP_blind tX_B, fun U hU hV => ⟨rfl, hW.pre0 hU hV trivial⟩⟩ rfl rfl hl.1 rfl (lv_room (Nat.le_of_ble_eq_true rfl)) dX11_cell_18 ⟨Nat.zero_le _, Nat.zero_le _⟩) (fun r5 H locs h hW => ?_)
    refine lv_if_ne (tgt := 28) C.1 C.2.1 dX11_cell_21 (by decide) (fun c6 => ?_) (fun c6 => ?_)
    · replace h := h.1 c6
      refine lv_aload_n C.1 C.2.1 dX11_cell_28 rfl (lv_at hl 0 rfl) ?_
      refine r_get C hW (ci := 11) (T := TX11) (n := 21) (ref := "BallMinderModel") (v := .ref (q 8)) 0 (by decide) rfl rfl 16 (by decide) inX11_cell (by decide +kernel) (fun _ h9 => h9) rfl dX11_cell_29 ?_
      refine lv_iload_n C.1 C.2.1 dX11_cell_32 rfl (lv_at hl 1 rfl) ?_
      obtain ⟨hs7, h⟩ := h
      refine r_iald C hW (cA := cI) (n := 4) (f := a 8) 8 0 (by decide) rfl rfl hs7 dX11_cell_33 ?_
      refine lv_if_lt (tgt := 53) C.1 C.2.1 dX11_cell_34 (by decide) (fun c8 => ?_) (fun c8 => ?_)
      · replace h := h.1 c8
        exact sX11_cell_53 C hr hlk Q x1 x2 f1 a _ _ _ h hW (lv_sub hl [0, 1, 2] rfl)
      · replace h := h.2 c8
        refine lv_aload_n C.1 C.2.1 dX11_cell_37 rfl (lv_at hl 0 rfl) ?_
        refine r_get C hW (ci := 11) (T := TX11) (n := 21) (ref := "BallMinderModel") (v := .ref (q 9)) 0 (by decide) rfl rfl 17 (by decide) inX11_cell (by decide +kernel) (fun _ h9 => h9) rfl dX11_cell_38 ?_
        refine lv_iload_n C.1 C.2.1 dX11_cell_41 rfl (lv_at hl 1 rfl) ?_
        obtain ⟨hs20, h⟩ := h
        refine r_iald C hW (cA := cI) (n := 4) (f := a 9) 9 0 (by decide) rfl rfl hs20 dX11_cell_42 ?_
        refine lv_iload_n C.1 C.2.1 dX11_cell_43 rfl (lv_at hl 3 rfl) ?_
        refine lv_icmp_eq (tgt := 53) C.1 C.2.1 dX11_cell_44 (by decide) (fun c21 => ?_) (fun c21 => ?_)
        · replace h := h.1 c21
          exact sX11_cell_53 C hr hlk Q x1 x2 f1 a _ _ _ h hW (lv_sub hl [0, 1, 2] rfl)
        · replace h := h.2 c21
          refine lv_aload_n C.1 C.2.1 dX11_cell_47 rfl (lv_at hl 0 rfl) ?_
          refine lv_iconst (v := 2) C.1 C.2.1 dX11_cell_48 (by decide) ?_
          refine k_l hW (va_runV (As := [.int (2 : Int32)]) (rest := []) C (mtX11_failedLong l D q cI H.size (2 : Int32) f1 a _ h) (cwV 1 C.2.2.2.2 gX11_cell_X11_failedLong rfl rfl rfl (by decide +kernel) ⟨Nat.le_of_ble_eq_true rfl, Nat.le_of_ble_eq_true rfl⟩) ⟨mP_blind tX_B, va_recv hW.1 hW.2.1 (ci := 11) (q0 := 0) rfl (wL_get (by decide)), fun U hU hV => ⟨rfl, hW.pre hU hV trivial⟩⟩ rfl rfl hl.1 rfl (lv_room (Nat.le_of_ble_eq_true rfl)) dX11_cell_49 ⟨Nat.zero_le _, Nat.zero_le _⟩) (fun r22 u H locs h hW => ?_)
          obtain ⟨f23, a24⟩ := u
          replace hW : hw D [(cI, .int)] q 12 (gM q cI f23 a24) A s H locs := hW
          exact t_l C hr hlk (u := (f23, a24)) hW.2.2.2.1 hW.B h dX11_cell_52
    · replace h := h.2 c6
      exact sX11_cell_24 C hr hlk Q f1 a _ _ _ h hW (lv_sub hl [] rfl)
set_option maxRecDepth 100000 in
set_option maxHeartbeats 4000000 in
theorem mtX11_cell (l : Launch) (D : va_G) (q : Nat → Nat) (cI : ClassId) (sz : Nat) (x1 : Int32) (x2 : Int32) (x3 : Int32) (f : Nat → Int32) (a : Nat → Nat → Int32) (Q : Int64 → (Nat → Int32) → (Nat → Nat → Int32) → Prop) (h : vX11_cell x1 x2 x3 f a Q) : Met l yX11_cell wsX11_cell rmX11_cell (va_Pc [.ref (q 0), .int x1, .int x2, .int x3] (mP D [(cI, .int)] q 12 (gM q cI f a) sz tX)) (QMl D q cI Q (aQ q 12 sz)) 0 0 (aQ q 12 sz) := by
  refine met_w (cc := cX11_cell) (maxL := 4) (ret := (some .long)) (by decide) rfl (Nat.le_of_ble_eq_true rfl) ?_
  intro p e s m below meth c ls C hr hlk hW hX hnm hl
  exact sX11_cell C hr hlk Q x1 x2 x3 f a _ _ _ h hW hl
theorem inX11_copy : ∀ w ∈ wsX110, w ∈ wsX11_copy := fun _ h => List.mem_cons_of_mem _ (List.mem_append_right _ h)
abbrev rmX11_copy : Room := { frames := 2, cells := 0, slots := 0, locals := 45 }
def vX11_copy_14 (Q : Int32 → (Nat → Int32) → (Nat → Nat → Int32) → Prop) (f : Nat → Int32) (a : Nat → Nat → Int32) : Prop := vX11_refused (-1 : Int32) f a (fun r3 f4 a5 => Q r3 f4 a5)
def vX11_copy_38 (Q : Int32 → (Nat → Int32) → (Nat → Nat → Int32) → Prop) (f : Nat → Int32) (a : Nat → Nat → Int32) : Prop := vX11_failed (1 : Int32) f a (fun r10 f11 a12 => Q r10 f11 a12)
def vX11_copy_98 (Q : Int32 → (Nat → Int32) → (Nat → Nat → Int32) → Prop) (f : Nat → Int32) (a : Nat → Nat → Int32) : Prop := vX11_failed (3 : Int32) f a (fun r21 f22 a23 => Q r21 f22 a23)
def vX11_copy_144 (Q : Int32 → (Nat → Int32) → (Nat → Nat → Int32) → Prop) : Nat → Int32 → Int32 → Int32 → Int32 → (Nat → Int32) → (Nat → Nat → Int32) → Prop
  | 0, _, _, _, _, _, _ => False
  | fu+1, x3, x4, x5, x6, f, a => (x5 ≤ x6 → vX11_refused x5 f a (fun r29 f30 a31 => Q r29 f30 a31)) ∧ (¬ (x5 ≤ x6) → vp_in x6 60 ∧ (vp_in ((((60 : Int32) * x3) + x4) + x6) 240 ∧ (∀ a34 : Nat → Nat → Int32, a34 = va_up a 10 (upd (a 10) ((((60 : Int32) * x3) + x4) + x6).toNatClampNeg (a 11 x6.toNatClampNeg)) → ∀ x6_35 : Int32, x6_35 = x6 + (1 : Int32) → vX11_copy_144 Q fu x3 x4 x5 x6_35 f a34)))
def vX11_copy_107 (Q : Int32 → (Nat → Int32) → (Nat → Nat → Int32) → Prop) : Nat → Int32 → Int32 → Int32 → Int32 → Int32 → Int32 → (Nat → Int32) → (Nat → Nat → Int32) → Prop
  | 0, _, _, _, _, _, _, _, _ => False
  | fu+1, x1, x2, x3, x4, x5, x6, f, a => (x5 ≤ x6 → ∃ n144, vX11_copy_144 Q n144 x3 x4 x5 (0 : Int32) f a) ∧ (¬ (x5 ≤ x6) → vp_in ((((60 : Int32) * x1) + x2) + x6) 240 ∧ (vp_in x6 60 ∧ (∀ a38 : Nat → Nat → Int32, a38 = va_up a 11 (upd (a 11) x6.toNatClampNeg (a 10 ((((60 : Int32) * x1) + x2) + x6).toNatClampNeg)) → ∀ x6_39 : Int32, x6_39 = x6 + (1 : Int32) → vX11_copy_107 Q fu x1 x2 x3 x4 x5 x6_39 f a38)))
def vX11_copy (x1 : Int32) (x2 : Int32) (x3 : Int32) (x4 : Int32) (x5 : Int32) (f : Nat → Int32) (a : Nat → Nat → Int32) (Q : Int32 → (Nat → Int32) → (Nat → Nat → Int32) → Prop) : Prop := vX11_noSheet x1 (fun r1 => (¬ r1 = 0 → vX11_copy_14 Q f a) ∧ (r1 = 0 → vX11_noSheet x3 (fun r6 => (r6 = 0 → vp_in x1 4 ∧ (((a 8 x1.toNatClampNeg) < 0 → vX11_copy_38 Q f a) ∧ (¬ ((a 8 x1.toNatClampNeg) < 0) → vp_in x3 4 ∧ ((0 ≤ (a 8 x3.toNatClampNeg) → vp_in x1 4 ∧ (vp_in x3 4 ∧ (((a 9 x1.toNatClampNeg) = (a 9 x3.toNatClampNeg) → vp_in x1 4 ∧ (vX11_isBeyond x2 x5.toInt64 (a 8 x1.toNatClampNeg) (fun r19 => (¬ r19 = 0 → vX11_copy_98 Q f a) ∧ (r19 = 0 → vp_in x3 4 ∧ (vX11_isBeyond x4 x5.toInt64 (a 8 x3.toNatClampNeg) (fun r25 => (r25 = 0 → ∃ n107, vX11_copy_107 Q n107 x1 x2 x3 x4 x5 (0 : Int32) f a) ∧ (¬ (r25 = 0) → vX11_copy_98 Q f a))))))) ∧ (¬ ((a 9 x1.toNatClampNeg) = (a 9 x3.toNatClampNeg)) → vX11_failed (2 : Int32) f a (fun r40 f41 a42 => Q r40 f41 a42))))) ∧ (¬ (0 ≤ (a 8 x3.toNatClampNeg)) → vX11_copy_38 Q f a))))) ∧ (¬ (r6 = 0) → vX11_copy_14 Q f a))))
set_option maxRecDepth 100000 in
set_option maxHeartbeats 4000000 in
theorem sX11_copy_14 {p : Program} {l : Launch} {e : Env} {s : State} {m : MethodId} {args : Array Value} {below : List Frame} {meth : Method} {c : Code} {D : va_G} {q : Nat → Nat} {A : Nat → Prop} {cI : ClassId} (C : CallFix p m c cX11_copy 7 s args wsX11_copy RX11) (hr : meth.sig.returnType = (some .int)) (hlk : meth.locks = false) (Q : Int32 → (Nat → Int32) → (Nat → Nat → Int32) → Prop) : ∀ (f : Nat → Int32) (a : Nat → Nat → Int32) (H : Heap) (locs : List Loc) (ls : Array Slot), vX11_copy_14 Q f a → hw D [(cI, .int)] q 12 (gM q cI f a) A s H locs → lv_has ls 7 [(0, .ref (q 0))] → W p l e (headSpec wsX11_copy rmX11_copy).room s m args below meth c H locs 0 0 (MQ below (QMi D q cI Q A) args s 0 0 A) (F0 m 14 ls []) := by
  intro f a H locs ls h hW hl
  unfold vX11_copy_14 at h
  refine lv_aload_n C.1 C.2.1 dX11_copy_14 rfl (lv_at hl 0 rfl) ?_
  refine lv_iconst (v := -1) C.1 C.2.1 dX11_copy_15 (by decide) ?_
  refine k_i hW (va_runV (As := [.int (-1 : Int32)]) (rest := []) C (mtX11_refused l D q cI H.size (-1 : Int32) f a _ h) (cwV 1 C.2.2.2.2 gX11_copy_X11_refused rfl rfl rfl (by decide +kernel) ⟨Nat.le_of_ble_eq_true rfl, Nat.le_of_ble_eq_true rfl⟩) ⟨mP_blind tX_B, va_recv hW.1 hW.2.1 (ci := 11) (q0 := 0) rfl (wL_get (by decide)), fun U hU hV => ⟨rfl, hW.pre hU hV trivial⟩⟩ rfl rfl hl.1 rfl (lv_room (Nat.le_of_ble_eq_true rfl)) dX11_copy_16 ⟨Nat.zero_le _, Nat.zero_le _⟩) (fun r3 u H locs h hW => ?_)
  obtain ⟨f4, a5⟩ := u
  replace hW : hw D [(cI, .int)] q 12 (gM q cI f4 a5) A s H locs := hW
  exact t_i C hr hlk (u := (f4, a5)) hW.2.2.2.1 hW.B h dX11_copy_19
set_option maxRecDepth 100000 in
set_option maxHeartbeats 4000000 in
theorem sX11_copy_38 {p : Program} {l : Launch} {e : Env} {s : State} {m : MethodId} {args : Array Value} {below : List Frame} {meth : Method} {c : Code} {D : va_G} {q : Nat → Nat} {A : Nat → Prop} {cI : ClassId} (C : CallFix p m c cX11_copy 7 s args wsX11_copy RX11) (hr : meth.sig.returnType = (some .int)) (hlk : meth.locks = false) (Q : Int32 → (Nat → Int32) → (Nat → Nat → Int32) → Prop) : ∀ (f : Nat → Int32) (a : Nat → Nat → Int32) (H : Heap) (locs : List Loc) (ls : Array Slot), vX11_copy_38 Q f a → hw D [(cI, .int)] q 12 (gM q cI f a) A s H locs → lv_has ls 7 [(0, .ref (q 0))] → W p l e (headSpec wsX11_copy rmX11_copy).room s m args below meth c H locs 0 0 (MQ below (QMi D q cI Q A) args s 0 0 A) (F0 m 38 ls []) := by
  intro f a H locs ls h hW hl
  unfold vX11_copy_38 at h
  refine lv_aload_n C.1 C.2.1 dX11_copy_38 rfl (lv_at hl 0 rfl) ?_
  refine lv_iconst (v := 1) C.1 C.2.1 dX11_copy_39 (by decide) ?_
  refine k_i hW (va_runV (As := [.int (1 : Int32)]) (rest := []) C (mtX11_failed l D q cI H.size (1 : Int32) f a _ h) (cwV 1 C.2.2.2.2 gX11_copy_X11_failed rfl rfl rfl (by decide +kernel) ⟨Nat.le_of_ble_eq_true rfl, Nat.le_of_ble_eq_true rfl⟩) ⟨mP_blind tX_B, va_recv hW.1 hW.2.1 (ci := 11) (q0 := 0) rfl (wL_get (by decide)), fun U hU hV => ⟨rfl, hW.pre hU hV trivial⟩⟩ rfl rfl hl.1 rfl (lv_room (Nat.le_of_ble_eq_true rfl)) dX11_copy_40 ⟨Nat.zero_le _, Nat.zero_le _⟩) (fun r10 u H locs h hW => ?_)
  obtain ⟨f11, a12⟩ := u
  replace hW : hw D [(cI, .int)] q 12 (gM q cI f11 a12) A s H locs := hW
  exact t_i C hr hlk (u := (f11, a12)) hW.2.2.2.1 hW.B h dX11_copy_43
set_option maxRecDepth 100000 in
set_option maxHeartbeats 4000000 in
theorem sX11_copy_98 {p : Program} {l : Launch} {e : Env} {s : State} {m : MethodId} {args : Array Value} {below : List Frame} {meth : Method} {c : Code} {D : va_G} {q : Nat → Nat} {A : Nat → Prop} {cI : ClassId} (C : CallFix p m c cX11_copy 7 s args wsX11_copy RX11) (hr : meth.sig.returnType = (some .int)) (hlk : meth.locks = false) (Q : Int32 → (Nat → Int32) → (Nat → Nat → Int32) → Prop) : ∀ (f : Nat → Int32) (a : Nat → Nat → Int32) (H : Heap) (locs : List Loc) (ls : Array Slot), vX11_copy_98 Q f a → hw D [(cI, .int)] q 12 (gM q cI f a) A s H locs → lv_has ls 7 [(0, .ref (q 0))] → W p l e (headSpec wsX11_copy rmX11_copy).room s m args below meth c H locs 0 0 (MQ below (QMi D q cI Q A) args s 0 0 A) (F0 m 98 ls []) := by
  intro f a H locs ls h hW hl
  unfold vX11_copy_98 at h
  refine lv_aload_n C.1 C.2.1 dX11_copy_98 rfl (lv_at hl 0 rfl) ?_
  refine lv_iconst (v := 3) C.1 C.2.1 dX11_copy_99 (by decide) ?_
  refine k_i hW (va_runV (As := [.int (3 : Int32)]) (rest := []) C (mtX11_failed l D q cI H.size (3 : Int32) f a _ h) (cwV 1 C.2.2.2.2 gX11_copy_X11_failed rfl rfl rfl (by decide +kernel) ⟨Nat.le_of_ble_eq_true rfl, Nat.le_of_ble_eq_true rfl⟩) ⟨mP_blind tX_B, va_recv hW.1 hW.2.1 (ci := 11) (q0 := 0) rfl (wL_get (by decide)), fun U hU hV => ⟨rfl, hW.pre hU hV trivial⟩⟩ rfl rfl hl.1 rfl (lv_room (Nat.le_of_ble_eq_true rfl)) dX11_copy_100 ⟨Nat.zero_le _, Nat.zero_le _⟩) (fun r21 u H locs h hW => ?_)
  obtain ⟨f22, a23⟩ := u
  replace hW : hw D [(cI, .int)] q 12 (gM q cI f22 a23) A s H locs := hW
  exact t_i C hr hlk (u := (f22, a23)) hW.2.2.2.1 hW.B h dX11_copy_103
set_option maxRecDepth 100000 in
set_option maxHeartbeats 4000000 in
theorem sX11_copy_144 {p : Program} {l : Launch} {e : Env} {s : State} {m : MethodId} {args : Array Value} {below : List Frame} {meth : Method} {c : Code} {D : va_G} {q : Nat → Nat} {A : Nat → Prop} {cI : ClassId} (C : CallFix p m c cX11_copy 7 s args wsX11_copy RX11) (hr : meth.sig.returnType = (some .int)) (hlk : meth.locks = false) (Q : Int32 → (Nat → Int32) → (Nat → Nat → Int32) → Prop) : ∀ (fu : Nat) (x3 : Int32) (x4 : Int32) (x5 : Int32) (x6 : Int32) (f : Nat → Int32) (a : Nat → Nat → Int32) (H : Heap) (locs : List Loc) (ls : Array Slot), vX11_copy_144 Q fu x3 x4 x5 x6 f a → hw D [(cI, .int)] q 12 (gM q cI f a) A s H locs → lv_has ls 7 [(0, .ref (q 0)), (3, .int x3), (4, .int x4), (5, .int x5), (6, .int x6)] → W p l e (headSpec wsX11_copy rmX11_copy).room s m args below meth c H locs 0 0 (MQ below (QMi D q cI Q A) args s 0 0 A) (F0 m 144 ls []) := by
  intro fu
  induction fu with
  | zero =>
    intro x3 x4 x5 x6 f a H locs ls h
    exact h.elim
  | succ fu ih =>
    intro x3 x4 x5 x6 f a H locs ls h hW hl
    refine lv_iload C.1 C.2.1 dX11_copy_144 (lv_at hl 4 rfl) ?_
    refine lv_iload C.1 C.2.1 dX11_copy_146 (lv_at hl 3 rfl) ?_
    refine lv_icmp_ge (tgt := 179) C.1 C.2.1 dX11_copy_148 (by decide) (fun c28 => ?_) (fun c28 => ?_)
    · replace h := h.1 c28
      refine lv_aload_n C.1 C.2.1 dX11_copy_179 rfl (lv_at hl 0 rfl) ?_
      refine lv_iload C.1 C.2.1 dX11_copy_180 (lv_at hl 3 rfl) ?_
      refine k_i hW (va_runV (As := [.int x5]) (rest := []) C (mtX11_refused l D q cI H.size x5 f a _ h) (cwV 1 C.2.2.2.2 gX11_copy_X11_refused rfl rfl rfl (by decide +kernel) ⟨Nat.le_of_ble_eq_true rfl, Nat.le_of_ble_eq_true rfl⟩) ⟨mP_blind tX_B, va_recv hW.1 hW.2.1 (ci := 11) (q0 := 0) rfl (wL_get (by decide)), fun U hU hV => ⟨rfl, hW.pre hU hV trivial⟩⟩ rfl rfl hl.1 rfl (lv_room (Nat.le_of_ble_eq_true rfl)) dX11_copy_182 ⟨Nat.zero_le _, Nat.zero_le _⟩) (fun r29 u H locs h hW => ?_)
      obtain ⟨f30, a31⟩ := u
      replace hW : hw D [(cI, .int)] q 12 (gM q cI f30 a31) A s H locs := hW
      exact t_i C hr hlk (u := (f30, a31)) hW.2.2.2.1 hW.B h dX11_copy_185
    · replace h := h.2 c28
      refine lv_aload_n C.1 C.2.1 dX11_copy_151 rfl (lv_at hl 0 rfl) ?_
      refine r_get C hW (ci := 11) (T := TX11) (n := 21) (ref := "BallMinderModel") (v := .ref (q 10)) 0 (by decide) rfl rfl 18 (by decide) inX11_copy (by decide +kernel) (fun _ h9 => h9) rfl dX11_copy_152 ?_
      refine lv_bipush (v := 60) C.1 C.2.1 dX11_copy_155 (by decide) ?_
      refine lv_iload_n C.1 C.2.1 dX11_copy_157 rfl (lv_at hl 1 rfl) ?_
      refine lv_imul C.1 C.2.1 dX11_copy_158 ?_
      refine lv_iload C.1 C.2.1 dX11_copy_159 (lv_at hl 2 rfl) ?_
      refine lv_iadd C.1 C.2.1 dX11_copy_161 ?_
      refine lv_iload C.1 C.2.1 dX11_copy_162 (lv_at hl 4 rfl) ?_
      refine lv_iadd C.1 C.2.1 dX11_copy_164 ?_
      refine lv_aload_n C.1 C.2.1 dX11_copy_165 rfl (lv_at hl 0 rfl) ?_
      refine r_get C hW (ci := 11) (T := TX11) (n := 21) (ref := "BallMinderModel") (v := .ref (q 11)) 0 (by decide) rfl rfl 19 (by decide) inX11_copy (by decide +kernel) (fun _ h9 => h9) rfl dX11_copy_166 ?_
      refine lv_iload C.1 C.2.1 dX11_copy_169 (lv_at hl 4 rfl) ?_
      obtain ⟨hs32, h⟩ := h
      refine r_iald C hW (cA := cI) (n := 60) (f := a 11) 11 0 (by decide) rfl rfl hs32 dX11_copy_171 ?_
      obtain ⟨hs33, h⟩ := h
      refine r_iast C hW (cA := cI) (n := 240) (f := a 10) 10 0 (by decide) rfl rfl hs33 dX11_copy_172 (fun H locs hW => ?_)
      replace hW := gM_ast (k := 10) (n := 240) (by decide) rfl hW
      obtain ⟨a34, ea34⟩ : ∃ z : Nat → Nat → Int32, z = va_up a 10 (upd (a 10) ((((60 : Int32) * x3) + x4) + x6).toNatClampNeg (a 11 x6.toNatClampNeg)) := ⟨_, rfl⟩
      rw [← ea34] at hW
      replace h := h a34 ea34
      obtain ⟨x6_35, ex6_35⟩ : ∃ z : Int32, z = x6 + (1 : Int32) := ⟨_, rfl⟩
      replace h := h x6_35 ex6_35
      refine lv_iinc (v := x6_35) (lv' := [(6, .int x6_35), (0, .ref (q 0)), (3, .int x3), (4, .int x4), (5, .int x5)]) C.1 C.2.1 dX11_copy_173 hl (k := 4) rfl (by rw [ex6_35]; rfl) (by decide) rfl (fun ls hl => ?_)
      refine lv_goto (tgt := 144) C.1 C.2.1 dX11_copy_176 (by decide) ?_
      exact ih x3 x4 x5 x6_35 f a34 _ _ _ h hW (lv_sub hl [1, 2, 3, 4, 0] rfl)
set_option maxRecDepth 100000 in
set_option maxHeartbeats 4000000 in
theorem sX11_copy_107 {p : Program} {l : Launch} {e : Env} {s : State} {m : MethodId} {args : Array Value} {below : List Frame} {meth : Method} {c : Code} {D : va_G} {q : Nat → Nat} {A : Nat → Prop} {cI : ClassId} (C : CallFix p m c cX11_copy 7 s args wsX11_copy RX11) (hr : meth.sig.returnType = (some .int)) (hlk : meth.locks = false) (Q : Int32 → (Nat → Int32) → (Nat → Nat → Int32) → Prop) : ∀ (fu : Nat) (x1 : Int32) (x2 : Int32) (x3 : Int32) (x4 : Int32) (x5 : Int32) (x6 : Int32) (f : Nat → Int32) (a : Nat → Nat → Int32) (H : Heap) (locs : List Loc) (ls : Array Slot), vX11_copy_107 Q fu x1 x2 x3 x4 x5 x6 f a → hw D [(cI, .int)] q 12 (gM q cI f a) A s H locs → lv_has ls 7 [(0, .ref (q 0)), (1, .int x1), (2, .int x2), (3, .int x3), (4, .int x4), (5, .int x5), (6, .int x6)] → W p l e (headSpec wsX11_copy rmX11_copy).room s m args below meth c H locs 0 0 (MQ below (QMi D q cI Q A) args s 0 0 A) (F0 m 107 ls []) := by
  intro fu
  induction fu with
  | zero =>
    intro x1 x2 x3 x4 x5 x6 f a H locs ls h
    exact h.elim
  | succ fu ih =>
    intro x1 x2 x3 x4 x5 x6 f a H locs ls h hW hl
    refine lv_iload C.1 C.2.1 dX11_copy_107 (lv_at hl 6 rfl) ?_
    refine lv_iload C.1 C.2.1 dX11_copy_109 (lv_at hl 5 rfl) ?_
    refine lv_icmp_ge (tgt := 141) C.1 C.2.1 dX11_copy_111 (by decide) (fun c27 => ?_) (fun c27 => ?_)
    · replace h := h.1 c27
      refine lv_iconst (v := 0) C.1 C.2.1 dX11_copy_141 (by decide) ?_
      refine lv_istore (lv' := [(6, .int (0 : Int32)), (0, .ref (q 0)), (1, .int x1), (2, .int x2), (3, .int x3), (4, .int x4), (5, .int x5)]) C.1 C.2.1 dX11_copy_142 hl (by decide) rfl (fun ls hl => ?_)
      obtain ⟨n9, h⟩ := h
      exact sX11_copy_144 C hr hlk Q n9 x3 x4 x5 (0 : Int32) f a _ _ _ h hW (lv_sub hl [1, 4, 5, 6, 0] rfl)
    · replace h := h.2 c27
      refine lv_aload_n C.1 C.2.1 dX11_copy_114 rfl (lv_at hl 0 rfl) ?_
      refine r_get C hW (ci := 11) (T := TX11) (n := 21) (ref := "BallMinderModel") (v := .ref (q 11)) 0 (by decide) rfl rfl 19 (by decide) inX11_copy (by decide +kernel) (fun _ h9 => h9) rfl dX11_copy_115 ?_
      refine lv_iload C.1 C.2.1 dX11_copy_118 (lv_at hl 6 rfl) ?_
      refine lv_aload_n C.1 C.2.1 dX11_copy_120 rfl (lv_at hl 0 rfl) ?_
      refine r_get C hW (ci := 11) (T := TX11) (n := 21) (ref := "BallMinderModel") (v := .ref (q 10)) 0 (by decide) rfl rfl 18 (by decide) inX11_copy (by decide +kernel) (fun _ h9 => h9) rfl dX11_copy_121 ?_
      refine lv_bipush (v := 60) C.1 C.2.1 dX11_copy_124 (by decide) ?_
      refine lv_iload_n C.1 C.2.1 dX11_copy_126 rfl (lv_at hl 1 rfl) ?_
      refine lv_imul C.1 C.2.1 dX11_copy_127 ?_
      refine lv_iload_n C.1 C.2.1 dX11_copy_128 rfl (lv_at hl 2 rfl) ?_
      refine lv_iadd C.1 C.2.1 dX11_copy_129 ?_
      refine lv_iload C.1 C.2.1 dX11_copy_130 (lv_at hl 6 rfl) ?_
      refine lv_iadd C.1 C.2.1 dX11_copy_132 ?_
      obtain ⟨hs36, h⟩ := h
      refine r_iald C hW (cA := cI) (n := 240) (f := a 10) 10 0 (by decide) rfl rfl hs36 dX11_copy_133 ?_
      obtain ⟨hs37, h⟩ := h
      refine r_iast C hW (cA := cI) (n := 60) (f := a 11) 11 0 (by decide) rfl rfl hs37 dX11_copy_134 (fun H locs hW => ?_)
      replace hW := gM_ast (k := 11) (n := 60) (by decide) rfl hW
      obtain ⟨a38, ea38⟩ : ∃ z : Nat → Nat → Int32, z = va_up a 11 (upd (a 11) x6.toNatClampNeg (a 10 ((((60 : Int32) * x1) + x2) + x6).toNatClampNeg)) := ⟨_, rfl⟩
      rw [← ea38] at hW
      replace h := h a38 ea38
      obtain ⟨x6_39, ex6_39⟩ : ∃ z : Int32, z = x6 + (1 : Int32) := ⟨_, rfl⟩
      replace h := h x6_39 ex6_39
      refine lv_iinc (v := x6_39) (lv' := [(6, .int x6_39), (0, .ref (q 0)), (1, .int x1), (2, .int x2), (3, .int x3), (4, .int x4), (5, .int x5)]) C.1 C.2.1 dX11_copy_135 hl (k := 6) rfl (by rw [ex6_39]; rfl) (by decide) rfl (fun ls hl => ?_)
      refine lv_goto (tgt := 107) C.1 C.2.1 dX11_copy_138 (by decide) ?_
      exact ih x1 x2 x3 x4 x5 x6_39 f a38 _ _ _ h hW (lv_sub hl [1, 2, 3, 4, 5, 6, 0] rfl)
set_option maxRecDepth 100000 in
set_option maxHeartbeats 4000000 in
theorem sX11_copy {p : Program} {l : Launch} {e : Env} {s : State} {m : MethodId} {args : Array Value} {below : List Frame} {meth : Method} {c : Code} {D : va_G} {q : Nat → Nat} {A : Nat → Prop} {cI : ClassId} (C : CallFix p m c cX11_copy 7 s args wsX11_copy RX11) (hr : meth.sig.returnType = (some .int)) (hlk : meth.locks = false) (Q : Int32 → (Nat → Int32) → (Nat → Nat → Int32) → Prop) : ∀ (x1 : Int32) (x2 : Int32) (x3 : Int32) (x4 : Int32) (x5 : Int32) (f : Nat → Int32) (a : Nat → Nat → Int32) (H : Heap) (locs : List Loc) (ls : Array Slot), vX11_copy x1 x2 x3 x4 x5 f a Q → hw D [(cI, .int)] q 12 (gM q cI f a) A s H locs → lv_has ls 7 [(0, .ref (q 0)), (1, .int x1), (2, .int x2), (3, .int x3), (4, .int x4), (5, .int x5)] → W p l e (headSpec wsX11_copy rmX11_copy).room s m args below meth c H locs 0 0 (MQ below (QMi D q cI Q A) args s 0 0 A) (F0 m 0 ls []) := by
  intro x1 x2 x3 x4 x5 f a H locs ls h hW hl
  unfold vX11_copy at h
  refine lv_iload_n C.1 C.2.1 dX11_copy_0 rfl (lv_at hl 1 rfl) ?_
  refine k_pi hW (va_runS (As := [.int x1]) (rest := []) C (mtX11_noSheet l D q _ H.size x1 _ h) (va_cwS 1 C.2.2.2.2 gX11_copy_X11_noSheet rfl rfl rfl (by decide +kernel) ⟨Nat.le_of_ble_eq_true rfl, Nat.le_of_ble_eq_true rfl⟩) ⟨mP_blind tX_B, fun U hU hV => ⟨rfl, hW.pre0 hU hV trivial⟩⟩ rfl rfl hl.1 rfl (lv_room (Nat.le_of_ble_eq_true rfl)) dX11_copy_1 ⟨Nat.zero_le _, Nat.zero_le _⟩) (fun r1 H locs h hW => ?_)
  refine lv_if_ne (tgt := 14) C.1 C.2.1 dX11_copy_4 (by decide) (fun c2 => ?_) (fun c2 => ?_)
  · replace h := h.1 c2
    exact sX11_copy_14 C hr hlk Q f a _ _ _ h hW (lv_sub hl [0] rfl)
  · replace h := h.2 c2
    refine lv_iload_n C.1 C.2.1 dX11_copy_7 rfl (lv_at hl 3 rfl) ?_
    refine k_pi hW (va_runS (As := [.int x3]) (rest := []) C (mtX11_noSheet l D q _ H.size x3 _ h) (va_cwS 1 C.2.2.2.2 gX11_copy_X11_noSheet rfl rfl rfl (by decide +kernel) ⟨Nat.le_of_ble_eq_true rfl, Nat.le_of_ble_eq_true rfl⟩) ⟨mP_blind tX_B, fun U hU hV => ⟨rfl, hW.pre0 hU hV trivial⟩⟩ rfl rfl hl.1 rfl (lv_room (Nat.le_of_ble_eq_true rfl)) dX11_copy_8 ⟨Nat.zero_le _, Nat.zero_le _⟩) (fun r6 H locs h hW => ?_)
    refine lv_if_eq (tgt := 20) C.1 C.2.1 dX11_copy_11 (by decide) (fun c7 => ?_) (fun c7 => ?_)
    · replace h := h.1 c7
      refine lv_aload_n C.1 C.2.1 dX11_copy_20 rfl (lv_at hl 0 rfl) ?_
      refine r_get C hW (ci := 11) (T := TX11) (n := 21) (ref := "BallMinderModel") (v := .ref (q 8)) 0 (by decide) rfl rfl 16 (by decide) inX11_copy (by decide +kernel) (fun _ h9 => h9) rfl dX11_copy_21 ?_
      refine lv_iload_n C.1 C.2.1 dX11_copy_24 rfl (lv_at hl 1 rfl) ?_
      obtain ⟨hs8, h⟩ := h
      refine r_iald C hW (cA := cI) (n := 4) (f := a 8) 8 0 (by decide) rfl rfl hs8 dX11_copy_25 ?_
      refine lv_if_lt (tgt := 38) C.1 C.2.1 dX11_copy_26 (by decide) (fun c9 => ?_) (fun c9 => ?_)
      · replace h := h.1 c9
        exact sX11_copy_38 C hr hlk Q f a _ _ _ h hW (lv_sub hl [0] rfl)
      · replace h := h.2 c9
        refine lv_aload_n C.1 C.2.1 dX11_copy_29 rfl (lv_at hl 0 rfl) ?_
        refine r_get C hW (ci := 11) (T := TX11) (n := 21) (ref := "BallMinderModel") (v := .ref (q 8)) 0 (by decide) rfl rfl 16 (by decide) inX11_copy (by decide +kernel) (fun _ h9 => h9) rfl dX11_copy_30 ?_
        refine lv_iload_n C.1 C.2.1 dX11_copy_33 rfl (lv_at hl 3 rfl) ?_
        obtain ⟨hs13, h⟩ := h
        refine r_iald C hW (cA := cI) (n := 4) (f := a 8) 8 0 (by decide) rfl rfl hs13 dX11_copy_34 ?_
        refine lv_if_ge (tgt := 44) C.1 C.2.1 dX11_copy_35 (by decide) (fun c14 => ?_) (fun c14 => ?_)
        · replace h := h.1 c14
          refine lv_aload_n C.1 C.2.1 dX11_copy_44 rfl (lv_at hl 0 rfl) ?_
          refine r_get C hW (ci := 11) (T := TX11) (n := 21) (ref := "BallMinderModel") (v := .ref (q 9)) 0 (by decide) rfl rfl 17 (by decide) inX11_copy (by decide +kernel) (fun _ h9 => h9) rfl dX11_copy_45 ?_
          refine lv_iload_n C.1 C.2.1 dX11_copy_48 rfl (lv_at hl 1 rfl) ?_
          obtain ⟨hs15, h⟩ := h
          refine r_iald C hW (cA := cI) (n := 4) (f := a 9) 9 0 (by decide) rfl rfl hs15 dX11_copy_49 ?_
          refine lv_aload_n C.1 C.2.1 dX11_copy_50 rfl (lv_at hl 0 rfl) ?_
          refine r_get C hW (ci := 11) (T := TX11) (n := 21) (ref := "BallMinderModel") (v := .ref (q 9)) 0 (by decide) rfl rfl 17 (by decide) inX11_copy (by decide +kernel) (fun _ h9 => h9) rfl dX11_copy_51 ?_
          refine lv_iload_n C.1 C.2.1 dX11_copy_54 rfl (lv_at hl 3 rfl) ?_
          obtain ⟨hs16, h⟩ := h
          refine r_iald C hW (cA := cI) (n := 4) (f := a 9) 9 0 (by decide) rfl rfl hs16 dX11_copy_55 ?_
          refine lv_icmp_eq (tgt := 65) C.1 C.2.1 dX11_copy_56 (by decide) (fun c17 => ?_) (fun c17 => ?_)
          · replace h := h.1 c17
            refine lv_iload_n C.1 C.2.1 dX11_copy_65 rfl (lv_at hl 2 rfl) ?_
            refine lv_iload C.1 C.2.1 dX11_copy_66 (lv_at hl 5 rfl) ?_
            refine lv_i2l C.1 C.2.1 dX11_copy_68 rfl ?_
            refine lv_aload_n C.1 C.2.1 dX11_copy_69 rfl (lv_at hl 0 rfl) ?_
            refine r_get C hW (ci := 11) (T := TX11) (n := 21) (ref := "BallMinderModel") (v := .ref (q 8)) 0 (by decide) rfl rfl 16 (by decide) inX11_copy (by decide +kernel) (fun _ h9 => h9) rfl dX11_copy_70 ?_
            refine lv_iload_n C.1 C.2.1 dX11_copy_73 rfl (lv_at hl 1 rfl) ?_
            obtain ⟨hs18, h⟩ := h
            refine r_iald C hW (cA := cI) (n := 4) (f := a 8) 8 0 (by decide) rfl rfl hs18 dX11_copy_74 ?_
            refine k_pi hW (va_runS (As := [.int x2, .long x5.toInt64, .int (a 8 x1.toNatClampNeg)]) (rest := []) C (mtX11_isBeyond l D q _ H.size x2 x5.toInt64 (a 8 x1.toNatClampNeg) _ h) (va_cwS 3 C.2.2.2.2 gX11_copy_X11_isBeyond rfl rfl rfl (by decide +kernel) ⟨Nat.le_of_ble_eq_true rfl, Nat.le_of_ble_eq_true rfl⟩) ⟨mP_blind tX_B, fun U hU hV => ⟨rfl, hW.pre0 hU hV trivial⟩⟩ rfl rfl hl.1 rfl (lv_room (Nat.le_of_ble_eq_true rfl)) dX11_copy_75 ⟨Nat.zero_le _, Nat.zero_le _⟩) (fun r19 H locs h hW => ?_)
            refine lv_if_ne (tgt := 98) C.1 C.2.1 dX11_copy_78 (by decide) (fun c20 => ?_) (fun c20 => ?_)
            · replace h := h.1 c20
              exact sX11_copy_98 C hr hlk Q f a _ _ _ h hW (lv_sub hl [0] rfl)
            · replace h := h.2 c20
              refine lv_iload C.1 C.2.1 dX11_copy_81 (lv_at hl 4 rfl) ?_
              refine lv_iload C.1 C.2.1 dX11_copy_83 (lv_at hl 5 rfl) ?_
              refine lv_i2l C.1 C.2.1 dX11_copy_85 rfl ?_
              refine lv_aload_n C.1 C.2.1 dX11_copy_86 rfl (lv_at hl 0 rfl) ?_
              refine r_get C hW (ci := 11) (T := TX11) (n := 21) (ref := "BallMinderModel") (v := .ref (q 8)) 0 (by decide) rfl rfl 16 (by decide) inX11_copy (by decide +kernel) (fun _ h9 => h9) rfl dX11_copy_87 ?_
              refine lv_iload_n C.1 C.2.1 dX11_copy_90 rfl (lv_at hl 3 rfl) ?_
              obtain ⟨hs24, h⟩ := h
              refine r_iald C hW (cA := cI) (n := 4) (f := a 8) 8 0 (by decide) rfl rfl hs24 dX11_copy_91 ?_
              refine k_pi hW (va_runS (As := [.int x4, .long x5.toInt64, .int (a 8 x3.toNatClampNeg)]) (rest := []) C (mtX11_isBeyond l D q _ H.size x4 x5.toInt64 (a 8 x3.toNatClampNeg) _ h) (va_cwS 3 C.2.2.2.2 gX11_copy_X11_isBeyond rfl rfl rfl (by decide +kernel) ⟨Nat.le_of_ble_eq_true rfl, Nat.le_of_ble_eq_true rfl⟩) ⟨mP_blind tX_B, fun U hU hV => ⟨rfl, hW.pre0 hU hV trivial⟩⟩ rfl rfl hl.1 rfl (lv_room (Nat.le_of_ble_eq_true rfl)) dX11_copy_92 ⟨Nat.zero_le _, Nat.zero_le _⟩) (fun r25 H locs h hW => ?_)
              refine lv_if_eq (tgt := 104) C.1 C.2.1 dX11_copy_95 (by decide) (fun c26 => ?_) (fun c26 => ?_)
              · replace h := h.1 c26
                refine lv_iconst (v := 0) C.1 C.2.1 dX11_copy_104 (by decide) ?_
                refine lv_istore (lv' := [(6, .int (0 : Int32)), (0, .ref (q 0)), (1, .int x1), (2, .int x2), (3, .int x3), (4, .int x4), (5, .int x5)]) C.1 C.2.1 dX11_copy_105 hl (by decide) rfl (fun ls hl => ?_)
                obtain ⟨n9, h⟩ := h
                exact sX11_copy_107 C hr hlk Q n9 x1 x2 x3 x4 x5 (0 : Int32) f a _ _ _ h hW (lv_sub hl [1, 2, 3, 4, 5, 6, 0] rfl)
              · replace h := h.2 c26
                exact sX11_copy_98 C hr hlk Q f a _ _ _ h hW (lv_sub hl [0] rfl)
          · replace h := h.2 c17
            refine lv_aload_n C.1 C.2.1 dX11_copy_59 rfl (lv_at hl 0 rfl) ?_
            refine lv_iconst (v := 2) C.1 C.2.1 dX11_copy_60 (by decide) ?_
            refine k_i hW (va_runV (As := [.int (2 : Int32)]) (rest := []) C (mtX11_failed l D q cI H.size (2 : Int32) f a _ h) (cwV 1 C.2.2.2.2 gX11_copy_X11_failed rfl rfl rfl (by decide +kernel) ⟨Nat.le_of_ble_eq_true rfl, Nat.le_of_ble_eq_true rfl⟩) ⟨mP_blind tX_B, va_recv hW.1 hW.2.1 (ci := 11) (q0 := 0) rfl (wL_get (by decide)), fun U hU hV => ⟨rfl, hW.pre hU hV trivial⟩⟩ rfl rfl hl.1 rfl (lv_room (Nat.le_of_ble_eq_true rfl)) dX11_copy_61 ⟨Nat.zero_le _, Nat.zero_le _⟩) (fun r40 u H locs h hW => ?_)
            obtain ⟨f41, a42⟩ := u
            replace hW : hw D [(cI, .int)] q 12 (gM q cI f41 a42) A s H locs := hW
            exact t_i C hr hlk (u := (f41, a42)) hW.2.2.2.1 hW.B h dX11_copy_64
        · replace h := h.2 c14
          exact sX11_copy_38 C hr hlk Q f a _ _ _ h hW (lv_sub hl [0] rfl)
    · replace h := h.2 c7
      exact sX11_copy_14 C hr hlk Q f a _ _ _ h hW (lv_sub hl [0] rfl)
set_option maxRecDepth 100000 in
set_option maxHeartbeats 4000000 in
theorem mtX11_copy (l : Launch) (D : va_G) (q : Nat → Nat) (cI : ClassId) (sz : Nat) (x1 : Int32) (x2 : Int32) (x3 : Int32) (x4 : Int32) (x5 : Int32) (f : Nat → Int32) (a : Nat → Nat → Int32) (Q : Int32 → (Nat → Int32) → (Nat → Nat → Int32) → Prop) (h : vX11_copy x1 x2 x3 x4 x5 f a Q) : Met l yX11_copy wsX11_copy rmX11_copy (va_Pc [.ref (q 0), .int x1, .int x2, .int x3, .int x4, .int x5] (mP D [(cI, .int)] q 12 (gM q cI f a) sz tX)) (QMi D q cI Q (aQ q 12 sz)) 0 0 (aQ q 12 sz) := by
  refine met_w (cc := cX11_copy) (maxL := 7) (ret := (some .int)) (by decide) rfl (Nat.le_of_ble_eq_true rfl) ?_
  intro p e s m below meth c ls C hr hlk hW hX hnm hl
  exact sX11_copy C hr hlk Q x1 x2 x3 x4 x5 f a _ _ _ h hW hl
