theorem inX11_better : ∀ w ∈ wsX110, w ∈ wsX11_better := fun _ h => List.mem_cons_of_mem _ (List.mem_append_right _ h)
abbrev rmX11_better : Room := { frames := 3, cells := 0, slots := 0, locals := 84 }
def vX11_better (x1 : Int32) (x2 : Int32) (f : Nat → Int32) (a : Nat → Nat → Int32) (Q : Int32 → (Nat → Int32) → (Nat → Nat → Int32) → Prop) : Prop := vX11_noMill x1 f a (fun r1 f2 a3 => (¬ r1 = 0 → Q (-1 : Int32) f2 a3) ∧ (r1 = 0 → vX11_in x2.toInt64 (0 : Int64) (6 : Int64) (fun r5 => (¬ r5 = 0 → vX11_of x1 x2 f2 a3 (fun r7 f8 a9 => vX11_greatestOf x2 (fun r10 => (¬ r7 = r10 → vX11_marginOf x1 f8 a9 (fun r12 f13 a14 => vp_in (((9 : Int32) * x1) + x2) 72 ∧ (vp_in (((9 : Int32) * x1) + x2) 72 ∧ (∀ a17 : Nat → Nat → Int32, a17 = va_up a14 2 (upd (a14 2) (((9 : Int32) * x1) + x2).toNatClampNeg ((a14 2 (((9 : Int32) * x1) + x2).toNatClampNeg) + (1 : Int32))) → vX11_marginOf x1 f13 a17 (fun r18 f19 a20 => vp_in (((9 : Int32) * x1) + x2) 72 ∧ (vp_in (((9 : Int32) * x1) + x2) 72 ∧ (∀ a23 : Nat → Nat → Int32, a23 = va_up a20 2 (upd (a20 2) (((9 : Int32) * x1) + x2).toNatClampNeg ((a20 2 (((9 : Int32) * x1) + x2).toNatClampNeg) - (1 : Int32))) → (r18 ≤ r12 → (¬ r18 = r12 → Q (-1 : Int32) f19 a23) ∧ (r18 = r12 → Q (0 : Int32) f19 a23)) ∧ (¬ (r18 ≤ r12) → Q (1 : Int32) f19 a23)))))))) ∧ (r7 = r10 → Q (-3 : Int32) f8 a9)))) ∧ (r5 = 0 → Q (-1 : Int32) f2 a3))))
set_option maxRecDepth 100000 in
set_option maxHeartbeats 4000000 in
theorem sX11_better {p : Program} {l : Launch} {e : Env} {s : State} {m : MethodId} {args : Array Value} {below : List Frame} {meth : Method} {c : Code} {D : va_G} {q : Nat → Nat} {A : Nat → Prop} {cI : ClassId} (C : CallFix p m c cX11_better 7 s args wsX11_better RX11) (hr : meth.sig.returnType = (some .int)) (hlk : meth.locks = false) (Q : Int32 → (Nat → Int32) → (Nat → Nat → Int32) → Prop) : ∀ (x1 : Int32) (x2 : Int32) (f : Nat → Int32) (a : Nat → Nat → Int32) (H : Heap) (locs : List Loc) (ls : Array Slot), vX11_better x1 x2 f a Q → hw D [(cI, .int)] q 12 (gM q cI f a) A s H locs → lv_has ls 7 [(0, .ref (q 0)), (1, .int x1), (2, .int x2)] → W p l e (headSpec wsX11_better rmX11_better).room s m args below meth c H locs 0 0 (MQ below (QMi D q cI Q A) args s 0 0 A) (F0 m 0 ls []) := by
  intro x1 x2 f a H locs ls h hW hl
  unfold vX11_better at h
  refine lv_aload_n C.1 C.2.1 dX11_better_0 rfl (lv_at hl 0 rfl) ?_
  refine lv_iload_n C.1 C.2.1 dX11_better_1 rfl (lv_at hl 1 rfl) ?_
  refine k_i hW (va_runV (As := [.int x1]) (rest := []) C (mtX11_noMill l D q cI H.size x1 f a _ h) (cwV 1 C.2.2.2.2 gX11_better_X11_noMill rfl rfl rfl (by decide +kernel) ⟨Nat.le_of_ble_eq_true rfl, Nat.le_of_ble_eq_true rfl⟩) ⟨mP_blind tX_B, va_recv hW.1 hW.2.1 (ci := 11) (q0 := 0) rfl (wL_get (by decide)), fun U hU hV => ⟨rfl, hW.pre hU hV trivial⟩⟩ rfl rfl hl.1 rfl (lv_room (Nat.le_of_ble_eq_true rfl)) dX11_better_2 ⟨Nat.zero_le _, Nat.zero_le _⟩) (fun r1 u H locs h hW => ?_)
  obtain ⟨f2, a3⟩ := u
  replace hW : hw D [(cI, .int)] q 12 (gM q cI f2 a3) A s H locs := hW
  refine lv_if_ne (tgt := 20) C.1 C.2.1 dX11_better_5 (by decide) (fun c4 => ?_) (fun c4 => ?_)
  · replace h := h.1 c4
    refine lv_iconst (v := -1) C.1 C.2.1 dX11_better_20 (by decide) ?_
    exact t_i C hr hlk (u := (f2, a3)) hW.2.2.2.1 hW.B h dX11_better_21
  · replace h := h.2 c4
    refine lv_iload_n C.1 C.2.1 dX11_better_8 rfl (lv_at hl 2 rfl) ?_
    refine lv_i2l C.1 C.2.1 dX11_better_9 rfl ?_
    refine lv_lconst (v := 0) C.1 C.2.1 dX11_better_10 (by decide) ?_
    refine lv_ldc2 (v := (6)) C.1 C.2.1 C.2.2.2.1 (C.2.2.2.2 (.constantLong RX11 128 (6)) (by decide +kernel)) dX11_better_11 ?_
    refine k_pi hW (va_runS (As := [.long x2.toInt64, .long (0 : Int64), .long (6 : Int64)]) (rest := []) C (mtX11_in l D q _ H.size x2.toInt64 (0 : Int64) (6 : Int64) _ h) (va_cwS 3 C.2.2.2.2 gX11_better_X11_in rfl rfl rfl (by decide +kernel) ⟨Nat.le_of_ble_eq_true rfl, Nat.le_of_ble_eq_true rfl⟩) ⟨mP_blind tX_B, fun U hU hV => ⟨rfl, hW.pre0 hU hV trivial⟩⟩ rfl rfl hl.1 rfl (lv_room (Nat.le_of_ble_eq_true rfl)) dX11_better_14 ⟨Nat.zero_le _, Nat.zero_le _⟩) (fun r5 H locs h hW => ?_)
    refine lv_if_ne (tgt := 22) C.1 C.2.1 dX11_better_17 (by decide) (fun c6 => ?_) (fun c6 => ?_)
    · replace h := h.1 c6
      refine lv_aload_n C.1 C.2.1 dX11_better_22 rfl (lv_at hl 0 rfl) ?_
      refine lv_iload_n C.1 C.2.1 dX11_better_23 rfl (lv_at hl 1 rfl) ?_
      refine lv_iload_n C.1 C.2.1 dX11_better_24 rfl (lv_at hl 2 rfl) ?_
      refine k_i hW (va_runV (As := [.int x1, .int x2]) (rest := []) C (mtX11_of l D q cI H.size x1 x2 f2 a3 _ h) (cwV 2 C.2.2.2.2 gX11_better_X11_of rfl rfl rfl (by decide +kernel) ⟨Nat.le_of_ble_eq_true rfl, Nat.le_of_ble_eq_true rfl⟩) ⟨mP_blind tX_B, va_recv hW.1 hW.2.1 (ci := 11) (q0 := 0) rfl (wL_get (by decide)), fun U hU hV => ⟨rfl, hW.pre hU hV trivial⟩⟩ rfl rfl hl.1 rfl (lv_room (Nat.le_of_ble_eq_true rfl)) dX11_better_25 ⟨Nat.zero_le _, Nat.zero_le _⟩) (fun r7 u H locs h hW => ?_)
      obtain ⟨f8, a9⟩ := u
      replace hW : hw D [(cI, .int)] q 12 (gM q cI f8 a9) A s H locs := hW
      refine lv_iload_n C.1 C.2.1 dX11_better_28 rfl (lv_at hl 2 rfl) ?_
      refine k_pi hW (va_runS (As := [.int x2]) (rest := [.int r7]) C (mtX11_greatestOf l D q _ H.size x2 _ h) (va_cwS 1 C.2.2.2.2 gX11_better_X11_greatestOf rfl rfl rfl (by decide +kernel) ⟨Nat.le_of_ble_eq_true rfl, Nat.le_of_ble_eq_true rfl⟩) ⟨mP_blind tX_B, fun U hU hV => ⟨rfl, hW.pre0 hU hV trivial⟩⟩ rfl rfl hl.1 rfl (lv_room (Nat.le_of_ble_eq_true rfl)) dX11_better_29 ⟨Nat.zero_le _, Nat.zero_le _⟩) (fun r10 H locs h hW => ?_)
      refine lv_icmp_ne (tgt := 38) C.1 C.2.1 dX11_better_32 (by decide) (fun c11 => ?_) (fun c11 => ?_)
      · replace h := h.1 c11
        refine lv_aload_n C.1 C.2.1 dX11_better_38 rfl (lv_at hl 0 rfl) ?_
        refine lv_iload_n C.1 C.2.1 dX11_better_39 rfl (lv_at hl 1 rfl) ?_
        refine k_l hW (va_runV (As := [.int x1]) (rest := []) C (mtX11_marginOf l D q cI H.size x1 f8 a9 _ h) (cwV 1 C.2.2.2.2 gX11_better_X11_marginOf rfl rfl rfl (by decide +kernel) ⟨Nat.le_of_ble_eq_true rfl, Nat.le_of_ble_eq_true rfl⟩) ⟨mP_blind tX_B, va_recv hW.1 hW.2.1 (ci := 11) (q0 := 0) rfl (wL_get (by decide)), fun U hU hV => ⟨rfl, hW.pre hU hV trivial⟩⟩ rfl rfl hl.1 rfl (lv_room (Nat.le_of_ble_eq_true rfl)) dX11_better_40 ⟨Nat.zero_le _, Nat.zero_le _⟩) (fun r12 u H locs h hW => ?_)
        obtain ⟨f13, a14⟩ := u
        replace hW : hw D [(cI, .int)] q 12 (gM q cI f13 a14) A s H locs := hW
        refine lv_lstore_n (lv' := [(3, .long r12), (0, .ref (q 0)), (1, .int x1), (2, .int x2)]) C.1 C.2.1 dX11_better_43 rfl hl (by decide) rfl (fun ls hl => ?_)
        refine lv_aload_n C.1 C.2.1 dX11_better_44 rfl (lv_at hl 1 rfl) ?_
        refine r_get C hW (ci := 11) (T := TX11) (n := 21) (ref := "BallMinderModel") (v := .ref (q 2)) 0 (by decide) rfl rfl 3 (by decide) inX11_better (by decide +kernel) (fun _ h9 => h9) rfl dX11_better_45 ?_
        refine lv_bipush (v := 9) C.1 C.2.1 dX11_better_48 (by decide) ?_
        refine lv_iload_n C.1 C.2.1 dX11_better_50 rfl (lv_at hl 2 rfl) ?_
        refine lv_imul C.1 C.2.1 dX11_better_51 ?_
        refine lv_iload_n C.1 C.2.1 dX11_better_52 rfl (lv_at hl 3 rfl) ?_
        refine lv_iadd C.1 C.2.1 dX11_better_53 ?_
        refine lv_dup2_11 C.1 C.2.1 dX11_better_54 rfl rfl ?_
        obtain ⟨hs15, h⟩ := h
        refine r_iald C hW (cA := cI) (n := 72) (f := a14 2) 2 0 (by decide) rfl rfl hs15 dX11_better_55 ?_
        refine lv_iconst (v := 1) C.1 C.2.1 dX11_better_56 (by decide) ?_
        refine lv_iadd C.1 C.2.1 dX11_better_57 ?_
        obtain ⟨hs16, h⟩ := h
        refine r_iast C hW (cA := cI) (n := 72) (f := a14 2) 2 0 (by decide) rfl rfl hs16 dX11_better_58 (fun H locs hW => ?_)
        replace hW := gM_ast (k := 2) (n := 72) (by decide) rfl hW
        obtain ⟨a17, ea17⟩ : ∃ z : Nat → Nat → Int32, z = va_up a14 2 (upd (a14 2) (((9 : Int32) * x1) + x2).toNatClampNeg ((a14 2 (((9 : Int32) * x1) + x2).toNatClampNeg) + (1 : Int32))) := ⟨_, rfl⟩
        rw [← ea17] at hW
        replace h := h a17 ea17
        refine lv_aload_n C.1 C.2.1 dX11_better_59 rfl (lv_at hl 1 rfl) ?_
        refine lv_iload_n C.1 C.2.1 dX11_better_60 rfl (lv_at hl 2 rfl) ?_
        refine k_l hW (va_runV (As := [.int x1]) (rest := []) C (mtX11_marginOf l D q cI H.size x1 f13 a17 _ h) (cwV 1 C.2.2.2.2 gX11_better_X11_marginOf rfl rfl rfl (by decide +kernel) ⟨Nat.le_of_ble_eq_true rfl, Nat.le_of_ble_eq_true rfl⟩) ⟨mP_blind tX_B, va_recv hW.1 hW.2.1 (ci := 11) (q0 := 0) rfl (wL_get (by decide)), fun U hU hV => ⟨rfl, hW.pre hU hV trivial⟩⟩ rfl rfl hl.1 rfl (lv_room (Nat.le_of_ble_eq_true rfl)) dX11_better_61 ⟨Nat.zero_le _, Nat.zero_le _⟩) (fun r18 u H locs h hW => ?_)
        obtain ⟨f19, a20⟩ := u
        replace hW : hw D [(cI, .int)] q 12 (gM q cI f19 a20) A s H locs := hW
        refine lv_lstore (lv' := [(5, .long r18), (3, .long r12), (0, .ref (q 0)), (1, .int x1), (2, .int x2)]) C.1 C.2.1 dX11_better_64 hl (by decide) rfl (fun ls hl => ?_)
        refine lv_aload_n C.1 C.2.1 dX11_better_66 rfl (lv_at hl 2 rfl) ?_
        refine r_get C hW (ci := 11) (T := TX11) (n := 21) (ref := "BallMinderModel") (v := .ref (q 2)) 0 (by decide) rfl rfl 3 (by decide) inX11_better (by decide +kernel) (fun _ h9 => h9) rfl dX11_better_67 ?_
        refine lv_bipush (v := 9) C.1 C.2.1 dX11_better_70 (by decide) ?_
        refine lv_iload_n C.1 C.2.1 dX11_better_72 rfl (lv_at hl 3 rfl) ?_
        refine lv_imul C.1 C.2.1 dX11_better_73 ?_
        refine lv_iload_n C.1 C.2.1 dX11_better_74 rfl (lv_at hl 4 rfl) ?_
        refine lv_iadd C.1 C.2.1 dX11_better_75 ?_
        refine lv_dup2_11 C.1 C.2.1 dX11_better_76 rfl rfl ?_
        obtain ⟨hs21, h⟩ := h
        refine r_iald C hW (cA := cI) (n := 72) (f := a20 2) 2 0 (by decide) rfl rfl hs21 dX11_better_77 ?_
        refine lv_iconst (v := 1) C.1 C.2.1 dX11_better_78 (by decide) ?_
        refine lv_isub C.1 C.2.1 dX11_better_79 ?_
        obtain ⟨hs22, h⟩ := h
        refine r_iast C hW (cA := cI) (n := 72) (f := a20 2) 2 0 (by decide) rfl rfl hs22 dX11_better_80 (fun H locs hW => ?_)
        replace hW := gM_ast (k := 2) (n := 72) (by decide) rfl hW
        obtain ⟨a23, ea23⟩ : ∃ z : Nat → Nat → Int32, z = va_up a20 2 (upd (a20 2) (((9 : Int32) * x1) + x2).toNatClampNeg ((a20 2 (((9 : Int32) * x1) + x2).toNatClampNeg) - (1 : Int32))) := ⟨_, rfl⟩
        rw [← ea23] at hW
        replace h := h a23 ea23
        refine lv_lload C.1 C.2.1 dX11_better_81 (lv_at hl 0 rfl) ?_
        refine lv_lload_n C.1 C.2.1 dX11_better_83 rfl (lv_at hl 1 rfl) ?_
        refine W.lcmp C.1 C.2.1 dX11_better_84 ?_
        refine lv_if_le (tgt := 92) C.1 C.2.1 dX11_better_85 (by decide) (fun c24 => ?_) (fun c24 => ?_)
        · replace h := h.1 (lc_le.mp c24)
          refine lv_lload C.1 C.2.1 dX11_better_92 (lv_at hl 0 rfl) ?_
          refine lv_lload_n C.1 C.2.1 dX11_better_94 rfl (lv_at hl 1 rfl) ?_
          refine W.lcmp C.1 C.2.1 dX11_better_95 ?_
          refine lv_if_ne (tgt := 103) C.1 C.2.1 dX11_better_96 (by decide) (fun c25 => ?_) (fun c25 => ?_)
          · replace h := h.1 (lc_ne.mp c25)
            refine lv_iconst (v := -1) C.1 C.2.1 dX11_better_103 (by decide) ?_
            exact t_i C hr hlk (u := (f19, a23)) hW.2.2.2.1 hW.B h dX11_better_104
          · replace h := h.2 (lc_eq.mp c25)
            refine lv_iconst (v := 0) C.1 C.2.1 dX11_better_99 (by decide) ?_
            refine lv_goto (tgt := 104) C.1 C.2.1 dX11_better_100 (by decide) ?_
            exact t_i C hr hlk (u := (f19, a23)) hW.2.2.2.1 hW.B h dX11_better_104
        · replace h := h.2 (fun z => c24 (lc_le.mpr z))
          refine lv_iconst (v := 1) C.1 C.2.1 dX11_better_88 (by decide) ?_
          refine lv_goto (tgt := 104) C.1 C.2.1 dX11_better_89 (by decide) ?_
          exact t_i C hr hlk (u := (f19, a23)) hW.2.2.2.1 hW.B h dX11_better_104
      · replace h := h.2 c11
        refine lv_bipush (v := -3) C.1 C.2.1 dX11_better_35 (by decide) ?_
        exact t_i C hr hlk (u := (f8, a9)) hW.2.2.2.1 hW.B h dX11_better_37
    · replace h := h.2 c6
      refine lv_iconst (v := -1) C.1 C.2.1 dX11_better_20 (by decide) ?_
      exact t_i C hr hlk (u := (f2, a3)) hW.2.2.2.1 hW.B h dX11_better_21
set_option maxRecDepth 100000 in
set_option maxHeartbeats 4000000 in
theorem mtX11_better (l : Launch) (D : va_G) (q : Nat → Nat) (cI : ClassId) (sz : Nat) (x1 : Int32) (x2 : Int32) (f : Nat → Int32) (a : Nat → Nat → Int32) (Q : Int32 → (Nat → Int32) → (Nat → Nat → Int32) → Prop) (h : vX11_better x1 x2 f a Q) : Met l yX11_better wsX11_better rmX11_better (va_Pc [.ref (q 0), .int x1, .int x2] (mP D [(cI, .int)] q 12 (gM q cI f a) sz tX)) (QMi D q cI Q (aQ q 12 sz)) 0 0 (aQ q 12 sz) := by
  refine met_w (cc := cX11_better) (maxL := 7) (ret := (some .int)) (by decide) rfl (Nat.le_of_ble_eq_true rfl) ?_
  intro p e s m below meth c ls C hr hlk hW hX hnm hl
  exact sX11_better C hr hlk Q x1 x2 f a _ _ _ h hW hl
theorem inX11_off : ∀ w ∈ wsX110, w ∈ wsX11_off := fun _ h => List.mem_cons_of_mem _ (List.mem_append_right _ h)
abbrev rmX11_off : Room := { frames := 2, cells := 0, slots := 0, locals := 46 }
def vX11_off_32 (Q : Int64 → (Nat → Int32) → (Nat → Nat → Int32) → Prop) (f : Nat → Int32) (a : Nat → Nat → Int32) : Prop := vX11_lost  (fun r5 => Q r5 f a)
def vX11_off_61 (Q : Int64 → (Nat → Int32) → (Nat → Nat → Int32) → Prop) (x1 : Int32) (x3 : Int32) (y0 : Int64) (f : Nat → Int32) (a : Nat → Nat → Int32) : Prop := vX11_of x1 (1 : Int32) f a (fun r17 f18 a19 => vX11_of x1 (4 : Int32) f18 a19 (fun r20 f21 a22 => vX11_of x1 (5 : Int32) f21 a22 (fun r23 f24 a25 => vX11_reduced y0 (((r17 * r20) + r23).toInt64) x3 (fun r26 => Q r26 f24 a25))))
def vX11_off (x1 : Int32) (x2 : Int32) (x3 : Int32) (f : Nat → Int32) (a : Nat → Nat → Int32) (Q : Int64 → (Nat → Int32) → (Nat → Nat → Int32) → Prop) : Prop := vX11_noMill x1 f a (fun r1 f2 a3 => (¬ r1 = 0 → vX11_off_32 Q f2 a3) ∧ (r1 = 0 → vX11_in x2.toInt64 (-99 : Int64) (99 : Int64) (fun r6 => (r6 = 0 → vX11_off_32 Q f2 a3) ∧ (¬ (r6 = 0) → vX11_in x3.toInt64 (0 : Int64) (1 : Int64) (fun r8 => (¬ r8 = 0 → vX11_of x1 (6 : Int32) f2 a3 (fun r10 f11 a12 => (r10 ≤ 0 → vX11_of x1 (4 : Int32) f11 a12 (fun r14 f15 a16 => vX11_off_61 Q x1 x3 (((-x2).toInt64) * r14.toInt64) f15 a16)) ∧ (¬ (r10 ≤ 0) → vX11_off_61 Q x1 x3 (0 : Int64) f11 a12))) ∧ (r8 = 0 → vX11_off_32 Q f2 a3))))))
set_option maxRecDepth 100000 in
set_option maxHeartbeats 4000000 in
theorem sX11_off_32 {p : Program} {l : Launch} {e : Env} {s : State} {m : MethodId} {args : Array Value} {below : List Frame} {meth : Method} {c : Code} {D : va_G} {q : Nat → Nat} {A : Nat → Prop} {cI : ClassId} (C : CallFix p m c cX11_off 6 s args wsX11_off RX11) (hr : meth.sig.returnType = (some .long)) (hlk : meth.locks = false) (Q : Int64 → (Nat → Int32) → (Nat → Nat → Int32) → Prop) : ∀ (f : Nat → Int32) (a : Nat → Nat → Int32) (H : Heap) (locs : List Loc) (ls : Array Slot), vX11_off_32 Q f a → hw D [(cI, .int)] q 12 (gM q cI f a) A s H locs → lv_has ls 6 [] → W p l e (headSpec wsX11_off rmX11_off).room s m args below meth c H locs 0 0 (MQ below (QMl D q cI Q A) args s 0 0 A) (F0 m 32 ls []) := by
  intro f a H locs ls h hW hl
  unfold vX11_off_32 at h
  refine k_pl hW (va_runS (As := []) (rest := []) C (mtX11_lost l D q _ H.size  _ h) (va_cwS 0 C.2.2.2.2 gX11_off_X11_lost rfl rfl rfl (by decide +kernel) ⟨Nat.le_of_ble_eq_true rfl, Nat.le_of_ble_eq_true rfl⟩) ⟨mP_blind tX_B, fun U hU hV => ⟨rfl, hW.pre0 hU hV trivial⟩⟩ rfl rfl hl.1 rfl (lv_room (Nat.le_of_ble_eq_true rfl)) dX11_off_32 ⟨Nat.zero_le _, Nat.zero_le _⟩) (fun r5 H locs h hW => ?_)
  exact t_l C hr hlk (u := (f, a)) hW.2.2.2.1 hW.B h dX11_off_35
set_option maxRecDepth 100000 in
set_option maxHeartbeats 4000000 in
theorem sX11_off_61 {p : Program} {l : Launch} {e : Env} {s : State} {m : MethodId} {args : Array Value} {below : List Frame} {meth : Method} {c : Code} {D : va_G} {q : Nat → Nat} {A : Nat → Prop} {cI : ClassId} (C : CallFix p m c cX11_off 6 s args wsX11_off RX11) (hr : meth.sig.returnType = (some .long)) (hlk : meth.locks = false) (Q : Int64 → (Nat → Int32) → (Nat → Nat → Int32) → Prop) : ∀ (x1 : Int32) (x3 : Int32) (y0 : Int64) (f : Nat → Int32) (a : Nat → Nat → Int32) (H : Heap) (locs : List Loc) (ls : Array Slot), vX11_off_61 Q x1 x3 y0 f a → hw D [(cI, .int)] q 12 (gM q cI f a) A s H locs → lv_has ls 6 [(0, .ref (q 0)), (1, .int x1), (3, .int x3)] → W p l e (headSpec wsX11_off rmX11_off).room s m args below meth c H locs 0 0 (MQ below (QMl D q cI Q A) args s 0 0 A) (F0 m 61 ls [.long y0]) := by
  intro x1 x3 y0 f a H locs ls h hW hl
  unfold vX11_off_61 at h
  refine lv_lstore (lv' := [(4, .long y0), (0, .ref (q 0)), (1, .int x1), (3, .int x3)]) C.1 C.2.1 dX11_off_61 hl (by decide) rfl (fun ls hl => ?_)
  refine lv_lload C.1 C.2.1 dX11_off_63 (lv_at hl 0 rfl) ?_
  refine lv_aload_n C.1 C.2.1 dX11_off_65 rfl (lv_at hl 1 rfl) ?_
  refine lv_iload_n C.1 C.2.1 dX11_off_66 rfl (lv_at hl 2 rfl) ?_
  refine lv_iconst (v := 1) C.1 C.2.1 dX11_off_67 (by decide) ?_
  refine k_i hW (va_runV (As := [.int x1, .int (1 : Int32)]) (rest := [.long y0]) C (mtX11_of l D q cI H.size x1 (1 : Int32) f a _ h) (cwV 2 C.2.2.2.2 gX11_off_X11_of rfl rfl rfl (by decide +kernel) ⟨Nat.le_of_ble_eq_true rfl, Nat.le_of_ble_eq_true rfl⟩) ⟨mP_blind tX_B, va_recv hW.1 hW.2.1 (ci := 11) (q0 := 0) rfl (wL_get (by decide)), fun U hU hV => ⟨rfl, hW.pre hU hV trivial⟩⟩ rfl rfl hl.1 rfl (lv_room (Nat.le_of_ble_eq_true rfl)) dX11_off_68 ⟨Nat.zero_le _, Nat.zero_le _⟩) (fun r17 u H locs h hW => ?_)
  obtain ⟨f18, a19⟩ := u
  replace hW : hw D [(cI, .int)] q 12 (gM q cI f18 a19) A s H locs := hW
  refine lv_aload_n C.1 C.2.1 dX11_off_71 rfl (lv_at hl 1 rfl) ?_
  refine lv_iload_n C.1 C.2.1 dX11_off_72 rfl (lv_at hl 2 rfl) ?_
  refine lv_iconst (v := 4) C.1 C.2.1 dX11_off_73 (by decide) ?_
  refine k_i hW (va_runV (As := [.int x1, .int (4 : Int32)]) (rest := [.int r17, .long y0]) C (mtX11_of l D q cI H.size x1 (4 : Int32) f18 a19 _ h) (cwV 2 C.2.2.2.2 gX11_off_X11_of rfl rfl rfl (by decide +kernel) ⟨Nat.le_of_ble_eq_true rfl, Nat.le_of_ble_eq_true rfl⟩) ⟨mP_blind tX_B, va_recv hW.1 hW.2.1 (ci := 11) (q0 := 0) rfl (wL_get (by decide)), fun U hU hV => ⟨rfl, hW.pre hU hV trivial⟩⟩ rfl rfl hl.1 rfl (lv_room (Nat.le_of_ble_eq_true rfl)) dX11_off_74 ⟨Nat.zero_le _, Nat.zero_le _⟩) (fun r20 u H locs h hW => ?_)
  obtain ⟨f21, a22⟩ := u
  replace hW : hw D [(cI, .int)] q 12 (gM q cI f21 a22) A s H locs := hW
  refine lv_imul C.1 C.2.1 dX11_off_77 ?_
  refine lv_aload_n C.1 C.2.1 dX11_off_78 rfl (lv_at hl 1 rfl) ?_
  refine lv_iload_n C.1 C.2.1 dX11_off_79 rfl (lv_at hl 2 rfl) ?_
  refine lv_iconst (v := 5) C.1 C.2.1 dX11_off_80 (by decide) ?_
  refine k_i hW (va_runV (As := [.int x1, .int (5 : Int32)]) (rest := [.int (r17 * r20), .long y0]) C (mtX11_of l D q cI H.size x1 (5 : Int32) f21 a22 _ h) (cwV 2 C.2.2.2.2 gX11_off_X11_of rfl rfl rfl (by decide +kernel) ⟨Nat.le_of_ble_eq_true rfl, Nat.le_of_ble_eq_true rfl⟩) ⟨mP_blind tX_B, va_recv hW.1 hW.2.1 (ci := 11) (q0 := 0) rfl (wL_get (by decide)), fun U hU hV => ⟨rfl, hW.pre hU hV trivial⟩⟩ rfl rfl hl.1 rfl (lv_room (Nat.le_of_ble_eq_true rfl)) dX11_off_81 ⟨Nat.zero_le _, Nat.zero_le _⟩) (fun r23 u H locs h hW => ?_)
  obtain ⟨f24, a25⟩ := u
  replace hW : hw D [(cI, .int)] q 12 (gM q cI f24 a25) A s H locs := hW
  refine lv_iadd C.1 C.2.1 dX11_off_84 ?_
  refine lv_i2l C.1 C.2.1 dX11_off_85 rfl ?_
  refine lv_iload_n C.1 C.2.1 dX11_off_86 rfl (lv_at hl 3 rfl) ?_
  refine k_pl hW (va_runS (As := [.long y0, .long (((r17 * r20) + r23).toInt64), .int x3]) (rest := []) C (mtX11_reduced l D q _ H.size y0 (((r17 * r20) + r23).toInt64) x3 _ h) (va_cwS 3 C.2.2.2.2 gX11_off_X11_reduced rfl rfl rfl (by decide +kernel) ⟨Nat.le_of_ble_eq_true rfl, Nat.le_of_ble_eq_true rfl⟩) ⟨mP_blind tX_B, fun U hU hV => ⟨rfl, hW.pre0 hU hV trivial⟩⟩ rfl rfl hl.1 rfl (lv_room (Nat.le_of_ble_eq_true rfl)) dX11_off_87 ⟨Nat.zero_le _, Nat.zero_le _⟩) (fun r26 H locs h hW => ?_)
  exact t_l C hr hlk (u := (f24, a25)) hW.2.2.2.1 hW.B h dX11_off_90
set_option maxRecDepth 100000 in
set_option maxHeartbeats 4000000 in
theorem sX11_off {p : Program} {l : Launch} {e : Env} {s : State} {m : MethodId} {args : Array Value} {below : List Frame} {meth : Method} {c : Code} {D : va_G} {q : Nat → Nat} {A : Nat → Prop} {cI : ClassId} (C : CallFix p m c cX11_off 6 s args wsX11_off RX11) (hr : meth.sig.returnType = (some .long)) (hlk : meth.locks = false) (Q : Int64 → (Nat → Int32) → (Nat → Nat → Int32) → Prop) : ∀ (x1 : Int32) (x2 : Int32) (x3 : Int32) (f : Nat → Int32) (a : Nat → Nat → Int32) (H : Heap) (locs : List Loc) (ls : Array Slot), vX11_off x1 x2 x3 f a Q → hw D [(cI, .int)] q 12 (gM q cI f a) A s H locs → lv_has ls 6 [(0, .ref (q 0)), (1, .int x1), (2, .int x2), (3, .int x3)] → W p l e (headSpec wsX11_off rmX11_off).room s m args below meth c H locs 0 0 (MQ below (QMl D q cI Q A) args s 0 0 A) (F0 m 0 ls []) := by
  intro x1 x2 x3 f a H locs ls h hW hl
  unfold vX11_off at h
  refine lv_aload_n C.1 C.2.1 dX11_off_0 rfl (lv_at hl 0 rfl) ?_
  refine lv_iload_n C.1 C.2.1 dX11_off_1 rfl (lv_at hl 1 rfl) ?_
  refine k_i hW (va_runV (As := [.int x1]) (rest := []) C (mtX11_noMill l D q cI H.size x1 f a _ h) (cwV 1 C.2.2.2.2 gX11_off_X11_noMill rfl rfl rfl (by decide +kernel) ⟨Nat.le_of_ble_eq_true rfl, Nat.le_of_ble_eq_true rfl⟩) ⟨mP_blind tX_B, va_recv hW.1 hW.2.1 (ci := 11) (q0 := 0) rfl (wL_get (by decide)), fun U hU hV => ⟨rfl, hW.pre hU hV trivial⟩⟩ rfl rfl hl.1 rfl (lv_room (Nat.le_of_ble_eq_true rfl)) dX11_off_2 ⟨Nat.zero_le _, Nat.zero_le _⟩) (fun r1 u H locs h hW => ?_)
  obtain ⟨f2, a3⟩ := u
  replace hW : hw D [(cI, .int)] q 12 (gM q cI f2 a3) A s H locs := hW
  refine lv_if_ne (tgt := 32) C.1 C.2.1 dX11_off_5 (by decide) (fun c4 => ?_) (fun c4 => ?_)
  · replace h := h.1 c4
    exact sX11_off_32 C hr hlk Q f2 a3 _ _ _ h hW (lv_sub hl [] rfl)
  · replace h := h.2 c4
    refine lv_iload_n C.1 C.2.1 dX11_off_8 rfl (lv_at hl 2 rfl) ?_
    refine lv_i2l C.1 C.2.1 dX11_off_9 rfl ?_
    refine lv_ldc2 (v := (-99)) C.1 C.2.1 C.2.2.2.1 (C.2.2.2.2 (.constantLong RX11 130 (-99)) (by decide +kernel)) dX11_off_10 ?_
    refine lv_ldc2 (v := (99)) C.1 C.2.1 C.2.2.2.1 (C.2.2.2.2 (.constantLong RX11 132 (99)) (by decide +kernel)) dX11_off_13 ?_
    refine k_pi hW (va_runS (As := [.long x2.toInt64, .long (-99 : Int64), .long (99 : Int64)]) (rest := []) C (mtX11_in l D q _ H.size x2.toInt64 (-99 : Int64) (99 : Int64) _ h) (va_cwS 3 C.2.2.2.2 gX11_off_X11_in rfl rfl rfl (by decide +kernel) ⟨Nat.le_of_ble_eq_true rfl, Nat.le_of_ble_eq_true rfl⟩) ⟨mP_blind tX_B, fun U hU hV => ⟨rfl, hW.pre0 hU hV trivial⟩⟩ rfl rfl hl.1 rfl (lv_room (Nat.le_of_ble_eq_true rfl)) dX11_off_16 ⟨Nat.zero_le _, Nat.zero_le _⟩) (fun r6 H locs h hW => ?_)
    refine lv_if_eq (tgt := 32) C.1 C.2.1 dX11_off_19 (by decide) (fun c7 => ?_) (fun c7 => ?_)
    · replace h := h.1 c7
      exact sX11_off_32 C hr hlk Q f2 a3 _ _ _ h hW (lv_sub hl [] rfl)
    · replace h := h.2 c7
      refine lv_iload_n C.1 C.2.1 dX11_off_22 rfl (lv_at hl 3 rfl) ?_
      refine lv_i2l C.1 C.2.1 dX11_off_23 rfl ?_
      refine lv_lconst (v := 0) C.1 C.2.1 dX11_off_24 (by decide) ?_
      refine lv_lconst (v := 1) C.1 C.2.1 dX11_off_25 (by decide) ?_
      refine k_pi hW (va_runS (As := [.long x3.toInt64, .long (0 : Int64), .long (1 : Int64)]) (rest := []) C (mtX11_in l D q _ H.size x3.toInt64 (0 : Int64) (1 : Int64) _ h) (va_cwS 3 C.2.2.2.2 gX11_off_X11_in rfl rfl rfl (by decide +kernel) ⟨Nat.le_of_ble_eq_true rfl, Nat.le_of_ble_eq_true rfl⟩) ⟨mP_blind tX_B, fun U hU hV => ⟨rfl, hW.pre0 hU hV trivial⟩⟩ rfl rfl hl.1 rfl (lv_room (Nat.le_of_ble_eq_true rfl)) dX11_off_26 ⟨Nat.zero_le _, Nat.zero_le _⟩) (fun r8 H locs h hW => ?_)
      refine lv_if_ne (tgt := 36) C.1 C.2.1 dX11_off_29 (by decide) (fun c9 => ?_) (fun c9 => ?_)
      · replace h := h.1 c9
        refine lv_aload_n C.1 C.2.1 dX11_off_36 rfl (lv_at hl 0 rfl) ?_
        refine lv_iload_n C.1 C.2.1 dX11_off_37 rfl (lv_at hl 1 rfl) ?_
        refine lv_bipush (v := 6) C.1 C.2.1 dX11_off_38 (by decide) ?_
        refine k_i hW (va_runV (As := [.int x1, .int (6 : Int32)]) (rest := []) C (mtX11_of l D q cI H.size x1 (6 : Int32) f2 a3 _ h) (cwV 2 C.2.2.2.2 gX11_off_X11_of rfl rfl rfl (by decide +kernel) ⟨Nat.le_of_ble_eq_true rfl, Nat.le_of_ble_eq_true rfl⟩) ⟨mP_blind tX_B, va_recv hW.1 hW.2.1 (ci := 11) (q0 := 0) rfl (wL_get (by decide)), fun U hU hV => ⟨rfl, hW.pre hU hV trivial⟩⟩ rfl rfl hl.1 rfl (lv_room (Nat.le_of_ble_eq_true rfl)) dX11_off_40 ⟨Nat.zero_le _, Nat.zero_le _⟩) (fun r10 u H locs h hW => ?_)
        obtain ⟨f11, a12⟩ := u
        replace hW : hw D [(cI, .int)] q 12 (gM q cI f11 a12) A s H locs := hW
        refine lv_if_le (tgt := 50) C.1 C.2.1 dX11_off_43 (by decide) (fun c13 => ?_) (fun c13 => ?_)
        · replace h := h.1 c13
          refine lv_iload_n C.1 C.2.1 dX11_off_50 rfl (lv_at hl 2 rfl) ?_
          refine lv_ineg C.1 C.2.1 dX11_off_51 ?_
          refine lv_i2l C.1 C.2.1 dX11_off_52 rfl ?_
          refine lv_aload_n C.1 C.2.1 dX11_off_53 rfl (lv_at hl 0 rfl) ?_
          refine lv_iload_n C.1 C.2.1 dX11_off_54 rfl (lv_at hl 1 rfl) ?_
          refine lv_iconst (v := 4) C.1 C.2.1 dX11_off_55 (by decide) ?_
          refine k_i hW (va_runV (As := [.int x1, .int (4 : Int32)]) (rest := [.long ((-x2).toInt64)]) C (mtX11_of l D q cI H.size x1 (4 : Int32) f11 a12 _ h) (cwV 2 C.2.2.2.2 gX11_off_X11_of rfl rfl rfl (by decide +kernel) ⟨Nat.le_of_ble_eq_true rfl, Nat.le_of_ble_eq_true rfl⟩) ⟨mP_blind tX_B, va_recv hW.1 hW.2.1 (ci := 11) (q0 := 0) rfl (wL_get (by decide)), fun U hU hV => ⟨rfl, hW.pre hU hV trivial⟩⟩ rfl rfl hl.1 rfl (lv_room (Nat.le_of_ble_eq_true rfl)) dX11_off_56 ⟨Nat.zero_le _, Nat.zero_le _⟩) (fun r14 u H locs h hW => ?_)
          obtain ⟨f15, a16⟩ := u
          replace hW : hw D [(cI, .int)] q 12 (gM q cI f15 a16) A s H locs := hW
          refine lv_i2l C.1 C.2.1 dX11_off_59 rfl ?_
          refine lv_lmul C.1 C.2.1 dX11_off_60 ?_
          exact sX11_off_61 C hr hlk Q x1 x3 (((-x2).toInt64) * r14.toInt64) f15 a16 _ _ _ h hW (lv_sub hl [0, 1, 3] rfl)
        · replace h := h.2 c13
          refine lv_lconst (v := 0) C.1 C.2.1 dX11_off_46 (by decide) ?_
          refine lv_goto (tgt := 61) C.1 C.2.1 dX11_off_47 (by decide) ?_
          exact sX11_off_61 C hr hlk Q x1 x3 (0 : Int64) f11 a12 _ _ _ h hW (lv_sub hl [0, 1, 3] rfl)
      · replace h := h.2 c9
        exact sX11_off_32 C hr hlk Q f2 a3 _ _ _ h hW (lv_sub hl [] rfl)
set_option maxRecDepth 100000 in
set_option maxHeartbeats 4000000 in
theorem mtX11_off (l : Launch) (D : va_G) (q : Nat → Nat) (cI : ClassId) (sz : Nat) (x1 : Int32) (x2 : Int32) (x3 : Int32) (f : Nat → Int32) (a : Nat → Nat → Int32) (Q : Int64 → (Nat → Int32) → (Nat → Nat → Int32) → Prop) (h : vX11_off x1 x2 x3 f a Q) : Met l yX11_off wsX11_off rmX11_off (va_Pc [.ref (q 0), .int x1, .int x2, .int x3] (mP D [(cI, .int)] q 12 (gM q cI f a) sz tX)) (QMl D q cI Q (aQ q 12 sz)) 0 0 (aQ q 12 sz) := by
  refine met_w (cc := cX11_off) (maxL := 6) (ret := (some .long)) (by decide) rfl (Nat.le_of_ble_eq_true rfl) ?_
  intro p e s m below meth c ls C hr hlk hW hX hnm hl
  exact sX11_off C hr hlk Q x1 x2 x3 f a _ _ _ h hW hl
theorem inX11_years : ∀ w ∈ wsX110, w ∈ wsX11_years := fun _ h => List.mem_cons_of_mem _ (List.mem_append_right _ h)
abbrev rmX11_years : Room := { frames := 4, cells := 0, slots := 0, locals := 108 }
def vX11_years_119 (Q : Int32 → (Nat → Int32) → (Nat → Nat → Int32) → Prop) (x1 : Int32) (x2 : Int32) (x4 : Int32) (x5 : Int32) (f : Nat → Int32) (a : Nat → Nat → Int32) : Prop := vp_in (((9 : Int32) * x1) + x2) 72 ∧ (∀ a14 : Nat → Nat → Int32, a14 = va_up a 2 (upd (a 2) (((9 : Int32) * x1) + x2).toNatClampNeg x4) → Q x5 f a14)
def vX11_years_111 (K54 : Int32 → Int32 → Int32 → Int32 → Int32 → Int32 → (Nat → Int32) → (Nat → Nat → Int32) → Prop) (Q : Int32 → (Nat → Int32) → (Nat → Nat → Int32) → Prop) (x1 : Int32) (x2 : Int32) (x3 : Int32) (x4 : Int32) (x6 : Int32) (y0 : Int32) (f : Nat → Int32) (a : Nat → Nat → Int32) : Prop := ∀ x6_25 : Int32, x6_25 = x6 + (1 : Int32) → K54 x1 x2 x3 x4 y0 x6_25 f a
def vX11_years_54 (Q : Int32 → (Nat → Int32) → (Nat → Nat → Int32) → Prop) : Nat → Int32 → Int32 → Int32 → Int32 → Int32 → Int32 → (Nat → Int32) → (Nat → Nat → Int32) → Prop
  | 0, _, _, _, _, _, _, _, _ => False
  | fu+1, x1, x2, x3, x4, x5, x6, f, a => ((61 : Int32) ≤ x6 → vX11_years_119 Q x1 x2 x4 x5 f a) ∧ (¬ ((61 : Int32) ≤ x6) → (0 ≤ x5 → vX11_years_119 Q x1 x2 x4 x5 f a) ∧ (¬ (0 ≤ x5) → vX11_leastOf x2 (fun r16 => vX11_greatestOf x2 (fun r17 => vX11_held (x4 + (x3 * x6)) r16 r17 (fun r18 => vp_in (((9 : Int32) * x1) + x2) 72 ∧ (∀ a20 : Nat → Nat → Int32, a20 = va_up a 2 (upd (a 2) (((9 : Int32) * x1) + x2).toNatClampNeg r18) → vX11_nearOf x1 f a20 (fun r21 f22 a23 => (¬ r21 = (2 : Int32) → vX11_years_111 (vX11_years_54 Q fu) Q x1 x2 x3 x4 x6 x6 f22 a23) ∧ (r21 = (2 : Int32) → vX11_years_111 (vX11_years_54 Q fu) Q x1 x2 x3 x4 x6 (-9 : Int32) f22 a23))))))))
def vX11_years (x1 : Int32) (x2 : Int32) (x3 : Int32) (f : Nat → Int32) (a : Nat → Nat → Int32) (Q : Int32 → (Nat → Int32) → (Nat → Nat → Int32) → Prop) : Prop := vX11_noMill x1 f a (fun r1 f2 a3 => (¬ r1 = 0 → Q (-1 : Int32) f2 a3) ∧ (r1 = 0 → vX11_in x2.toInt64 (0 : Int64) (6 : Int64) (fun r5 => (¬ r5 = 0 → vX11_in x3.toInt64 (-9 : Int64) (9 : Int64) (fun r7 => (¬ r7 = 0 → vX11_of x1 x2 f2 a3 (fun r9 f10 a11 => ∃ n54, vX11_years_54 Q n54 x1 x2 x3 r9 (-9 : Int32) (1 : Int32) f10 a11)) ∧ (r7 = 0 → Q (-2 : Int32) f2 a3))) ∧ (r5 = 0 → Q (-1 : Int32) f2 a3))))
set_option maxRecDepth 100000 in
set_option maxHeartbeats 4000000 in
theorem sX11_years_119 {p : Program} {l : Launch} {e : Env} {s : State} {m : MethodId} {args : Array Value} {below : List Frame} {meth : Method} {c : Code} {D : va_G} {q : Nat → Nat} {A : Nat → Prop} {cI : ClassId} (C : CallFix p m c cX11_years 7 s args wsX11_years RX11) (hr : meth.sig.returnType = (some .int)) (hlk : meth.locks = false) (Q : Int32 → (Nat → Int32) → (Nat → Nat → Int32) → Prop) : ∀ (x1 : Int32) (x2 : Int32) (x4 : Int32) (x5 : Int32) (f : Nat → Int32) (a : Nat → Nat → Int32) (H : Heap) (locs : List Loc) (ls : Array Slot), vX11_years_119 Q x1 x2 x4 x5 f a → hw D [(cI, .int)] q 12 (gM q cI f a) A s H locs → lv_has ls 7 [(0, .ref (q 0)), (1, .int x1), (2, .int x2), (4, .int x4), (5, .int x5)] → W p l e (headSpec wsX11_years rmX11_years).room s m args below meth c H locs 0 0 (MQ below (QMi D q cI Q A) args s 0 0 A) (F0 m 119 ls []) := by
  intro x1 x2 x4 x5 f a H locs ls h hW hl
  unfold vX11_years_119 at h
  refine lv_aload_n C.1 C.2.1 dX11_years_119 rfl (lv_at hl 0 rfl) ?_
  refine r_get C hW (ci := 11) (T := TX11) (n := 21) (ref := "BallMinderModel") (v := .ref (q 2)) 0 (by decide) rfl rfl 3 (by decide) inX11_years (by decide +kernel) (fun _ h9 => h9) rfl dX11_years_120 ?_
  refine lv_bipush (v := 9) C.1 C.2.1 dX11_years_123 (by decide) ?_
  refine lv_iload_n C.1 C.2.1 dX11_years_125 rfl (lv_at hl 1 rfl) ?_
  refine lv_imul C.1 C.2.1 dX11_years_126 ?_
  refine lv_iload_n C.1 C.2.1 dX11_years_127 rfl (lv_at hl 2 rfl) ?_
  refine lv_iadd C.1 C.2.1 dX11_years_128 ?_
  refine lv_iload C.1 C.2.1 dX11_years_129 (lv_at hl 3 rfl) ?_
  obtain ⟨hs13, h⟩ := h
  refine r_iast C hW (cA := cI) (n := 72) (f := a 2) 2 0 (by decide) rfl rfl hs13 dX11_years_131 (fun H locs hW => ?_)
  replace hW := gM_ast (k := 2) (n := 72) (by decide) rfl hW
  obtain ⟨a14, ea14⟩ : ∃ z : Nat → Nat → Int32, z = va_up a 2 (upd (a 2) (((9 : Int32) * x1) + x2).toNatClampNeg x4) := ⟨_, rfl⟩
  rw [← ea14] at hW
  replace h := h a14 ea14
  refine lv_iload C.1 C.2.1 dX11_years_132 (lv_at hl 4 rfl) ?_
  exact t_i C hr hlk (u := (f, a14)) hW.2.2.2.1 hW.B h dX11_years_134
set_option maxRecDepth 100000 in
set_option maxHeartbeats 4000000 in
theorem sX11_years_111 {p : Program} {l : Launch} {e : Env} {s : State} {m : MethodId} {args : Array Value} {below : List Frame} {meth : Method} {c : Code} {D : va_G} {q : Nat → Nat} {A : Nat → Prop} {cI : ClassId} (C : CallFix p m c cX11_years 7 s args wsX11_years RX11) (hr : meth.sig.returnType = (some .int)) (hlk : meth.locks = false) (Q : Int32 → (Nat → Int32) → (Nat → Nat → Int32) → Prop) (K54 : Int32 → Int32 → Int32 → Int32 → Int32 → Int32 → (Nat → Int32) → (Nat → Nat → Int32) → Prop) (hK54 : ∀ (x1 : Int32) (x2 : Int32) (x3 : Int32) (x4 : Int32) (x5 : Int32) (x6 : Int32) (f : Nat → Int32) (a : Nat → Nat → Int32) (H : Heap) (locs : List Loc) (ls : Array Slot), K54 x1 x2 x3 x4 x5 x6 f a → hw D [(cI, .int)] q 12 (gM q cI f a) A s H locs → lv_has ls 7 [(0, .ref (q 0)), (1, .int x1), (2, .int x2), (3, .int x3), (4, .int x4), (5, .int x5), (6, .int x6)] → W p l e (headSpec wsX11_years rmX11_years).room s m args below meth c H locs 0 0 (MQ below (QMi D q cI Q A) args s 0 0 A) (F0 m 54 ls [])) : ∀ (x1 : Int32) (x2 : Int32) (x3 : Int32) (x4 : Int32) (x6 : Int32) (y0 : Int32) (f : Nat → Int32) (a : Nat → Nat → Int32) (H : Heap) (locs : List Loc) (ls : Array Slot), vX11_years_111 K54 Q x1 x2 x3 x4 x6 y0 f a → hw D [(cI, .int)] q 12 (gM q cI f a) A s H locs → lv_has ls 7 [(0, .ref (q 0)), (1, .int x1), (2, .int x2), (3, .int x3), (4, .int x4), (6, .int x6)] → W p l e (headSpec wsX11_years rmX11_years).room s m args below meth c H locs 0 0 (MQ below (QMi D q cI Q A) args s 0 0 A) (F0 m 111 ls [.int y0]) := by
  intro x1 x2 x3 x4 x6 y0 f a H locs ls h hW hl
  unfold vX11_years_111 at h
  refine lv_istore (lv' := [(5, .int y0), (0, .ref (q 0)), (1, .int x1), (2, .int x2), (3, .int x3), (4, .int x4), (6, .int x6)]) C.1 C.2.1 dX11_years_111 hl (by decide) rfl (fun ls hl => ?_)
  obtain ⟨x6_25, ex6_25⟩ : ∃ z : Int32, z = x6 + (1 : Int32) := ⟨_, rfl⟩
  replace h := h x6_25 ex6_25
  refine lv_iinc (v := x6_25) (lv' := [(6, .int x6_25), (5, .int y0), (0, .ref (q 0)), (1, .int x1), (2, .int x2), (3, .int x3), (4, .int x4)]) C.1 C.2.1 dX11_years_113 hl (k := 6) rfl (by rw [ex6_25]; rfl) (by decide) rfl (fun ls hl => ?_)
  refine lv_goto (tgt := 54) C.1 C.2.1 dX11_years_116 (by decide) ?_
  exact hK54 x1 x2 x3 x4 y0 x6_25 f a _ _ _ h hW (lv_sub hl [2, 3, 4, 5, 6, 1, 0] rfl)
set_option maxRecDepth 100000 in
set_option maxHeartbeats 4000000 in
theorem sX11_years_54 {p : Program} {l : Launch} {e : Env} {s : State} {m : MethodId} {args : Array Value} {below : List Frame} {meth : Method} {c : Code} {D : va_G} {q : Nat → Nat} {A : Nat → Prop} {cI : ClassId} (C : CallFix p m c cX11_years 7 s args wsX11_years RX11) (hr : meth.sig.returnType = (some .int)) (hlk : meth.locks = false) (Q : Int32 → (Nat → Int32) → (Nat → Nat → Int32) → Prop) : ∀ (fu : Nat) (x1 : Int32) (x2 : Int32) (x3 : Int32) (x4 : Int32) (x5 : Int32) (x6 : Int32) (f : Nat → Int32) (a : Nat → Nat → Int32) (H : Heap) (locs : List Loc) (ls : Array Slot), vX11_years_54 Q fu x1 x2 x3 x4 x5 x6 f a → hw D [(cI, .int)] q 12 (gM q cI f a) A s H locs → lv_has ls 7 [(0, .ref (q 0)), (1, .int x1), (2, .int x2), (3, .int x3), (4, .int x4), (5, .int x5), (6, .int x6)] → W p l e (headSpec wsX11_years rmX11_years).room s m args below meth c H locs 0 0 (MQ below (QMi D q cI Q A) args s 0 0 A) (F0 m 54 ls []) := by
  intro fu
  induction fu with
  | zero =>
    intro x1 x2 x3 x4 x5 x6 f a H locs ls h
    exact h.elim
  | succ fu ih =>
    intro x1 x2 x3 x4 x5 x6 f a H locs ls h hW hl
    refine lv_iload C.1 C.2.1 dX11_years_54 (lv_at hl 6 rfl) ?_
    refine lv_bipush (v := 61) C.1 C.2.1 dX11_years_56 (by decide) ?_
    refine lv_icmp_ge (tgt := 119) C.1 C.2.1 dX11_years_58 (by decide) (fun c12 => ?_) (fun c12 => ?_)
    · replace h := h.1 c12
      exact sX11_years_119 C hr hlk Q x1 x2 x4 x5 f a _ _ _ h hW (lv_sub hl [0, 1, 2, 4, 5] rfl)
    · replace h := h.2 c12
      refine lv_iload C.1 C.2.1 dX11_years_61 (lv_at hl 5 rfl) ?_
      refine lv_if_ge (tgt := 119) C.1 C.2.1 dX11_years_63 (by decide) (fun c15 => ?_) (fun c15 => ?_)
      · replace h := h.1 c15
        exact sX11_years_119 C hr hlk Q x1 x2 x4 x5 f a _ _ _ h hW (lv_sub hl [0, 1, 2, 4, 5] rfl)
      · replace h := h.2 c15
        refine lv_aload_n C.1 C.2.1 dX11_years_66 rfl (lv_at hl 0 rfl) ?_
        refine r_get C hW (ci := 11) (T := TX11) (n := 21) (ref := "BallMinderModel") (v := .ref (q 2)) 0 (by decide) rfl rfl 3 (by decide) inX11_years (by decide +kernel) (fun _ h9 => h9) rfl dX11_years_67 ?_
        refine lv_bipush (v := 9) C.1 C.2.1 dX11_years_70 (by decide) ?_
        refine lv_iload_n C.1 C.2.1 dX11_years_72 rfl (lv_at hl 1 rfl) ?_
        refine lv_imul C.1 C.2.1 dX11_years_73 ?_
        refine lv_iload_n C.1 C.2.1 dX11_years_74 rfl (lv_at hl 2 rfl) ?_
        refine lv_iadd C.1 C.2.1 dX11_years_75 ?_
        refine lv_iload C.1 C.2.1 dX11_years_76 (lv_at hl 4 rfl) ?_
        refine lv_iload_n C.1 C.2.1 dX11_years_78 rfl (lv_at hl 3 rfl) ?_
        refine lv_iload C.1 C.2.1 dX11_years_79 (lv_at hl 6 rfl) ?_
        refine lv_imul C.1 C.2.1 dX11_years_81 ?_
        refine lv_iadd C.1 C.2.1 dX11_years_82 ?_
        refine lv_iload_n C.1 C.2.1 dX11_years_83 rfl (lv_at hl 2 rfl) ?_
        refine k_pi hW (va_runS (As := [.int x2]) (rest := [.int (x4 + (x3 * x6)), .int (((9 : Int32) * x1) + x2), .ref (q 2)]) C (mtX11_leastOf l D q _ H.size x2 _ h) (va_cwS 1 C.2.2.2.2 gX11_years_X11_leastOf rfl rfl rfl (by decide +kernel) ⟨Nat.le_of_ble_eq_true rfl, Nat.le_of_ble_eq_true rfl⟩) ⟨mP_blind tX_B, fun U hU hV => ⟨rfl, hW.pre0 hU hV trivial⟩⟩ rfl rfl hl.1 rfl (lv_room (Nat.le_of_ble_eq_true rfl)) dX11_years_84 ⟨Nat.zero_le _, Nat.zero_le _⟩) (fun r16 H locs h hW => ?_)
        refine lv_iload_n C.1 C.2.1 dX11_years_87 rfl (lv_at hl 2 rfl) ?_
        refine k_pi hW (va_runS (As := [.int x2]) (rest := [.int r16, .int (x4 + (x3 * x6)), .int (((9 : Int32) * x1) + x2), .ref (q 2)]) C (mtX11_greatestOf l D q _ H.size x2 _ h) (va_cwS 1 C.2.2.2.2 gX11_years_X11_greatestOf rfl rfl rfl (by decide +kernel) ⟨Nat.le_of_ble_eq_true rfl, Nat.le_of_ble_eq_true rfl⟩) ⟨mP_blind tX_B, fun U hU hV => ⟨rfl, hW.pre0 hU hV trivial⟩⟩ rfl rfl hl.1 rfl (lv_room (Nat.le_of_ble_eq_true rfl)) dX11_years_88 ⟨Nat.zero_le _, Nat.zero_le _⟩) (fun r17 H locs h hW => ?_)
        refine k_pi hW (va_runS (As := [.int (x4 + (x3 * x6)), .int r16, .int r17]) (rest := [.int (((9 : Int32) * x1) + x2), .ref (q 2)]) C (mtX11_held l D q _ H.size (x4 + (x3 * x6)) r16 r17 _ h) (va_cwS 3 C.2.2.2.2 gX11_years_X11_held rfl rfl rfl (by decide +kernel) ⟨Nat.le_of_ble_eq_true rfl, Nat.le_of_ble_eq_true rfl⟩) ⟨mP_blind tX_B, fun U hU hV => ⟨rfl, hW.pre0 hU hV trivial⟩⟩ rfl rfl hl.1 rfl (lv_room (Nat.le_of_ble_eq_true rfl)) dX11_years_91 ⟨Nat.zero_le _, Nat.zero_le _⟩) (fun r18 H locs h hW => ?_)
        obtain ⟨hs19, h⟩ := h
        refine r_iast C hW (cA := cI) (n := 72) (f := a 2) 2 0 (by decide) rfl rfl hs19 dX11_years_94 (fun H locs hW => ?_)
        replace hW := gM_ast (k := 2) (n := 72) (by decide) rfl hW
        obtain ⟨a20, ea20⟩ : ∃ z : Nat → Nat → Int32, z = va_up a 2 (upd (a 2) (((9 : Int32) * x1) + x2).toNatClampNeg r18) := ⟨_, rfl⟩
        rw [← ea20] at hW
        replace h := h a20 ea20
        refine lv_aload_n C.1 C.2.1 dX11_years_95 rfl (lv_at hl 0 rfl) ?_
        refine lv_iload_n C.1 C.2.1 dX11_years_96 rfl (lv_at hl 1 rfl) ?_
        refine k_i hW (va_runV (As := [.int x1]) (rest := []) C (mtX11_nearOf l D q cI H.size x1 f a20 _ h) (cwV 1 C.2.2.2.2 gX11_years_X11_nearOf rfl rfl rfl (by decide +kernel) ⟨Nat.le_of_ble_eq_true rfl, Nat.le_of_ble_eq_true rfl⟩) ⟨mP_blind tX_B, va_recv hW.1 hW.2.1 (ci := 11) (q0 := 0) rfl (wL_get (by decide)), fun U hU hV => ⟨rfl, hW.pre hU hV trivial⟩⟩ rfl rfl hl.1 rfl (lv_room (Nat.le_of_ble_eq_true rfl)) dX11_years_97 ⟨Nat.zero_le _, Nat.zero_le _⟩) (fun r21 u H locs h hW => ?_)
        obtain ⟨f22, a23⟩ := u
        replace hW : hw D [(cI, .int)] q 12 (gM q cI f22 a23) A s H locs := hW
        refine lv_iconst (v := 2) C.1 C.2.1 dX11_years_100 (by decide) ?_
        refine lv_icmp_ne (tgt := 109) C.1 C.2.1 dX11_years_101 (by decide) (fun c24 => ?_) (fun c24 => ?_)
        · replace h := h.1 c24
          refine lv_iload C.1 C.2.1 dX11_years_109 (lv_at hl 6 rfl) ?_
          exact sX11_years_111 C hr hlk Q _ ih x1 x2 x3 x4 x6 x6 f22 a23 _ _ _ h hW (lv_sub hl [0, 1, 2, 3, 4, 6] rfl)
        · replace h := h.2 c24
          refine lv_bipush (v := -9) C.1 C.2.1 dX11_years_104 (by decide) ?_
          refine lv_goto (tgt := 111) C.1 C.2.1 dX11_years_106 (by decide) ?_
          exact sX11_years_111 C hr hlk Q _ ih x1 x2 x3 x4 x6 (-9 : Int32) f22 a23 _ _ _ h hW (lv_sub hl [0, 1, 2, 3, 4, 6] rfl)
set_option maxRecDepth 100000 in
set_option maxHeartbeats 4000000 in
theorem sX11_years {p : Program} {l : Launch} {e : Env} {s : State} {m : MethodId} {args : Array Value} {below : List Frame} {meth : Method} {c : Code} {D : va_G} {q : Nat → Nat} {A : Nat → Prop} {cI : ClassId} (C : CallFix p m c cX11_years 7 s args wsX11_years RX11) (hr : meth.sig.returnType = (some .int)) (hlk : meth.locks = false) (Q : Int32 → (Nat → Int32) → (Nat → Nat → Int32) → Prop) : ∀ (x1 : Int32) (x2 : Int32) (x3 : Int32) (f : Nat → Int32) (a : Nat → Nat → Int32) (H : Heap) (locs : List Loc) (ls : Array Slot), vX11_years x1 x2 x3 f a Q → hw D [(cI, .int)] q 12 (gM q cI f a) A s H locs → lv_has ls 7 [(0, .ref (q 0)), (1, .int x1), (2, .int x2), (3, .int x3)] → W p l e (headSpec wsX11_years rmX11_years).room s m args below meth c H locs 0 0 (MQ below (QMi D q cI Q A) args s 0 0 A) (F0 m 0 ls []) := by
  intro x1 x2 x3 f a H locs ls h hW hl
  unfold vX11_years at h
  refine lv_aload_n C.1 C.2.1 dX11_years_0 rfl (lv_at hl 0 rfl) ?_
  refine lv_iload_n C.1 C.2.1 dX11_years_1 rfl (lv_at hl 1 rfl) ?_
  refine k_i hW (va_runV (As := [.int x1]) (rest := []) C (mtX11_noMill l D q cI H.size x1 f a _ h) (cwV 1 C.2.2.2.2 gX11_years_X11_noMill rfl rfl rfl (by decide +kernel) ⟨Nat.le_of_ble_eq_true rfl, Nat.le_of_ble_eq_true rfl⟩) ⟨mP_blind tX_B, va_recv hW.1 hW.2.1 (ci := 11) (q0 := 0) rfl (wL_get (by decide)), fun U hU hV => ⟨rfl, hW.pre hU hV trivial⟩⟩ rfl rfl hl.1 rfl (lv_room (Nat.le_of_ble_eq_true rfl)) dX11_years_2 ⟨Nat.zero_le _, Nat.zero_le _⟩) (fun r1 u H locs h hW => ?_)
  obtain ⟨f2, a3⟩ := u
  replace hW : hw D [(cI, .int)] q 12 (gM q cI f2 a3) A s H locs := hW
  refine lv_if_ne (tgt := 20) C.1 C.2.1 dX11_years_5 (by decide) (fun c4 => ?_) (fun c4 => ?_)
  · replace h := h.1 c4
    refine lv_iconst (v := -1) C.1 C.2.1 dX11_years_20 (by decide) ?_
    exact t_i C hr hlk (u := (f2, a3)) hW.2.2.2.1 hW.B h dX11_years_21
  · replace h := h.2 c4
    refine lv_iload_n C.1 C.2.1 dX11_years_8 rfl (lv_at hl 2 rfl) ?_
    refine lv_i2l C.1 C.2.1 dX11_years_9 rfl ?_
    refine lv_lconst (v := 0) C.1 C.2.1 dX11_years_10 (by decide) ?_
    refine lv_ldc2 (v := (6)) C.1 C.2.1 C.2.2.2.1 (C.2.2.2.2 (.constantLong RX11 128 (6)) (by decide +kernel)) dX11_years_11 ?_
    refine k_pi hW (va_runS (As := [.long x2.toInt64, .long (0 : Int64), .long (6 : Int64)]) (rest := []) C (mtX11_in l D q _ H.size x2.toInt64 (0 : Int64) (6 : Int64) _ h) (va_cwS 3 C.2.2.2.2 gX11_years_X11_in rfl rfl rfl (by decide +kernel) ⟨Nat.le_of_ble_eq_true rfl, Nat.le_of_ble_eq_true rfl⟩) ⟨mP_blind tX_B, fun U hU hV => ⟨rfl, hW.pre0 hU hV trivial⟩⟩ rfl rfl hl.1 rfl (lv_room (Nat.le_of_ble_eq_true rfl)) dX11_years_14 ⟨Nat.zero_le _, Nat.zero_le _⟩) (fun r5 H locs h hW => ?_)
    refine lv_if_ne (tgt := 22) C.1 C.2.1 dX11_years_17 (by decide) (fun c6 => ?_) (fun c6 => ?_)
    · replace h := h.1 c6
      refine lv_iload_n C.1 C.2.1 dX11_years_22 rfl (lv_at hl 3 rfl) ?_
      refine lv_i2l C.1 C.2.1 dX11_years_23 rfl ?_
      refine lv_ldc2 (v := (-9)) C.1 C.2.1 C.2.2.2.1 (C.2.2.2.2 (.constantLong RX11 138 (-9)) (by decide +kernel)) dX11_years_24 ?_
      refine lv_ldc2 (v := (9)) C.1 C.2.1 C.2.2.2.1 (C.2.2.2.2 (.constantLong RX11 108 (9)) (by decide +kernel)) dX11_years_27 ?_
      refine k_pi hW (va_runS (As := [.long x3.toInt64, .long (-9 : Int64), .long (9 : Int64)]) (rest := []) C (mtX11_in l D q _ H.size x3.toInt64 (-9 : Int64) (9 : Int64) _ h) (va_cwS 3 C.2.2.2.2 gX11_years_X11_in rfl rfl rfl (by decide +kernel) ⟨Nat.le_of_ble_eq_true rfl, Nat.le_of_ble_eq_true rfl⟩) ⟨mP_blind tX_B, fun U hU hV => ⟨rfl, hW.pre0 hU hV trivial⟩⟩ rfl rfl hl.1 rfl (lv_room (Nat.le_of_ble_eq_true rfl)) dX11_years_30 ⟨Nat.zero_le _, Nat.zero_le _⟩) (fun r7 H locs h hW => ?_)
      refine lv_if_ne (tgt := 39) C.1 C.2.1 dX11_years_33 (by decide) (fun c8 => ?_) (fun c8 => ?_)
      · replace h := h.1 c8
        refine lv_aload_n C.1 C.2.1 dX11_years_39 rfl (lv_at hl 0 rfl) ?_
        refine lv_iload_n C.1 C.2.1 dX11_years_40 rfl (lv_at hl 1 rfl) ?_
        refine lv_iload_n C.1 C.2.1 dX11_years_41 rfl (lv_at hl 2 rfl) ?_
        refine k_i hW (va_runV (As := [.int x1, .int x2]) (rest := []) C (mtX11_of l D q cI H.size x1 x2 f2 a3 _ h) (cwV 2 C.2.2.2.2 gX11_years_X11_of rfl rfl rfl (by decide +kernel) ⟨Nat.le_of_ble_eq_true rfl, Nat.le_of_ble_eq_true rfl⟩) ⟨mP_blind tX_B, va_recv hW.1 hW.2.1 (ci := 11) (q0 := 0) rfl (wL_get (by decide)), fun U hU hV => ⟨rfl, hW.pre hU hV trivial⟩⟩ rfl rfl hl.1 rfl (lv_room (Nat.le_of_ble_eq_true rfl)) dX11_years_42 ⟨Nat.zero_le _, Nat.zero_le _⟩) (fun r9 u H locs h hW => ?_)
        obtain ⟨f10, a11⟩ := u
        replace hW : hw D [(cI, .int)] q 12 (gM q cI f10 a11) A s H locs := hW
        refine lv_istore (lv' := [(4, .int r9), (0, .ref (q 0)), (1, .int x1), (2, .int x2), (3, .int x3)]) C.1 C.2.1 dX11_years_45 hl (by decide) rfl (fun ls hl => ?_)
        refine lv_bipush (v := -9) C.1 C.2.1 dX11_years_47 (by decide) ?_
        refine lv_istore (lv' := [(5, .int (-9 : Int32)), (4, .int r9), (0, .ref (q 0)), (1, .int x1), (2, .int x2), (3, .int x3)]) C.1 C.2.1 dX11_years_49 hl (by decide) rfl (fun ls hl => ?_)
        refine lv_iconst (v := 1) C.1 C.2.1 dX11_years_51 (by decide) ?_
        refine lv_istore (lv' := [(6, .int (1 : Int32)), (5, .int (-9 : Int32)), (4, .int r9), (0, .ref (q 0)), (1, .int x1), (2, .int x2), (3, .int x3)]) C.1 C.2.1 dX11_years_52 hl (by decide) rfl (fun ls hl => ?_)
        obtain ⟨n9, h⟩ := h
        exact sX11_years_54 C hr hlk Q n9 x1 x2 x3 r9 (-9 : Int32) (1 : Int32) f10 a11 _ _ _ h hW (lv_sub hl [3, 4, 5, 6, 2, 1, 0] rfl)
      · replace h := h.2 c8
        refine lv_bipush (v := -2) C.1 C.2.1 dX11_years_36 (by decide) ?_
        exact t_i C hr hlk (u := (f2, a3)) hW.2.2.2.1 hW.B h dX11_years_38
    · replace h := h.2 c6
      refine lv_iconst (v := -1) C.1 C.2.1 dX11_years_20 (by decide) ?_
      exact t_i C hr hlk (u := (f2, a3)) hW.2.2.2.1 hW.B h dX11_years_21
set_option maxRecDepth 100000 in
set_option maxHeartbeats 4000000 in
theorem mtX11_years (l : Launch) (D : va_G) (q : Nat → Nat) (cI : ClassId) (sz : Nat) (x1 : Int32) (x2 : Int32) (x3 : Int32) (f : Nat → Int32) (a : Nat → Nat → Int32) (Q : Int32 → (Nat → Int32) → (Nat → Nat → Int32) → Prop) (h : vX11_years x1 x2 x3 f a Q) : Met l yX11_years wsX11_years rmX11_years (va_Pc [.ref (q 0), .int x1, .int x2, .int x3] (mP D [(cI, .int)] q 12 (gM q cI f a) sz tX)) (QMi D q cI Q (aQ q 12 sz)) 0 0 (aQ q 12 sz) := by
  refine met_w (cc := cX11_years) (maxL := 7) (ret := (some .int)) (by decide) rfl (Nat.le_of_ble_eq_true rfl) ?_
  intro p e s m below meth c ls C hr hlk hW hX hnm hl
  exact sX11_years C hr hlk Q x1 x2 x3 f a _ _ _ h hW hl
theorem inX11_begin : ∀ w ∈ wsX110, w ∈ wsX11_begin := fun _ h => List.mem_cons_of_mem _ (List.mem_append_right _ h)
abbrev rmX11_begin : Room := { frames := 1, cells := 0, slots := 0, locals := 22 }
def vX11_begin_90 (Q : (Nat → Int32) → (Nat → Nat → Int32) → Prop) (y0 : Int32) (y1 : Int32) (f : Nat → Int32) (a : Nat → Nat → Int32) : Prop := vp_in y1 602 ∧ (∀ a15 : Nat → Nat → Int32, a15 = va_up a 5 (upd (a 5) y1.toNatClampNeg y0) → vp_in (0 : Int32) 602 ∧ (∀ a17 : Nat → Nat → Int32, a17 = va_up a15 6 (upd (a15 6) (0 : Int32).toNatClampNeg (0 : Int32)) → vp_in (301 : Int32) 602 ∧ (∀ a19 : Nat → Nat → Int32, a19 = va_up a17 6 (upd (a17 6) (301 : Int32).toNatClampNeg (0 : Int32)) → Q f a19)))
def vX11_begin_55 (Q : (Nat → Int32) → (Nat → Nat → Int32) → Prop) (x2 : Int32) (x3 : Int32) (x4 : Int32) (y0 : Int32) (f : Nat → Int32) (a : Nat → Nat → Int32) : Prop := ∀ f8 : Nat → Int32, f8 = va_up f 8 y0 → vp_in (0 : Int32) 301 ∧ (∀ a10 : Nat → Nat → Int32, a10 = va_up a 4 (upd (a 4) (0 : Int32).toNatClampNeg x3) → vp_in (0 : Int32) 602 ∧ (∀ a12 : Nat → Nat → Int32, a12 = va_up a10 5 (upd (a10 5) (0 : Int32).toNatClampNeg x4) → (0 ≤ x2 → vX11_begin_90 Q x4 (301 : Int32) f8 a12) ∧ (¬ (0 ≤ x2) → vX11_begin_90 Q (0 : Int32) (301 : Int32) f8 a12)))
def vX11_begin_38 (Q : (Nat → Int32) → (Nat → Nat → Int32) → Prop) (x1 : Int32) (x2 : Int32) (x3 : Int32) (x4 : Int32) (f : Nat → Int32) (a : Nat → Nat → Int32) : Prop := vX11_of x1 (7 : Int32) f a (fun r5 f6 a7 => vX11_begin_55 Q x2 x3 x4 r5 f6 a7)
def vX11_begin (x1 : Int32) (x2 : Int32) (x3 : Int32) (x4 : Int32) (x5 : Int32) (f : Nat → Int32) (a : Nat → Nat → Int32) (Q : (Nat → Int32) → (Nat → Nat → Int32) → Prop) : Prop := ∀ f1 : Nat → Int32, f1 = va_up f 5 x1 → ∀ f2 : Nat → Int32, f2 = va_up f1 6 x2 → ∀ f3 : Nat → Int32, f3 = va_up f2 7 x5 → (x2 < 0 → vX11_begin_38 Q x1 x2 x3 x4 f3 a) ∧ (¬ (x2 < 0) → vX11_of x1 (7 : Int32) f3 a (fun r20 f21 a22 => vX11_of x2 (7 : Int32) f21 a22 (fun r23 f24 a25 => (r20 ≤ r23 → vX11_of x2 (7 : Int32) f24 a25 (fun r27 f28 a29 => vX11_begin_55 Q x2 x3 x4 r27 f28 a29)) ∧ (¬ (r20 ≤ r23) → vX11_begin_38 Q x1 x2 x3 x4 f24 a25))))
set_option maxRecDepth 100000 in
set_option maxHeartbeats 4000000 in
theorem sX11_begin_90 {p : Program} {l : Launch} {e : Env} {s : State} {m : MethodId} {args : Array Value} {below : List Frame} {meth : Method} {c : Code} {D : va_G} {q : Nat → Nat} {A : Nat → Prop} {cI : ClassId} (C : CallFix p m c cX11_begin 6 s args wsX11_begin RX11) (hr : meth.sig.returnType = none) (hlk : meth.locks = false) (Q : (Nat → Int32) → (Nat → Nat → Int32) → Prop) : ∀ (y0 : Int32) (y1 : Int32) (f : Nat → Int32) (a : Nat → Nat → Int32) (H : Heap) (locs : List Loc) (ls : Array Slot), vX11_begin_90 Q y0 y1 f a → hw D [(cI, .int)] q 12 (gM q cI f a) A s H locs → lv_has ls 6 [(0, .ref (q 0))] → W p l e (headSpec wsX11_begin rmX11_begin).room s m args below meth c H locs 0 0 (MQ below (QMv D q cI Q A) args s 0 0 A) (F0 m 90 ls [.int y0, .int y1, .ref (q 5)]) := by
  intro y0 y1 f a H locs ls h hW hl
  unfold vX11_begin_90 at h
  obtain ⟨hs14, h⟩ := h
  refine r_iast C hW (cA := cI) (n := 602) (f := a 5) 5 0 (by decide) rfl rfl hs14 dX11_begin_90 (fun H locs hW => ?_)
  replace hW := gM_ast (k := 5) (n := 602) (by decide) rfl hW
  obtain ⟨a15, ea15⟩ : ∃ z : Nat → Nat → Int32, z = va_up a 5 (upd (a 5) y1.toNatClampNeg y0) := ⟨_, rfl⟩
  rw [← ea15] at hW
  replace h := h a15 ea15
  refine lv_aload_n C.1 C.2.1 dX11_begin_91 rfl (lv_at hl 0 rfl) ?_
  refine r_get C hW (ci := 11) (T := TX11) (n := 21) (ref := "BallMinderModel") (v := .ref (q 6)) 0 (by decide) rfl rfl 11 (by decide) inX11_begin (by decide +kernel) (fun _ h9 => h9) rfl dX11_begin_92 ?_
  refine lv_iconst (v := 0) C.1 C.2.1 dX11_begin_95 (by decide) ?_
  refine lv_iconst (v := 0) C.1 C.2.1 dX11_begin_96 (by decide) ?_
  obtain ⟨hs16, h⟩ := h
  refine r_iast C hW (cA := cI) (n := 602) (f := a15 6) 6 0 (by decide) rfl rfl hs16 dX11_begin_97 (fun H locs hW => ?_)
  replace hW := gM_ast (k := 6) (n := 602) (by decide) rfl hW
  obtain ⟨a17, ea17⟩ : ∃ z : Nat → Nat → Int32, z = va_up a15 6 (upd (a15 6) (0 : Int32).toNatClampNeg (0 : Int32)) := ⟨_, rfl⟩
  rw [← ea17] at hW
  replace h := h a17 ea17
  refine lv_aload_n C.1 C.2.1 dX11_begin_98 rfl (lv_at hl 0 rfl) ?_
  refine r_get C hW (ci := 11) (T := TX11) (n := 21) (ref := "BallMinderModel") (v := .ref (q 6)) 0 (by decide) rfl rfl 11 (by decide) inX11_begin (by decide +kernel) (fun _ h9 => h9) rfl dX11_begin_99 ?_
  refine lv_sipush (v := 301) C.1 C.2.1 dX11_begin_102 (by decide) ?_
  refine lv_iconst (v := 0) C.1 C.2.1 dX11_begin_105 (by decide) ?_
  obtain ⟨hs18, h⟩ := h
  refine r_iast C hW (cA := cI) (n := 602) (f := a17 6) 6 0 (by decide) rfl rfl hs18 dX11_begin_106 (fun H locs hW => ?_)
  replace hW := gM_ast (k := 6) (n := 602) (by decide) rfl hW
  obtain ⟨a19, ea19⟩ : ∃ z : Nat → Nat → Int32, z = va_up a17 6 (upd (a17 6) (301 : Int32).toNatClampNeg (0 : Int32)) := ⟨_, rfl⟩
  rw [← ea19] at hW
  replace h := h a19 ea19
  exact t_v C hr hlk (u := (f, a19)) hW.2.2.2.1 hW.B h dX11_begin_107
set_option maxRecDepth 100000 in
set_option maxHeartbeats 4000000 in
theorem sX11_begin_55 {p : Program} {l : Launch} {e : Env} {s : State} {m : MethodId} {args : Array Value} {below : List Frame} {meth : Method} {c : Code} {D : va_G} {q : Nat → Nat} {A : Nat → Prop} {cI : ClassId} (C : CallFix p m c cX11_begin 6 s args wsX11_begin RX11) (hr : meth.sig.returnType = none) (hlk : meth.locks = false) (Q : (Nat → Int32) → (Nat → Nat → Int32) → Prop) : ∀ (x2 : Int32) (x3 : Int32) (x4 : Int32) (y0 : Int32) (f : Nat → Int32) (a : Nat → Nat → Int32) (H : Heap) (locs : List Loc) (ls : Array Slot), vX11_begin_55 Q x2 x3 x4 y0 f a → hw D [(cI, .int)] q 12 (gM q cI f a) A s H locs → lv_has ls 6 [(0, .ref (q 0)), (2, .int x2), (3, .int x3), (4, .int x4)] → W p l e (headSpec wsX11_begin rmX11_begin).room s m args below meth c H locs 0 0 (MQ below (QMv D q cI Q A) args s 0 0 A) (F0 m 55 ls [.int y0, .ref (q 0)]) := by
  intro x2 x3 x4 y0 f a H locs ls h hW hl
  unfold vX11_begin_55 at h
  refine r_put C hW (ci := 11) (T := TX11) (n := 21) (ref := "BallMinderModel") 0 (by decide) rfl rfl 8 (by decide) inX11_begin tyX11 tyX11_ok nmX11 (by decide +kernel) (fun _ h9 => h9) rfl rfl rfl (Nat.le_of_ble_eq_true rfl) dX11_begin_55 (fun H locs hW => ?_)
  replace hW := gM_put (k := 8) rfl hW
  obtain ⟨f8, ef8⟩ : ∃ z : Nat → Int32, z = va_up f 8 y0 := ⟨_, rfl⟩
  rw [← ef8] at hW
  replace h := h f8 ef8
  refine lv_aload_n C.1 C.2.1 dX11_begin_58 rfl (lv_at hl 0 rfl) ?_
  refine r_get C hW (ci := 11) (T := TX11) (n := 21) (ref := "BallMinderModel") (v := .ref (q 4)) 0 (by decide) rfl rfl 9 (by decide) inX11_begin (by decide +kernel) (fun _ h9 => h9) rfl dX11_begin_59 ?_
  refine lv_iconst (v := 0) C.1 C.2.1 dX11_begin_62 (by decide) ?_
  refine lv_iload_n C.1 C.2.1 dX11_begin_63 rfl (lv_at hl 2 rfl) ?_
  obtain ⟨hs9, h⟩ := h
  refine r_iast C hW (cA := cI) (n := 301) (f := a 4) 4 0 (by decide) rfl rfl hs9 dX11_begin_64 (fun H locs hW => ?_)
  replace hW := gM_ast (k := 4) (n := 301) (by decide) rfl hW
  obtain ⟨a10, ea10⟩ : ∃ z : Nat → Nat → Int32, z = va_up a 4 (upd (a 4) (0 : Int32).toNatClampNeg x3) := ⟨_, rfl⟩
  rw [← ea10] at hW
  replace h := h a10 ea10
  refine lv_aload_n C.1 C.2.1 dX11_begin_65 rfl (lv_at hl 0 rfl) ?_
  refine r_get C hW (ci := 11) (T := TX11) (n := 21) (ref := "BallMinderModel") (v := .ref (q 5)) 0 (by decide) rfl rfl 10 (by decide) inX11_begin (by decide +kernel) (fun _ h9 => h9) rfl dX11_begin_66 ?_
  refine lv_iconst (v := 0) C.1 C.2.1 dX11_begin_69 (by decide) ?_
  refine lv_iload C.1 C.2.1 dX11_begin_70 (lv_at hl 3 rfl) ?_
  obtain ⟨hs11, h⟩ := h
  refine r_iast C hW (cA := cI) (n := 602) (f := a10 5) 5 0 (by decide) rfl rfl hs11 dX11_begin_72 (fun H locs hW => ?_)
  replace hW := gM_ast (k := 5) (n := 602) (by decide) rfl hW
  obtain ⟨a12, ea12⟩ : ∃ z : Nat → Nat → Int32, z = va_up a10 5 (upd (a10 5) (0 : Int32).toNatClampNeg x4) := ⟨_, rfl⟩
  rw [← ea12] at hW
  replace h := h a12 ea12
  refine lv_aload_n C.1 C.2.1 dX11_begin_73 rfl (lv_at hl 0 rfl) ?_
  refine r_get C hW (ci := 11) (T := TX11) (n := 21) (ref := "BallMinderModel") (v := .ref (q 5)) 0 (by decide) rfl rfl 10 (by decide) inX11_begin (by decide +kernel) (fun _ h9 => h9) rfl dX11_begin_74 ?_
  refine lv_sipush (v := 301) C.1 C.2.1 dX11_begin_77 (by decide) ?_
  refine lv_iload_n C.1 C.2.1 dX11_begin_80 rfl (lv_at hl 1 rfl) ?_
  refine lv_if_ge (tgt := 88) C.1 C.2.1 dX11_begin_81 (by decide) (fun c13 => ?_) (fun c13 => ?_)
  · replace h := h.1 c13
    refine lv_iload C.1 C.2.1 dX11_begin_88 (lv_at hl 3 rfl) ?_
    exact sX11_begin_90 C hr hlk Q x4 (301 : Int32) f8 a12 _ _ _ h hW (lv_sub hl [0] rfl)
  · replace h := h.2 c13
    refine lv_iconst (v := 0) C.1 C.2.1 dX11_begin_84 (by decide) ?_
    refine lv_goto (tgt := 90) C.1 C.2.1 dX11_begin_85 (by decide) ?_
    exact sX11_begin_90 C hr hlk Q (0 : Int32) (301 : Int32) f8 a12 _ _ _ h hW (lv_sub hl [0] rfl)
set_option maxRecDepth 100000 in
set_option maxHeartbeats 4000000 in
theorem sX11_begin_38 {p : Program} {l : Launch} {e : Env} {s : State} {m : MethodId} {args : Array Value} {below : List Frame} {meth : Method} {c : Code} {D : va_G} {q : Nat → Nat} {A : Nat → Prop} {cI : ClassId} (C : CallFix p m c cX11_begin 6 s args wsX11_begin RX11) (hr : meth.sig.returnType = none) (hlk : meth.locks = false) (Q : (Nat → Int32) → (Nat → Nat → Int32) → Prop) : ∀ (x1 : Int32) (x2 : Int32) (x3 : Int32) (x4 : Int32) (f : Nat → Int32) (a : Nat → Nat → Int32) (H : Heap) (locs : List Loc) (ls : Array Slot), vX11_begin_38 Q x1 x2 x3 x4 f a → hw D [(cI, .int)] q 12 (gM q cI f a) A s H locs → lv_has ls 6 [(0, .ref (q 0)), (1, .int x1), (2, .int x2), (3, .int x3), (4, .int x4)] → W p l e (headSpec wsX11_begin rmX11_begin).room s m args below meth c H locs 0 0 (MQ below (QMv D q cI Q A) args s 0 0 A) (F0 m 38 ls [.ref (q 0)]) := by
  intro x1 x2 x3 x4 f a H locs ls h hW hl
  unfold vX11_begin_38 at h
  refine lv_aload_n C.1 C.2.1 dX11_begin_38 rfl (lv_at hl 0 rfl) ?_
  refine lv_iload_n C.1 C.2.1 dX11_begin_39 rfl (lv_at hl 1 rfl) ?_
  refine lv_bipush (v := 7) C.1 C.2.1 dX11_begin_40 (by decide) ?_
  refine k_i hW (va_runV (As := [.int x1, .int (7 : Int32)]) (rest := [.ref (q 0)]) C (mtX11_of l D q cI H.size x1 (7 : Int32) f a _ h) (cwV 2 C.2.2.2.2 gX11_begin_X11_of rfl rfl rfl (by decide +kernel) ⟨Nat.le_of_ble_eq_true rfl, Nat.le_of_ble_eq_true rfl⟩) ⟨mP_blind tX_B, va_recv hW.1 hW.2.1 (ci := 11) (q0 := 0) rfl (wL_get (by decide)), fun U hU hV => ⟨rfl, hW.pre hU hV trivial⟩⟩ rfl rfl hl.1 rfl (lv_room (Nat.le_of_ble_eq_true rfl)) dX11_begin_42 ⟨Nat.zero_le _, Nat.zero_le _⟩) (fun r5 u H locs h hW => ?_)
  obtain ⟨f6, a7⟩ := u
  replace hW : hw D [(cI, .int)] q 12 (gM q cI f6 a7) A s H locs := hW
  refine lv_goto (tgt := 55) C.1 C.2.1 dX11_begin_45 (by decide) ?_
  exact sX11_begin_55 C hr hlk Q x2 x3 x4 r5 f6 a7 _ _ _ h hW (lv_sub hl [0, 2, 3, 4] rfl)
set_option maxRecDepth 100000 in
set_option maxHeartbeats 4000000 in
theorem sX11_begin {p : Program} {l : Launch} {e : Env} {s : State} {m : MethodId} {args : Array Value} {below : List Frame} {meth : Method} {c : Code} {D : va_G} {q : Nat → Nat} {A : Nat → Prop} {cI : ClassId} (C : CallFix p m c cX11_begin 6 s args wsX11_begin RX11) (hr : meth.sig.returnType = none) (hlk : meth.locks = false) (Q : (Nat → Int32) → (Nat → Nat → Int32) → Prop) : ∀ (x1 : Int32) (x2 : Int32) (x3 : Int32) (x4 : Int32) (x5 : Int32) (f : Nat → Int32) (a : Nat → Nat → Int32) (H : Heap) (locs : List Loc) (ls : Array Slot), vX11_begin x1 x2 x3 x4 x5 f a Q → hw D [(cI, .int)] q 12 (gM q cI f a) A s H locs → lv_has ls 6 [(0, .ref (q 0)), (1, .int x1), (2, .int x2), (3, .int x3), (4, .int x4), (5, .int x5)] → W p l e (headSpec wsX11_begin rmX11_begin).room s m args below meth c H locs 0 0 (MQ below (QMv D q cI Q A) args s 0 0 A) (F0 m 0 ls []) := by
  intro x1 x2 x3 x4 x5 f a H locs ls h hW hl
  unfold vX11_begin at h
  refine lv_aload_n C.1 C.2.1 dX11_begin_0 rfl (lv_at hl 0 rfl) ?_
  refine lv_iload_n C.1 C.2.1 dX11_begin_1 rfl (lv_at hl 1 rfl) ?_
  refine r_put C hW (ci := 11) (T := TX11) (n := 21) (ref := "BallMinderModel") 0 (by decide) rfl rfl 5 (by decide) inX11_begin tyX11 tyX11_ok nmX11 (by decide +kernel) (fun _ h9 => h9) rfl rfl rfl (Nat.le_of_ble_eq_true rfl) dX11_begin_2 (fun H locs hW => ?_)
  replace hW := gM_put (k := 5) rfl hW
  obtain ⟨f1, ef1⟩ : ∃ z : Nat → Int32, z = va_up f 5 x1 := ⟨_, rfl⟩
  rw [← ef1] at hW
  replace h := h f1 ef1
  refine lv_aload_n C.1 C.2.1 dX11_begin_5 rfl (lv_at hl 0 rfl) ?_
  refine lv_iload_n C.1 C.2.1 dX11_begin_6 rfl (lv_at hl 2 rfl) ?_
  refine r_put C hW (ci := 11) (T := TX11) (n := 21) (ref := "BallMinderModel") 0 (by decide) rfl rfl 6 (by decide) inX11_begin tyX11 tyX11_ok nmX11 (by decide +kernel) (fun _ h9 => h9) rfl rfl rfl (Nat.le_of_ble_eq_true rfl) dX11_begin_7 (fun H locs hW => ?_)
  replace hW := gM_put (k := 6) rfl hW
  obtain ⟨f2, ef2⟩ : ∃ z : Nat → Int32, z = va_up f1 6 x2 := ⟨_, rfl⟩
  rw [← ef2] at hW
  replace h := h f2 ef2
  refine lv_aload_n C.1 C.2.1 dX11_begin_10 rfl (lv_at hl 0 rfl) ?_
  refine lv_iload C.1 C.2.1 dX11_begin_11 (lv_at hl 5 rfl) ?_
  refine r_put C hW (ci := 11) (T := TX11) (n := 21) (ref := "BallMinderModel") 0 (by decide) rfl rfl 7 (by decide) inX11_begin tyX11 tyX11_ok nmX11 (by decide +kernel) (fun _ h9 => h9) rfl rfl rfl (Nat.le_of_ble_eq_true rfl) dX11_begin_13 (fun H locs hW => ?_)
  replace hW := gM_put (k := 7) rfl hW
  obtain ⟨f3, ef3⟩ : ∃ z : Nat → Int32, z = va_up f2 7 x5 := ⟨_, rfl⟩
  rw [← ef3] at hW
  replace h := h f3 ef3
  refine lv_aload_n C.1 C.2.1 dX11_begin_16 rfl (lv_at hl 0 rfl) ?_
  refine lv_iload_n C.1 C.2.1 dX11_begin_17 rfl (lv_at hl 2 rfl) ?_
  refine lv_if_lt (tgt := 38) C.1 C.2.1 dX11_begin_18 (by decide) (fun c4 => ?_) (fun c4 => ?_)
  · replace h := h.1 c4
    exact sX11_begin_38 C hr hlk Q x1 x2 x3 x4 f3 a _ _ _ h hW (lv_sub hl [0, 1, 2, 3, 4] rfl)
  · replace h := h.2 c4
    refine lv_aload_n C.1 C.2.1 dX11_begin_21 rfl (lv_at hl 0 rfl) ?_
    refine lv_iload_n C.1 C.2.1 dX11_begin_22 rfl (lv_at hl 1 rfl) ?_
    refine lv_bipush (v := 7) C.1 C.2.1 dX11_begin_23 (by decide) ?_
    refine k_i hW (va_runV (As := [.int x1, .int (7 : Int32)]) (rest := [.ref (q 0)]) C (mtX11_of l D q cI H.size x1 (7 : Int32) f3 a _ h) (cwV 2 C.2.2.2.2 gX11_begin_X11_of rfl rfl rfl (by decide +kernel) ⟨Nat.le_of_ble_eq_true rfl, Nat.le_of_ble_eq_true rfl⟩) ⟨mP_blind tX_B, va_recv hW.1 hW.2.1 (ci := 11) (q0 := 0) rfl (wL_get (by decide)), fun U hU hV => ⟨rfl, hW.pre hU hV trivial⟩⟩ rfl rfl hl.1 rfl (lv_room (Nat.le_of_ble_eq_true rfl)) dX11_begin_25 ⟨Nat.zero_le _, Nat.zero_le _⟩) (fun r20 u H locs h hW => ?_)
    obtain ⟨f21, a22⟩ := u
    replace hW : hw D [(cI, .int)] q 12 (gM q cI f21 a22) A s H locs := hW
    refine lv_aload_n C.1 C.2.1 dX11_begin_28 rfl (lv_at hl 0 rfl) ?_
    refine lv_iload_n C.1 C.2.1 dX11_begin_29 rfl (lv_at hl 2 rfl) ?_
    refine lv_bipush (v := 7) C.1 C.2.1 dX11_begin_30 (by decide) ?_
    refine k_i hW (va_runV (As := [.int x2, .int (7 : Int32)]) (rest := [.int r20, .ref (q 0)]) C (mtX11_of l D q cI H.size x2 (7 : Int32) f21 a22 _ h) (cwV 2 C.2.2.2.2 gX11_begin_X11_of rfl rfl rfl (by decide +kernel) ⟨Nat.le_of_ble_eq_true rfl, Nat.le_of_ble_eq_true rfl⟩) ⟨mP_blind tX_B, va_recv hW.1 hW.2.1 (ci := 11) (q0 := 0) rfl (wL_get (by decide)), fun U hU hV => ⟨rfl, hW.pre hU hV trivial⟩⟩ rfl rfl hl.1 rfl (lv_room (Nat.le_of_ble_eq_true rfl)) dX11_begin_32 ⟨Nat.zero_le _, Nat.zero_le _⟩) (fun r23 u H locs h hW => ?_)
    obtain ⟨f24, a25⟩ := u
    replace hW : hw D [(cI, .int)] q 12 (gM q cI f24 a25) A s H locs := hW
    refine lv_icmp_le (tgt := 48) C.1 C.2.1 dX11_begin_35 (by decide) (fun c26 => ?_) (fun c26 => ?_)
    · replace h := h.1 c26
      refine lv_aload_n C.1 C.2.1 dX11_begin_48 rfl (lv_at hl 0 rfl) ?_
      refine lv_iload_n C.1 C.2.1 dX11_begin_49 rfl (lv_at hl 2 rfl) ?_
      refine lv_bipush (v := 7) C.1 C.2.1 dX11_begin_50 (by decide) ?_
      refine k_i hW (va_runV (As := [.int x2, .int (7 : Int32)]) (rest := [.ref (q 0)]) C (mtX11_of l D q cI H.size x2 (7 : Int32) f24 a25 _ h) (cwV 2 C.2.2.2.2 gX11_begin_X11_of rfl rfl rfl (by decide +kernel) ⟨Nat.le_of_ble_eq_true rfl, Nat.le_of_ble_eq_true rfl⟩) ⟨mP_blind tX_B, va_recv hW.1 hW.2.1 (ci := 11) (q0 := 0) rfl (wL_get (by decide)), fun U hU hV => ⟨rfl, hW.pre hU hV trivial⟩⟩ rfl rfl hl.1 rfl (lv_room (Nat.le_of_ble_eq_true rfl)) dX11_begin_52 ⟨Nat.zero_le _, Nat.zero_le _⟩) (fun r27 u H locs h hW => ?_)
      obtain ⟨f28, a29⟩ := u
      replace hW : hw D [(cI, .int)] q 12 (gM q cI f28 a29) A s H locs := hW
      exact sX11_begin_55 C hr hlk Q x2 x3 x4 r27 f28 a29 _ _ _ h hW (lv_sub hl [0, 2, 3, 4] rfl)
    · replace h := h.2 c26
      exact sX11_begin_38 C hr hlk Q x1 x2 x3 x4 f24 a25 _ _ _ h hW (lv_sub hl [0, 1, 2, 3, 4] rfl)
set_option maxRecDepth 100000 in
set_option maxHeartbeats 4000000 in
theorem mtX11_begin (l : Launch) (D : va_G) (q : Nat → Nat) (cI : ClassId) (sz : Nat) (x1 : Int32) (x2 : Int32) (x3 : Int32) (x4 : Int32) (x5 : Int32) (f : Nat → Int32) (a : Nat → Nat → Int32) (Q : (Nat → Int32) → (Nat → Nat → Int32) → Prop) (h : vX11_begin x1 x2 x3 x4 x5 f a Q) : Met l yX11_begin wsX11_begin rmX11_begin (va_Pc [.ref (q 0), .int x1, .int x2, .int x3, .int x4, .int x5] (mP D [(cI, .int)] q 12 (gM q cI f a) sz tX)) (QMv D q cI Q (aQ q 12 sz)) 0 0 (aQ q 12 sz) := by
  refine met_w (cc := cX11_begin) (maxL := 6) (ret := none) (by decide) rfl (Nat.le_of_ble_eq_true rfl) ?_
  intro p e s m below meth c ls C hr hlk hW hX hnm hl
  exact sX11_begin C hr hlk Q x1 x2 x3 x4 x5 f a _ _ _ h hW hl
theorem inX11_beatAgo : ∀ w ∈ wsX110, w ∈ wsX11_beatAgo := fun _ h => List.mem_cons_of_mem _ (List.mem_append_right _ h)
abbrev rmX11_beatAgo : Room := { frames := 0, cells := 0, slots := 0, locals := 0 }
def vX11_beatAgo (x1 : Int32) (x2 : Int32) (f : Nat → Int32) (a : Nat → Nat → Int32) (Q : Int32 → (Nat → Int32) → (Nat → Nat → Int32) → Prop) : Prop := (x1 ≤ x2 → vp_in (0 : Int32) 301 ∧ (Q (a 4 (0 : Int32).toNatClampNeg) f a)) ∧ (¬ (x1 ≤ x2) → vp_in (x1 - x2) 301 ∧ (Q (a 4 (x1 - x2).toNatClampNeg) f a))
set_option maxRecDepth 100000 in
set_option maxHeartbeats 4000000 in
theorem sX11_beatAgo {p : Program} {l : Launch} {e : Env} {s : State} {m : MethodId} {args : Array Value} {below : List Frame} {meth : Method} {c : Code} {D : va_G} {q : Nat → Nat} {A : Nat → Prop} {cI : ClassId} (C : CallFix p m c cX11_beatAgo 3 s args wsX11_beatAgo RX11) (hr : meth.sig.returnType = (some .int)) (hlk : meth.locks = false) (Q : Int32 → (Nat → Int32) → (Nat → Nat → Int32) → Prop) : ∀ (x1 : Int32) (x2 : Int32) (f : Nat → Int32) (a : Nat → Nat → Int32) (H : Heap) (locs : List Loc) (ls : Array Slot), vX11_beatAgo x1 x2 f a Q → hw D [(cI, .int)] q 12 (gM q cI f a) A s H locs → lv_has ls 3 [(0, .ref (q 0)), (1, .int x1), (2, .int x2)] → W p l e (headSpec wsX11_beatAgo rmX11_beatAgo).room s m args below meth c H locs 0 0 (MQ below (QMi D q cI Q A) args s 0 0 A) (F0 m 0 ls []) := by
  intro x1 x2 f a H locs ls h hW hl
  unfold vX11_beatAgo at h
  refine lv_aload_n C.1 C.2.1 dX11_beatAgo_0 rfl (lv_at hl 0 rfl) ?_
  refine r_get C hW (ci := 11) (T := TX11) (n := 21) (ref := "BallMinderModel") (v := .ref (q 4)) 0 (by decide) rfl rfl 9 (by decide) inX11_beatAgo (by decide +kernel) (fun _ h9 => h9) rfl dX11_beatAgo_1 ?_
  refine lv_iload_n C.1 C.2.1 dX11_beatAgo_4 rfl (lv_at hl 1 rfl) ?_
  refine lv_iload_n C.1 C.2.1 dX11_beatAgo_5 rfl (lv_at hl 2 rfl) ?_
  refine lv_icmp_le (tgt := 15) C.1 C.2.1 dX11_beatAgo_6 (by decide) (fun c1 => ?_) (fun c1 => ?_)
  · replace h := h.1 c1
    refine lv_iconst (v := 0) C.1 C.2.1 dX11_beatAgo_15 (by decide) ?_
    obtain ⟨hs2, h⟩ := h
    refine r_iald C hW (cA := cI) (n := 301) (f := a 4) 4 0 (by decide) rfl rfl hs2 dX11_beatAgo_16 ?_
    exact t_i C hr hlk (u := (f, a)) hW.2.2.2.1 hW.B h dX11_beatAgo_17
  · replace h := h.2 c1
    refine lv_iload_n C.1 C.2.1 dX11_beatAgo_9 rfl (lv_at hl 1 rfl) ?_
    refine lv_iload_n C.1 C.2.1 dX11_beatAgo_10 rfl (lv_at hl 2 rfl) ?_
    refine lv_isub C.1 C.2.1 dX11_beatAgo_11 ?_
    refine lv_goto (tgt := 16) C.1 C.2.1 dX11_beatAgo_12 (by decide) ?_
    obtain ⟨hs3, h⟩ := h
    refine r_iald C hW (cA := cI) (n := 301) (f := a 4) 4 0 (by decide) rfl rfl hs3 dX11_beatAgo_16 ?_
    exact t_i C hr hlk (u := (f, a)) hW.2.2.2.1 hW.B h dX11_beatAgo_17
set_option maxRecDepth 100000 in
set_option maxHeartbeats 4000000 in
theorem mtX11_beatAgo (l : Launch) (D : va_G) (q : Nat → Nat) (cI : ClassId) (sz : Nat) (x1 : Int32) (x2 : Int32) (f : Nat → Int32) (a : Nat → Nat → Int32) (Q : Int32 → (Nat → Int32) → (Nat → Nat → Int32) → Prop) (h : vX11_beatAgo x1 x2 f a Q) : Met l yX11_beatAgo wsX11_beatAgo rmX11_beatAgo (va_Pc [.ref (q 0), .int x1, .int x2] (mP D [(cI, .int)] q 12 (gM q cI f a) sz tX)) (QMi D q cI Q (aQ q 12 sz)) 0 0 (aQ q 12 sz) := by
  refine met_w (cc := cX11_beatAgo) (maxL := 3) (ret := (some .int)) (by decide) rfl (Nat.le_of_ble_eq_true rfl) ?_
  intro p e s m below meth c ls C hr hlk hW hX hnm hl
  exact sX11_beatAgo C hr hlk Q x1 x2 f a _ _ _ h hW hl
theorem inX11_towards : ∀ w ∈ wsX110, w ∈ wsX11_towards := fun _ h => List.mem_cons_of_mem _ (List.mem_append_right _ h)
abbrev rmX11_towards : Room := { frames := 1, cells := 0, slots := 0, locals := 22 }
def vX11_towards_71 (Q : Int32 → (Nat → Int32) → (Nat → Nat → Int32) → Prop) (x2 : Int32) (x4 : Int32) (x5 : Int32) (f : Nat → Int32) (a : Nat → Nat → Int32) : Prop := vX11_held x4 (-x5) x5 (fun r13 => Q (x2 + r13) f a)
def vX11_towards_31 (Q : Int32 → (Nat → Int32) → (Nat → Nat → Int32) → Prop) (x1 : Int32) (x2 : Int32) (x3 : Int32) (x4 : Int32) (y0 : Int32) (f : Nat → Int32) (a : Nat → Nat → Int32) : Prop := vp_in x1 8 ∧ ((¬ (a 1 x1.toNatClampNeg) = 0 → vp_in x1 8 ∧ ((¬ (a 1 x1.toNatClampNeg) = (2 : Int32) → vX11_towards_71 Q x2 x4 y0 f a) ∧ ((a 1 x1.toNatClampNeg) = (2 : Int32) → vX11_sizeOf x4 (fun r14 => vX11_of x1 (8 : Int32) f a (fun r15 f16 a17 => (r15 ≤ r14 → vX11_towards_71 Q x2 x4 y0 f16 a17) ∧ (¬ (r15 ≤ r14) → Q x2 f16 a17)))))) ∧ ((a 1 x1.toNatClampNeg) = 0 → Q x3 f a))
def vX11_towards (x1 : Int32) (x2 : Int32) (x3 : Int32) (f : Nat → Int32) (a : Nat → Nat → Int32) (Q : Int32 → (Nat → Int32) → (Nat → Nat → Int32) → Prop) : Prop := ∀ x4_1 : Int32, x4_1 = x3 - x2 → vX11_of x1 (3 : Int32) f a (fun r2 f3 a4 => (r2 ≤ (39 : Int32) → vX11_of x1 (3 : Int32) f3 a4 (fun r6 f7 a8 => ¬ (r6 + (1 : Int32)) = 0 ∧ (vX11_towards_31 Q x1 x2 x3 x4_1 ((40 : Int32) / (r6 + (1 : Int32))) f7 a8))) ∧ (¬ (r2 ≤ (39 : Int32)) → vX11_towards_31 Q x1 x2 x3 x4_1 (1 : Int32) f3 a4))
set_option maxRecDepth 100000 in
set_option maxHeartbeats 4000000 in
theorem sX11_towards_71 {p : Program} {l : Launch} {e : Env} {s : State} {m : MethodId} {args : Array Value} {below : List Frame} {meth : Method} {c : Code} {D : va_G} {q : Nat → Nat} {A : Nat → Prop} {cI : ClassId} (C : CallFix p m c cX11_towards 6 s args wsX11_towards RX11) (hr : meth.sig.returnType = (some .int)) (hlk : meth.locks = false) (Q : Int32 → (Nat → Int32) → (Nat → Nat → Int32) → Prop) : ∀ (x2 : Int32) (x4 : Int32) (x5 : Int32) (f : Nat → Int32) (a : Nat → Nat → Int32) (H : Heap) (locs : List Loc) (ls : Array Slot), vX11_towards_71 Q x2 x4 x5 f a → hw D [(cI, .int)] q 12 (gM q cI f a) A s H locs → lv_has ls 6 [(2, .int x2), (4, .int x4), (5, .int x5)] → W p l e (headSpec wsX11_towards rmX11_towards).room s m args below meth c H locs 0 0 (MQ below (QMi D q cI Q A) args s 0 0 A) (F0 m 71 ls []) := by
  intro x2 x4 x5 f a H locs ls h hW hl
  unfold vX11_towards_71 at h
  refine lv_iload_n C.1 C.2.1 dX11_towards_71 rfl (lv_at hl 0 rfl) ?_
  refine lv_iload C.1 C.2.1 dX11_towards_72 (lv_at hl 1 rfl) ?_
  refine lv_iload C.1 C.2.1 dX11_towards_74 (lv_at hl 2 rfl) ?_
  refine lv_ineg C.1 C.2.1 dX11_towards_76 ?_
  refine lv_iload C.1 C.2.1 dX11_towards_77 (lv_at hl 2 rfl) ?_
  refine k_pi hW (va_runS (As := [.int x4, .int (-x5), .int x5]) (rest := [.int x2]) C (mtX11_held l D q _ H.size x4 (-x5) x5 _ h) (va_cwS 3 C.2.2.2.2 gX11_towards_X11_held rfl rfl rfl (by decide +kernel) ⟨Nat.le_of_ble_eq_true rfl, Nat.le_of_ble_eq_true rfl⟩) ⟨mP_blind tX_B, fun U hU hV => ⟨rfl, hW.pre0 hU hV trivial⟩⟩ rfl rfl hl.1 rfl (lv_room (Nat.le_of_ble_eq_true rfl)) dX11_towards_79 ⟨Nat.zero_le _, Nat.zero_le _⟩) (fun r13 H locs h hW => ?_)
  refine lv_iadd C.1 C.2.1 dX11_towards_82 ?_
  exact t_i C hr hlk (u := (f, a)) hW.2.2.2.1 hW.B h dX11_towards_83
set_option maxRecDepth 100000 in
set_option maxHeartbeats 4000000 in
theorem sX11_towards_31 {p : Program} {l : Launch} {e : Env} {s : State} {m : MethodId} {args : Array Value} {below : List Frame} {meth : Method} {c : Code} {D : va_G} {q : Nat → Nat} {A : Nat → Prop} {cI : ClassId} (C : CallFix p m c cX11_towards 6 s args wsX11_towards RX11) (hr : meth.sig.returnType = (some .int)) (hlk : meth.locks = false) (Q : Int32 → (Nat → Int32) → (Nat → Nat → Int32) → Prop) : ∀ (x1 : Int32) (x2 : Int32) (x3 : Int32) (x4 : Int32) (y0 : Int32) (f : Nat → Int32) (a : Nat → Nat → Int32) (H : Heap) (locs : List Loc) (ls : Array Slot), vX11_towards_31 Q x1 x2 x3 x4 y0 f a → hw D [(cI, .int)] q 12 (gM q cI f a) A s H locs → lv_has ls 6 [(0, .ref (q 0)), (1, .int x1), (2, .int x2), (3, .int x3), (4, .int x4)] → W p l e (headSpec wsX11_towards rmX11_towards).room s m args below meth c H locs 0 0 (MQ below (QMi D q cI Q A) args s 0 0 A) (F0 m 31 ls [.int y0]) := by
  intro x1 x2 x3 x4 y0 f a H locs ls h hW hl
  unfold vX11_towards_31 at h
  refine lv_istore (lv' := [(5, .int y0), (0, .ref (q 0)), (1, .int x1), (2, .int x2), (3, .int x3), (4, .int x4)]) C.1 C.2.1 dX11_towards_31 hl (by decide) rfl (fun ls hl => ?_)
  refine lv_aload_n C.1 C.2.1 dX11_towards_33 rfl (lv_at hl 1 rfl) ?_
  refine r_get C hW (ci := 11) (T := TX11) (n := 21) (ref := "BallMinderModel") (v := .ref (q 1)) 0 (by decide) rfl rfl 2 (by decide) inX11_towards (by decide +kernel) (fun _ h9 => h9) rfl dX11_towards_34 ?_
  refine lv_iload_n C.1 C.2.1 dX11_towards_37 rfl (lv_at hl 2 rfl) ?_
  obtain ⟨hs9, h⟩ := h
  refine r_iald C hW (cA := cI) (n := 8) (f := a 1) 1 0 (by decide) rfl rfl hs9 dX11_towards_38 ?_
  refine lv_if_ne (tgt := 44) C.1 C.2.1 dX11_towards_39 (by decide) (fun c10 => ?_) (fun c10 => ?_)
  · replace h := h.1 c10
    refine lv_aload_n C.1 C.2.1 dX11_towards_44 rfl (lv_at hl 1 rfl) ?_
    refine r_get C hW (ci := 11) (T := TX11) (n := 21) (ref := "BallMinderModel") (v := .ref (q 1)) 0 (by decide) rfl rfl 2 (by decide) inX11_towards (by decide +kernel) (fun _ h9 => h9) rfl dX11_towards_45 ?_
    refine lv_iload_n C.1 C.2.1 dX11_towards_48 rfl (lv_at hl 2 rfl) ?_
    obtain ⟨hs11, h⟩ := h
    refine r_iald C hW (cA := cI) (n := 8) (f := a 1) 1 0 (by decide) rfl rfl hs11 dX11_towards_49 ?_
    refine lv_iconst (v := 2) C.1 C.2.1 dX11_towards_50 (by decide) ?_
    refine lv_icmp_ne (tgt := 71) C.1 C.2.1 dX11_towards_51 (by decide) (fun c12 => ?_) (fun c12 => ?_)
    · replace h := h.1 c12
      exact sX11_towards_71 C hr hlk Q x2 x4 y0 f a _ _ _ h hW (lv_sub hl [3, 5, 0] rfl)
    · replace h := h.2 c12
      refine lv_iload C.1 C.2.1 dX11_towards_54 (lv_at hl 5 rfl) ?_
      refine k_pi hW (va_runS (As := [.int x4]) (rest := []) C (mtX11_sizeOf l D q _ H.size x4 _ h) (va_cwS 1 C.2.2.2.2 gX11_towards_X11_sizeOf rfl rfl rfl (by decide +kernel) ⟨Nat.le_of_ble_eq_true rfl, Nat.le_of_ble_eq_true rfl⟩) ⟨mP_blind tX_B, fun U hU hV => ⟨rfl, hW.pre0 hU hV trivial⟩⟩ rfl rfl hl.1 rfl (lv_room (Nat.le_of_ble_eq_true rfl)) dX11_towards_56 ⟨Nat.zero_le _, Nat.zero_le _⟩) (fun r14 H locs h hW => ?_)
      refine lv_aload_n C.1 C.2.1 dX11_towards_59 rfl (lv_at hl 1 rfl) ?_
      refine lv_iload_n C.1 C.2.1 dX11_towards_60 rfl (lv_at hl 2 rfl) ?_
      refine lv_bipush (v := 8) C.1 C.2.1 dX11_towards_61 (by decide) ?_
      refine k_i hW (va_runV (As := [.int x1, .int (8 : Int32)]) (rest := [.int r14]) C (mtX11_of l D q cI H.size x1 (8 : Int32) f a _ h) (cwV 2 C.2.2.2.2 gX11_towards_X11_of rfl rfl rfl (by decide +kernel) ⟨Nat.le_of_ble_eq_true rfl, Nat.le_of_ble_eq_true rfl⟩) ⟨mP_blind tX_B, va_recv hW.1 hW.2.1 (ci := 11) (q0 := 0) rfl (wL_get (by decide)), fun U hU hV => ⟨rfl, hW.pre hU hV trivial⟩⟩ rfl rfl hl.1 rfl (lv_room (Nat.le_of_ble_eq_true rfl)) dX11_towards_63 ⟨Nat.zero_le _, Nat.zero_le _⟩) (fun r15 u H locs h hW => ?_)
      obtain ⟨f16, a17⟩ := u
      replace hW : hw D [(cI, .int)] q 12 (gM q cI f16 a17) A s H locs := hW
      refine lv_icmp_ge (tgt := 71) C.1 C.2.1 dX11_towards_66 (by decide) (fun c18 => ?_) (fun c18 => ?_)
      · replace h := h.1 c18
        exact sX11_towards_71 C hr hlk Q x2 x4 y0 f16 a17 _ _ _ h hW (lv_sub hl [3, 5, 0] rfl)
      · replace h := h.2 c18
        refine lv_iload_n C.1 C.2.1 dX11_towards_69 rfl (lv_at hl 3 rfl) ?_
        exact t_i C hr hlk (u := (f16, a17)) hW.2.2.2.1 hW.B h dX11_towards_70
  · replace h := h.2 c10
    refine lv_iload_n C.1 C.2.1 dX11_towards_42 rfl (lv_at hl 4 rfl) ?_
    exact t_i C hr hlk (u := (f, a)) hW.2.2.2.1 hW.B h dX11_towards_43
set_option maxRecDepth 100000 in
set_option maxHeartbeats 4000000 in
theorem sX11_towards {p : Program} {l : Launch} {e : Env} {s : State} {m : MethodId} {args : Array Value} {below : List Frame} {meth : Method} {c : Code} {D : va_G} {q : Nat → Nat} {A : Nat → Prop} {cI : ClassId} (C : CallFix p m c cX11_towards 6 s args wsX11_towards RX11) (hr : meth.sig.returnType = (some .int)) (hlk : meth.locks = false) (Q : Int32 → (Nat → Int32) → (Nat → Nat → Int32) → Prop) : ∀ (x1 : Int32) (x2 : Int32) (x3 : Int32) (f : Nat → Int32) (a : Nat → Nat → Int32) (H : Heap) (locs : List Loc) (ls : Array Slot), vX11_towards x1 x2 x3 f a Q → hw D [(cI, .int)] q 12 (gM q cI f a) A s H locs → lv_has ls 6 [(0, .ref (q 0)), (1, .int x1), (2, .int x2), (3, .int x3)] → W p l e (headSpec wsX11_towards rmX11_towards).room s m args below meth c H locs 0 0 (MQ below (QMi D q cI Q A) args s 0 0 A) (F0 m 0 ls []) := by
  intro x1 x2 x3 f a H locs ls h hW hl
  unfold vX11_towards at h
  refine lv_iload_n C.1 C.2.1 dX11_towards_0 rfl (lv_at hl 3 rfl) ?_
  refine lv_iload_n C.1 C.2.1 dX11_towards_1 rfl (lv_at hl 2 rfl) ?_
  refine lv_isub C.1 C.2.1 dX11_towards_2 ?_
  refine lv_topi (fun x4_1 ex4_1 => ?_)
  replace h := h x4_1 ex4_1
  refine lv_istore (lv' := [(4, .int x4_1), (0, .ref (q 0)), (1, .int x1), (2, .int x2), (3, .int x3)]) C.1 C.2.1 dX11_towards_3 hl (by decide) rfl (fun ls hl => ?_)
  refine lv_aload_n C.1 C.2.1 dX11_towards_5 rfl (lv_at hl 1 rfl) ?_
  refine lv_iload_n C.1 C.2.1 dX11_towards_6 rfl (lv_at hl 2 rfl) ?_
  refine lv_iconst (v := 3) C.1 C.2.1 dX11_towards_7 (by decide) ?_
  refine k_i hW (va_runV (As := [.int x1, .int (3 : Int32)]) (rest := []) C (mtX11_of l D q cI H.size x1 (3 : Int32) f a _ h) (cwV 2 C.2.2.2.2 gX11_towards_X11_of rfl rfl rfl (by decide +kernel) ⟨Nat.le_of_ble_eq_true rfl, Nat.le_of_ble_eq_true rfl⟩) ⟨mP_blind tX_B, va_recv hW.1 hW.2.1 (ci := 11) (q0 := 0) rfl (wL_get (by decide)), fun U hU hV => ⟨rfl, hW.pre hU hV trivial⟩⟩ rfl rfl hl.1 rfl (lv_room (Nat.le_of_ble_eq_true rfl)) dX11_towards_8 ⟨Nat.zero_le _, Nat.zero_le _⟩) (fun r2 u H locs h hW => ?_)
  obtain ⟨f3, a4⟩ := u
  replace hW : hw D [(cI, .int)] q 12 (gM q cI f3 a4) A s H locs := hW
  refine lv_bipush (v := 39) C.1 C.2.1 dX11_towards_11 (by decide) ?_
  refine lv_icmp_le (tgt := 20) C.1 C.2.1 dX11_towards_13 (by decide) (fun c5 => ?_) (fun c5 => ?_)
  · replace h := h.1 c5
    refine lv_bipush (v := 40) C.1 C.2.1 dX11_towards_20 (by decide) ?_
    refine lv_aload_n C.1 C.2.1 dX11_towards_22 rfl (lv_at hl 1 rfl) ?_
    refine lv_iload_n C.1 C.2.1 dX11_towards_23 rfl (lv_at hl 2 rfl) ?_
    refine lv_iconst (v := 3) C.1 C.2.1 dX11_towards_24 (by decide) ?_
    refine k_i hW (va_runV (As := [.int x1, .int (3 : Int32)]) (rest := [.int (40 : Int32)]) C (mtX11_of l D q cI H.size x1 (3 : Int32) f3 a4 _ h) (cwV 2 C.2.2.2.2 gX11_towards_X11_of rfl rfl rfl (by decide +kernel) ⟨Nat.le_of_ble_eq_true rfl, Nat.le_of_ble_eq_true rfl⟩) ⟨mP_blind tX_B, va_recv hW.1 hW.2.1 (ci := 11) (q0 := 0) rfl (wL_get (by decide)), fun U hU hV => ⟨rfl, hW.pre hU hV trivial⟩⟩ rfl rfl hl.1 rfl (lv_room (Nat.le_of_ble_eq_true rfl)) dX11_towards_25 ⟨Nat.zero_le _, Nat.zero_le _⟩) (fun r6 u H locs h hW => ?_)
    obtain ⟨f7, a8⟩ := u
    replace hW : hw D [(cI, .int)] q 12 (gM q cI f7 a8) A s H locs := hW
    refine lv_iconst (v := 1) C.1 C.2.1 dX11_towards_28 (by decide) ?_
    refine lv_iadd C.1 C.2.1 dX11_towards_29 ?_
    obtain ⟨hs19, h⟩ := h
    refine lv_idiv C.1 C.2.1 dX11_towards_30 hs19 ?_
    exact sX11_towards_31 C hr hlk Q x1 x2 x3 x4_1 ((40 : Int32) / (r6 + (1 : Int32))) f7 a8 _ _ _ h hW (lv_sub hl [1, 2, 3, 4, 0] rfl)
  · replace h := h.2 c5
    refine lv_iconst (v := 1) C.1 C.2.1 dX11_towards_16 (by decide) ?_
    refine lv_goto (tgt := 31) C.1 C.2.1 dX11_towards_17 (by decide) ?_
    exact sX11_towards_31 C hr hlk Q x1 x2 x3 x4_1 (1 : Int32) f3 a4 _ _ _ h hW (lv_sub hl [1, 2, 3, 4, 0] rfl)
set_option maxRecDepth 100000 in
set_option maxHeartbeats 4000000 in
theorem mtX11_towards (l : Launch) (D : va_G) (q : Nat → Nat) (cI : ClassId) (sz : Nat) (x1 : Int32) (x2 : Int32) (x3 : Int32) (f : Nat → Int32) (a : Nat → Nat → Int32) (Q : Int32 → (Nat → Int32) → (Nat → Nat → Int32) → Prop) (h : vX11_towards x1 x2 x3 f a Q) : Met l yX11_towards wsX11_towards rmX11_towards (va_Pc [.ref (q 0), .int x1, .int x2, .int x3] (mP D [(cI, .int)] q 12 (gM q cI f a) sz tX)) (QMi D q cI Q (aQ q 12 sz)) 0 0 (aQ q 12 sz) := by
  refine met_w (cc := cX11_towards) (maxL := 6) (ret := (some .int)) (by decide) rfl (Nat.le_of_ble_eq_true rfl) ?_
  intro p e s m below meth c ls C hr hlk hW hX hnm hl
  exact sX11_towards C hr hlk Q x1 x2 x3 f a _ _ _ h hW hl
