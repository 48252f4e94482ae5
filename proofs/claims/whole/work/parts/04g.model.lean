theorem inX11_share : ∀ w ∈ wsX110, w ∈ wsX11_share := fun _ h => List.mem_cons_of_mem _ (List.mem_append_right _ h)
abbrev rmX11_share : Room := { frames := 2, cells := 0, slots := 0, locals := 46 }
def vX11_share_31 (Q : Int64 → (Nat → Int32) → (Nat → Nat → Int32) → Prop) (f : Nat → Int32) (a : Nat → Nat → Int32) : Prop := vX11_lost  (fun r5 => Q r5 f a)
def vX11_share_73 (Q : Int64 → (Nat → Int32) → (Nat → Nat → Int32) → Prop) (f : Nat → Int32) (a : Nat → Nat → Int32) : Prop := vX11_lost  (fun r17 => Q r17 f a)
def vX11_share (x1 : Int32) (x2 : Int32) (x3 : Int32) (f : Nat → Int32) (a : Nat → Nat → Int32) (Q : Int64 → (Nat → Int32) → (Nat → Nat → Int32) → Prop) : Prop := vX11_noMill x1 f a (fun r1 f2 a3 => (¬ r1 = 0 → vX11_share_31 Q f2 a3) ∧ (r1 = 0 → vX11_noMill x2 f2 a3 (fun r6 f7 a8 => (¬ r6 = 0 → vX11_share_31 Q f7 a8) ∧ (r6 = 0 → vX11_in x3.toInt64 (0 : Int64) (1 : Int64) (fun r10 => (r10 = 0 → vX11_share_31 Q f7 a8) ∧ (¬ (r10 = 0) → (¬ x1 = x2 → vX11_of x1 (4 : Int32) f7 a8 (fun r13 f14 a15 => (r13 = 0 → vX11_share_73 Q f14 a15) ∧ (¬ (r13 = 0) → vX11_of x2 (4 : Int32) f14 a15 (fun r18 f19 a20 => (r18 = 0 → vX11_share_73 Q f19 a20) ∧ (¬ (r18 = 0) → vX11_of x1 (6 : Int32) f19 a20 (fun r22 f23 a24 => (0 < r22 → vX11_share_73 Q f23 a24) ∧ (¬ (0 < r22) → vX11_of x2 (6 : Int32) f23 a24 (fun r26 f27 a28 => (r26 ≤ 0 → vX11_of x1 (5 : Int32) f27 a28 (fun r30 f31 a32 => vX11_of x2 (4 : Int32) f31 a32 (fun r33 f34 a35 => ∀ x4_36 : Int64, x4_36 = (r30 * r33).toInt64 → vX11_of x2 (5 : Int32) f34 a35 (fun r37 f38 a39 => vX11_of x1 (4 : Int32) f38 a39 (fun r40 f41 a42 => vX11_reduced x4_36 (x4_36 + ((r37 * r40).toInt64)) x3 (fun r43 => Q r43 f41 a42)))))) ∧ (¬ (r26 ≤ 0) → vX11_share_73 Q f27 a28))))))))) ∧ (x1 = x2 → vX11_share_31 Q f7 a8)))))))
set_option maxRecDepth 100000 in
set_option maxHeartbeats 4000000 in
theorem sX11_share_31 {p : Program} {l : Launch} {e : Env} {s : State} {m : MethodId} {args : Array Value} {below : List Frame} {meth : Method} {c : Code} {D : va_G} {q : Nat → Nat} {A : Nat → Prop} {cI : ClassId} (C : CallFix p m c cX11_share 6 s args wsX11_share RX11) (hr : meth.sig.returnType = (some .long)) (hlk : meth.locks = false) (Q : Int64 → (Nat → Int32) → (Nat → Nat → Int32) → Prop) : ∀ (f : Nat → Int32) (a : Nat → Nat → Int32) (H : Heap) (locs : List Loc) (ls : Array Slot), vX11_share_31 Q f a → hw D [(cI, .int)] q 12 (gM q cI f a) A s H locs → lv_has ls 6 [] → W p l e (headSpec wsX11_share rmX11_share).room s m args below meth c H locs 0 0 (MQ below (QMl D q cI Q A) args s 0 0 A) (F0 m 31 ls []) := by
  intro f a H locs ls h hW hl
  unfold vX11_share_31 at h
  refine k_pl hW (va_runS (As := []) (rest := []) C (mtX11_lost l D q _ H.size  _ h) (va_cwS 0 C.2.2.2.2 gX11_share_X11_lost rfl rfl rfl (by decide +kernel) ⟨Nat.le_of_ble_eq_true rfl, Nat.le_of_ble_eq_true rfl⟩) ⟨mP_blind tX_B, fun U hU hV => ⟨rfl, hW.pre0 hU hV trivial⟩⟩ rfl rfl hl.1 rfl (lv_room (Nat.le_of_ble_eq_true rfl)) dX11_share_31 ⟨Nat.zero_le _, Nat.zero_le _⟩) (fun r5 H locs h hW => ?_)
  exact t_l C hr hlk (u := (f, a)) hW.2.2.2.1 hW.B h dX11_share_34
set_option maxRecDepth 100000 in
set_option maxHeartbeats 4000000 in
theorem sX11_share_73 {p : Program} {l : Launch} {e : Env} {s : State} {m : MethodId} {args : Array Value} {below : List Frame} {meth : Method} {c : Code} {D : va_G} {q : Nat → Nat} {A : Nat → Prop} {cI : ClassId} (C : CallFix p m c cX11_share 6 s args wsX11_share RX11) (hr : meth.sig.returnType = (some .long)) (hlk : meth.locks = false) (Q : Int64 → (Nat → Int32) → (Nat → Nat → Int32) → Prop) : ∀ (f : Nat → Int32) (a : Nat → Nat → Int32) (H : Heap) (locs : List Loc) (ls : Array Slot), vX11_share_73 Q f a → hw D [(cI, .int)] q 12 (gM q cI f a) A s H locs → lv_has ls 6 [] → W p l e (headSpec wsX11_share rmX11_share).room s m args below meth c H locs 0 0 (MQ below (QMl D q cI Q A) args s 0 0 A) (F0 m 73 ls []) := by
  intro f a H locs ls h hW hl
  unfold vX11_share_73 at h
  refine k_pl hW (va_runS (As := []) (rest := []) C (mtX11_lost l D q _ H.size  _ h) (va_cwS 0 C.2.2.2.2 gX11_share_X11_lost rfl rfl rfl (by decide +kernel) ⟨Nat.le_of_ble_eq_true rfl, Nat.le_of_ble_eq_true rfl⟩) ⟨mP_blind tX_B, fun U hU hV => ⟨rfl, hW.pre0 hU hV trivial⟩⟩ rfl rfl hl.1 rfl (lv_room (Nat.le_of_ble_eq_true rfl)) dX11_share_73 ⟨Nat.zero_le _, Nat.zero_le _⟩) (fun r17 H locs h hW => ?_)
  exact t_l C hr hlk (u := (f, a)) hW.2.2.2.1 hW.B h dX11_share_76
set_option maxRecDepth 100000 in
set_option maxHeartbeats 4000000 in
theorem sX11_share {p : Program} {l : Launch} {e : Env} {s : State} {m : MethodId} {args : Array Value} {below : List Frame} {meth : Method} {c : Code} {D : va_G} {q : Nat → Nat} {A : Nat → Prop} {cI : ClassId} (C : CallFix p m c cX11_share 6 s args wsX11_share RX11) (hr : meth.sig.returnType = (some .long)) (hlk : meth.locks = false) (Q : Int64 → (Nat → Int32) → (Nat → Nat → Int32) → Prop) : ∀ (x1 : Int32) (x2 : Int32) (x3 : Int32) (f : Nat → Int32) (a : Nat → Nat → Int32) (H : Heap) (locs : List Loc) (ls : Array Slot), vX11_share x1 x2 x3 f a Q → hw D [(cI, .int)] q 12 (gM q cI f a) A s H locs → lv_has ls 6 [(0, .ref (q 0)), (1, .int x1), (2, .int x2), (3, .int x3)] → W p l e (headSpec wsX11_share rmX11_share).room s m args below meth c H locs 0 0 (MQ below (QMl D q cI Q A) args s 0 0 A) (F0 m 0 ls []) := by
  intro x1 x2 x3 f a H locs ls h hW hl
  unfold vX11_share at h
  refine lv_aload_n C.1 C.2.1 dX11_share_0 rfl (lv_at hl 0 rfl) ?_
  refine lv_iload_n C.1 C.2.1 dX11_share_1 rfl (lv_at hl 1 rfl) ?_
  refine k_i hW (va_runV (As := [.int x1]) (rest := []) C (mtX11_noMill l D q cI H.size x1 f a _ h) (cwV 1 C.2.2.2.2 gX11_share_X11_noMill rfl rfl rfl (by decide +kernel) ⟨Nat.le_of_ble_eq_true rfl, Nat.le_of_ble_eq_true rfl⟩) ⟨mP_blind tX_B, va_recv hW.1 hW.2.1 (ci := 11) (q0 := 0) rfl (wL_get (by decide)), fun U hU hV => ⟨rfl, hW.pre hU hV trivial⟩⟩ rfl rfl hl.1 rfl (lv_room (Nat.le_of_ble_eq_true rfl)) dX11_share_2 ⟨Nat.zero_le _, Nat.zero_le _⟩) (fun r1 u H locs h hW => ?_)
  obtain ⟨f2, a3⟩ := u
  replace hW : hw D [(cI, .int)] q 12 (gM q cI f2 a3) A s H locs := hW
  refine lv_if_ne (tgt := 31) C.1 C.2.1 dX11_share_5 (by decide) (fun c4 => ?_) (fun c4 => ?_)
  · replace h := h.1 c4
    exact sX11_share_31 C hr hlk Q f2 a3 _ _ _ h hW (lv_sub hl [] rfl)
  · replace h := h.2 c4
    refine lv_aload_n C.1 C.2.1 dX11_share_8 rfl (lv_at hl 0 rfl) ?_
    refine lv_iload_n C.1 C.2.1 dX11_share_9 rfl (lv_at hl 2 rfl) ?_
    refine k_i hW (va_runV (As := [.int x2]) (rest := []) C (mtX11_noMill l D q cI H.size x2 f2 a3 _ h) (cwV 1 C.2.2.2.2 gX11_share_X11_noMill rfl rfl rfl (by decide +kernel) ⟨Nat.le_of_ble_eq_true rfl, Nat.le_of_ble_eq_true rfl⟩) ⟨mP_blind tX_B, va_recv hW.1 hW.2.1 (ci := 11) (q0 := 0) rfl (wL_get (by decide)), fun U hU hV => ⟨rfl, hW.pre hU hV trivial⟩⟩ rfl rfl hl.1 rfl (lv_room (Nat.le_of_ble_eq_true rfl)) dX11_share_10 ⟨Nat.zero_le _, Nat.zero_le _⟩) (fun r6 u H locs h hW => ?_)
    obtain ⟨f7, a8⟩ := u
    replace hW : hw D [(cI, .int)] q 12 (gM q cI f7 a8) A s H locs := hW
    refine lv_if_ne (tgt := 31) C.1 C.2.1 dX11_share_13 (by decide) (fun c9 => ?_) (fun c9 => ?_)
    · replace h := h.1 c9
      exact sX11_share_31 C hr hlk Q f7 a8 _ _ _ h hW (lv_sub hl [] rfl)
    · replace h := h.2 c9
      refine lv_iload_n C.1 C.2.1 dX11_share_16 rfl (lv_at hl 3 rfl) ?_
      refine lv_i2l C.1 C.2.1 dX11_share_17 rfl ?_
      refine lv_lconst (v := 0) C.1 C.2.1 dX11_share_18 (by decide) ?_
      refine lv_lconst (v := 1) C.1 C.2.1 dX11_share_19 (by decide) ?_
      refine k_pi hW (va_runS (As := [.long x3.toInt64, .long (0 : Int64), .long (1 : Int64)]) (rest := []) C (mtX11_in l D q _ H.size x3.toInt64 (0 : Int64) (1 : Int64) _ h) (va_cwS 3 C.2.2.2.2 gX11_share_X11_in rfl rfl rfl (by decide +kernel) ⟨Nat.le_of_ble_eq_true rfl, Nat.le_of_ble_eq_true rfl⟩) ⟨mP_blind tX_B, fun U hU hV => ⟨rfl, hW.pre0 hU hV trivial⟩⟩ rfl rfl hl.1 rfl (lv_room (Nat.le_of_ble_eq_true rfl)) dX11_share_20 ⟨Nat.zero_le _, Nat.zero_le _⟩) (fun r10 H locs h hW => ?_)
      refine lv_if_eq (tgt := 31) C.1 C.2.1 dX11_share_23 (by decide) (fun c11 => ?_) (fun c11 => ?_)
      · replace h := h.1 c11
        exact sX11_share_31 C hr hlk Q f7 a8 _ _ _ h hW (lv_sub hl [] rfl)
      · replace h := h.2 c11
        refine lv_iload_n C.1 C.2.1 dX11_share_26 rfl (lv_at hl 1 rfl) ?_
        refine lv_iload_n C.1 C.2.1 dX11_share_27 rfl (lv_at hl 2 rfl) ?_
        refine lv_icmp_ne (tgt := 35) C.1 C.2.1 dX11_share_28 (by decide) (fun c12 => ?_) (fun c12 => ?_)
        · replace h := h.1 c12
          refine lv_aload_n C.1 C.2.1 dX11_share_35 rfl (lv_at hl 0 rfl) ?_
          refine lv_iload_n C.1 C.2.1 dX11_share_36 rfl (lv_at hl 1 rfl) ?_
          refine lv_iconst (v := 4) C.1 C.2.1 dX11_share_37 (by decide) ?_
          refine k_i hW (va_runV (As := [.int x1, .int (4 : Int32)]) (rest := []) C (mtX11_of l D q cI H.size x1 (4 : Int32) f7 a8 _ h) (cwV 2 C.2.2.2.2 gX11_share_X11_of rfl rfl rfl (by decide +kernel) ⟨Nat.le_of_ble_eq_true rfl, Nat.le_of_ble_eq_true rfl⟩) ⟨mP_blind tX_B, va_recv hW.1 hW.2.1 (ci := 11) (q0 := 0) rfl (wL_get (by decide)), fun U hU hV => ⟨rfl, hW.pre hU hV trivial⟩⟩ rfl rfl hl.1 rfl (lv_room (Nat.le_of_ble_eq_true rfl)) dX11_share_38 ⟨Nat.zero_le _, Nat.zero_le _⟩) (fun r13 u H locs h hW => ?_)
          obtain ⟨f14, a15⟩ := u
          replace hW : hw D [(cI, .int)] q 12 (gM q cI f14 a15) A s H locs := hW
          refine lv_if_eq (tgt := 73) C.1 C.2.1 dX11_share_41 (by decide) (fun c16 => ?_) (fun c16 => ?_)
          · replace h := h.1 c16
            exact sX11_share_73 C hr hlk Q f14 a15 _ _ _ h hW (lv_sub hl [] rfl)
          · replace h := h.2 c16
            refine lv_aload_n C.1 C.2.1 dX11_share_44 rfl (lv_at hl 0 rfl) ?_
            refine lv_iload_n C.1 C.2.1 dX11_share_45 rfl (lv_at hl 2 rfl) ?_
            refine lv_iconst (v := 4) C.1 C.2.1 dX11_share_46 (by decide) ?_
            refine k_i hW (va_runV (As := [.int x2, .int (4 : Int32)]) (rest := []) C (mtX11_of l D q cI H.size x2 (4 : Int32) f14 a15 _ h) (cwV 2 C.2.2.2.2 gX11_share_X11_of rfl rfl rfl (by decide +kernel) ⟨Nat.le_of_ble_eq_true rfl, Nat.le_of_ble_eq_true rfl⟩) ⟨mP_blind tX_B, va_recv hW.1 hW.2.1 (ci := 11) (q0 := 0) rfl (wL_get (by decide)), fun U hU hV => ⟨rfl, hW.pre hU hV trivial⟩⟩ rfl rfl hl.1 rfl (lv_room (Nat.le_of_ble_eq_true rfl)) dX11_share_47 ⟨Nat.zero_le _, Nat.zero_le _⟩) (fun r18 u H locs h hW => ?_)
            obtain ⟨f19, a20⟩ := u
            replace hW : hw D [(cI, .int)] q 12 (gM q cI f19 a20) A s H locs := hW
            refine lv_if_eq (tgt := 73) C.1 C.2.1 dX11_share_50 (by decide) (fun c21 => ?_) (fun c21 => ?_)
            · replace h := h.1 c21
              exact sX11_share_73 C hr hlk Q f19 a20 _ _ _ h hW (lv_sub hl [] rfl)
            · replace h := h.2 c21
              refine lv_aload_n C.1 C.2.1 dX11_share_53 rfl (lv_at hl 0 rfl) ?_
              refine lv_iload_n C.1 C.2.1 dX11_share_54 rfl (lv_at hl 1 rfl) ?_
              refine lv_bipush (v := 6) C.1 C.2.1 dX11_share_55 (by decide) ?_
              refine k_i hW (va_runV (As := [.int x1, .int (6 : Int32)]) (rest := []) C (mtX11_of l D q cI H.size x1 (6 : Int32) f19 a20 _ h) (cwV 2 C.2.2.2.2 gX11_share_X11_of rfl rfl rfl (by decide +kernel) ⟨Nat.le_of_ble_eq_true rfl, Nat.le_of_ble_eq_true rfl⟩) ⟨mP_blind tX_B, va_recv hW.1 hW.2.1 (ci := 11) (q0 := 0) rfl (wL_get (by decide)), fun U hU hV => ⟨rfl, hW.pre hU hV trivial⟩⟩ rfl rfl hl.1 rfl (lv_room (Nat.le_of_ble_eq_true rfl)) dX11_share_57 ⟨Nat.zero_le _, Nat.zero_le _⟩) (fun r22 u H locs h hW => ?_)
              obtain ⟨f23, a24⟩ := u
              replace hW : hw D [(cI, .int)] q 12 (gM q cI f23 a24) A s H locs := hW
              refine lv_if_gt (tgt := 73) C.1 C.2.1 dX11_share_60 (by decide) (fun c25 => ?_) (fun c25 => ?_)
              · replace h := h.1 c25
                exact sX11_share_73 C hr hlk Q f23 a24 _ _ _ h hW (lv_sub hl [] rfl)
              · replace h := h.2 c25
                refine lv_aload_n C.1 C.2.1 dX11_share_63 rfl (lv_at hl 0 rfl) ?_
                refine lv_iload_n C.1 C.2.1 dX11_share_64 rfl (lv_at hl 2 rfl) ?_
                refine lv_bipush (v := 6) C.1 C.2.1 dX11_share_65 (by decide) ?_
                refine k_i hW (va_runV (As := [.int x2, .int (6 : Int32)]) (rest := []) C (mtX11_of l D q cI H.size x2 (6 : Int32) f23 a24 _ h) (cwV 2 C.2.2.2.2 gX11_share_X11_of rfl rfl rfl (by decide +kernel) ⟨Nat.le_of_ble_eq_true rfl, Nat.le_of_ble_eq_true rfl⟩) ⟨mP_blind tX_B, va_recv hW.1 hW.2.1 (ci := 11) (q0 := 0) rfl (wL_get (by decide)), fun U hU hV => ⟨rfl, hW.pre hU hV trivial⟩⟩ rfl rfl hl.1 rfl (lv_room (Nat.le_of_ble_eq_true rfl)) dX11_share_67 ⟨Nat.zero_le _, Nat.zero_le _⟩) (fun r26 u H locs h hW => ?_)
                obtain ⟨f27, a28⟩ := u
                replace hW : hw D [(cI, .int)] q 12 (gM q cI f27 a28) A s H locs := hW
                refine lv_if_le (tgt := 77) C.1 C.2.1 dX11_share_70 (by decide) (fun c29 => ?_) (fun c29 => ?_)
                · replace h := h.1 c29
                  refine lv_aload_n C.1 C.2.1 dX11_share_77 rfl (lv_at hl 0 rfl) ?_
                  refine lv_iload_n C.1 C.2.1 dX11_share_78 rfl (lv_at hl 1 rfl) ?_
                  refine lv_iconst (v := 5) C.1 C.2.1 dX11_share_79 (by decide) ?_
                  refine k_i hW (va_runV (As := [.int x1, .int (5 : Int32)]) (rest := []) C (mtX11_of l D q cI H.size x1 (5 : Int32) f27 a28 _ h) (cwV 2 C.2.2.2.2 gX11_share_X11_of rfl rfl rfl (by decide +kernel) ⟨Nat.le_of_ble_eq_true rfl, Nat.le_of_ble_eq_true rfl⟩) ⟨mP_blind tX_B, va_recv hW.1 hW.2.1 (ci := 11) (q0 := 0) rfl (wL_get (by decide)), fun U hU hV => ⟨rfl, hW.pre hU hV trivial⟩⟩ rfl rfl hl.1 rfl (lv_room (Nat.le_of_ble_eq_true rfl)) dX11_share_80 ⟨Nat.zero_le _, Nat.zero_le _⟩) (fun r30 u H locs h hW => ?_)
                  obtain ⟨f31, a32⟩ := u
                  replace hW : hw D [(cI, .int)] q 12 (gM q cI f31 a32) A s H locs := hW
                  refine lv_aload_n C.1 C.2.1 dX11_share_83 rfl (lv_at hl 0 rfl) ?_
                  refine lv_iload_n C.1 C.2.1 dX11_share_84 rfl (lv_at hl 2 rfl) ?_
                  refine lv_iconst (v := 4) C.1 C.2.1 dX11_share_85 (by decide) ?_
                  refine k_i hW (va_runV (As := [.int x2, .int (4 : Int32)]) (rest := [.int r30]) C (mtX11_of l D q cI H.size x2 (4 : Int32) f31 a32 _ h) (cwV 2 C.2.2.2.2 gX11_share_X11_of rfl rfl rfl (by decide +kernel) ⟨Nat.le_of_ble_eq_true rfl, Nat.le_of_ble_eq_true rfl⟩) ⟨mP_blind tX_B, va_recv hW.1 hW.2.1 (ci := 11) (q0 := 0) rfl (wL_get (by decide)), fun U hU hV => ⟨rfl, hW.pre hU hV trivial⟩⟩ rfl rfl hl.1 rfl (lv_room (Nat.le_of_ble_eq_true rfl)) dX11_share_86 ⟨Nat.zero_le _, Nat.zero_le _⟩) (fun r33 u H locs h hW => ?_)
                  obtain ⟨f34, a35⟩ := u
                  replace hW : hw D [(cI, .int)] q 12 (gM q cI f34 a35) A s H locs := hW
                  refine lv_imul C.1 C.2.1 dX11_share_89 ?_
                  refine lv_i2l C.1 C.2.1 dX11_share_90 rfl ?_
                  refine lv_topl (fun x4_36 ex4_36 => ?_)
                  replace h := h x4_36 ex4_36
                  refine lv_lstore (lv' := [(4, .long x4_36), (0, .ref (q 0)), (1, .int x1), (2, .int x2), (3, .int x3)]) C.1 C.2.1 dX11_share_91 hl (by decide) rfl (fun ls hl => ?_)
                  refine lv_lload C.1 C.2.1 dX11_share_93 (lv_at hl 0 rfl) ?_
                  refine lv_lload C.1 C.2.1 dX11_share_95 (lv_at hl 0 rfl) ?_
                  refine lv_aload_n C.1 C.2.1 dX11_share_97 rfl (lv_at hl 1 rfl) ?_
                  refine lv_iload_n C.1 C.2.1 dX11_share_98 rfl (lv_at hl 3 rfl) ?_
                  refine lv_iconst (v := 5) C.1 C.2.1 dX11_share_99 (by decide) ?_
                  refine k_i hW (va_runV (As := [.int x2, .int (5 : Int32)]) (rest := [.long x4_36, .long x4_36]) C (mtX11_of l D q cI H.size x2 (5 : Int32) f34 a35 _ h) (cwV 2 C.2.2.2.2 gX11_share_X11_of rfl rfl rfl (by decide +kernel) ⟨Nat.le_of_ble_eq_true rfl, Nat.le_of_ble_eq_true rfl⟩) ⟨mP_blind tX_B, va_recv hW.1 hW.2.1 (ci := 11) (q0 := 0) rfl (wL_get (by decide)), fun U hU hV => ⟨rfl, hW.pre hU hV trivial⟩⟩ rfl rfl hl.1 rfl (lv_room (Nat.le_of_ble_eq_true rfl)) dX11_share_100 ⟨Nat.zero_le _, Nat.zero_le _⟩) (fun r37 u H locs h hW => ?_)
                  obtain ⟨f38, a39⟩ := u
                  replace hW : hw D [(cI, .int)] q 12 (gM q cI f38 a39) A s H locs := hW
                  refine lv_aload_n C.1 C.2.1 dX11_share_103 rfl (lv_at hl 1 rfl) ?_
                  refine lv_iload_n C.1 C.2.1 dX11_share_104 rfl (lv_at hl 2 rfl) ?_
                  refine lv_iconst (v := 4) C.1 C.2.1 dX11_share_105 (by decide) ?_
                  refine k_i hW (va_runV (As := [.int x1, .int (4 : Int32)]) (rest := [.int r37, .long x4_36, .long x4_36]) C (mtX11_of l D q cI H.size x1 (4 : Int32) f38 a39 _ h) (cwV 2 C.2.2.2.2 gX11_share_X11_of rfl rfl rfl (by decide +kernel) ⟨Nat.le_of_ble_eq_true rfl, Nat.le_of_ble_eq_true rfl⟩) ⟨mP_blind tX_B, va_recv hW.1 hW.2.1 (ci := 11) (q0 := 0) rfl (wL_get (by decide)), fun U hU hV => ⟨rfl, hW.pre hU hV trivial⟩⟩ rfl rfl hl.1 rfl (lv_room (Nat.le_of_ble_eq_true rfl)) dX11_share_106 ⟨Nat.zero_le _, Nat.zero_le _⟩) (fun r40 u H locs h hW => ?_)
                  obtain ⟨f41, a42⟩ := u
                  replace hW : hw D [(cI, .int)] q 12 (gM q cI f41 a42) A s H locs := hW
                  refine lv_imul C.1 C.2.1 dX11_share_109 ?_
                  refine lv_i2l C.1 C.2.1 dX11_share_110 rfl ?_
                  refine lv_ladd C.1 C.2.1 dX11_share_111 ?_
                  refine lv_iload_n C.1 C.2.1 dX11_share_112 rfl (lv_at hl 4 rfl) ?_
                  refine k_pl hW (va_runS (As := [.long x4_36, .long (x4_36 + ((r37 * r40).toInt64)), .int x3]) (rest := []) C (mtX11_reduced l D q _ H.size x4_36 (x4_36 + ((r37 * r40).toInt64)) x3 _ h) (va_cwS 3 C.2.2.2.2 gX11_share_X11_reduced rfl rfl rfl (by decide +kernel) ⟨Nat.le_of_ble_eq_true rfl, Nat.le_of_ble_eq_true rfl⟩) ⟨mP_blind tX_B, fun U hU hV => ⟨rfl, hW.pre0 hU hV trivial⟩⟩ rfl rfl hl.1 rfl (lv_room (Nat.le_of_ble_eq_true rfl)) dX11_share_113 ⟨Nat.zero_le _, Nat.zero_le _⟩) (fun r43 H locs h hW => ?_)
                  exact t_l C hr hlk (u := (f41, a42)) hW.2.2.2.1 hW.B h dX11_share_116
                · replace h := h.2 c29
                  exact sX11_share_73 C hr hlk Q f27 a28 _ _ _ h hW (lv_sub hl [] rfl)
        · replace h := h.2 c12
          exact sX11_share_31 C hr hlk Q f7 a8 _ _ _ h hW (lv_sub hl [] rfl)
set_option maxRecDepth 100000 in
set_option maxHeartbeats 4000000 in
theorem mtX11_share (l : Launch) (D : va_G) (q : Nat → Nat) (cI : ClassId) (sz : Nat) (x1 : Int32) (x2 : Int32) (x3 : Int32) (f : Nat → Int32) (a : Nat → Nat → Int32) (Q : Int64 → (Nat → Int32) → (Nat → Nat → Int32) → Prop) (h : vX11_share x1 x2 x3 f a Q) : Met l yX11_share wsX11_share rmX11_share (va_Pc [.ref (q 0), .int x1, .int x2, .int x3] (mP D [(cI, .int)] q 12 (gM q cI f a) sz tX)) (QMl D q cI Q (aQ q 12 sz)) 0 0 (aQ q 12 sz) := by
  refine met_w (cc := cX11_share) (maxL := 6) (ret := (some .long)) (by decide) rfl (Nat.le_of_ble_eq_true rfl) ?_
  intro p e s m below meth c ls C hr hlk hW hX hnm hl
  exact sX11_share C hr hlk Q x1 x2 x3 f a _ _ _ h hW hl
theorem inX11_best : ∀ w ∈ wsX110, w ∈ wsX11_best := fun _ h => List.mem_cons_of_mem _ (List.mem_append_right _ h)
abbrev rmX11_best : Room := { frames := 5, cells := 0, slots := 0, locals := 118 }
def vX11_best_128 (K41 : Int32 → Int32 → Int32 → Int32 → Int32 → (Nat → Int32) → (Nat → Nat → Int32) → Prop) (Q : Int32 → (Nat → Int32) → (Nat → Nat → Int32) → Prop) (x1 : Int32) (x2 : Int32) (x3 : Int32) (x4 : Int32) (x5 : Int32) (f : Nat → Int32) (a : Nat → Nat → Int32) : Prop := ∀ x5_7 : Int32, x5_7 = x5 + (1 : Int32) → K41 x1 x2 x3 x4 x5_7 f a
def vX11_best_126 (K41 : Int32 → Int32 → Int32 → Int32 → Int32 → (Nat → Int32) → (Nat → Nat → Int32) → Prop) (Q : Int32 → (Nat → Int32) → (Nat → Nat → Int32) → Prop) (x1 : Int32) (x2 : Int32) (x3 : Int32) (x5 : Int32) (y0 : Int32) (f : Nat → Int32) (a : Nat → Nat → Int32) : Prop := vX11_best_128 K41 Q x1 x2 x3 y0 x5 f a
def vX11_best_113 (K41 : Int32 → Int32 → Int32 → Int32 → Int32 → (Nat → Int32) → (Nat → Nat → Int32) → Prop) (Q : Int32 → (Nat → Int32) → (Nat → Nat → Int32) → Prop) (x1 : Int32) (x2 : Int32) (x4 : Int32) (x5 : Int32) (x6 : Int32) (x7 : Int32) (y0 : Int32) (f : Nat → Int32) (a : Nat → Nat → Int32) : Prop := (x7 = 0 → vX11_best_126 K41 Q x1 x2 y0 x5 x4 f a) ∧ (¬ (x7 = 0) → vX11_best_126 K41 Q x1 x2 y0 x5 x6 f a)
def vX11_best_100 (K41 : Int32 → Int32 → Int32 → Int32 → Int32 → (Nat → Int32) → (Nat → Nat → Int32) → Prop) (Q : Int32 → (Nat → Int32) → (Nat → Nat → Int32) → Prop) (x1 : Int32) (x2 : Int32) (x3 : Int32) (x4 : Int32) (x5 : Int32) (x6 : Int32) (y0 : Int32) (f : Nat → Int32) (a : Nat → Nat → Int32) : Prop := (y0 = 0 → vX11_best_113 K41 Q x1 x2 x4 x5 x6 y0 x3 f a) ∧ (¬ (y0 = 0) → vX11_best_113 K41 Q x1 x2 x4 x5 x6 y0 x5 f a)
def vX11_best_95 (K41 : Int32 → Int32 → Int32 → Int32 → Int32 → (Nat → Int32) → (Nat → Nat → Int32) → Prop) (Q : Int32 → (Nat → Int32) → (Nat → Nat → Int32) → Prop) (x1 : Int32) (x2 : Int32) (x3 : Int32) (x4 : Int32) (x5 : Int32) (x6 : Int32) (f : Nat → Int32) (a : Nat → Nat → Int32) : Prop := vX11_best_100 K41 Q x1 x2 x3 x4 x5 x6 (1 : Int32) f a
def vX11_best_41 (Q : Int32 → (Nat → Int32) → (Nat → Nat → Int32) → Prop) : Nat → Int32 → Int32 → Int32 → Int32 → Int32 → (Nat → Int32) → (Nat → Nat → Int32) → Prop
  | 0, _, _, _, _, _, _, _ => False
  | fu+1, x1, x2, x3, x4, x5, f, a => ((f 1) ≤ x5 → Q x3 f a) ∧ (¬ ((f 1) ≤ x5) → (¬ ((x1 >>> (x5 &&& 31)) &&& (1 : Int32)) = (1 : Int32) → vX11_best_128 (vX11_best_41 Q fu) Q x1 x2 x3 x4 x5 f a) ∧ (((x1 >>> (x5 &&& 31)) &&& (1 : Int32)) = (1 : Int32) → vX11_begin x5 (-9 : Int32) (100 : Int32) (50 : Int32) x2 f a (fun f8 a9 => vX11_goRound  f8 a9 (fun f10 a11 => vX11_extreme (3 : Int32) f10 a11 (fun r12 f13 a14 => (x3 < 0 → vX11_best_95 (vX11_best_41 Q fu) Q x1 x2 x3 x4 x5 r12 f13 a14) ∧ (¬ (x3 < 0) → (r12 ≤ x4 → vX11_best_100 (vX11_best_41 Q fu) Q x1 x2 x3 x4 x5 r12 (0 : Int32) f13 a14) ∧ (¬ (r12 ≤ x4) → vX11_best_95 (vX11_best_41 Q fu) Q x1 x2 x3 x4 x5 r12 f13 a14)))))))
def vX11_best (x1 : Int32) (x2 : Int32) (f : Nat → Int32) (a : Nat → Nat → Int32) (Q : Int32 → (Nat → Int32) → (Nat → Nat → Int32) → Prop) : Prop := vX11_in x1.toInt64 (0 : Int64) (((1 : Int64) <<< ((f 1).toInt64 &&& 63)) - (1 : Int64)) (fun r1 => (r1 = 0 → Q (-2 : Int32) f a) ∧ (¬ (r1 = 0) → vX11_in x2.toInt64 (0 : Int64) (100 : Int64) (fun r3 => (¬ r3 = 0 → ∃ n41, vX11_best_41 Q n41 x1 x2 (-9 : Int32) (0 : Int32) (0 : Int32) f a) ∧ (r3 = 0 → Q (-2 : Int32) f a))))
set_option maxRecDepth 100000 in
set_option maxHeartbeats 4000000 in
theorem sX11_best_128 {p : Program} {l : Launch} {e : Env} {s : State} {m : MethodId} {args : Array Value} {below : List Frame} {meth : Method} {c : Code} {D : va_G} {q : Nat → Nat} {A : Nat → Prop} {cI : ClassId} (C : CallFix p m c cX11_best 8 s args wsX11_best RX11) (hr : meth.sig.returnType = (some .int)) (hlk : meth.locks = false) (Q : Int32 → (Nat → Int32) → (Nat → Nat → Int32) → Prop) (K41 : Int32 → Int32 → Int32 → Int32 → Int32 → (Nat → Int32) → (Nat → Nat → Int32) → Prop) (hK41 : ∀ (x1 : Int32) (x2 : Int32) (x3 : Int32) (x4 : Int32) (x5 : Int32) (f : Nat → Int32) (a : Nat → Nat → Int32) (H : Heap) (locs : List Loc) (ls : Array Slot), K41 x1 x2 x3 x4 x5 f a → hw D [(cI, .int)] q 12 (gM q cI f a) A s H locs → lv_has ls 8 [(0, .ref (q 0)), (1, .int x1), (2, .int x2), (3, .int x3), (4, .int x4), (5, .int x5)] → W p l e (headSpec wsX11_best rmX11_best).room s m args below meth c H locs 0 0 (MQ below (QMi D q cI Q A) args s 0 0 A) (F0 m 41 ls [])) : ∀ (x1 : Int32) (x2 : Int32) (x3 : Int32) (x4 : Int32) (x5 : Int32) (f : Nat → Int32) (a : Nat → Nat → Int32) (H : Heap) (locs : List Loc) (ls : Array Slot), vX11_best_128 K41 Q x1 x2 x3 x4 x5 f a → hw D [(cI, .int)] q 12 (gM q cI f a) A s H locs → lv_has ls 8 [(0, .ref (q 0)), (1, .int x1), (2, .int x2), (3, .int x3), (4, .int x4), (5, .int x5)] → W p l e (headSpec wsX11_best rmX11_best).room s m args below meth c H locs 0 0 (MQ below (QMi D q cI Q A) args s 0 0 A) (F0 m 128 ls []) := by
  intro x1 x2 x3 x4 x5 f a H locs ls h hW hl
  unfold vX11_best_128 at h
  obtain ⟨x5_7, ex5_7⟩ : ∃ z : Int32, z = x5 + (1 : Int32) := ⟨_, rfl⟩
  replace h := h x5_7 ex5_7
  refine lv_iinc (v := x5_7) (lv' := [(5, .int x5_7), (0, .ref (q 0)), (1, .int x1), (2, .int x2), (3, .int x3), (4, .int x4)]) C.1 C.2.1 dX11_best_128 hl (k := 5) rfl (by rw [ex5_7]; rfl) (by decide) rfl (fun ls hl => ?_)
  refine lv_goto (tgt := 41) C.1 C.2.1 dX11_best_131 (by decide) ?_
  exact hK41 x1 x2 x3 x4 x5_7 f a _ _ _ h hW (lv_sub hl [1, 2, 3, 4, 5, 0] rfl)
set_option maxRecDepth 100000 in
set_option maxHeartbeats 4000000 in
theorem sX11_best_126 {p : Program} {l : Launch} {e : Env} {s : State} {m : MethodId} {args : Array Value} {below : List Frame} {meth : Method} {c : Code} {D : va_G} {q : Nat → Nat} {A : Nat → Prop} {cI : ClassId} (C : CallFix p m c cX11_best 8 s args wsX11_best RX11) (hr : meth.sig.returnType = (some .int)) (hlk : meth.locks = false) (Q : Int32 → (Nat → Int32) → (Nat → Nat → Int32) → Prop) (K41 : Int32 → Int32 → Int32 → Int32 → Int32 → (Nat → Int32) → (Nat → Nat → Int32) → Prop) (hK41 : ∀ (x1 : Int32) (x2 : Int32) (x3 : Int32) (x4 : Int32) (x5 : Int32) (f : Nat → Int32) (a : Nat → Nat → Int32) (H : Heap) (locs : List Loc) (ls : Array Slot), K41 x1 x2 x3 x4 x5 f a → hw D [(cI, .int)] q 12 (gM q cI f a) A s H locs → lv_has ls 8 [(0, .ref (q 0)), (1, .int x1), (2, .int x2), (3, .int x3), (4, .int x4), (5, .int x5)] → W p l e (headSpec wsX11_best rmX11_best).room s m args below meth c H locs 0 0 (MQ below (QMi D q cI Q A) args s 0 0 A) (F0 m 41 ls [])) : ∀ (x1 : Int32) (x2 : Int32) (x3 : Int32) (x5 : Int32) (y0 : Int32) (f : Nat → Int32) (a : Nat → Nat → Int32) (H : Heap) (locs : List Loc) (ls : Array Slot), vX11_best_126 K41 Q x1 x2 x3 x5 y0 f a → hw D [(cI, .int)] q 12 (gM q cI f a) A s H locs → lv_has ls 8 [(0, .ref (q 0)), (1, .int x1), (2, .int x2), (3, .int x3), (5, .int x5)] → W p l e (headSpec wsX11_best rmX11_best).room s m args below meth c H locs 0 0 (MQ below (QMi D q cI Q A) args s 0 0 A) (F0 m 126 ls [.int y0]) := by
  intro x1 x2 x3 x5 y0 f a H locs ls h hW hl
  unfold vX11_best_126 at h
  refine lv_istore (lv' := [(4, .int y0), (0, .ref (q 0)), (1, .int x1), (2, .int x2), (3, .int x3), (5, .int x5)]) C.1 C.2.1 dX11_best_126 hl (by decide) rfl (fun ls hl => ?_)
  exact sX11_best_128 C hr hlk Q K41 hK41 x1 x2 x3 y0 x5 f a _ _ _ h hW (lv_sub hl [1, 2, 3, 4, 0, 5] rfl)
set_option maxRecDepth 100000 in
set_option maxHeartbeats 4000000 in
theorem sX11_best_113 {p : Program} {l : Launch} {e : Env} {s : State} {m : MethodId} {args : Array Value} {below : List Frame} {meth : Method} {c : Code} {D : va_G} {q : Nat → Nat} {A : Nat → Prop} {cI : ClassId} (C : CallFix p m c cX11_best 8 s args wsX11_best RX11) (hr : meth.sig.returnType = (some .int)) (hlk : meth.locks = false) (Q : Int32 → (Nat → Int32) → (Nat → Nat → Int32) → Prop) (K41 : Int32 → Int32 → Int32 → Int32 → Int32 → (Nat → Int32) → (Nat → Nat → Int32) → Prop) (hK41 : ∀ (x1 : Int32) (x2 : Int32) (x3 : Int32) (x4 : Int32) (x5 : Int32) (f : Nat → Int32) (a : Nat → Nat → Int32) (H : Heap) (locs : List Loc) (ls : Array Slot), K41 x1 x2 x3 x4 x5 f a → hw D [(cI, .int)] q 12 (gM q cI f a) A s H locs → lv_has ls 8 [(0, .ref (q 0)), (1, .int x1), (2, .int x2), (3, .int x3), (4, .int x4), (5, .int x5)] → W p l e (headSpec wsX11_best rmX11_best).room s m args below meth c H locs 0 0 (MQ below (QMi D q cI Q A) args s 0 0 A) (F0 m 41 ls [])) : ∀ (x1 : Int32) (x2 : Int32) (x4 : Int32) (x5 : Int32) (x6 : Int32) (x7 : Int32) (y0 : Int32) (f : Nat → Int32) (a : Nat → Nat → Int32) (H : Heap) (locs : List Loc) (ls : Array Slot), vX11_best_113 K41 Q x1 x2 x4 x5 x6 x7 y0 f a → hw D [(cI, .int)] q 12 (gM q cI f a) A s H locs → lv_has ls 8 [(0, .ref (q 0)), (1, .int x1), (2, .int x2), (4, .int x4), (5, .int x5), (6, .int x6), (7, .int x7)] → W p l e (headSpec wsX11_best rmX11_best).room s m args below meth c H locs 0 0 (MQ below (QMi D q cI Q A) args s 0 0 A) (F0 m 113 ls [.int y0]) := by
  intro x1 x2 x4 x5 x6 x7 y0 f a H locs ls h hW hl
  unfold vX11_best_113 at h
  refine lv_istore_n (lv' := [(3, .int y0), (0, .ref (q 0)), (1, .int x1), (2, .int x2), (4, .int x4), (5, .int x5), (6, .int x6), (7, .int x7)]) C.1 C.2.1 dX11_best_113 rfl hl (by decide) rfl (fun ls hl => ?_)
  refine lv_iload C.1 C.2.1 dX11_best_114 (lv_at hl 7 rfl) ?_
  refine lv_if_eq (tgt := 124) C.1 C.2.1 dX11_best_116 (by decide) (fun c17 => ?_) (fun c17 => ?_)
  · replace h := h.1 c17
    refine lv_iload C.1 C.2.1 dX11_best_124 (lv_at hl 4 rfl) ?_
    exact sX11_best_126 C hr hlk Q K41 hK41 x1 x2 y0 x5 x4 f a _ _ _ h hW (lv_sub hl [1, 2, 3, 0, 5] rfl)
  · replace h := h.2 c17
    refine lv_iload C.1 C.2.1 dX11_best_119 (lv_at hl 6 rfl) ?_
    refine lv_goto (tgt := 126) C.1 C.2.1 dX11_best_121 (by decide) ?_
    exact sX11_best_126 C hr hlk Q K41 hK41 x1 x2 y0 x5 x6 f a _ _ _ h hW (lv_sub hl [1, 2, 3, 0, 5] rfl)
set_option maxRecDepth 100000 in
set_option maxHeartbeats 4000000 in
theorem sX11_best_100 {p : Program} {l : Launch} {e : Env} {s : State} {m : MethodId} {args : Array Value} {below : List Frame} {meth : Method} {c : Code} {D : va_G} {q : Nat → Nat} {A : Nat → Prop} {cI : ClassId} (C : CallFix p m c cX11_best 8 s args wsX11_best RX11) (hr : meth.sig.returnType = (some .int)) (hlk : meth.locks = false) (Q : Int32 → (Nat → Int32) → (Nat → Nat → Int32) → Prop) (K41 : Int32 → Int32 → Int32 → Int32 → Int32 → (Nat → Int32) → (Nat → Nat → Int32) → Prop) (hK41 : ∀ (x1 : Int32) (x2 : Int32) (x3 : Int32) (x4 : Int32) (x5 : Int32) (f : Nat → Int32) (a : Nat → Nat → Int32) (H : Heap) (locs : List Loc) (ls : Array Slot), K41 x1 x2 x3 x4 x5 f a → hw D [(cI, .int)] q 12 (gM q cI f a) A s H locs → lv_has ls 8 [(0, .ref (q 0)), (1, .int x1), (2, .int x2), (3, .int x3), (4, .int x4), (5, .int x5)] → W p l e (headSpec wsX11_best rmX11_best).room s m args below meth c H locs 0 0 (MQ below (QMi D q cI Q A) args s 0 0 A) (F0 m 41 ls [])) : ∀ (x1 : Int32) (x2 : Int32) (x3 : Int32) (x4 : Int32) (x5 : Int32) (x6 : Int32) (y0 : Int32) (f : Nat → Int32) (a : Nat → Nat → Int32) (H : Heap) (locs : List Loc) (ls : Array Slot), vX11_best_100 K41 Q x1 x2 x3 x4 x5 x6 y0 f a → hw D [(cI, .int)] q 12 (gM q cI f a) A s H locs → lv_has ls 8 [(0, .ref (q 0)), (1, .int x1), (2, .int x2), (3, .int x3), (4, .int x4), (5, .int x5), (6, .int x6)] → W p l e (headSpec wsX11_best rmX11_best).room s m args below meth c H locs 0 0 (MQ below (QMi D q cI Q A) args s 0 0 A) (F0 m 100 ls [.int y0]) := by
  intro x1 x2 x3 x4 x5 x6 y0 f a H locs ls h hW hl
  unfold vX11_best_100 at h
  refine lv_istore (lv' := [(7, .int y0), (0, .ref (q 0)), (1, .int x1), (2, .int x2), (3, .int x3), (4, .int x4), (5, .int x5), (6, .int x6)]) C.1 C.2.1 dX11_best_100 hl (by decide) rfl (fun ls hl => ?_)
  refine lv_iload C.1 C.2.1 dX11_best_102 (lv_at hl 0 rfl) ?_
  refine lv_if_eq (tgt := 112) C.1 C.2.1 dX11_best_104 (by decide) (fun c16 => ?_) (fun c16 => ?_)
  · replace h := h.1 c16
    refine lv_iload_n C.1 C.2.1 dX11_best_112 rfl (lv_at hl 4 rfl) ?_
    exact sX11_best_113 C hr hlk Q K41 hK41 x1 x2 x4 x5 x6 y0 x3 f a _ _ _ h hW (lv_sub hl [1, 2, 3, 5, 6, 7, 0] rfl)
  · replace h := h.2 c16
    refine lv_iload C.1 C.2.1 dX11_best_107 (lv_at hl 6 rfl) ?_
    refine lv_goto (tgt := 113) C.1 C.2.1 dX11_best_109 (by decide) ?_
    exact sX11_best_113 C hr hlk Q K41 hK41 x1 x2 x4 x5 x6 y0 x5 f a _ _ _ h hW (lv_sub hl [1, 2, 3, 5, 6, 7, 0] rfl)
set_option maxRecDepth 100000 in
set_option maxHeartbeats 4000000 in
theorem sX11_best_95 {p : Program} {l : Launch} {e : Env} {s : State} {m : MethodId} {args : Array Value} {below : List Frame} {meth : Method} {c : Code} {D : va_G} {q : Nat → Nat} {A : Nat → Prop} {cI : ClassId} (C : CallFix p m c cX11_best 8 s args wsX11_best RX11) (hr : meth.sig.returnType = (some .int)) (hlk : meth.locks = false) (Q : Int32 → (Nat → Int32) → (Nat → Nat → Int32) → Prop) (K41 : Int32 → Int32 → Int32 → Int32 → Int32 → (Nat → Int32) → (Nat → Nat → Int32) → Prop) (hK41 : ∀ (x1 : Int32) (x2 : Int32) (x3 : Int32) (x4 : Int32) (x5 : Int32) (f : Nat → Int32) (a : Nat → Nat → Int32) (H : Heap) (locs : List Loc) (ls : Array Slot), K41 x1 x2 x3 x4 x5 f a → hw D [(cI, .int)] q 12 (gM q cI f a) A s H locs → lv_has ls 8 [(0, .ref (q 0)), (1, .int x1), (2, .int x2), (3, .int x3), (4, .int x4), (5, .int x5)] → W p l e (headSpec wsX11_best rmX11_best).room s m args below meth c H locs 0 0 (MQ below (QMi D q cI Q A) args s 0 0 A) (F0 m 41 ls [])) : ∀ (x1 : Int32) (x2 : Int32) (x3 : Int32) (x4 : Int32) (x5 : Int32) (x6 : Int32) (f : Nat → Int32) (a : Nat → Nat → Int32) (H : Heap) (locs : List Loc) (ls : Array Slot), vX11_best_95 K41 Q x1 x2 x3 x4 x5 x6 f a → hw D [(cI, .int)] q 12 (gM q cI f a) A s H locs → lv_has ls 8 [(0, .ref (q 0)), (1, .int x1), (2, .int x2), (3, .int x3), (4, .int x4), (5, .int x5), (6, .int x6)] → W p l e (headSpec wsX11_best rmX11_best).room s m args below meth c H locs 0 0 (MQ below (QMi D q cI Q A) args s 0 0 A) (F0 m 95 ls []) := by
  intro x1 x2 x3 x4 x5 x6 f a H locs ls h hW hl
  unfold vX11_best_95 at h
  refine lv_iconst (v := 1) C.1 C.2.1 dX11_best_95 (by decide) ?_
  refine lv_goto (tgt := 100) C.1 C.2.1 dX11_best_96 (by decide) ?_
  exact sX11_best_100 C hr hlk Q K41 hK41 x1 x2 x3 x4 x5 x6 (1 : Int32) f a _ _ _ h hW (lv_sub hl [0, 1, 2, 3, 4, 5, 6] rfl)
set_option maxRecDepth 100000 in
set_option maxHeartbeats 4000000 in
theorem sX11_best_41 {p : Program} {l : Launch} {e : Env} {s : State} {m : MethodId} {args : Array Value} {below : List Frame} {meth : Method} {c : Code} {D : va_G} {q : Nat → Nat} {A : Nat → Prop} {cI : ClassId} (C : CallFix p m c cX11_best 8 s args wsX11_best RX11) (hr : meth.sig.returnType = (some .int)) (hlk : meth.locks = false) (Q : Int32 → (Nat → Int32) → (Nat → Nat → Int32) → Prop) : ∀ (fu : Nat) (x1 : Int32) (x2 : Int32) (x3 : Int32) (x4 : Int32) (x5 : Int32) (f : Nat → Int32) (a : Nat → Nat → Int32) (H : Heap) (locs : List Loc) (ls : Array Slot), vX11_best_41 Q fu x1 x2 x3 x4 x5 f a → hw D [(cI, .int)] q 12 (gM q cI f a) A s H locs → lv_has ls 8 [(0, .ref (q 0)), (1, .int x1), (2, .int x2), (3, .int x3), (4, .int x4), (5, .int x5)] → W p l e (headSpec wsX11_best rmX11_best).room s m args below meth c H locs 0 0 (MQ below (QMi D q cI Q A) args s 0 0 A) (F0 m 41 ls []) := by
  intro fu
  induction fu with
  | zero =>
    intro x1 x2 x3 x4 x5 f a H locs ls h
    exact h.elim
  | succ fu ih =>
    intro x1 x2 x3 x4 x5 f a H locs ls h hW hl
    refine lv_iload C.1 C.2.1 dX11_best_41 (lv_at hl 5 rfl) ?_
    refine lv_aload_n C.1 C.2.1 dX11_best_43 rfl (lv_at hl 0 rfl) ?_
    refine r_get C hW (ci := 11) (T := TX11) (n := 21) (ref := "BallMinderModel") (v := .int (f 1)) 0 (by decide) rfl rfl 1 (by decide) inX11_best (by decide +kernel) (fun _ h9 => h9) rfl dX11_best_44 ?_
    refine lv_icmp_ge (tgt := 134) C.1 C.2.1 dX11_best_47 (by decide) (fun c5 => ?_) (fun c5 => ?_)
    · replace h := h.1 c5
      refine lv_iload_n C.1 C.2.1 dX11_best_134 rfl (lv_at hl 3 rfl) ?_
      exact t_i C hr hlk (u := (f, a)) hW.2.2.2.1 hW.B h dX11_best_135
    · replace h := h.2 c5
      refine lv_iload_n C.1 C.2.1 dX11_best_50 rfl (lv_at hl 1 rfl) ?_
      refine lv_iload C.1 C.2.1 dX11_best_51 (lv_at hl 5 rfl) ?_
      refine lv_ishr C.1 C.2.1 dX11_best_53 ?_
      refine lv_iconst (v := 1) C.1 C.2.1 dX11_best_54 (by decide) ?_
      refine lv_iand C.1 C.2.1 dX11_best_55 ?_
      refine lv_iconst (v := 1) C.1 C.2.1 dX11_best_56 (by decide) ?_
      refine lv_icmp_ne (tgt := 128) C.1 C.2.1 dX11_best_57 (by decide) (fun c6 => ?_) (fun c6 => ?_)
      · replace h := h.1 c6
        exact sX11_best_128 C hr hlk Q _ ih x1 x2 x3 x4 x5 f a _ _ _ h hW (lv_sub hl [0, 1, 2, 3, 4, 5] rfl)
      · replace h := h.2 c6
        refine lv_aload_n C.1 C.2.1 dX11_best_60 rfl (lv_at hl 0 rfl) ?_
        refine lv_iload C.1 C.2.1 dX11_best_61 (lv_at hl 5 rfl) ?_
        refine lv_bipush (v := -9) C.1 C.2.1 dX11_best_63 (by decide) ?_
        refine lv_bipush (v := 100) C.1 C.2.1 dX11_best_65 (by decide) ?_
        refine lv_bipush (v := 50) C.1 C.2.1 dX11_best_67 (by decide) ?_
        refine lv_iload_n C.1 C.2.1 dX11_best_69 rfl (lv_at hl 2 rfl) ?_
        refine k_v hW (va_runV (As := [.int x5, .int (-9 : Int32), .int (100 : Int32), .int (50 : Int32), .int x2]) (rest := []) C (mtX11_begin l D q cI H.size x5 (-9 : Int32) (100 : Int32) (50 : Int32) x2 f a _ h) (cwV 5 C.2.2.2.2 gX11_best_X11_begin rfl rfl rfl (by decide +kernel) ⟨Nat.le_of_ble_eq_true rfl, Nat.le_of_ble_eq_true rfl⟩) ⟨mP_blind tX_B, va_recv hW.1 hW.2.1 (ci := 11) (q0 := 0) rfl (wL_get (by decide)), fun U hU hV => ⟨rfl, hW.pre hU hV trivial⟩⟩ rfl rfl hl.1 rfl (lv_room (Nat.le_of_ble_eq_true rfl)) dX11_best_70 ⟨Nat.zero_le _, Nat.zero_le _⟩) (fun u H locs h hW => ?_)
        obtain ⟨f8, a9⟩ := u
        replace hW : hw D [(cI, .int)] q 12 (gM q cI f8 a9) A s H locs := hW
        refine lv_aload_n C.1 C.2.1 dX11_best_73 rfl (lv_at hl 0 rfl) ?_
        refine k_v hW (va_runV (As := []) (rest := []) C (mtX11_goRound l D q cI H.size  f8 a9 _ h) (cwV 0 C.2.2.2.2 gX11_best_X11_goRound rfl rfl rfl (by decide +kernel) ⟨Nat.le_of_ble_eq_true rfl, Nat.le_of_ble_eq_true rfl⟩) ⟨mP_blind tX_B, va_recv hW.1 hW.2.1 (ci := 11) (q0 := 0) rfl (wL_get (by decide)), fun U hU hV => ⟨rfl, hW.pre hU hV trivial⟩⟩ rfl rfl hl.1 rfl (lv_room (Nat.le_of_ble_eq_true rfl)) dX11_best_74 ⟨Nat.zero_le _, Nat.zero_le _⟩) (fun u H locs h hW => ?_)
        obtain ⟨f10, a11⟩ := u
        replace hW : hw D [(cI, .int)] q 12 (gM q cI f10 a11) A s H locs := hW
        refine lv_aload_n C.1 C.2.1 dX11_best_77 rfl (lv_at hl 0 rfl) ?_
        refine lv_iconst (v := 3) C.1 C.2.1 dX11_best_78 (by decide) ?_
        refine k_i hW (va_runV (As := [.int (3 : Int32)]) (rest := []) C (mtX11_extreme l D q cI H.size (3 : Int32) f10 a11 _ h) (cwV 1 C.2.2.2.2 gX11_best_X11_extreme rfl rfl rfl (by decide +kernel) ⟨Nat.le_of_ble_eq_true rfl, Nat.le_of_ble_eq_true rfl⟩) ⟨mP_blind tX_B, va_recv hW.1 hW.2.1 (ci := 11) (q0 := 0) rfl (wL_get (by decide)), fun U hU hV => ⟨rfl, hW.pre hU hV trivial⟩⟩ rfl rfl hl.1 rfl (lv_room (Nat.le_of_ble_eq_true rfl)) dX11_best_79 ⟨Nat.zero_le _, Nat.zero_le _⟩) (fun r12 u H locs h hW => ?_)
        obtain ⟨f13, a14⟩ := u
        replace hW : hw D [(cI, .int)] q 12 (gM q cI f13 a14) A s H locs := hW
        refine lv_istore (lv' := [(6, .int r12), (0, .ref (q 0)), (1, .int x1), (2, .int x2), (3, .int x3), (4, .int x4), (5, .int x5)]) C.1 C.2.1 dX11_best_82 hl (by decide) rfl (fun ls hl => ?_)
        refine lv_iload_n C.1 C.2.1 dX11_best_84 rfl (lv_at hl 4 rfl) ?_
        refine lv_if_lt (tgt := 95) C.1 C.2.1 dX11_best_85 (by decide) (fun c15 => ?_) (fun c15 => ?_)
        · replace h := h.1 c15
          exact sX11_best_95 C hr hlk Q _ ih x1 x2 x3 x4 x5 r12 f13 a14 _ _ _ h hW (lv_sub hl [1, 2, 3, 4, 5, 6, 0] rfl)
        · replace h := h.2 c15
          refine lv_iload C.1 C.2.1 dX11_best_88 (lv_at hl 0 rfl) ?_
          refine lv_iload C.1 C.2.1 dX11_best_90 (lv_at hl 5 rfl) ?_
          refine lv_icmp_le (tgt := 99) C.1 C.2.1 dX11_best_92 (by decide) (fun c18 => ?_) (fun c18 => ?_)
          · replace h := h.1 c18
            refine lv_iconst (v := 0) C.1 C.2.1 dX11_best_99 (by decide) ?_
            exact sX11_best_100 C hr hlk Q _ ih x1 x2 x3 x4 x5 r12 (0 : Int32) f13 a14 _ _ _ h hW (lv_sub hl [1, 2, 3, 4, 5, 6, 0] rfl)
          · replace h := h.2 c18
            exact sX11_best_95 C hr hlk Q _ ih x1 x2 x3 x4 x5 r12 f13 a14 _ _ _ h hW (lv_sub hl [1, 2, 3, 4, 5, 6, 0] rfl)
set_option maxRecDepth 100000 in
set_option maxHeartbeats 4000000 in
theorem sX11_best {p : Program} {l : Launch} {e : Env} {s : State} {m : MethodId} {args : Array Value} {below : List Frame} {meth : Method} {c : Code} {D : va_G} {q : Nat → Nat} {A : Nat → Prop} {cI : ClassId} (C : CallFix p m c cX11_best 8 s args wsX11_best RX11) (hr : meth.sig.returnType = (some .int)) (hlk : meth.locks = false) (Q : Int32 → (Nat → Int32) → (Nat → Nat → Int32) → Prop) : ∀ (x1 : Int32) (x2 : Int32) (f : Nat → Int32) (a : Nat → Nat → Int32) (H : Heap) (locs : List Loc) (ls : Array Slot), vX11_best x1 x2 f a Q → hw D [(cI, .int)] q 12 (gM q cI f a) A s H locs → lv_has ls 8 [(0, .ref (q 0)), (1, .int x1), (2, .int x2)] → W p l e (headSpec wsX11_best rmX11_best).room s m args below meth c H locs 0 0 (MQ below (QMi D q cI Q A) args s 0 0 A) (F0 m 0 ls []) := by
  intro x1 x2 f a H locs ls h hW hl
  unfold vX11_best at h
  refine lv_iload_n C.1 C.2.1 dX11_best_0 rfl (lv_at hl 1 rfl) ?_
  refine lv_i2l C.1 C.2.1 dX11_best_1 rfl ?_
  refine lv_lconst (v := 0) C.1 C.2.1 dX11_best_2 (by decide) ?_
  refine lv_lconst (v := 1) C.1 C.2.1 dX11_best_3 (by decide) ?_
  refine lv_aload_n C.1 C.2.1 dX11_best_4 rfl (lv_at hl 0 rfl) ?_
  refine r_get C hW (ci := 11) (T := TX11) (n := 21) (ref := "BallMinderModel") (v := .int (f 1)) 0 (by decide) rfl rfl 1 (by decide) inX11_best (by decide +kernel) (fun _ h9 => h9) rfl dX11_best_5 ?_
  refine lv_lshl C.1 C.2.1 dX11_best_8 rfl ?_
  refine lv_lconst (v := 1) C.1 C.2.1 dX11_best_9 (by decide) ?_
  refine lv_lsub C.1 C.2.1 dX11_best_10 ?_
  refine k_pi hW (va_runS (As := [.long x1.toInt64, .long (0 : Int64), .long (((1 : Int64) <<< ((f 1).toInt64 &&& 63)) - (1 : Int64))]) (rest := []) C (mtX11_in l D q _ H.size x1.toInt64 (0 : Int64) (((1 : Int64) <<< ((f 1).toInt64 &&& 63)) - (1 : Int64)) _ h) (va_cwS 3 C.2.2.2.2 gX11_best_X11_in rfl rfl rfl (by decide +kernel) ⟨Nat.le_of_ble_eq_true rfl, Nat.le_of_ble_eq_true rfl⟩) ⟨mP_blind tX_B, fun U hU hV => ⟨rfl, hW.pre0 hU hV trivial⟩⟩ rfl rfl hl.1 rfl (lv_room (Nat.le_of_ble_eq_true rfl)) dX11_best_11 ⟨Nat.zero_le _, Nat.zero_le _⟩) (fun r1 H locs h hW => ?_)
  refine lv_if_eq (tgt := 29) C.1 C.2.1 dX11_best_14 (by decide) (fun c2 => ?_) (fun c2 => ?_)
  · replace h := h.1 c2
    refine lv_bipush (v := -2) C.1 C.2.1 dX11_best_29 (by decide) ?_
    exact t_i C hr hlk (u := (f, a)) hW.2.2.2.1 hW.B h dX11_best_31
  · replace h := h.2 c2
    refine lv_iload_n C.1 C.2.1 dX11_best_17 rfl (lv_at hl 2 rfl) ?_
    refine lv_i2l C.1 C.2.1 dX11_best_18 rfl ?_
    refine lv_lconst (v := 0) C.1 C.2.1 dX11_best_19 (by decide) ?_
    refine lv_ldc2 (v := (100)) C.1 C.2.1 C.2.2.2.1 (C.2.2.2.2 (.constantLong RX11 187 (100)) (by decide +kernel)) dX11_best_20 ?_
    refine k_pi hW (va_runS (As := [.long x2.toInt64, .long (0 : Int64), .long (100 : Int64)]) (rest := []) C (mtX11_in l D q _ H.size x2.toInt64 (0 : Int64) (100 : Int64) _ h) (va_cwS 3 C.2.2.2.2 gX11_best_X11_in rfl rfl rfl (by decide +kernel) ⟨Nat.le_of_ble_eq_true rfl, Nat.le_of_ble_eq_true rfl⟩) ⟨mP_blind tX_B, fun U hU hV => ⟨rfl, hW.pre0 hU hV trivial⟩⟩ rfl rfl hl.1 rfl (lv_room (Nat.le_of_ble_eq_true rfl)) dX11_best_23 ⟨Nat.zero_le _, Nat.zero_le _⟩) (fun r3 H locs h hW => ?_)
    refine lv_if_ne (tgt := 32) C.1 C.2.1 dX11_best_26 (by decide) (fun c4 => ?_) (fun c4 => ?_)
    · replace h := h.1 c4
      refine lv_bipush (v := -9) C.1 C.2.1 dX11_best_32 (by decide) ?_
      refine lv_istore_n (lv' := [(3, .int (-9 : Int32)), (0, .ref (q 0)), (1, .int x1), (2, .int x2)]) C.1 C.2.1 dX11_best_34 rfl hl (by decide) rfl (fun ls hl => ?_)
      refine lv_iconst (v := 0) C.1 C.2.1 dX11_best_35 (by decide) ?_
      refine lv_istore (lv' := [(4, .int (0 : Int32)), (3, .int (-9 : Int32)), (0, .ref (q 0)), (1, .int x1), (2, .int x2)]) C.1 C.2.1 dX11_best_36 hl (by decide) rfl (fun ls hl => ?_)
      refine lv_iconst (v := 0) C.1 C.2.1 dX11_best_38 (by decide) ?_
      refine lv_istore (lv' := [(5, .int (0 : Int32)), (4, .int (0 : Int32)), (3, .int (-9 : Int32)), (0, .ref (q 0)), (1, .int x1), (2, .int x2)]) C.1 C.2.1 dX11_best_39 hl (by decide) rfl (fun ls hl => ?_)
      obtain ⟨n9, h⟩ := h
      exact sX11_best_41 C hr hlk Q n9 x1 x2 (-9 : Int32) (0 : Int32) (0 : Int32) f a _ _ _ h hW (lv_sub hl [3, 4, 5, 2, 1, 0] rfl)
    · replace h := h.2 c4
      refine lv_bipush (v := -2) C.1 C.2.1 dX11_best_29 (by decide) ?_
      exact t_i C hr hlk (u := (f, a)) hW.2.2.2.1 hW.B h dX11_best_31
set_option maxRecDepth 100000 in
set_option maxHeartbeats 4000000 in
theorem mtX11_best (l : Launch) (D : va_G) (q : Nat → Nat) (cI : ClassId) (sz : Nat) (x1 : Int32) (x2 : Int32) (f : Nat → Int32) (a : Nat → Nat → Int32) (Q : Int32 → (Nat → Int32) → (Nat → Nat → Int32) → Prop) (h : vX11_best x1 x2 f a Q) : Met l yX11_best wsX11_best rmX11_best (va_Pc [.ref (q 0), .int x1, .int x2] (mP D [(cI, .int)] q 12 (gM q cI f a) sz tX)) (QMi D q cI Q (aQ q 12 sz)) 0 0 (aQ q 12 sz) := by
  refine met_w (cc := cX11_best) (maxL := 8) (ret := (some .int)) (by decide) rfl (Nat.le_of_ble_eq_true rfl) ?_
  intro p e s m below meth c ls C hr hlk hW hX hnm hl
  exact sX11_best C hr hlk Q x1 x2 f a _ _ _ h hW hl
theorem inX11_watch : ∀ w ∈ wsX110, w ∈ wsX11_watch := fun _ h => List.mem_cons_of_mem _ (List.mem_append_right _ h)
abbrev rmX11_watch : Room := { frames := 2, cells := 0, slots := 0, locals := 48 }
def vX11_watch_132 (Q : Int32 → (Nat → Int32) → (Nat → Nat → Int32) → Prop) : Nat → Int32 → Int32 → Int32 → Int32 → (Nat → Int32) → (Nat → Nat → Int32) → Prop
  | 0, _, _, _, _, _, _ => False
  | fu+1, x1, x3, x4, x7, f, a => (x4 ≤ x7 → vX11_refused x4 f a (fun r14 f15 a16 => Q r14 f15 a16)) ∧ (¬ (x4 ≤ x7) → vp_in ((((60 : Int32) * x1) + x3) + x7) 240 ∧ (vp_in x7 30 ∧ (∀ a19 : Nat → Nat → Int32, a19 = va_up a 7 (upd (a 7) x7.toNatClampNeg (a 10 ((((60 : Int32) * x1) + x3) + x7).toNatClampNeg)) → ∀ x7_20 : Int32, x7_20 = x7 + (1 : Int32) → vX11_watch_132 Q fu x1 x3 x4 x7_20 f a19)))
def vX11_watch_111 (Q : Int32 → (Nat → Int32) → (Nat → Nat → Int32) → Prop) (x1 : Int32) (x3 : Int32) (x4 : Int32) (x6 : Int32) (f : Nat → Int32) (a : Nat → Nat → Int32) : Prop := (¬ x6 = 0 → ∀ f12 : Nat → Int32, f12 = va_up f 14 x4 → ∃ n132, vX11_watch_132 Q n132 x1 x3 x4 (0 : Int32) f12 a) ∧ (x6 = 0 → vX11_refused (-2 : Int32) f a (fun r21 f22 a23 => Q r21 f22 a23))
def vX11_watch_69 (Q : Int32 → (Nat → Int32) → (Nat → Nat → Int32) → Prop) : Nat → Int32 → Int32 → Int32 → Int32 → Int32 → (Nat → Int32) → (Nat → Nat → Int32) → Prop
  | 0, _, _, _, _, _, _, _ => False
  | fu+1, x1, x3, x4, x6, x7, f, a => (x4 ≤ x7 → vX11_watch_111 Q x1 x3 x4 x6 f a) ∧ (¬ (x4 ≤ x7) → (x6 = 0 → vX11_watch_111 Q x1 x3 x4 x6 f a) ∧ (¬ (x6 = 0) → vp_in ((((60 : Int32) * x1) + x3) + x7) 240 ∧ (vX11_in ((a 10 ((((60 : Int32) * x1) + x3) + x7).toNatClampNeg).toInt64) (0 : Int64) (999 : Int64) (fun r26 => ∀ x7_27 : Int32, x7_27 = x7 + (1 : Int32) → vX11_watch_69 Q fu x1 x3 x4 r26 x7_27 f a))))
def vX11_watch (x1 : Int32) (x2 : Int32) (x3 : Int32) (x4 : Int32) (f : Nat → Int32) (a : Nat → Nat → Int32) (Q : Int32 → (Nat → Int32) → (Nat → Nat → Int32) → Prop) : Prop := vX11_noSheet x1 (fun r1 => (r1 = 0 → vX11_in x2.toInt64 (0 : Int64) (2 : Int64) (fun r3 => (¬ r3 = 0 → vX11_barred x1 x2 x3 x4.toInt64 f a (fun r5 f6 a7 => (0 ≤ r5 → vX11_in x4.toInt64 (2 : Int64) (30 : Int64) (fun r9 => ∃ n69, vX11_watch_69 Q n69 x1 x3 x4 r9 (0 : Int32) f6 a7)) ∧ (¬ (0 ≤ r5) → Q r5 f6 a7))) ∧ (r3 = 0 → vX11_refused (-2 : Int32) f a (fun r28 f29 a30 => Q r28 f29 a30)))) ∧ (¬ (r1 = 0) → vX11_refused (-1 : Int32) f a (fun r31 f32 a33 => Q r31 f32 a33)))
set_option maxRecDepth 100000 in
set_option maxHeartbeats 4000000 in
theorem sX11_watch_132 {p : Program} {l : Launch} {e : Env} {s : State} {m : MethodId} {args : Array Value} {below : List Frame} {meth : Method} {c : Code} {D : va_G} {q : Nat → Nat} {A : Nat → Prop} {cI : ClassId} (C : CallFix p m c cX11_watch 8 s args wsX11_watch RX11) (hr : meth.sig.returnType = (some .int)) (hlk : meth.locks = false) (Q : Int32 → (Nat → Int32) → (Nat → Nat → Int32) → Prop) : ∀ (fu : Nat) (x1 : Int32) (x3 : Int32) (x4 : Int32) (x7 : Int32) (f : Nat → Int32) (a : Nat → Nat → Int32) (H : Heap) (locs : List Loc) (ls : Array Slot), vX11_watch_132 Q fu x1 x3 x4 x7 f a → hw D [(cI, .int)] q 12 (gM q cI f a) A s H locs → lv_has ls 8 [(0, .ref (q 0)), (1, .int x1), (3, .int x3), (4, .int x4), (7, .int x7)] → W p l e (headSpec wsX11_watch rmX11_watch).room s m args below meth c H locs 0 0 (MQ below (QMi D q cI Q A) args s 0 0 A) (F0 m 132 ls []) := by
  intro fu
  induction fu with
  | zero =>
    intro x1 x3 x4 x7 f a H locs ls h
    exact h.elim
  | succ fu ih =>
    intro x1 x3 x4 x7 f a H locs ls h hW hl
    refine lv_iload C.1 C.2.1 dX11_watch_132 (lv_at hl 4 rfl) ?_
    refine lv_iload C.1 C.2.1 dX11_watch_134 (lv_at hl 3 rfl) ?_
    refine lv_icmp_ge (tgt := 166) C.1 C.2.1 dX11_watch_136 (by decide) (fun c13 => ?_) (fun c13 => ?_)
    · replace h := h.1 c13
      refine lv_aload_n C.1 C.2.1 dX11_watch_166 rfl (lv_at hl 0 rfl) ?_
      refine lv_iload C.1 C.2.1 dX11_watch_167 (lv_at hl 3 rfl) ?_
      refine k_i hW (va_runV (As := [.int x4]) (rest := []) C (mtX11_refused l D q cI H.size x4 f a _ h) (cwV 1 C.2.2.2.2 gX11_watch_X11_refused rfl rfl rfl (by decide +kernel) ⟨Nat.le_of_ble_eq_true rfl, Nat.le_of_ble_eq_true rfl⟩) ⟨mP_blind tX_B, va_recv hW.1 hW.2.1 (ci := 11) (q0 := 0) rfl (wL_get (by decide)), fun U hU hV => ⟨rfl, hW.pre hU hV trivial⟩⟩ rfl rfl hl.1 rfl (lv_room (Nat.le_of_ble_eq_true rfl)) dX11_watch_169 ⟨Nat.zero_le _, Nat.zero_le _⟩) (fun r14 u H locs h hW => ?_)
      obtain ⟨f15, a16⟩ := u
      replace hW : hw D [(cI, .int)] q 12 (gM q cI f15 a16) A s H locs := hW
      exact t_i C hr hlk (u := (f15, a16)) hW.2.2.2.1 hW.B h dX11_watch_172
    · replace h := h.2 c13
      refine lv_aload_n C.1 C.2.1 dX11_watch_139 rfl (lv_at hl 0 rfl) ?_
      refine r_get C hW (ci := 11) (T := TX11) (n := 21) (ref := "BallMinderModel") (v := .ref (q 7)) 0 (by decide) rfl rfl 15 (by decide) inX11_watch (by decide +kernel) (fun _ h9 => h9) rfl dX11_watch_140 ?_
      refine lv_iload C.1 C.2.1 dX11_watch_143 (lv_at hl 4 rfl) ?_
      refine lv_aload_n C.1 C.2.1 dX11_watch_145 rfl (lv_at hl 0 rfl) ?_
      refine r_get C hW (ci := 11) (T := TX11) (n := 21) (ref := "BallMinderModel") (v := .ref (q 10)) 0 (by decide) rfl rfl 18 (by decide) inX11_watch (by decide +kernel) (fun _ h9 => h9) rfl dX11_watch_146 ?_
      refine lv_bipush (v := 60) C.1 C.2.1 dX11_watch_149 (by decide) ?_
      refine lv_iload_n C.1 C.2.1 dX11_watch_151 rfl (lv_at hl 1 rfl) ?_
      refine lv_imul C.1 C.2.1 dX11_watch_152 ?_
      refine lv_iload_n C.1 C.2.1 dX11_watch_153 rfl (lv_at hl 2 rfl) ?_
      refine lv_iadd C.1 C.2.1 dX11_watch_154 ?_
      refine lv_iload C.1 C.2.1 dX11_watch_155 (lv_at hl 4 rfl) ?_
      refine lv_iadd C.1 C.2.1 dX11_watch_157 ?_
      obtain ⟨hs17, h⟩ := h
      refine r_iald C hW (cA := cI) (n := 240) (f := a 10) 10 0 (by decide) rfl rfl hs17 dX11_watch_158 ?_
      obtain ⟨hs18, h⟩ := h
      refine r_iast C hW (cA := cI) (n := 30) (f := a 7) 7 0 (by decide) rfl rfl hs18 dX11_watch_159 (fun H locs hW => ?_)
      replace hW := gM_ast (k := 7) (n := 30) (by decide) rfl hW
      obtain ⟨a19, ea19⟩ : ∃ z : Nat → Nat → Int32, z = va_up a 7 (upd (a 7) x7.toNatClampNeg (a 10 ((((60 : Int32) * x1) + x3) + x7).toNatClampNeg)) := ⟨_, rfl⟩
      rw [← ea19] at hW
      replace h := h a19 ea19
      obtain ⟨x7_20, ex7_20⟩ : ∃ z : Int32, z = x7 + (1 : Int32) := ⟨_, rfl⟩
      replace h := h x7_20 ex7_20
      refine lv_iinc (v := x7_20) (lv' := [(7, .int x7_20), (0, .ref (q 0)), (1, .int x1), (3, .int x3), (4, .int x4)]) C.1 C.2.1 dX11_watch_160 hl (k := 4) rfl (by rw [ex7_20]; rfl) (by decide) rfl (fun ls hl => ?_)
      refine lv_goto (tgt := 132) C.1 C.2.1 dX11_watch_163 (by decide) ?_
      exact ih x1 x3 x4 x7_20 f a19 _ _ _ h hW (lv_sub hl [1, 2, 3, 4, 0] rfl)
set_option maxRecDepth 100000 in
set_option maxHeartbeats 4000000 in
theorem sX11_watch_111 {p : Program} {l : Launch} {e : Env} {s : State} {m : MethodId} {args : Array Value} {below : List Frame} {meth : Method} {c : Code} {D : va_G} {q : Nat → Nat} {A : Nat → Prop} {cI : ClassId} (C : CallFix p m c cX11_watch 8 s args wsX11_watch RX11) (hr : meth.sig.returnType = (some .int)) (hlk : meth.locks = false) (Q : Int32 → (Nat → Int32) → (Nat → Nat → Int32) → Prop) : ∀ (x1 : Int32) (x3 : Int32) (x4 : Int32) (x6 : Int32) (f : Nat → Int32) (a : Nat → Nat → Int32) (H : Heap) (locs : List Loc) (ls : Array Slot), vX11_watch_111 Q x1 x3 x4 x6 f a → hw D [(cI, .int)] q 12 (gM q cI f a) A s H locs → lv_has ls 8 [(0, .ref (q 0)), (1, .int x1), (3, .int x3), (4, .int x4), (6, .int x6)] → W p l e (headSpec wsX11_watch rmX11_watch).room s m args below meth c H locs 0 0 (MQ below (QMi D q cI Q A) args s 0 0 A) (F0 m 111 ls []) := by
  intro x1 x3 x4 x6 f a H locs ls h hW hl
  unfold vX11_watch_111 at h
  refine lv_iload C.1 C.2.1 dX11_watch_111 (lv_at hl 4 rfl) ?_
  refine lv_if_ne (tgt := 123) C.1 C.2.1 dX11_watch_113 (by decide) (fun c11 => ?_) (fun c11 => ?_)
  · replace h := h.1 c11
    refine lv_aload_n C.1 C.2.1 dX11_watch_123 rfl (lv_at hl 0 rfl) ?_
    refine lv_iload C.1 C.2.1 dX11_watch_124 (lv_at hl 3 rfl) ?_
    refine r_put C hW (ci := 11) (T := TX11) (n := 21) (ref := "BallMinderModel") 0 (by decide) rfl rfl 14 (by decide) inX11_watch tyX11 tyX11_ok nmX11 (by decide +kernel) (fun _ h9 => h9) rfl rfl rfl (Nat.le_of_ble_eq_true rfl) dX11_watch_126 (fun H locs hW => ?_)
    replace hW := gM_put (k := 14) rfl hW
    obtain ⟨f12, ef12⟩ : ∃ z : Nat → Int32, z = va_up f 14 x4 := ⟨_, rfl⟩
    rw [← ef12] at hW
    replace h := h f12 ef12
    refine lv_iconst (v := 0) C.1 C.2.1 dX11_watch_129 (by decide) ?_
    refine lv_istore (lv' := [(7, .int (0 : Int32)), (0, .ref (q 0)), (1, .int x1), (3, .int x3), (4, .int x4), (6, .int x6)]) C.1 C.2.1 dX11_watch_130 hl (by decide) rfl (fun ls hl => ?_)
    obtain ⟨n9, h⟩ := h
    exact sX11_watch_132 C hr hlk Q n9 x1 x3 x4 (0 : Int32) f12 a _ _ _ h hW (lv_sub hl [1, 2, 3, 4, 0] rfl)
  · replace h := h.2 c11
    refine lv_aload_n C.1 C.2.1 dX11_watch_116 rfl (lv_at hl 0 rfl) ?_
    refine lv_bipush (v := -2) C.1 C.2.1 dX11_watch_117 (by decide) ?_
    refine k_i hW (va_runV (As := [.int (-2 : Int32)]) (rest := []) C (mtX11_refused l D q cI H.size (-2 : Int32) f a _ h) (cwV 1 C.2.2.2.2 gX11_watch_X11_refused rfl rfl rfl (by decide +kernel) ⟨Nat.le_of_ble_eq_true rfl, Nat.le_of_ble_eq_true rfl⟩) ⟨mP_blind tX_B, va_recv hW.1 hW.2.1 (ci := 11) (q0 := 0) rfl (wL_get (by decide)), fun U hU hV => ⟨rfl, hW.pre hU hV trivial⟩⟩ rfl rfl hl.1 rfl (lv_room (Nat.le_of_ble_eq_true rfl)) dX11_watch_119 ⟨Nat.zero_le _, Nat.zero_le _⟩) (fun r21 u H locs h hW => ?_)
    obtain ⟨f22, a23⟩ := u
    replace hW : hw D [(cI, .int)] q 12 (gM q cI f22 a23) A s H locs := hW
    exact t_i C hr hlk (u := (f22, a23)) hW.2.2.2.1 hW.B h dX11_watch_122
set_option maxRecDepth 100000 in
set_option maxHeartbeats 4000000 in
theorem sX11_watch_69 {p : Program} {l : Launch} {e : Env} {s : State} {m : MethodId} {args : Array Value} {below : List Frame} {meth : Method} {c : Code} {D : va_G} {q : Nat → Nat} {A : Nat → Prop} {cI : ClassId} (C : CallFix p m c cX11_watch 8 s args wsX11_watch RX11) (hr : meth.sig.returnType = (some .int)) (hlk : meth.locks = false) (Q : Int32 → (Nat → Int32) → (Nat → Nat → Int32) → Prop) : ∀ (fu : Nat) (x1 : Int32) (x3 : Int32) (x4 : Int32) (x6 : Int32) (x7 : Int32) (f : Nat → Int32) (a : Nat → Nat → Int32) (H : Heap) (locs : List Loc) (ls : Array Slot), vX11_watch_69 Q fu x1 x3 x4 x6 x7 f a → hw D [(cI, .int)] q 12 (gM q cI f a) A s H locs → lv_has ls 8 [(0, .ref (q 0)), (1, .int x1), (3, .int x3), (4, .int x4), (6, .int x6), (7, .int x7)] → W p l e (headSpec wsX11_watch rmX11_watch).room s m args below meth c H locs 0 0 (MQ below (QMi D q cI Q A) args s 0 0 A) (F0 m 69 ls []) := by
  intro fu
  induction fu with
  | zero =>
    intro x1 x3 x4 x6 x7 f a H locs ls h
    exact h.elim
  | succ fu ih =>
    intro x1 x3 x4 x6 x7 f a H locs ls h hW hl
    refine lv_iload C.1 C.2.1 dX11_watch_69 (lv_at hl 5 rfl) ?_
    refine lv_iload C.1 C.2.1 dX11_watch_71 (lv_at hl 3 rfl) ?_
    refine lv_icmp_ge (tgt := 111) C.1 C.2.1 dX11_watch_73 (by decide) (fun c10 => ?_) (fun c10 => ?_)
    · replace h := h.1 c10
      exact sX11_watch_111 C hr hlk Q x1 x3 x4 x6 f a _ _ _ h hW (lv_sub hl [0, 1, 2, 3, 4] rfl)
    · replace h := h.2 c10
      refine lv_iload C.1 C.2.1 dX11_watch_76 (lv_at hl 4 rfl) ?_
      refine lv_if_eq (tgt := 111) C.1 C.2.1 dX11_watch_78 (by decide) (fun c24 => ?_) (fun c24 => ?_)
      · replace h := h.1 c24
        exact sX11_watch_111 C hr hlk Q x1 x3 x4 x6 f a _ _ _ h hW (lv_sub hl [0, 1, 2, 3, 4] rfl)
      · replace h := h.2 c24
        refine lv_aload_n C.1 C.2.1 dX11_watch_81 rfl (lv_at hl 0 rfl) ?_
        refine r_get C hW (ci := 11) (T := TX11) (n := 21) (ref := "BallMinderModel") (v := .ref (q 10)) 0 (by decide) rfl rfl 18 (by decide) inX11_watch (by decide +kernel) (fun _ h9 => h9) rfl dX11_watch_82 ?_
        refine lv_bipush (v := 60) C.1 C.2.1 dX11_watch_85 (by decide) ?_
        refine lv_iload_n C.1 C.2.1 dX11_watch_87 rfl (lv_at hl 1 rfl) ?_
        refine lv_imul C.1 C.2.1 dX11_watch_88 ?_
        refine lv_iload_n C.1 C.2.1 dX11_watch_89 rfl (lv_at hl 2 rfl) ?_
        refine lv_iadd C.1 C.2.1 dX11_watch_90 ?_
        refine lv_iload C.1 C.2.1 dX11_watch_91 (lv_at hl 5 rfl) ?_
        refine lv_iadd C.1 C.2.1 dX11_watch_93 ?_
        obtain ⟨hs25, h⟩ := h
        refine r_iald C hW (cA := cI) (n := 240) (f := a 10) 10 0 (by decide) rfl rfl hs25 dX11_watch_94 ?_
        refine lv_i2l C.1 C.2.1 dX11_watch_95 rfl ?_
        refine lv_lconst (v := 0) C.1 C.2.1 dX11_watch_96 (by decide) ?_
        refine lv_ldc2 (v := (999)) C.1 C.2.1 C.2.2.2.1 (C.2.2.2.2 (.constantLong RX11 185 (999)) (by decide +kernel)) dX11_watch_97 ?_
        refine k_pi hW (va_runS (As := [.long ((a 10 ((((60 : Int32) * x1) + x3) + x7).toNatClampNeg).toInt64), .long (0 : Int64), .long (999 : Int64)]) (rest := []) C (mtX11_in l D q _ H.size ((a 10 ((((60 : Int32) * x1) + x3) + x7).toNatClampNeg).toInt64) (0 : Int64) (999 : Int64) _ h) (va_cwS 3 C.2.2.2.2 gX11_watch_X11_in rfl rfl rfl (by decide +kernel) ⟨Nat.le_of_ble_eq_true rfl, Nat.le_of_ble_eq_true rfl⟩) ⟨mP_blind tX_B, fun U hU hV => ⟨rfl, hW.pre0 hU hV trivial⟩⟩ rfl rfl hl.1 rfl (lv_room (Nat.le_of_ble_eq_true rfl)) dX11_watch_100 ⟨Nat.zero_le _, Nat.zero_le _⟩) (fun r26 H locs h hW => ?_)
        refine lv_istore (lv' := [(6, .int r26), (0, .ref (q 0)), (1, .int x1), (3, .int x3), (4, .int x4), (7, .int x7)]) C.1 C.2.1 dX11_watch_103 hl (by decide) rfl (fun ls hl => ?_)
        obtain ⟨x7_27, ex7_27⟩ : ∃ z : Int32, z = x7 + (1 : Int32) := ⟨_, rfl⟩
        replace h := h x7_27 ex7_27
        refine lv_iinc (v := x7_27) (lv' := [(7, .int x7_27), (6, .int r26), (0, .ref (q 0)), (1, .int x1), (3, .int x3), (4, .int x4)]) C.1 C.2.1 dX11_watch_105 hl (k := 5) rfl (by rw [ex7_27]; rfl) (by decide) rfl (fun ls hl => ?_)
        refine lv_goto (tgt := 69) C.1 C.2.1 dX11_watch_108 (by decide) ?_
        exact ih x1 x3 x4 r26 x7_27 f a _ _ _ h hW (lv_sub hl [2, 3, 4, 5, 1, 0] rfl)
set_option maxRecDepth 100000 in
set_option maxHeartbeats 4000000 in
theorem sX11_watch {p : Program} {l : Launch} {e : Env} {s : State} {m : MethodId} {args : Array Value} {below : List Frame} {meth : Method} {c : Code} {D : va_G} {q : Nat → Nat} {A : Nat → Prop} {cI : ClassId} (C : CallFix p m c cX11_watch 8 s args wsX11_watch RX11) (hr : meth.sig.returnType = (some .int)) (hlk : meth.locks = false) (Q : Int32 → (Nat → Int32) → (Nat → Nat → Int32) → Prop) : ∀ (x1 : Int32) (x2 : Int32) (x3 : Int32) (x4 : Int32) (f : Nat → Int32) (a : Nat → Nat → Int32) (H : Heap) (locs : List Loc) (ls : Array Slot), vX11_watch x1 x2 x3 x4 f a Q → hw D [(cI, .int)] q 12 (gM q cI f a) A s H locs → lv_has ls 8 [(0, .ref (q 0)), (1, .int x1), (2, .int x2), (3, .int x3), (4, .int x4)] → W p l e (headSpec wsX11_watch rmX11_watch).room s m args below meth c H locs 0 0 (MQ below (QMi D q cI Q A) args s 0 0 A) (F0 m 0 ls []) := by
  intro x1 x2 x3 x4 f a H locs ls h hW hl
  unfold vX11_watch at h
  refine lv_iload_n C.1 C.2.1 dX11_watch_0 rfl (lv_at hl 1 rfl) ?_
  refine k_pi hW (va_runS (As := [.int x1]) (rest := []) C (mtX11_noSheet l D q _ H.size x1 _ h) (va_cwS 1 C.2.2.2.2 gX11_watch_X11_noSheet rfl rfl rfl (by decide +kernel) ⟨Nat.le_of_ble_eq_true rfl, Nat.le_of_ble_eq_true rfl⟩) ⟨mP_blind tX_B, fun U hU hV => ⟨rfl, hW.pre0 hU hV trivial⟩⟩ rfl rfl hl.1 rfl (lv_room (Nat.le_of_ble_eq_true rfl)) dX11_watch_1 ⟨Nat.zero_le _, Nat.zero_le _⟩) (fun r1 H locs h hW => ?_)
  refine lv_if_eq (tgt := 13) C.1 C.2.1 dX11_watch_4 (by decide) (fun c2 => ?_) (fun c2 => ?_)
  · replace h := h.1 c2
    refine lv_iload_n C.1 C.2.1 dX11_watch_13 rfl (lv_at hl 2 rfl) ?_
    refine lv_i2l C.1 C.2.1 dX11_watch_14 rfl ?_
    refine lv_lconst (v := 0) C.1 C.2.1 dX11_watch_15 (by decide) ?_
    refine lv_ldc2 (v := (2)) C.1 C.2.1 C.2.2.2.1 (C.2.2.2.2 (.constantLong RX11 92 (2)) (by decide +kernel)) dX11_watch_16 ?_
    refine k_pi hW (va_runS (As := [.long x2.toInt64, .long (0 : Int64), .long (2 : Int64)]) (rest := []) C (mtX11_in l D q _ H.size x2.toInt64 (0 : Int64) (2 : Int64) _ h) (va_cwS 3 C.2.2.2.2 gX11_watch_X11_in rfl rfl rfl (by decide +kernel) ⟨Nat.le_of_ble_eq_true rfl, Nat.le_of_ble_eq_true rfl⟩) ⟨mP_blind tX_B, fun U hU hV => ⟨rfl, hW.pre0 hU hV trivial⟩⟩ rfl rfl hl.1 rfl (lv_room (Nat.le_of_ble_eq_true rfl)) dX11_watch_19 ⟨Nat.zero_le _, Nat.zero_le _⟩) (fun r3 H locs h hW => ?_)
    refine lv_if_ne (tgt := 32) C.1 C.2.1 dX11_watch_22 (by decide) (fun c4 => ?_) (fun c4 => ?_)
    · replace h := h.1 c4
      refine lv_aload_n C.1 C.2.1 dX11_watch_32 rfl (lv_at hl 0 rfl) ?_
      refine lv_iload_n C.1 C.2.1 dX11_watch_33 rfl (lv_at hl 1 rfl) ?_
      refine lv_iload_n C.1 C.2.1 dX11_watch_34 rfl (lv_at hl 2 rfl) ?_
      refine lv_iload_n C.1 C.2.1 dX11_watch_35 rfl (lv_at hl 3 rfl) ?_
      refine lv_iload C.1 C.2.1 dX11_watch_36 (lv_at hl 4 rfl) ?_
      refine lv_i2l C.1 C.2.1 dX11_watch_38 rfl ?_
      refine k_i hW (va_runV (As := [.int x1, .int x2, .int x3, .long x4.toInt64]) (rest := []) C (mtX11_barred l D q cI H.size x1 x2 x3 x4.toInt64 f a _ h) (cwV 4 C.2.2.2.2 gX11_watch_X11_barred rfl rfl rfl (by decide +kernel) ⟨Nat.le_of_ble_eq_true rfl, Nat.le_of_ble_eq_true rfl⟩) ⟨mP_blind tX_B, va_recv hW.1 hW.2.1 (ci := 11) (q0 := 0) rfl (wL_get (by decide)), fun U hU hV => ⟨rfl, hW.pre hU hV trivial⟩⟩ rfl rfl hl.1 rfl (lv_room (Nat.le_of_ble_eq_true rfl)) dX11_watch_39 ⟨Nat.zero_le _, Nat.zero_le _⟩) (fun r5 u H locs h hW => ?_)
      obtain ⟨f6, a7⟩ := u
      replace hW : hw D [(cI, .int)] q 12 (gM q cI f6 a7) A s H locs := hW
      refine lv_istore (lv' := [(5, .int r5), (0, .ref (q 0)), (1, .int x1), (2, .int x2), (3, .int x3), (4, .int x4)]) C.1 C.2.1 dX11_watch_42 hl (by decide) rfl (fun ls hl => ?_)
      refine lv_iload C.1 C.2.1 dX11_watch_44 (lv_at hl 0 rfl) ?_
      refine lv_if_ge (tgt := 52) C.1 C.2.1 dX11_watch_46 (by decide) (fun c8 => ?_) (fun c8 => ?_)
      · replace h := h.1 c8
        refine lv_iload C.1 C.2.1 dX11_watch_52 (lv_at hl 5 rfl) ?_
        refine lv_i2l C.1 C.2.1 dX11_watch_54 rfl ?_
        refine lv_ldc2 (v := (2)) C.1 C.2.1 C.2.2.2.1 (C.2.2.2.2 (.constantLong RX11 92 (2)) (by decide +kernel)) dX11_watch_55 ?_
        refine lv_ldc2 (v := (30)) C.1 C.2.1 C.2.2.2.1 (C.2.2.2.2 (.constantLong RX11 207 (30)) (by decide +kernel)) dX11_watch_58 ?_
        refine k_pi hW (va_runS (As := [.long x4.toInt64, .long (2 : Int64), .long (30 : Int64)]) (rest := []) C (mtX11_in l D q _ H.size x4.toInt64 (2 : Int64) (30 : Int64) _ h) (va_cwS 3 C.2.2.2.2 gX11_watch_X11_in rfl rfl rfl (by decide +kernel) ⟨Nat.le_of_ble_eq_true rfl, Nat.le_of_ble_eq_true rfl⟩) ⟨mP_blind tX_B, fun U hU hV => ⟨rfl, hW.pre0 hU hV trivial⟩⟩ rfl rfl hl.1 rfl (lv_room (Nat.le_of_ble_eq_true rfl)) dX11_watch_61 ⟨Nat.zero_le _, Nat.zero_le _⟩) (fun r9 H locs h hW => ?_)
        refine lv_istore (lv' := [(6, .int r9), (5, .int r5), (0, .ref (q 0)), (1, .int x1), (2, .int x2), (3, .int x3), (4, .int x4)]) C.1 C.2.1 dX11_watch_64 hl (by decide) rfl (fun ls hl => ?_)
        refine lv_iconst (v := 0) C.1 C.2.1 dX11_watch_66 (by decide) ?_
        refine lv_istore (lv' := [(7, .int (0 : Int32)), (6, .int r9), (5, .int r5), (0, .ref (q 0)), (1, .int x1), (2, .int x2), (3, .int x3), (4, .int x4)]) C.1 C.2.1 dX11_watch_67 hl (by decide) rfl (fun ls hl => ?_)
        obtain ⟨n9, h⟩ := h
        exact sX11_watch_69 C hr hlk Q n9 x1 x3 x4 r9 (0 : Int32) f6 a7 _ _ _ h hW (lv_sub hl [3, 4, 6, 7, 1, 0] rfl)
      · replace h := h.2 c8
        refine lv_iload C.1 C.2.1 dX11_watch_49 (lv_at hl 0 rfl) ?_
        exact t_i C hr hlk (u := (f6, a7)) hW.2.2.2.1 hW.B h dX11_watch_51
    · replace h := h.2 c4
      refine lv_aload_n C.1 C.2.1 dX11_watch_25 rfl (lv_at hl 0 rfl) ?_
      refine lv_bipush (v := -2) C.1 C.2.1 dX11_watch_26 (by decide) ?_
      refine k_i hW (va_runV (As := [.int (-2 : Int32)]) (rest := []) C (mtX11_refused l D q cI H.size (-2 : Int32) f a _ h) (cwV 1 C.2.2.2.2 gX11_watch_X11_refused rfl rfl rfl (by decide +kernel) ⟨Nat.le_of_ble_eq_true rfl, Nat.le_of_ble_eq_true rfl⟩) ⟨mP_blind tX_B, va_recv hW.1 hW.2.1 (ci := 11) (q0 := 0) rfl (wL_get (by decide)), fun U hU hV => ⟨rfl, hW.pre hU hV trivial⟩⟩ rfl rfl hl.1 rfl (lv_room (Nat.le_of_ble_eq_true rfl)) dX11_watch_28 ⟨Nat.zero_le _, Nat.zero_le _⟩) (fun r28 u H locs h hW => ?_)
      obtain ⟨f29, a30⟩ := u
      replace hW : hw D [(cI, .int)] q 12 (gM q cI f29 a30) A s H locs := hW
      exact t_i C hr hlk (u := (f29, a30)) hW.2.2.2.1 hW.B h dX11_watch_31
  · replace h := h.2 c2
    refine lv_aload_n C.1 C.2.1 dX11_watch_7 rfl (lv_at hl 0 rfl) ?_
    refine lv_iconst (v := -1) C.1 C.2.1 dX11_watch_8 (by decide) ?_
    refine k_i hW (va_runV (As := [.int (-1 : Int32)]) (rest := []) C (mtX11_refused l D q cI H.size (-1 : Int32) f a _ h) (cwV 1 C.2.2.2.2 gX11_watch_X11_refused rfl rfl rfl (by decide +kernel) ⟨Nat.le_of_ble_eq_true rfl, Nat.le_of_ble_eq_true rfl⟩) ⟨mP_blind tX_B, va_recv hW.1 hW.2.1 (ci := 11) (q0 := 0) rfl (wL_get (by decide)), fun U hU hV => ⟨rfl, hW.pre hU hV trivial⟩⟩ rfl rfl hl.1 rfl (lv_room (Nat.le_of_ble_eq_true rfl)) dX11_watch_9 ⟨Nat.zero_le _, Nat.zero_le _⟩) (fun r31 u H locs h hW => ?_)
    obtain ⟨f32, a33⟩ := u
    replace hW : hw D [(cI, .int)] q 12 (gM q cI f32 a33) A s H locs := hW
    exact t_i C hr hlk (u := (f32, a33)) hW.2.2.2.1 hW.B h dX11_watch_12
set_option maxRecDepth 100000 in
set_option maxHeartbeats 4000000 in
theorem mtX11_watch (l : Launch) (D : va_G) (q : Nat → Nat) (cI : ClassId) (sz : Nat) (x1 : Int32) (x2 : Int32) (x3 : Int32) (x4 : Int32) (f : Nat → Int32) (a : Nat → Nat → Int32) (Q : Int32 → (Nat → Int32) → (Nat → Nat → Int32) → Prop) (h : vX11_watch x1 x2 x3 x4 f a Q) : Met l yX11_watch wsX11_watch rmX11_watch (va_Pc [.ref (q 0), .int x1, .int x2, .int x3, .int x4] (mP D [(cI, .int)] q 12 (gM q cI f a) sz tX)) (QMi D q cI Q (aQ q 12 sz)) 0 0 (aQ q 12 sz) := by
  refine met_w (cc := cX11_watch) (maxL := 8) (ret := (some .int)) (by decide) rfl (Nat.le_of_ble_eq_true rfl) ?_
  intro p e s m below meth c ls C hr hlk hW hX hnm hl
  exact sX11_watch C hr hlk Q x1 x2 x3 x4 f a _ _ _ h hW hl
theorem inX11_doesFit : ∀ w ∈ wsX110, w ∈ wsX11_doesFit := fun _ h => List.mem_cons_of_mem _ (List.mem_append_right _ h)
abbrev rmX11_doesFit : Room := { frames := 4, cells := 0, slots := 0, locals := 97 }
def vX11_doesFit_64 (K21 : Int32 → Int32 → (Nat → Int32) → (Nat → Nat → Int32) → Prop) (Q : Int32 → (Nat → Int32) → (Nat → Nat → Int32) → Prop) (x4 : Int32) (y0 : Int32) (f : Nat → Int32) (a : Nat → Nat → Int32) : Prop := ∀ x4_11 : Int32, x4_11 = x4 + (1 : Int32) → K21 y0 x4_11 f a
def vX11_doesFit_21 (Q : Int32 → (Nat → Int32) → (Nat → Nat → Int32) → Prop) : Nat → Int32 → Int32 → (Nat → Int32) → (Nat → Nat → Int32) → Prop
  | 0, _, _, _, _ => False
  | fu+1, x3, x4, f, a => ((f 14) ≤ x4 → (x3 = 0 ∨ x3 = 1) ∧ Q x3 f a) ∧ (¬ ((f 14) ≤ x4) → (x3 = 0 → (x3 = 0 ∨ x3 = 1) ∧ Q x3 f a) ∧ (¬ (x3 = 0) → vX11_stepOn (x4 - (1 : Int32)) f a (fun f6 a7 => vp_in x4 301 ∧ (vp_in x4 30 ∧ ((¬ (a7 4 x4.toNatClampNeg) = (a7 7 x4.toNatClampNeg) → vX11_doesFit_64 (vX11_doesFit_21 Q fu) Q x4 (0 : Int32) f6 a7) ∧ ((a7 4 x4.toNatClampNeg) = (a7 7 x4.toNatClampNeg) → vX11_doesFit_64 (vX11_doesFit_21 Q fu) Q x4 (1 : Int32) f6 a7))))))
def vX11_doesFit (x1 : Int32) (x2 : Int32) (f : Nat → Int32) (a : Nat → Nat → Int32) (Q : Int32 → (Nat → Int32) → (Nat → Nat → Int32) → Prop) : Prop := vp_in (0 : Int32) 30 ∧ (vX11_begin x1 (-9 : Int32) (a 7 (0 : Int32).toNatClampNeg) (50 : Int32) x2 f a (fun f2 a3 => ∃ n21, vX11_doesFit_21 Q n21 (1 : Int32) (1 : Int32) f2 a3))
set_option maxRecDepth 100000 in
set_option maxHeartbeats 4000000 in
theorem sX11_doesFit_64 {p : Program} {l : Launch} {e : Env} {s : State} {m : MethodId} {args : Array Value} {below : List Frame} {meth : Method} {c : Code} {D : va_G} {q : Nat → Nat} {A : Nat → Prop} {cI : ClassId} (C : CallFix p m c cX11_doesFit 5 s args wsX11_doesFit RX11) (hr : meth.sig.returnType = (some .boolean)) (hlk : meth.locks = false) (Q : Int32 → (Nat → Int32) → (Nat → Nat → Int32) → Prop) (K21 : Int32 → Int32 → (Nat → Int32) → (Nat → Nat → Int32) → Prop) (hK21 : ∀ (x3 : Int32) (x4 : Int32) (f : Nat → Int32) (a : Nat → Nat → Int32) (H : Heap) (locs : List Loc) (ls : Array Slot), K21 x3 x4 f a → hw D [(cI, .int)] q 12 (gM q cI f a) A s H locs → lv_has ls 5 [(0, .ref (q 0)), (3, .int x3), (4, .int x4)] → W p l e (headSpec wsX11_doesFit rmX11_doesFit).room s m args below meth c H locs 0 0 (MQ below (QMi D q cI Q A) args s 0 0 A) (F0 m 21 ls [])) : ∀ (x4 : Int32) (y0 : Int32) (f : Nat → Int32) (a : Nat → Nat → Int32) (H : Heap) (locs : List Loc) (ls : Array Slot), vX11_doesFit_64 K21 Q x4 y0 f a → hw D [(cI, .int)] q 12 (gM q cI f a) A s H locs → lv_has ls 5 [(0, .ref (q 0)), (4, .int x4)] → W p l e (headSpec wsX11_doesFit rmX11_doesFit).room s m args below meth c H locs 0 0 (MQ below (QMi D q cI Q A) args s 0 0 A) (F0 m 64 ls [.int y0]) := by
  intro x4 y0 f a H locs ls h hW hl
  unfold vX11_doesFit_64 at h
  refine lv_istore_n (lv' := [(3, .int y0), (0, .ref (q 0)), (4, .int x4)]) C.1 C.2.1 dX11_doesFit_64 rfl hl (by decide) rfl (fun ls hl => ?_)
  obtain ⟨x4_11, ex4_11⟩ : ∃ z : Int32, z = x4 + (1 : Int32) := ⟨_, rfl⟩
  replace h := h x4_11 ex4_11
  refine lv_iinc (v := x4_11) (lv' := [(4, .int x4_11), (3, .int y0), (0, .ref (q 0))]) C.1 C.2.1 dX11_doesFit_65 hl (k := 2) rfl (by rw [ex4_11]; rfl) (by decide) rfl (fun ls hl => ?_)
  refine lv_goto (tgt := 21) C.1 C.2.1 dX11_doesFit_68 (by decide) ?_
  exact hK21 y0 x4_11 f a _ _ _ h hW (lv_sub hl [2, 1, 0] rfl)
set_option maxRecDepth 100000 in
set_option maxHeartbeats 4000000 in
theorem sX11_doesFit_21 {p : Program} {l : Launch} {e : Env} {s : State} {m : MethodId} {args : Array Value} {below : List Frame} {meth : Method} {c : Code} {D : va_G} {q : Nat → Nat} {A : Nat → Prop} {cI : ClassId} (C : CallFix p m c cX11_doesFit 5 s args wsX11_doesFit RX11) (hr : meth.sig.returnType = (some .boolean)) (hlk : meth.locks = false) (Q : Int32 → (Nat → Int32) → (Nat → Nat → Int32) → Prop) : ∀ (fu : Nat) (x3 : Int32) (x4 : Int32) (f : Nat → Int32) (a : Nat → Nat → Int32) (H : Heap) (locs : List Loc) (ls : Array Slot), vX11_doesFit_21 Q fu x3 x4 f a → hw D [(cI, .int)] q 12 (gM q cI f a) A s H locs → lv_has ls 5 [(0, .ref (q 0)), (3, .int x3), (4, .int x4)] → W p l e (headSpec wsX11_doesFit rmX11_doesFit).room s m args below meth c H locs 0 0 (MQ below (QMi D q cI Q A) args s 0 0 A) (F0 m 21 ls []) := by
  intro fu
  induction fu with
  | zero =>
    intro x3 x4 f a H locs ls h
    exact h.elim
  | succ fu ih =>
    intro x3 x4 f a H locs ls h hW hl
    refine lv_iload C.1 C.2.1 dX11_doesFit_21 (lv_at hl 2 rfl) ?_
    refine lv_aload_n C.1 C.2.1 dX11_doesFit_23 rfl (lv_at hl 0 rfl) ?_
    refine r_get C hW (ci := 11) (T := TX11) (n := 21) (ref := "BallMinderModel") (v := .int (f 14)) 0 (by decide) rfl rfl 14 (by decide) inX11_doesFit (by decide +kernel) (fun _ h9 => h9) rfl dX11_doesFit_24 ?_
    refine lv_icmp_ge (tgt := 71) C.1 C.2.1 dX11_doesFit_27 (by decide) (fun c4 => ?_) (fun c4 => ?_)
    · replace h := h.1 c4
      refine lv_iload_n C.1 C.2.1 dX11_doesFit_71 rfl (lv_at hl 1 rfl) ?_
      exact t_z C hr hlk (u := (f, a)) h.1 hW.2.2.2.1 hW.B h.2 dX11_doesFit_72
    · replace h := h.2 c4
      refine lv_iload_n C.1 C.2.1 dX11_doesFit_30 rfl (lv_at hl 1 rfl) ?_
      refine lv_if_eq (tgt := 71) C.1 C.2.1 dX11_doesFit_31 (by decide) (fun c5 => ?_) (fun c5 => ?_)
      · replace h := h.1 c5
        refine lv_iload_n C.1 C.2.1 dX11_doesFit_71 rfl (lv_at hl 1 rfl) ?_
        exact t_z C hr hlk (u := (f, a)) h.1 hW.2.2.2.1 hW.B h.2 dX11_doesFit_72
      · replace h := h.2 c5
        refine lv_aload_n C.1 C.2.1 dX11_doesFit_34 rfl (lv_at hl 0 rfl) ?_
        refine lv_iload C.1 C.2.1 dX11_doesFit_35 (lv_at hl 2 rfl) ?_
        refine lv_iconst (v := 1) C.1 C.2.1 dX11_doesFit_37 (by decide) ?_
        refine lv_isub C.1 C.2.1 dX11_doesFit_38 ?_
        refine k_v hW (va_runV (As := [.int (x4 - (1 : Int32))]) (rest := []) C (mtX11_stepOn l D q cI H.size (x4 - (1 : Int32)) f a _ h) (cwV 1 C.2.2.2.2 gX11_doesFit_X11_stepOn rfl rfl rfl (by decide +kernel) ⟨Nat.le_of_ble_eq_true rfl, Nat.le_of_ble_eq_true rfl⟩) ⟨mP_blind tX_B, va_recv hW.1 hW.2.1 (ci := 11) (q0 := 0) rfl (wL_get (by decide)), fun U hU hV => ⟨rfl, hW.pre hU hV trivial⟩⟩ rfl rfl hl.1 rfl (lv_room (Nat.le_of_ble_eq_true rfl)) dX11_doesFit_39 ⟨Nat.zero_le _, Nat.zero_le _⟩) (fun u H locs h hW => ?_)
        obtain ⟨f6, a7⟩ := u
        replace hW : hw D [(cI, .int)] q 12 (gM q cI f6 a7) A s H locs := hW
        refine lv_aload_n C.1 C.2.1 dX11_doesFit_42 rfl (lv_at hl 0 rfl) ?_
        refine r_get C hW (ci := 11) (T := TX11) (n := 21) (ref := "BallMinderModel") (v := .ref (q 4)) 0 (by decide) rfl rfl 9 (by decide) inX11_doesFit (by decide +kernel) (fun _ h9 => h9) rfl dX11_doesFit_43 ?_
        refine lv_iload C.1 C.2.1 dX11_doesFit_46 (lv_at hl 2 rfl) ?_
        obtain ⟨hs8, h⟩ := h
        refine r_iald C hW (cA := cI) (n := 301) (f := a7 4) 4 0 (by decide) rfl rfl hs8 dX11_doesFit_48 ?_
        refine lv_aload_n C.1 C.2.1 dX11_doesFit_49 rfl (lv_at hl 0 rfl) ?_
        refine r_get C hW (ci := 11) (T := TX11) (n := 21) (ref := "BallMinderModel") (v := .ref (q 7)) 0 (by decide) rfl rfl 15 (by decide) inX11_doesFit (by decide +kernel) (fun _ h9 => h9) rfl dX11_doesFit_50 ?_
        refine lv_iload C.1 C.2.1 dX11_doesFit_53 (lv_at hl 2 rfl) ?_
        obtain ⟨hs9, h⟩ := h
        refine r_iald C hW (cA := cI) (n := 30) (f := a7 7) 7 0 (by decide) rfl rfl hs9 dX11_doesFit_55 ?_
        refine lv_icmp_ne (tgt := 63) C.1 C.2.1 dX11_doesFit_56 (by decide) (fun c10 => ?_) (fun c10 => ?_)
        · replace h := h.1 c10
          refine lv_iconst (v := 0) C.1 C.2.1 dX11_doesFit_63 (by decide) ?_
          exact sX11_doesFit_64 C hr hlk Q _ ih x4 (0 : Int32) f6 a7 _ _ _ h hW (lv_sub hl [0, 2] rfl)
        · replace h := h.2 c10
          refine lv_iconst (v := 1) C.1 C.2.1 dX11_doesFit_59 (by decide) ?_
          refine lv_goto (tgt := 64) C.1 C.2.1 dX11_doesFit_60 (by decide) ?_
          exact sX11_doesFit_64 C hr hlk Q _ ih x4 (1 : Int32) f6 a7 _ _ _ h hW (lv_sub hl [0, 2] rfl)
set_option maxRecDepth 100000 in
set_option maxHeartbeats 4000000 in
theorem sX11_doesFit {p : Program} {l : Launch} {e : Env} {s : State} {m : MethodId} {args : Array Value} {below : List Frame} {meth : Method} {c : Code} {D : va_G} {q : Nat → Nat} {A : Nat → Prop} {cI : ClassId} (C : CallFix p m c cX11_doesFit 5 s args wsX11_doesFit RX11) (hr : meth.sig.returnType = (some .boolean)) (hlk : meth.locks = false) (Q : Int32 → (Nat → Int32) → (Nat → Nat → Int32) → Prop) : ∀ (x1 : Int32) (x2 : Int32) (f : Nat → Int32) (a : Nat → Nat → Int32) (H : Heap) (locs : List Loc) (ls : Array Slot), vX11_doesFit x1 x2 f a Q → hw D [(cI, .int)] q 12 (gM q cI f a) A s H locs → lv_has ls 5 [(0, .ref (q 0)), (1, .int x1), (2, .int x2)] → W p l e (headSpec wsX11_doesFit rmX11_doesFit).room s m args below meth c H locs 0 0 (MQ below (QMi D q cI Q A) args s 0 0 A) (F0 m 0 ls []) := by
  intro x1 x2 f a H locs ls h hW hl
  unfold vX11_doesFit at h
  refine lv_aload_n C.1 C.2.1 dX11_doesFit_0 rfl (lv_at hl 0 rfl) ?_
  refine lv_iload_n C.1 C.2.1 dX11_doesFit_1 rfl (lv_at hl 1 rfl) ?_
  refine lv_bipush (v := -9) C.1 C.2.1 dX11_doesFit_2 (by decide) ?_
  refine lv_aload_n C.1 C.2.1 dX11_doesFit_4 rfl (lv_at hl 0 rfl) ?_
  refine r_get C hW (ci := 11) (T := TX11) (n := 21) (ref := "BallMinderModel") (v := .ref (q 7)) 0 (by decide) rfl rfl 15 (by decide) inX11_doesFit (by decide +kernel) (fun _ h9 => h9) rfl dX11_doesFit_5 ?_
  refine lv_iconst (v := 0) C.1 C.2.1 dX11_doesFit_8 (by decide) ?_
  obtain ⟨hs1, h⟩ := h
  refine r_iald C hW (cA := cI) (n := 30) (f := a 7) 7 0 (by decide) rfl rfl hs1 dX11_doesFit_9 ?_
  refine lv_bipush (v := 50) C.1 C.2.1 dX11_doesFit_10 (by decide) ?_
  refine lv_iload_n C.1 C.2.1 dX11_doesFit_12 rfl (lv_at hl 2 rfl) ?_
  refine k_v hW (va_runV (As := [.int x1, .int (-9 : Int32), .int (a 7 (0 : Int32).toNatClampNeg), .int (50 : Int32), .int x2]) (rest := []) C (mtX11_begin l D q cI H.size x1 (-9 : Int32) (a 7 (0 : Int32).toNatClampNeg) (50 : Int32) x2 f a _ h) (cwV 5 C.2.2.2.2 gX11_doesFit_X11_begin rfl rfl rfl (by decide +kernel) ⟨Nat.le_of_ble_eq_true rfl, Nat.le_of_ble_eq_true rfl⟩) ⟨mP_blind tX_B, va_recv hW.1 hW.2.1 (ci := 11) (q0 := 0) rfl (wL_get (by decide)), fun U hU hV => ⟨rfl, hW.pre hU hV trivial⟩⟩ rfl rfl hl.1 rfl (lv_room (Nat.le_of_ble_eq_true rfl)) dX11_doesFit_13 ⟨Nat.zero_le _, Nat.zero_le _⟩) (fun u H locs h hW => ?_)
  obtain ⟨f2, a3⟩ := u
  replace hW : hw D [(cI, .int)] q 12 (gM q cI f2 a3) A s H locs := hW
  refine lv_iconst (v := 1) C.1 C.2.1 dX11_doesFit_16 (by decide) ?_
  refine lv_istore_n (lv' := [(3, .int (1 : Int32)), (0, .ref (q 0)), (1, .int x1), (2, .int x2)]) C.1 C.2.1 dX11_doesFit_17 rfl hl (by decide) rfl (fun ls hl => ?_)
  refine lv_iconst (v := 1) C.1 C.2.1 dX11_doesFit_18 (by decide) ?_
  refine lv_istore (lv' := [(4, .int (1 : Int32)), (3, .int (1 : Int32)), (0, .ref (q 0)), (1, .int x1), (2, .int x2)]) C.1 C.2.1 dX11_doesFit_19 hl (by decide) rfl (fun ls hl => ?_)
  obtain ⟨n9, h⟩ := h
  exact sX11_doesFit_21 C hr hlk Q n9 (1 : Int32) (1 : Int32) f2 a3 _ _ _ h hW (lv_sub hl [2, 1, 0] rfl)
set_option maxRecDepth 100000 in
set_option maxHeartbeats 4000000 in
theorem mtX11_doesFit (l : Launch) (D : va_G) (q : Nat → Nat) (cI : ClassId) (sz : Nat) (x1 : Int32) (x2 : Int32) (f : Nat → Int32) (a : Nat → Nat → Int32) (Q : Int32 → (Nat → Int32) → (Nat → Nat → Int32) → Prop) (h : vX11_doesFit x1 x2 f a Q) : Met l yX11_doesFit wsX11_doesFit rmX11_doesFit (va_Pc [.ref (q 0), .int x1, .int x2] (mP D [(cI, .int)] q 12 (gM q cI f a) sz tX)) (QMi D q cI Q (aQ q 12 sz)) 0 0 (aQ q 12 sz) := by
  refine met_w (cc := cX11_doesFit) (maxL := 5) (ret := (some .boolean)) (by decide) rfl (Nat.le_of_ble_eq_true rfl) ?_
  intro p e s m below meth c ls C hr hlk hW hX hnm hl
  exact sX11_doesFit C hr hlk Q x1 x2 f a _ _ _ h hW hl
theorem inX11_fits : ∀ w ∈ wsX110, w ∈ wsX11_fits := fun _ h => List.mem_cons_of_mem _ (List.mem_append_right _ h)
abbrev rmX11_fits : Room := { frames := 5, cells := 0, slots := 0, locals := 121 }
def vX11_fits_161 (K85 : Int32 → Int32 → Int32 → Int32 → Int32 → Int32 → Int32 → Int32 → Int32 → (Nat → Int32) → (Nat → Nat → Int32) → Prop) (Q : Int32 → (Nat → Int32) → (Nat → Nat → Int32) → Prop) (x1 : Int32) (x2 : Int32) (x3 : Int32) (x4 : Int32) (x5 : Int32) (x6 : Int32) (x7 : Int32) (x9 : Int32) (y0 : Int32) (f : Nat → Int32) (a : Nat → Nat → Int32) : Prop := ∀ x9_31 : Int32, x9_31 = x9 + (1 : Int32) → K85 x1 x2 x3 x4 x5 x6 x7 y0 x9_31 f a
def vX11_fits_147 (K85 : Int32 → Int32 → Int32 → Int32 → Int32 → Int32 → Int32 → Int32 → Int32 → (Nat → Int32) → (Nat → Nat → Int32) → Prop) (Q : Int32 → (Nat → Int32) → (Nat → Nat → Int32) → Prop) (x1 : Int32) (x2 : Int32) (x3 : Int32) (x4 : Int32) (x5 : Int32) (x6 : Int32) (x8 : Int32) (x9 : Int32) (x10 : Int32) (y0 : Int32) (f : Nat → Int32) (a : Nat → Nat → Int32) : Prop := (x10 = 0 → vX11_fits_161 K85 Q x1 x2 x3 x4 x5 x6 y0 x9 x8 f a) ∧ (¬ (x10 = 0) → vX11_fits_161 K85 Q x1 x2 x3 x4 x5 x6 y0 x9 x9 f a)
def vX11_fits_145 (K85 : Int32 → Int32 → Int32 → Int32 → Int32 → Int32 → Int32 → Int32 → Int32 → (Nat → Int32) → (Nat → Nat → Int32) → Prop) (Q : Int32 → (Nat → Int32) → (Nat → Nat → Int32) → Prop) (x1 : Int32) (x2 : Int32) (x3 : Int32) (x4 : Int32) (x5 : Int32) (x6 : Int32) (x7 : Int32) (x8 : Int32) (x9 : Int32) (x10 : Int32) (f : Nat → Int32) (a : Nat → Nat → Int32) : Prop := vX11_fits_147 K85 Q x1 x2 x3 x4 x5 x6 x8 x9 x10 x7 f a
def vX11_fits_127 (K85 : Int32 → Int32 → Int32 → Int32 → Int32 → Int32 → Int32 → Int32 → Int32 → (Nat → Int32) → (Nat → Nat → Int32) → Prop) (Q : Int32 → (Nat → Int32) → (Nat → Nat → Int32) → Prop) (x1 : Int32) (x2 : Int32) (x3 : Int32) (x4 : Int32) (x5 : Int32) (x7 : Int32) (x8 : Int32) (x9 : Int32) (x10 : Int32) (y0 : Int32) (y1 : Int32) (f : Nat → Int32) (a : Nat → Nat → Int32) : Prop := ∀ x6_28 : Int32, x6_28 = y1 + y0 → (x10 = 0 → vX11_fits_145 K85 Q x1 x2 x3 x4 x5 x6_28 x7 x8 x9 x10 f a) ∧ (¬ (x10 = 0) → (0 ≤ x7 → vX11_fits_145 K85 Q x1 x2 x3 x4 x5 x6_28 x7 x8 x9 x10 f a) ∧ (¬ (0 ≤ x7) → vX11_fits_147 K85 Q x1 x2 x3 x4 x5 x6_28 x8 x9 x10 x9 f a))
def vX11_fits_85 (Q : Int32 → (Nat → Int32) → (Nat → Nat → Int32) → Prop) : Nat → Int32 → Int32 → Int32 → Int32 → Int32 → Int32 → Int32 → Int32 → Int32 → (Nat → Int32) → (Nat → Nat → Int32) → Prop
  | 0, _, _, _, _, _, _, _, _, _, _, _ => False
  | fu+1, x1, x2, x3, x4, x5, x6, x7, x8, x9, f, a => vX11_greatestOf x2 (fun r16 => (r16 < x9 → vp_in (((9 : Int32) * x1) + x2) 72 ∧ (∀ a19 : Nat → Nat → Int32, a19 = va_up a 2 (upd (a 2) (((9 : Int32) * x1) + x2).toNatClampNeg x5) → (¬ x4 = 0 → (¬ x4 = (1 : Int32) → Q x6 f a19) ∧ (x4 = (1 : Int32) → Q x8 f a19)) ∧ (x4 = 0 → Q x7 f a19))) ∧ (¬ (r16 < x9) → vp_in (((9 : Int32) * x1) + x2) 72 ∧ (∀ a23 : Nat → Nat → Int32, a23 = va_up a 2 (upd (a 2) (((9 : Int32) * x1) + x2).toNatClampNeg x9) → vX11_doesFit x1 x3 f a23 (fun r24 f25 a26 => (r24 = 0 → vX11_fits_127 (vX11_fits_85 Q fu) Q x1 x2 x3 x4 x5 x7 x8 x9 r24 (0 : Int32) x6 f25 a26) ∧ (¬ (r24 = 0) → vX11_fits_127 (vX11_fits_85 Q fu) Q x1 x2 x3 x4 x5 x7 x8 x9 r24 (1 : Int32) x6 f25 a26)))))
def vX11_fits (x1 : Int32) (x2 : Int32) (x3 : Int32) (x4 : Int32) (f : Nat → Int32) (a : Nat → Nat → Int32) (Q : Int32 → (Nat → Int32) → (Nat → Nat → Int32) → Prop) : Prop := vX11_noMill x1 f a (fun r1 f2 a3 => (¬ r1 = 0 → Q (-1 : Int32) f2 a3) ∧ (r1 = 0 → vX11_in x2.toInt64 (0 : Int64) (8 : Int64) (fun r5 => (¬ r5 = 0 → vX11_in x3.toInt64 (0 : Int64) (100 : Int64) (fun r7 => (r7 = 0 → Q (-2 : Int32) f2 a3) ∧ (¬ (r7 = 0) → vX11_in x4.toInt64 (0 : Int64) (2 : Int64) (fun r9 => (¬ r9 = 0 → (¬ (f2 14) = 0 → vX11_of x1 x2 f2 a3 (fun r12 f13 a14 => vX11_leastOf x2 (fun r15 => ∃ n85, vX11_fits_85 Q n85 x1 x2 x3 x4 r12 (0 : Int32) (-9 : Int32) (-9 : Int32) r15 f13 a14))) ∧ ((f2 14) = 0 → Q (-3 : Int32) f2 a3)) ∧ (r9 = 0 → Q (-2 : Int32) f2 a3))))) ∧ (r5 = 0 → Q (-1 : Int32) f2 a3))))
set_option maxRecDepth 100000 in
set_option maxHeartbeats 4000000 in
theorem sX11_fits_161 {p : Program} {l : Launch} {e : Env} {s : State} {m : MethodId} {args : Array Value} {below : List Frame} {meth : Method} {c : Code} {D : va_G} {q : Nat → Nat} {A : Nat → Prop} {cI : ClassId} (C : CallFix p m c cX11_fits 11 s args wsX11_fits RX11) (hr : meth.sig.returnType = (some .int)) (hlk : meth.locks = false) (Q : Int32 → (Nat → Int32) → (Nat → Nat → Int32) → Prop) (K85 : Int32 → Int32 → Int32 → Int32 → Int32 → Int32 → Int32 → Int32 → Int32 → (Nat → Int32) → (Nat → Nat → Int32) → Prop) (hK85 : ∀ (x1 : Int32) (x2 : Int32) (x3 : Int32) (x4 : Int32) (x5 : Int32) (x6 : Int32) (x7 : Int32) (x8 : Int32) (x9 : Int32) (f : Nat → Int32) (a : Nat → Nat → Int32) (H : Heap) (locs : List Loc) (ls : Array Slot), K85 x1 x2 x3 x4 x5 x6 x7 x8 x9 f a → hw D [(cI, .int)] q 12 (gM q cI f a) A s H locs → lv_has ls 11 [(0, .ref (q 0)), (1, .int x1), (2, .int x2), (3, .int x3), (4, .int x4), (5, .int x5), (6, .int x6), (7, .int x7), (8, .int x8), (9, .int x9)] → W p l e (headSpec wsX11_fits rmX11_fits).room s m args below meth c H locs 0 0 (MQ below (QMi D q cI Q A) args s 0 0 A) (F0 m 85 ls [])) : ∀ (x1 : Int32) (x2 : Int32) (x3 : Int32) (x4 : Int32) (x5 : Int32) (x6 : Int32) (x7 : Int32) (x9 : Int32) (y0 : Int32) (f : Nat → Int32) (a : Nat → Nat → Int32) (H : Heap) (locs : List Loc) (ls : Array Slot), vX11_fits_161 K85 Q x1 x2 x3 x4 x5 x6 x7 x9 y0 f a → hw D [(cI, .int)] q 12 (gM q cI f a) A s H locs → lv_has ls 11 [(0, .ref (q 0)), (1, .int x1), (2, .int x2), (3, .int x3), (4, .int x4), (5, .int x5), (6, .int x6), (7, .int x7), (9, .int x9)] → W p l e (headSpec wsX11_fits rmX11_fits).room s m args below meth c H locs 0 0 (MQ below (QMi D q cI Q A) args s 0 0 A) (F0 m 161 ls [.int y0]) := by
  intro x1 x2 x3 x4 x5 x6 x7 x9 y0 f a H locs ls h hW hl
  unfold vX11_fits_161 at h
  refine lv_istore (lv' := [(8, .int y0), (0, .ref (q 0)), (1, .int x1), (2, .int x2), (3, .int x3), (4, .int x4), (5, .int x5), (6, .int x6), (7, .int x7), (9, .int x9)]) C.1 C.2.1 dX11_fits_161 hl (by decide) rfl (fun ls hl => ?_)
  obtain ⟨x9_31, ex9_31⟩ : ∃ z : Int32, z = x9 + (1 : Int32) := ⟨_, rfl⟩
  replace h := h x9_31 ex9_31
  refine lv_iinc (v := x9_31) (lv' := [(9, .int x9_31), (8, .int y0), (0, .ref (q 0)), (1, .int x1), (2, .int x2), (3, .int x3), (4, .int x4), (5, .int x5), (6, .int x6), (7, .int x7)]) C.1 C.2.1 dX11_fits_163 hl (k := 9) rfl (by rw [ex9_31]; rfl) (by decide) rfl (fun ls hl => ?_)
  refine lv_goto (tgt := 85) C.1 C.2.1 dX11_fits_166 (by decide) ?_
  exact hK85 x1 x2 x3 x4 x5 x6 x7 y0 x9_31 f a _ _ _ h hW (lv_sub hl [2, 3, 4, 5, 6, 7, 8, 9, 1, 0] rfl)
set_option maxRecDepth 100000 in
set_option maxHeartbeats 4000000 in
theorem sX11_fits_147 {p : Program} {l : Launch} {e : Env} {s : State} {m : MethodId} {args : Array Value} {below : List Frame} {meth : Method} {c : Code} {D : va_G} {q : Nat → Nat} {A : Nat → Prop} {cI : ClassId} (C : CallFix p m c cX11_fits 11 s args wsX11_fits RX11) (hr : meth.sig.returnType = (some .int)) (hlk : meth.locks = false) (Q : Int32 → (Nat → Int32) → (Nat → Nat → Int32) → Prop) (K85 : Int32 → Int32 → Int32 → Int32 → Int32 → Int32 → Int32 → Int32 → Int32 → (Nat → Int32) → (Nat → Nat → Int32) → Prop) (hK85 : ∀ (x1 : Int32) (x2 : Int32) (x3 : Int32) (x4 : Int32) (x5 : Int32) (x6 : Int32) (x7 : Int32) (x8 : Int32) (x9 : Int32) (f : Nat → Int32) (a : Nat → Nat → Int32) (H : Heap) (locs : List Loc) (ls : Array Slot), K85 x1 x2 x3 x4 x5 x6 x7 x8 x9 f a → hw D [(cI, .int)] q 12 (gM q cI f a) A s H locs → lv_has ls 11 [(0, .ref (q 0)), (1, .int x1), (2, .int x2), (3, .int x3), (4, .int x4), (5, .int x5), (6, .int x6), (7, .int x7), (8, .int x8), (9, .int x9)] → W p l e (headSpec wsX11_fits rmX11_fits).room s m args below meth c H locs 0 0 (MQ below (QMi D q cI Q A) args s 0 0 A) (F0 m 85 ls [])) : ∀ (x1 : Int32) (x2 : Int32) (x3 : Int32) (x4 : Int32) (x5 : Int32) (x6 : Int32) (x8 : Int32) (x9 : Int32) (x10 : Int32) (y0 : Int32) (f : Nat → Int32) (a : Nat → Nat → Int32) (H : Heap) (locs : List Loc) (ls : Array Slot), vX11_fits_147 K85 Q x1 x2 x3 x4 x5 x6 x8 x9 x10 y0 f a → hw D [(cI, .int)] q 12 (gM q cI f a) A s H locs → lv_has ls 11 [(0, .ref (q 0)), (1, .int x1), (2, .int x2), (3, .int x3), (4, .int x4), (5, .int x5), (6, .int x6), (8, .int x8), (9, .int x9), (10, .int x10)] → W p l e (headSpec wsX11_fits rmX11_fits).room s m args below meth c H locs 0 0 (MQ below (QMi D q cI Q A) args s 0 0 A) (F0 m 147 ls [.int y0]) := by
  intro x1 x2 x3 x4 x5 x6 x8 x9 x10 y0 f a H locs ls h hW hl
  unfold vX11_fits_147 at h
  refine lv_istore (lv' := [(7, .int y0), (0, .ref (q 0)), (1, .int x1), (2, .int x2), (3, .int x3), (4, .int x4), (5, .int x5), (6, .int x6), (8, .int x8), (9, .int x9), (10, .int x10)]) C.1 C.2.1 dX11_fits_147 hl (by decide) rfl (fun ls hl => ?_)
  refine lv_iload C.1 C.2.1 dX11_fits_149 (lv_at hl 10 rfl) ?_
  refine lv_if_eq (tgt := 159) C.1 C.2.1 dX11_fits_151 (by decide) (fun c30 => ?_) (fun c30 => ?_)
  · replace h := h.1 c30
    refine lv_iload C.1 C.2.1 dX11_fits_159 (lv_at hl 8 rfl) ?_
    exact sX11_fits_161 C hr hlk Q K85 hK85 x1 x2 x3 x4 x5 x6 y0 x9 x8 f a _ _ _ h hW (lv_sub hl [1, 2, 3, 4, 5, 6, 7, 0, 9] rfl)
  · replace h := h.2 c30
    refine lv_iload C.1 C.2.1 dX11_fits_154 (lv_at hl 9 rfl) ?_
    refine lv_goto (tgt := 161) C.1 C.2.1 dX11_fits_156 (by decide) ?_
    exact sX11_fits_161 C hr hlk Q K85 hK85 x1 x2 x3 x4 x5 x6 y0 x9 x9 f a _ _ _ h hW (lv_sub hl [1, 2, 3, 4, 5, 6, 7, 0, 9] rfl)
set_option maxRecDepth 100000 in
set_option maxHeartbeats 4000000 in
theorem sX11_fits_145 {p : Program} {l : Launch} {e : Env} {s : State} {m : MethodId} {args : Array Value} {below : List Frame} {meth : Method} {c : Code} {D : va_G} {q : Nat → Nat} {A : Nat → Prop} {cI : ClassId} (C : CallFix p m c cX11_fits 11 s args wsX11_fits RX11) (hr : meth.sig.returnType = (some .int)) (hlk : meth.locks = false) (Q : Int32 → (Nat → Int32) → (Nat → Nat → Int32) → Prop) (K85 : Int32 → Int32 → Int32 → Int32 → Int32 → Int32 → Int32 → Int32 → Int32 → (Nat → Int32) → (Nat → Nat → Int32) → Prop) (hK85 : ∀ (x1 : Int32) (x2 : Int32) (x3 : Int32) (x4 : Int32) (x5 : Int32) (x6 : Int32) (x7 : Int32) (x8 : Int32) (x9 : Int32) (f : Nat → Int32) (a : Nat → Nat → Int32) (H : Heap) (locs : List Loc) (ls : Array Slot), K85 x1 x2 x3 x4 x5 x6 x7 x8 x9 f a → hw D [(cI, .int)] q 12 (gM q cI f a) A s H locs → lv_has ls 11 [(0, .ref (q 0)), (1, .int x1), (2, .int x2), (3, .int x3), (4, .int x4), (5, .int x5), (6, .int x6), (7, .int x7), (8, .int x8), (9, .int x9)] → W p l e (headSpec wsX11_fits rmX11_fits).room s m args below meth c H locs 0 0 (MQ below (QMi D q cI Q A) args s 0 0 A) (F0 m 85 ls [])) : ∀ (x1 : Int32) (x2 : Int32) (x3 : Int32) (x4 : Int32) (x5 : Int32) (x6 : Int32) (x7 : Int32) (x8 : Int32) (x9 : Int32) (x10 : Int32) (f : Nat → Int32) (a : Nat → Nat → Int32) (H : Heap) (locs : List Loc) (ls : Array Slot), vX11_fits_145 K85 Q x1 x2 x3 x4 x5 x6 x7 x8 x9 x10 f a → hw D [(cI, .int)] q 12 (gM q cI f a) A s H locs → lv_has ls 11 [(0, .ref (q 0)), (1, .int x1), (2, .int x2), (3, .int x3), (4, .int x4), (5, .int x5), (6, .int x6), (7, .int x7), (8, .int x8), (9, .int x9), (10, .int x10)] → W p l e (headSpec wsX11_fits rmX11_fits).room s m args below meth c H locs 0 0 (MQ below (QMi D q cI Q A) args s 0 0 A) (F0 m 145 ls []) := by
  intro x1 x2 x3 x4 x5 x6 x7 x8 x9 x10 f a H locs ls h hW hl
  unfold vX11_fits_145 at h
  refine lv_iload C.1 C.2.1 dX11_fits_145 (lv_at hl 7 rfl) ?_
  exact sX11_fits_147 C hr hlk Q K85 hK85 x1 x2 x3 x4 x5 x6 x8 x9 x10 x7 f a _ _ _ h hW (lv_sub hl [0, 1, 2, 3, 4, 5, 6, 8, 9, 10] rfl)
set_option maxRecDepth 100000 in
set_option maxHeartbeats 4000000 in
theorem sX11_fits_127 {p : Program} {l : Launch} {e : Env} {s : State} {m : MethodId} {args : Array Value} {below : List Frame} {meth : Method} {c : Code} {D : va_G} {q : Nat → Nat} {A : Nat → Prop} {cI : ClassId} (C : CallFix p m c cX11_fits 11 s args wsX11_fits RX11) (hr : meth.sig.returnType = (some .int)) (hlk : meth.locks = false) (Q : Int32 → (Nat → Int32) → (Nat → Nat → Int32) → Prop) (K85 : Int32 → Int32 → Int32 → Int32 → Int32 → Int32 → Int32 → Int32 → Int32 → (Nat → Int32) → (Nat → Nat → Int32) → Prop) (hK85 : ∀ (x1 : Int32) (x2 : Int32) (x3 : Int32) (x4 : Int32) (x5 : Int32) (x6 : Int32) (x7 : Int32) (x8 : Int32) (x9 : Int32) (f : Nat → Int32) (a : Nat → Nat → Int32) (H : Heap) (locs : List Loc) (ls : Array Slot), K85 x1 x2 x3 x4 x5 x6 x7 x8 x9 f a → hw D [(cI, .int)] q 12 (gM q cI f a) A s H locs → lv_has ls 11 [(0, .ref (q 0)), (1, .int x1), (2, .int x2), (3, .int x3), (4, .int x4), (5, .int x5), (6, .int x6), (7, .int x7), (8, .int x8), (9, .int x9)] → W p l e (headSpec wsX11_fits rmX11_fits).room s m args below meth c H locs 0 0 (MQ below (QMi D q cI Q A) args s 0 0 A) (F0 m 85 ls [])) : ∀ (x1 : Int32) (x2 : Int32) (x3 : Int32) (x4 : Int32) (x5 : Int32) (x7 : Int32) (x8 : Int32) (x9 : Int32) (x10 : Int32) (y0 : Int32) (y1 : Int32) (f : Nat → Int32) (a : Nat → Nat → Int32) (H : Heap) (locs : List Loc) (ls : Array Slot), vX11_fits_127 K85 Q x1 x2 x3 x4 x5 x7 x8 x9 x10 y0 y1 f a → hw D [(cI, .int)] q 12 (gM q cI f a) A s H locs → lv_has ls 11 [(0, .ref (q 0)), (1, .int x1), (2, .int x2), (3, .int x3), (4, .int x4), (5, .int x5), (7, .int x7), (8, .int x8), (9, .int x9), (10, .int x10)] → W p l e (headSpec wsX11_fits rmX11_fits).room s m args below meth c H locs 0 0 (MQ below (QMi D q cI Q A) args s 0 0 A) (F0 m 127 ls [.int y0, .int y1]) := by
  intro x1 x2 x3 x4 x5 x7 x8 x9 x10 y0 y1 f a H locs ls h hW hl
  unfold vX11_fits_127 at h
  refine lv_iadd C.1 C.2.1 dX11_fits_127 ?_
  refine lv_topi (fun x6_28 ex6_28 => ?_)
  replace h := h x6_28 ex6_28
  refine lv_istore (lv' := [(6, .int x6_28), (0, .ref (q 0)), (1, .int x1), (2, .int x2), (3, .int x3), (4, .int x4), (5, .int x5), (7, .int x7), (8, .int x8), (9, .int x9), (10, .int x10)]) C.1 C.2.1 dX11_fits_128 hl (by decide) rfl (fun ls hl => ?_)
  refine lv_iload C.1 C.2.1 dX11_fits_130 (lv_at hl 10 rfl) ?_
  refine lv_if_eq (tgt := 145) C.1 C.2.1 dX11_fits_132 (by decide) (fun c29 => ?_) (fun c29 => ?_)
  · replace h := h.1 c29
    exact sX11_fits_145 C hr hlk Q K85 hK85 x1 x2 x3 x4 x5 x6_28 x7 x8 x9 x10 f a _ _ _ h hW (lv_sub hl [1, 2, 3, 4, 5, 6, 0, 7, 8, 9, 10] rfl)
  · replace h := h.2 c29
    refine lv_iload C.1 C.2.1 dX11_fits_135 (lv_at hl 7 rfl) ?_
    refine lv_if_ge (tgt := 145) C.1 C.2.1 dX11_fits_137 (by decide) (fun c32 => ?_) (fun c32 => ?_)
    · replace h := h.1 c32
      exact sX11_fits_145 C hr hlk Q K85 hK85 x1 x2 x3 x4 x5 x6_28 x7 x8 x9 x10 f a _ _ _ h hW (lv_sub hl [1, 2, 3, 4, 5, 6, 0, 7, 8, 9, 10] rfl)
    · replace h := h.2 c32
      refine lv_iload C.1 C.2.1 dX11_fits_140 (lv_at hl 9 rfl) ?_
      refine lv_goto (tgt := 147) C.1 C.2.1 dX11_fits_142 (by decide) ?_
      exact sX11_fits_147 C hr hlk Q K85 hK85 x1 x2 x3 x4 x5 x6_28 x8 x9 x10 x9 f a _ _ _ h hW (lv_sub hl [1, 2, 3, 4, 5, 6, 0, 8, 9, 10] rfl)
set_option maxRecDepth 100000 in
set_option maxHeartbeats 4000000 in
theorem sX11_fits_85 {p : Program} {l : Launch} {e : Env} {s : State} {m : MethodId} {args : Array Value} {below : List Frame} {meth : Method} {c : Code} {D : va_G} {q : Nat → Nat} {A : Nat → Prop} {cI : ClassId} (C : CallFix p m c cX11_fits 11 s args wsX11_fits RX11) (hr : meth.sig.returnType = (some .int)) (hlk : meth.locks = false) (Q : Int32 → (Nat → Int32) → (Nat → Nat → Int32) → Prop) : ∀ (fu : Nat) (x1 : Int32) (x2 : Int32) (x3 : Int32) (x4 : Int32) (x5 : Int32) (x6 : Int32) (x7 : Int32) (x8 : Int32) (x9 : Int32) (f : Nat → Int32) (a : Nat → Nat → Int32) (H : Heap) (locs : List Loc) (ls : Array Slot), vX11_fits_85 Q fu x1 x2 x3 x4 x5 x6 x7 x8 x9 f a → hw D [(cI, .int)] q 12 (gM q cI f a) A s H locs → lv_has ls 11 [(0, .ref (q 0)), (1, .int x1), (2, .int x2), (3, .int x3), (4, .int x4), (5, .int x5), (6, .int x6), (7, .int x7), (8, .int x8), (9, .int x9)] → W p l e (headSpec wsX11_fits rmX11_fits).room s m args below meth c H locs 0 0 (MQ below (QMi D q cI Q A) args s 0 0 A) (F0 m 85 ls []) := by
  intro fu
  induction fu with
  | zero =>
    intro x1 x2 x3 x4 x5 x6 x7 x8 x9 f a H locs ls h
    exact h.elim
  | succ fu ih =>
    intro x1 x2 x3 x4 x5 x6 x7 x8 x9 f a H locs ls h hW hl
    refine lv_iload C.1 C.2.1 dX11_fits_85 (lv_at hl 9 rfl) ?_
    refine lv_iload_n C.1 C.2.1 dX11_fits_87 rfl (lv_at hl 2 rfl) ?_
    refine k_pi hW (va_runS (As := [.int x2]) (rest := [.int x9]) C (mtX11_greatestOf l D q _ H.size x2 _ h) (va_cwS 1 C.2.2.2.2 gX11_fits_X11_greatestOf rfl rfl rfl (by decide +kernel) ⟨Nat.le_of_ble_eq_true rfl, Nat.le_of_ble_eq_true rfl⟩) ⟨mP_blind tX_B, fun U hU hV => ⟨rfl, hW.pre0 hU hV trivial⟩⟩ rfl rfl hl.1 rfl (lv_room (Nat.le_of_ble_eq_true rfl)) dX11_fits_88 ⟨Nat.zero_le _, Nat.zero_le _⟩) (fun r16 H locs h hW => ?_)
    refine lv_icmp_gt (tgt := 169) C.1 C.2.1 dX11_fits_91 (by decide) (fun c17 => ?_) (fun c17 => ?_)
    · replace h := h.1 c17
      refine lv_aload_n C.1 C.2.1 dX11_fits_169 rfl (lv_at hl 0 rfl) ?_
      refine r_get C hW (ci := 11) (T := TX11) (n := 21) (ref := "BallMinderModel") (v := .ref (q 2)) 0 (by decide) rfl rfl 3 (by decide) inX11_fits (by decide +kernel) (fun _ h9 => h9) rfl dX11_fits_170 ?_
      refine lv_bipush (v := 9) C.1 C.2.1 dX11_fits_173 (by decide) ?_
      refine lv_iload_n C.1 C.2.1 dX11_fits_175 rfl (lv_at hl 1 rfl) ?_
      refine lv_imul C.1 C.2.1 dX11_fits_176 ?_
      refine lv_iload_n C.1 C.2.1 dX11_fits_177 rfl (lv_at hl 2 rfl) ?_
      refine lv_iadd C.1 C.2.1 dX11_fits_178 ?_
      refine lv_iload C.1 C.2.1 dX11_fits_179 (lv_at hl 5 rfl) ?_
      obtain ⟨hs18, h⟩ := h
      refine r_iast C hW (cA := cI) (n := 72) (f := a 2) 2 0 (by decide) rfl rfl hs18 dX11_fits_181 (fun H locs hW => ?_)
      replace hW := gM_ast (k := 2) (n := 72) (by decide) rfl hW
      obtain ⟨a19, ea19⟩ : ∃ z : Nat → Nat → Int32, z = va_up a 2 (upd (a 2) (((9 : Int32) * x1) + x2).toNatClampNeg x5) := ⟨_, rfl⟩
      rw [← ea19] at hW
      replace h := h a19 ea19
      refine lv_iload C.1 C.2.1 dX11_fits_182 (lv_at hl 4 rfl) ?_
      refine lv_if_ne (tgt := 192) C.1 C.2.1 dX11_fits_184 (by decide) (fun c20 => ?_) (fun c20 => ?_)
      · replace h := h.1 c20
        refine lv_iload C.1 C.2.1 dX11_fits_192 (lv_at hl 4 rfl) ?_
        refine lv_iconst (v := 1) C.1 C.2.1 dX11_fits_194 (by decide) ?_
        refine lv_icmp_ne (tgt := 203) C.1 C.2.1 dX11_fits_195 (by decide) (fun c21 => ?_) (fun c21 => ?_)
        · replace h := h.1 c21
          refine lv_iload C.1 C.2.1 dX11_fits_203 (lv_at hl 6 rfl) ?_
          exact t_i C hr hlk (u := (f, a19)) hW.2.2.2.1 hW.B h dX11_fits_205
        · replace h := h.2 c21
          refine lv_iload C.1 C.2.1 dX11_fits_198 (lv_at hl 8 rfl) ?_
          refine lv_goto (tgt := 205) C.1 C.2.1 dX11_fits_200 (by decide) ?_
          exact t_i C hr hlk (u := (f, a19)) hW.2.2.2.1 hW.B h dX11_fits_205
      · replace h := h.2 c20
        refine lv_iload C.1 C.2.1 dX11_fits_187 (lv_at hl 7 rfl) ?_
        refine lv_goto (tgt := 205) C.1 C.2.1 dX11_fits_189 (by decide) ?_
        exact t_i C hr hlk (u := (f, a19)) hW.2.2.2.1 hW.B h dX11_fits_205
    · replace h := h.2 c17
      refine lv_aload_n C.1 C.2.1 dX11_fits_94 rfl (lv_at hl 0 rfl) ?_
      refine r_get C hW (ci := 11) (T := TX11) (n := 21) (ref := "BallMinderModel") (v := .ref (q 2)) 0 (by decide) rfl rfl 3 (by decide) inX11_fits (by decide +kernel) (fun _ h9 => h9) rfl dX11_fits_95 ?_
      refine lv_bipush (v := 9) C.1 C.2.1 dX11_fits_98 (by decide) ?_
      refine lv_iload_n C.1 C.2.1 dX11_fits_100 rfl (lv_at hl 1 rfl) ?_
      refine lv_imul C.1 C.2.1 dX11_fits_101 ?_
      refine lv_iload_n C.1 C.2.1 dX11_fits_102 rfl (lv_at hl 2 rfl) ?_
      refine lv_iadd C.1 C.2.1 dX11_fits_103 ?_
      refine lv_iload C.1 C.2.1 dX11_fits_104 (lv_at hl 9 rfl) ?_
      obtain ⟨hs22, h⟩ := h
      refine r_iast C hW (cA := cI) (n := 72) (f := a 2) 2 0 (by decide) rfl rfl hs22 dX11_fits_106 (fun H locs hW => ?_)
      replace hW := gM_ast (k := 2) (n := 72) (by decide) rfl hW
      obtain ⟨a23, ea23⟩ : ∃ z : Nat → Nat → Int32, z = va_up a 2 (upd (a 2) (((9 : Int32) * x1) + x2).toNatClampNeg x9) := ⟨_, rfl⟩
      rw [← ea23] at hW
      replace h := h a23 ea23
      refine lv_aload_n C.1 C.2.1 dX11_fits_107 rfl (lv_at hl 0 rfl) ?_
      refine lv_iload_n C.1 C.2.1 dX11_fits_108 rfl (lv_at hl 1 rfl) ?_
      refine lv_iload_n C.1 C.2.1 dX11_fits_109 rfl (lv_at hl 3 rfl) ?_
      refine k_i hW (va_runV (As := [.int x1, .int x3]) (rest := []) C (mtX11_doesFit l D q cI H.size x1 x3 f a23 _ h) (cwV 2 C.2.2.2.2 gX11_fits_X11_doesFit rfl rfl rfl (by decide +kernel) ⟨Nat.le_of_ble_eq_true rfl, Nat.le_of_ble_eq_true rfl⟩) ⟨mP_blind tX_B, va_recv hW.1 hW.2.1 (ci := 11) (q0 := 0) rfl (wL_get (by decide)), fun U hU hV => ⟨rfl, hW.pre hU hV trivial⟩⟩ rfl rfl hl.1 rfl (lv_room (Nat.le_of_ble_eq_true rfl)) dX11_fits_110 ⟨Nat.zero_le _, Nat.zero_le _⟩) (fun r24 u H locs h hW => ?_)
      obtain ⟨f25, a26⟩ := u
      replace hW : hw D [(cI, .int)] q 12 (gM q cI f25 a26) A s H locs := hW
      refine lv_istore (lv' := [(10, .int r24), (0, .ref (q 0)), (1, .int x1), (2, .int x2), (3, .int x3), (4, .int x4), (5, .int x5), (6, .int x6), (7, .int x7), (8, .int x8), (9, .int x9)]) C.1 C.2.1 dX11_fits_113 hl (by decide) rfl (fun ls hl => ?_)
      refine lv_iload C.1 C.2.1 dX11_fits_115 (lv_at hl 7 rfl) ?_
      refine lv_iload C.1 C.2.1 dX11_fits_117 (lv_at hl 0 rfl) ?_
      refine lv_if_eq (tgt := 126) C.1 C.2.1 dX11_fits_119 (by decide) (fun c27 => ?_) (fun c27 => ?_)
      · replace h := h.1 c27
        refine lv_iconst (v := 0) C.1 C.2.1 dX11_fits_126 (by decide) ?_
        exact sX11_fits_127 C hr hlk Q _ ih x1 x2 x3 x4 x5 x7 x8 x9 r24 (0 : Int32) x6 f25 a26 _ _ _ h hW (lv_sub hl [1, 2, 3, 4, 5, 6, 8, 9, 10, 0] rfl)
      · replace h := h.2 c27
        refine lv_iconst (v := 1) C.1 C.2.1 dX11_fits_122 (by decide) ?_
        refine lv_goto (tgt := 127) C.1 C.2.1 dX11_fits_123 (by decide) ?_
        exact sX11_fits_127 C hr hlk Q _ ih x1 x2 x3 x4 x5 x7 x8 x9 r24 (1 : Int32) x6 f25 a26 _ _ _ h hW (lv_sub hl [1, 2, 3, 4, 5, 6, 8, 9, 10, 0] rfl)
set_option maxRecDepth 100000 in
set_option maxHeartbeats 4000000 in
theorem sX11_fits {p : Program} {l : Launch} {e : Env} {s : State} {m : MethodId} {args : Array Value} {below : List Frame} {meth : Method} {c : Code} {D : va_G} {q : Nat → Nat} {A : Nat → Prop} {cI : ClassId} (C : CallFix p m c cX11_fits 11 s args wsX11_fits RX11) (hr : meth.sig.returnType = (some .int)) (hlk : meth.locks = false) (Q : Int32 → (Nat → Int32) → (Nat → Nat → Int32) → Prop) : ∀ (x1 : Int32) (x2 : Int32) (x3 : Int32) (x4 : Int32) (f : Nat → Int32) (a : Nat → Nat → Int32) (H : Heap) (locs : List Loc) (ls : Array Slot), vX11_fits x1 x2 x3 x4 f a Q → hw D [(cI, .int)] q 12 (gM q cI f a) A s H locs → lv_has ls 11 [(0, .ref (q 0)), (1, .int x1), (2, .int x2), (3, .int x3), (4, .int x4)] → W p l e (headSpec wsX11_fits rmX11_fits).room s m args below meth c H locs 0 0 (MQ below (QMi D q cI Q A) args s 0 0 A) (F0 m 0 ls []) := by
  intro x1 x2 x3 x4 f a H locs ls h hW hl
  unfold vX11_fits at h
  refine lv_aload_n C.1 C.2.1 dX11_fits_0 rfl (lv_at hl 0 rfl) ?_
  refine lv_iload_n C.1 C.2.1 dX11_fits_1 rfl (lv_at hl 1 rfl) ?_
  refine k_i hW (va_runV (As := [.int x1]) (rest := []) C (mtX11_noMill l D q cI H.size x1 f a _ h) (cwV 1 C.2.2.2.2 gX11_fits_X11_noMill rfl rfl rfl (by decide +kernel) ⟨Nat.le_of_ble_eq_true rfl, Nat.le_of_ble_eq_true rfl⟩) ⟨mP_blind tX_B, va_recv hW.1 hW.2.1 (ci := 11) (q0 := 0) rfl (wL_get (by decide)), fun U hU hV => ⟨rfl, hW.pre hU hV trivial⟩⟩ rfl rfl hl.1 rfl (lv_room (Nat.le_of_ble_eq_true rfl)) dX11_fits_2 ⟨Nat.zero_le _, Nat.zero_le _⟩) (fun r1 u H locs h hW => ?_)
  obtain ⟨f2, a3⟩ := u
  replace hW : hw D [(cI, .int)] q 12 (gM q cI f2 a3) A s H locs := hW
  refine lv_if_ne (tgt := 20) C.1 C.2.1 dX11_fits_5 (by decide) (fun c4 => ?_) (fun c4 => ?_)
  · replace h := h.1 c4
    refine lv_iconst (v := -1) C.1 C.2.1 dX11_fits_20 (by decide) ?_
    exact t_i C hr hlk (u := (f2, a3)) hW.2.2.2.1 hW.B h dX11_fits_21
  · replace h := h.2 c4
    refine lv_iload_n C.1 C.2.1 dX11_fits_8 rfl (lv_at hl 2 rfl) ?_
    refine lv_i2l C.1 C.2.1 dX11_fits_9 rfl ?_
    refine lv_lconst (v := 0) C.1 C.2.1 dX11_fits_10 (by decide) ?_
    refine lv_ldc2 (v := (8)) C.1 C.2.1 C.2.2.2.1 (C.2.2.2.2 (.constantLong RX11 113 (8)) (by decide +kernel)) dX11_fits_11 ?_
    refine k_pi hW (va_runS (As := [.long x2.toInt64, .long (0 : Int64), .long (8 : Int64)]) (rest := []) C (mtX11_in l D q _ H.size x2.toInt64 (0 : Int64) (8 : Int64) _ h) (va_cwS 3 C.2.2.2.2 gX11_fits_X11_in rfl rfl rfl (by decide +kernel) ⟨Nat.le_of_ble_eq_true rfl, Nat.le_of_ble_eq_true rfl⟩) ⟨mP_blind tX_B, fun U hU hV => ⟨rfl, hW.pre0 hU hV trivial⟩⟩ rfl rfl hl.1 rfl (lv_room (Nat.le_of_ble_eq_true rfl)) dX11_fits_14 ⟨Nat.zero_le _, Nat.zero_le _⟩) (fun r5 H locs h hW => ?_)
    refine lv_if_ne (tgt := 22) C.1 C.2.1 dX11_fits_17 (by decide) (fun c6 => ?_) (fun c6 => ?_)
    · replace h := h.1 c6
      refine lv_iload_n C.1 C.2.1 dX11_fits_22 rfl (lv_at hl 3 rfl) ?_
      refine lv_i2l C.1 C.2.1 dX11_fits_23 rfl ?_
      refine lv_lconst (v := 0) C.1 C.2.1 dX11_fits_24 (by decide) ?_
      refine lv_ldc2 (v := (100)) C.1 C.2.1 C.2.2.2.1 (C.2.2.2.2 (.constantLong RX11 187 (100)) (by decide +kernel)) dX11_fits_25 ?_
      refine k_pi hW (va_runS (As := [.long x3.toInt64, .long (0 : Int64), .long (100 : Int64)]) (rest := []) C (mtX11_in l D q _ H.size x3.toInt64 (0 : Int64) (100 : Int64) _ h) (va_cwS 3 C.2.2.2.2 gX11_fits_X11_in rfl rfl rfl (by decide +kernel) ⟨Nat.le_of_ble_eq_true rfl, Nat.le_of_ble_eq_true rfl⟩) ⟨mP_blind tX_B, fun U hU hV => ⟨rfl, hW.pre0 hU hV trivial⟩⟩ rfl rfl hl.1 rfl (lv_room (Nat.le_of_ble_eq_true rfl)) dX11_fits_28 ⟨Nat.zero_le _, Nat.zero_le _⟩) (fun r7 H locs h hW => ?_)
      refine lv_if_eq (tgt := 47) C.1 C.2.1 dX11_fits_31 (by decide) (fun c8 => ?_) (fun c8 => ?_)
      · replace h := h.1 c8
        refine lv_bipush (v := -2) C.1 C.2.1 dX11_fits_47 (by decide) ?_
        exact t_i C hr hlk (u := (f2, a3)) hW.2.2.2.1 hW.B h dX11_fits_49
      · replace h := h.2 c8
        refine lv_iload C.1 C.2.1 dX11_fits_34 (lv_at hl 4 rfl) ?_
        refine lv_i2l C.1 C.2.1 dX11_fits_36 rfl ?_
        refine lv_lconst (v := 0) C.1 C.2.1 dX11_fits_37 (by decide) ?_
        refine lv_ldc2 (v := (2)) C.1 C.2.1 C.2.2.2.1 (C.2.2.2.2 (.constantLong RX11 92 (2)) (by decide +kernel)) dX11_fits_38 ?_
        refine k_pi hW (va_runS (As := [.long x4.toInt64, .long (0 : Int64), .long (2 : Int64)]) (rest := []) C (mtX11_in l D q _ H.size x4.toInt64 (0 : Int64) (2 : Int64) _ h) (va_cwS 3 C.2.2.2.2 gX11_fits_X11_in rfl rfl rfl (by decide +kernel) ⟨Nat.le_of_ble_eq_true rfl, Nat.le_of_ble_eq_true rfl⟩) ⟨mP_blind tX_B, fun U hU hV => ⟨rfl, hW.pre0 hU hV trivial⟩⟩ rfl rfl hl.1 rfl (lv_room (Nat.le_of_ble_eq_true rfl)) dX11_fits_41 ⟨Nat.zero_le _, Nat.zero_le _⟩) (fun r9 H locs h hW => ?_)
        refine lv_if_ne (tgt := 50) C.1 C.2.1 dX11_fits_44 (by decide) (fun c10 => ?_) (fun c10 => ?_)
        · replace h := h.1 c10
          refine lv_aload_n C.1 C.2.1 dX11_fits_50 rfl (lv_at hl 0 rfl) ?_
          refine r_get C hW (ci := 11) (T := TX11) (n := 21) (ref := "BallMinderModel") (v := .int (f2 14)) 0 (by decide) rfl rfl 14 (by decide) inX11_fits (by decide +kernel) (fun _ h9 => h9) rfl dX11_fits_51 ?_
          refine lv_if_ne (tgt := 60) C.1 C.2.1 dX11_fits_54 (by decide) (fun c11 => ?_) (fun c11 => ?_)
          · replace h := h.1 c11
            refine lv_aload_n C.1 C.2.1 dX11_fits_60 rfl (lv_at hl 0 rfl) ?_
            refine lv_iload_n C.1 C.2.1 dX11_fits_61 rfl (lv_at hl 1 rfl) ?_
            refine lv_iload_n C.1 C.2.1 dX11_fits_62 rfl (lv_at hl 2 rfl) ?_
            refine k_i hW (va_runV (As := [.int x1, .int x2]) (rest := []) C (mtX11_of l D q cI H.size x1 x2 f2 a3 _ h) (cwV 2 C.2.2.2.2 gX11_fits_X11_of rfl rfl rfl (by decide +kernel) ⟨Nat.le_of_ble_eq_true rfl, Nat.le_of_ble_eq_true rfl⟩) ⟨mP_blind tX_B, va_recv hW.1 hW.2.1 (ci := 11) (q0 := 0) rfl (wL_get (by decide)), fun U hU hV => ⟨rfl, hW.pre hU hV trivial⟩⟩ rfl rfl hl.1 rfl (lv_room (Nat.le_of_ble_eq_true rfl)) dX11_fits_63 ⟨Nat.zero_le _, Nat.zero_le _⟩) (fun r12 u H locs h hW => ?_)
            obtain ⟨f13, a14⟩ := u
            replace hW : hw D [(cI, .int)] q 12 (gM q cI f13 a14) A s H locs := hW
            refine lv_istore (lv' := [(5, .int r12), (0, .ref (q 0)), (1, .int x1), (2, .int x2), (3, .int x3), (4, .int x4)]) C.1 C.2.1 dX11_fits_66 hl (by decide) rfl (fun ls hl => ?_)
            refine lv_iconst (v := 0) C.1 C.2.1 dX11_fits_68 (by decide) ?_
            refine lv_istore (lv' := [(6, .int (0 : Int32)), (5, .int r12), (0, .ref (q 0)), (1, .int x1), (2, .int x2), (3, .int x3), (4, .int x4)]) C.1 C.2.1 dX11_fits_69 hl (by decide) rfl (fun ls hl => ?_)
            refine lv_bipush (v := -9) C.1 C.2.1 dX11_fits_71 (by decide) ?_
            refine lv_istore (lv' := [(7, .int (-9 : Int32)), (6, .int (0 : Int32)), (5, .int r12), (0, .ref (q 0)), (1, .int x1), (2, .int x2), (3, .int x3), (4, .int x4)]) C.1 C.2.1 dX11_fits_73 hl (by decide) rfl (fun ls hl => ?_)
            refine lv_bipush (v := -9) C.1 C.2.1 dX11_fits_75 (by decide) ?_
            refine lv_istore (lv' := [(8, .int (-9 : Int32)), (7, .int (-9 : Int32)), (6, .int (0 : Int32)), (5, .int r12), (0, .ref (q 0)), (1, .int x1), (2, .int x2), (3, .int x3), (4, .int x4)]) C.1 C.2.1 dX11_fits_77 hl (by decide) rfl (fun ls hl => ?_)
            refine lv_iload_n C.1 C.2.1 dX11_fits_79 rfl (lv_at hl 6 rfl) ?_
            refine k_pi hW (va_runS (As := [.int x2]) (rest := []) C (mtX11_leastOf l D q _ H.size x2 _ h) (va_cwS 1 C.2.2.2.2 gX11_fits_X11_leastOf rfl rfl rfl (by decide +kernel) ⟨Nat.le_of_ble_eq_true rfl, Nat.le_of_ble_eq_true rfl⟩) ⟨mP_blind tX_B, fun U hU hV => ⟨rfl, hW.pre0 hU hV trivial⟩⟩ rfl rfl hl.1 rfl (lv_room (Nat.le_of_ble_eq_true rfl)) dX11_fits_80 ⟨Nat.zero_le _, Nat.zero_le _⟩) (fun r15 H locs h hW => ?_)
            refine lv_istore (lv' := [(9, .int r15), (8, .int (-9 : Int32)), (7, .int (-9 : Int32)), (6, .int (0 : Int32)), (5, .int r12), (0, .ref (q 0)), (1, .int x1), (2, .int x2), (3, .int x3), (4, .int x4)]) C.1 C.2.1 dX11_fits_83 hl (by decide) rfl (fun ls hl => ?_)
            obtain ⟨n9, h⟩ := h
            exact sX11_fits_85 C hr hlk Q n9 x1 x2 x3 x4 r12 (0 : Int32) (-9 : Int32) (-9 : Int32) r15 f13 a14 _ _ _ h hW (lv_sub hl [5, 6, 7, 8, 9, 4, 3, 2, 1, 0] rfl)
          · replace h := h.2 c11
            refine lv_bipush (v := -3) C.1 C.2.1 dX11_fits_57 (by decide) ?_
            exact t_i C hr hlk (u := (f2, a3)) hW.2.2.2.1 hW.B h dX11_fits_59
        · replace h := h.2 c10
          refine lv_bipush (v := -2) C.1 C.2.1 dX11_fits_47 (by decide) ?_
          exact t_i C hr hlk (u := (f2, a3)) hW.2.2.2.1 hW.B h dX11_fits_49
    · replace h := h.2 c6
      refine lv_iconst (v := -1) C.1 C.2.1 dX11_fits_20 (by decide) ?_
      exact t_i C hr hlk (u := (f2, a3)) hW.2.2.2.1 hW.B h dX11_fits_21
set_option maxRecDepth 100000 in
set_option maxHeartbeats 4000000 in
theorem mtX11_fits (l : Launch) (D : va_G) (q : Nat → Nat) (cI : ClassId) (sz : Nat) (x1 : Int32) (x2 : Int32) (x3 : Int32) (x4 : Int32) (f : Nat → Int32) (a : Nat → Nat → Int32) (Q : Int32 → (Nat → Int32) → (Nat → Nat → Int32) → Prop) (h : vX11_fits x1 x2 x3 x4 f a Q) : Met l yX11_fits wsX11_fits rmX11_fits (va_Pc [.ref (q 0), .int x1, .int x2, .int x3, .int x4] (mP D [(cI, .int)] q 12 (gM q cI f a) sz tX)) (QMi D q cI Q (aQ q 12 sz)) 0 0 (aQ q 12 sz) := by
  refine met_w (cc := cX11_fits) (maxL := 11) (ret := (some .int)) (by decide) rfl (Nat.le_of_ble_eq_true rfl) ?_
  intro p e s m below meth c ls C hr hlk hW hX hnm hl
  exact sX11_fits C hr hlk Q x1 x2 x3 x4 f a _ _ _ h hW hl
