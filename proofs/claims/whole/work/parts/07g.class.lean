theorem inX10_far_X10 : ∀ w ∈ wsX100, w ∈ wsX10_far := fun _ h => List.mem_cons_of_mem _ (List.mem_append_left _ (List.mem_append_left _ (List.mem_append_left _ (List.mem_append_left _ (List.mem_append_left _ (List.mem_append_right _ h))))))
theorem inX10_far_X5 : ∀ w ∈ wsX50, w ∈ wsX10_far := fun _ h => List.mem_cons_of_mem _ (List.mem_append_left _ (List.mem_append_left _ (List.mem_append_left _ (List.mem_append_left _ (List.mem_append_right _ h)))))
theorem inX10_far_X2 : ∀ w ∈ wsX20, w ∈ wsX10_far := fun _ h => List.mem_cons_of_mem _ (List.mem_append_left _ (List.mem_append_left _ (List.mem_append_left _ (List.mem_append_right _ h))))
theorem inX10_far_X3 : ∀ w ∈ wsX30, w ∈ wsX10_far := fun _ h => List.mem_cons_of_mem _ (List.mem_append_left _ (List.mem_append_left _ (List.mem_append_right _ h)))
theorem inX10_far_X4 : ∀ w ∈ wsX40, w ∈ wsX10_far := fun _ h => List.mem_cons_of_mem _ (List.mem_append_left _ (List.mem_append_right _ h))
theorem inX10_far_X7 : ∀ w ∈ wsX70, w ∈ wsX10_far := fun _ h => List.mem_cons_of_mem _ (List.mem_append_right _ h)
abbrev rmX10_far : Room := { frames := 6, cells := 0, slots := 0, locals := 135 }
def vX10_far (K : Nat → Nat) (n : Nat) (x1 : Int32) (x2 : Int32) (x3 : Int32) (x4 : Int32) (x5 : Int32) (S : Nat → Nat → Int32) (L : Nat → Int64) (R : Nat → Option Nat) (Q : Int32 → (Nat → Nat → Int32) → (Nat → Int64) → (Nat → Option Nat) → Prop) : Prop := vX10_millOf K n x1 S L R (fun o1 S2 L3 R4 => (o1 = none → Q (-1 : Int32) S2 L3 R4) ∧ (∀ mi5 : Nat, o1 = some mi5 → vX10_canRun x2 x3 x4 (fun r6 => (r6 = 0 → Q (-2 : Int32) S2 L3 R4) ∧ (¬ (r6 = 0) → vX10_within x5 (0 : Int32) (4 : Int32) (fun r8 => (¬ r8 = 0 → vX5_begin K n (some mi5) none x2 x3 x4 S2 L3 R4 (fun S10 L11 R12 => vX5_runTillRound K n  S10 L11 R12 (fun S13 L14 R15 => vX5_told K n x5 S13 L14 R15 (fun r16 S17 L18 R19 => Q r16 S17 L18 R19)))) ∧ (r8 = 0 → Q (-2 : Int32) S2 L3 R4))))))
set_option maxRecDepth 100000 in
set_option maxHeartbeats 4000000 in
theorem sX10_far {p : Program} {l : Launch} {e : Env} {s : State} {m : MethodId} {args : Array Value} {below : List Frame} {meth : Method} {c : Code} {D : va_G} {q : Nat → Nat} {A : Nat → Prop} {cI cJ cZ cP cS : ClassId} {K : Nat → Nat} {n : Nat} (C : CallFix p m c cX10_far 7 s args wsX10_far RX10) (hr : meth.sig.returnType = (some .int)) (hlk : meth.locks = false) (hX : cX A s) (Q : Int32 → (Nat → Nat → Int32) → (Nat → Int64) → (Nat → Option Nat) → Prop) : ∀ (x1 : Int32) (x2 : Int32) (x3 : Int32) (x4 : Int32) (x5 : Int32) (S : Nat → Nat → Int32) (L : Nat → Int64) (R : Nat → Option Nat) (H : Heap) (locs : List Loc) (ls : Array Slot), vX10_far K n x1 x2 x3 x4 x5 S L R Q → hw D (tyC cI cJ cZ cP cS) q (29 + 2 * n) (gC q cI cJ cZ cP cS K n S L R) A s H locs → lv_has ls 7 [(0, .ref (q 0)), (1, .int x1), (2, .int x2), (3, .int x3), (4, .int x4), (5, .int x5)] → W p l e (headSpec wsX10_far rmX10_far).room s m args below meth c H locs 0 0 (MQ below (QCi D q cI cJ cZ cP cS K n Q A) args s 0 0 A) (F0 m 0 ls []) := by
  intro x1 x2 x3 x4 x5 S L R H locs ls h hW hl
  unfold vX10_far at h
  refine lv_aload_n C.1 C.2.1 dX10_far_0 rfl (lv_at hl 0 rfl) ?_
  refine lv_iload_n C.1 C.2.1 dX10_far_1 rfl (lv_at hl 1 rfl) ?_
  refine k_q hW (va_runV (As := [.int x1]) (rest := []) C (mtX10_millOf l D q cI cJ cZ cP cS K n H.size x1 S L R _ h) (cwV 1 C.2.2.2.2 gX10_far_X10_millOf rfl rfl rfl (by decide +kernel) ⟨Nat.le_of_ble_eq_true rfl, Nat.le_of_ble_eq_true rfl⟩) ⟨mP_blind cX_B, va_recv hW.1 hW.2.1 (ci := 10) (q0 := 0) rfl (wL_get (by omega)), fun U hU hV => ⟨rfl, hW.pre hU hV (hX.call hW hU hV)⟩⟩ rfl rfl hl.1 rfl (lv_room (Nat.le_of_ble_eq_true rfl)) dX10_far_2 ⟨Nat.zero_le _, Nat.zero_le _⟩) (fun r9 u H locs h hW => ?_)
  obtain ⟨S2, L3, R4⟩ := u
  obtain ⟨o1, rfl, h⟩ := h
  replace hW : hw D (tyC cI cJ cZ cP cS) q (29 + 2 * n) (gC q cI cJ cZ cP cS K n S2 L3 R4) A s H locs := hW
  refine cv_astore (lv' := [(6, va_rf (Option.map (qM q) o1)), (0, .ref (q 0)), (1, .int x1), (2, .int x2), (3, .int x3), (4, .int x4), (5, .int x5)]) C.1 C.2.1 dX10_far_5 hl (by decide) rfl (fun ls hl => ?_)
  refine cv_aload C.1 C.2.1 dX10_far_7 (lv_at hl 0 rfl) ?_
  rcases o1 with _ | mi5
  · replace h := h.1 rfl
    replace hl : lv_has ls 7 [(6, .null), (0, .ref (q 0)), (1, .int x1), (2, .int x2), (3, .int x3), (4, .int x4), (5, .int x5)] := hl
    refine lv_ifnonnullN C.1 C.2.1 dX10_far_9 ?_
    refine lv_iconst (v := -1) C.1 C.2.1 dX10_far_12 (by decide) ?_
    exact t_i C hr hlk (u := (S2, L3, R4)) hW.2.2.2.1 hW.B h dX10_far_13
  · replace h := h.2 mi5 rfl
    replace hl : lv_has ls 7 [(6, .ref (q (29 + 2 * mi5))), (0, .ref (q 0)), (1, .int x1), (2, .int x2), (3, .int x3), (4, .int x4), (5, .int x5)] := hl
    refine lv_ifnonnull (tgt := 14) C.1 C.2.1 dX10_far_9 (by decide) ?_
    refine lv_iload_n C.1 C.2.1 dX10_far_14 rfl (lv_at hl 3 rfl) ?_
    refine lv_iload_n C.1 C.2.1 dX10_far_15 rfl (lv_at hl 4 rfl) ?_
    refine lv_iload C.1 C.2.1 dX10_far_16 (lv_at hl 5 rfl) ?_
    refine k_pi hW (va_runS (As := [.int x2, .int x3, .int x4]) (rest := []) C (mtX10_canRun l D q _ H.size x2 x3 x4 _ h) (va_cwS 3 C.2.2.2.2 gX10_far_X10_canRun rfl rfl rfl (by decide +kernel) ⟨Nat.le_of_ble_eq_true rfl, Nat.le_of_ble_eq_true rfl⟩) ⟨mP_blind tX_B, fun U hU hV => ⟨rfl, hW.pre0 hU hV trivial⟩⟩ rfl rfl hl.1 rfl (lv_room (Nat.le_of_ble_eq_true rfl)) dX10_far_18 ⟨Nat.zero_le _, Nat.zero_le _⟩) (fun r6 H locs h hW => ?_)
    refine lv_if_eq (tgt := 34) C.1 C.2.1 dX10_far_21 (by decide) (fun c7 => ?_) (fun c7 => ?_)
    · replace h := h.1 c7
      refine lv_bipush (v := -2) C.1 C.2.1 dX10_far_34 (by decide) ?_
      exact t_i C hr hlk (u := (S2, L3, R4)) hW.2.2.2.1 hW.B h dX10_far_36
    · replace h := h.2 c7
      refine lv_iload C.1 C.2.1 dX10_far_24 (lv_at hl 6 rfl) ?_
      refine lv_iconst (v := 0) C.1 C.2.1 dX10_far_26 (by decide) ?_
      refine lv_iconst (v := 4) C.1 C.2.1 dX10_far_27 (by decide) ?_
      refine k_pi hW (va_runS (As := [.int x5, .int (0 : Int32), .int (4 : Int32)]) (rest := []) C (mtX10_within l D q _ H.size x5 (0 : Int32) (4 : Int32) _ h) (va_cwS 3 C.2.2.2.2 gX10_far_X10_within rfl rfl rfl (by decide +kernel) ⟨Nat.le_of_ble_eq_true rfl, Nat.le_of_ble_eq_true rfl⟩) ⟨mP_blind tX_B, fun U hU hV => ⟨rfl, hW.pre0 hU hV trivial⟩⟩ rfl rfl hl.1 rfl (lv_room (Nat.le_of_ble_eq_true rfl)) dX10_far_28 ⟨Nat.zero_le _, Nat.zero_le _⟩) (fun r8 H locs h hW => ?_)
      refine lv_if_ne (tgt := 37) C.1 C.2.1 dX10_far_31 (by decide) (fun c9 => ?_) (fun c9 => ?_)
      · replace h := h.1 c9
        refine lv_aload_n C.1 C.2.1 dX10_far_37 rfl (lv_at hl 1 rfl) ?_
        refine r_get C hW (ci := 10) (T := TX10) (n := 11) (ref := "BallMinder") (v := .ref (q 9)) (0) (by omega) rfl rfl 5 (by decide) inX10_far_X10 (by decide +kernel) (fun _ h9 => h9) rfl dX10_far_38 ?_
        refine lv_aload C.1 C.2.1 dX10_far_41 (lv_at hl 0 rfl) ?_
        refine lv_null C.1 C.2.1 dX10_far_43 ?_
        refine lv_iload_n C.1 C.2.1 dX10_far_44 rfl (lv_at hl 3 rfl) ?_
        refine lv_iload_n C.1 C.2.1 dX10_far_45 rfl (lv_at hl 4 rfl) ?_
        refine lv_iload C.1 C.2.1 dX10_far_46 (lv_at hl 5 rfl) ?_
        refine k_v hW (va_runV (As := [.ref (q (29 + 2 * mi5)), .null, .int x2, .int x3, .int x4]) (rest := []) C (mtX5_begin l D q cI cJ cZ cP cS K n H.size (some mi5) none x2 x3 x4 S2 L3 R4 _ h) (cwV 5 C.2.2.2.2 gX10_far_X5_begin rfl rfl rfl (by decide +kernel) ⟨Nat.le_of_ble_eq_true rfl, Nat.le_of_ble_eq_true rfl⟩) ⟨mP_blind cX_B, va_recv hW.1 hW.2.1 (ci := 5) (q0 := 9) rfl (wL_get (by omega)), fun U hU hV => ⟨rfl, hW.pre hU hV (hX.call hW hU hV)⟩⟩ rfl rfl hl.1 rfl (lv_room (Nat.le_of_ble_eq_true rfl)) dX10_far_48 ⟨Nat.zero_le _, Nat.zero_le _⟩) (fun u H locs h hW => ?_)
        obtain ⟨S10, L11, R12⟩ := u
        replace hW : hw D (tyC cI cJ cZ cP cS) q (29 + 2 * n) (gC q cI cJ cZ cP cS K n S10 L11 R12) A s H locs := hW
        refine lv_aload_n C.1 C.2.1 dX10_far_51 rfl (lv_at hl 1 rfl) ?_
        refine r_get C hW (ci := 10) (T := TX10) (n := 11) (ref := "BallMinder") (v := .ref (q 9)) (0) (by omega) rfl rfl 5 (by decide) inX10_far_X10 (by decide +kernel) (fun _ h9 => h9) rfl dX10_far_52 ?_
        refine k_v hW (va_runV (As := []) (rest := []) C (mtX5_runTillRound l D q cI cJ cZ cP cS K n H.size  S10 L11 R12 _ h) (cwV 0 C.2.2.2.2 gX10_far_X5_runTillRound rfl rfl rfl (by decide +kernel) ⟨Nat.le_of_ble_eq_true rfl, Nat.le_of_ble_eq_true rfl⟩) ⟨mP_blind cX_B, va_recv hW.1 hW.2.1 (ci := 5) (q0 := 9) rfl (wL_get (by omega)), fun U hU hV => ⟨rfl, hW.pre hU hV (hX.call hW hU hV)⟩⟩ rfl rfl hl.1 rfl (lv_room (Nat.le_of_ble_eq_true rfl)) dX10_far_55 ⟨Nat.zero_le _, Nat.zero_le _⟩) (fun u H locs h hW => ?_)
        obtain ⟨S13, L14, R15⟩ := u
        replace hW : hw D (tyC cI cJ cZ cP cS) q (29 + 2 * n) (gC q cI cJ cZ cP cS K n S13 L14 R15) A s H locs := hW
        refine lv_aload_n C.1 C.2.1 dX10_far_58 rfl (lv_at hl 1 rfl) ?_
        refine r_get C hW (ci := 10) (T := TX10) (n := 11) (ref := "BallMinder") (v := .ref (q 9)) (0) (by omega) rfl rfl 5 (by decide) inX10_far_X10 (by decide +kernel) (fun _ h9 => h9) rfl dX10_far_59 ?_
        refine lv_iload C.1 C.2.1 dX10_far_62 (lv_at hl 6 rfl) ?_
        refine k_i hW (va_runV (As := [.int x5]) (rest := []) C (mtX5_told l D q cI cJ cZ cP cS K n H.size x5 S13 L14 R15 _ h) (cwV 1 C.2.2.2.2 gX10_far_X5_told rfl rfl rfl (by decide +kernel) ⟨Nat.le_of_ble_eq_true rfl, Nat.le_of_ble_eq_true rfl⟩) ⟨mP_blind cX_B, va_recv hW.1 hW.2.1 (ci := 5) (q0 := 9) rfl (wL_get (by omega)), fun U hU hV => ⟨rfl, hW.pre hU hV (hX.call hW hU hV)⟩⟩ rfl rfl hl.1 rfl (lv_room (Nat.le_of_ble_eq_true rfl)) dX10_far_64 ⟨Nat.zero_le _, Nat.zero_le _⟩) (fun r16 u H locs h hW => ?_)
        obtain ⟨S17, L18, R19⟩ := u
        replace hW : hw D (tyC cI cJ cZ cP cS) q (29 + 2 * n) (gC q cI cJ cZ cP cS K n S17 L18 R19) A s H locs := hW
        exact t_i C hr hlk (u := (S17, L18, R19)) hW.2.2.2.1 hW.B h dX10_far_67
      · replace h := h.2 c9
        refine lv_bipush (v := -2) C.1 C.2.1 dX10_far_34 (by decide) ?_
        exact t_i C hr hlk (u := (S2, L3, R4)) hW.2.2.2.1 hW.B h dX10_far_36
set_option maxRecDepth 100000 in
set_option maxHeartbeats 4000000 in
theorem mtX10_far (l : Launch) (D : va_G) (q : Nat → Nat) (cI cJ cZ cP cS : ClassId) (K : Nat → Nat) (n : Nat) (sz : Nat) (x1 : Int32) (x2 : Int32) (x3 : Int32) (x4 : Int32) (x5 : Int32) (S : Nat → Nat → Int32) (L : Nat → Int64) (R : Nat → Option Nat) (Q : Int32 → (Nat → Nat → Int32) → (Nat → Int64) → (Nat → Option Nat) → Prop) (h : vX10_far K n x1 x2 x3 x4 x5 S L R Q) : Met l yX10_far wsX10_far rmX10_far (va_Pc [.ref (q 0), .int x1, .int x2, .int x3, .int x4, .int x5] (mP D (tyC cI cJ cZ cP cS) q (29 + 2 * n) (gC q cI cJ cZ cP cS K n S L R) sz (cX (aQ q (29 + 2 * n) sz)))) (QCi D q cI cJ cZ cP cS K n Q (aQ q (29 + 2 * n) sz)) 0 0 (aQ q (29 + 2 * n) sz) := by
  refine met_w (cc := cX10_far) (maxL := 7) (ret := (some .int)) (by decide) rfl (Nat.le_of_ble_eq_true rfl) ?_
  intro p e s m below meth c ls C hr hlk hW hX hnm hl
  exact sX10_far C hr hlk hX Q x1 x2 x3 x4 x5 S L R _ _ _ h hW hl
theorem inX5_runTicks_X5 : ∀ w ∈ wsX50, w ∈ wsX5_runTicks := fun _ h => List.mem_cons_of_mem _ (List.mem_append_left _ (List.mem_append_left _ (List.mem_append_left _ (List.mem_append_left _ (List.mem_append_right _ h)))))
theorem inX5_runTicks_X2 : ∀ w ∈ wsX20, w ∈ wsX5_runTicks := fun _ h => List.mem_cons_of_mem _ (List.mem_append_left _ (List.mem_append_left _ (List.mem_append_left _ (List.mem_append_right _ h))))
theorem inX5_runTicks_X3 : ∀ w ∈ wsX30, w ∈ wsX5_runTicks := fun _ h => List.mem_cons_of_mem _ (List.mem_append_left _ (List.mem_append_left _ (List.mem_append_right _ h)))
theorem inX5_runTicks_X4 : ∀ w ∈ wsX40, w ∈ wsX5_runTicks := fun _ h => List.mem_cons_of_mem _ (List.mem_append_left _ (List.mem_append_right _ h))
theorem inX5_runTicks_X7 : ∀ w ∈ wsX70, w ∈ wsX5_runTicks := fun _ h => List.mem_cons_of_mem _ (List.mem_append_right _ h)
abbrev rmX5_runTicks : Room := { frames := 5, cells := 0, slots := 0, locals := 113 }
def vX5_runTicks_2 (K : Nat → Nat) (n : Nat) (Q : (Nat → Nat → Int32) → (Nat → Int64) → (Nat → Option Nat) → Prop) : Nat → Int32 → Int32 → (Nat → Nat → Int32) → (Nat → Int64) → (Nat → Option Nat) → Prop
  | 0, _, _, _, _, _ => False
  | fu+1, x1, x2, S, L, R => (x1 ≤ x2 → Q S L R) ∧ (¬ (x1 ≤ x2) → vX5_tick K n x2 S L R (fun S2 L3 R4 => ∀ x2_5 : Int32, x2_5 = x2 + (1 : Int32) → vX5_runTicks_2 K n Q fu x1 x2_5 S2 L3 R4))
def vX5_runTicks (K : Nat → Nat) (n : Nat) (x1 : Int32) (S : Nat → Nat → Int32) (L : Nat → Int64) (R : Nat → Option Nat) (Q : (Nat → Nat → Int32) → (Nat → Int64) → (Nat → Option Nat) → Prop) : Prop := ∃ n2, vX5_runTicks_2 K n Q n2 x1 (0 : Int32) S L R
set_option maxRecDepth 100000 in
set_option maxHeartbeats 4000000 in
theorem sX5_runTicks_2 {p : Program} {l : Launch} {e : Env} {s : State} {m : MethodId} {args : Array Value} {below : List Frame} {meth : Method} {c : Code} {D : va_G} {q : Nat → Nat} {A : Nat → Prop} {cI cJ cZ cP cS : ClassId} {K : Nat → Nat} {n : Nat} (C : CallFix p m c cX5_runTicks 3 s args wsX5_runTicks RX5) (hr : meth.sig.returnType = none) (hlk : meth.locks = false) (hX : cX A s) (Q : (Nat → Nat → Int32) → (Nat → Int64) → (Nat → Option Nat) → Prop) : ∀ (fu : Nat) (x1 : Int32) (x2 : Int32) (S : Nat → Nat → Int32) (L : Nat → Int64) (R : Nat → Option Nat) (H : Heap) (locs : List Loc) (ls : Array Slot), vX5_runTicks_2 K n Q fu x1 x2 S L R → hw D (tyC cI cJ cZ cP cS) q (29 + 2 * n) (gC q cI cJ cZ cP cS K n S L R) A s H locs → lv_has ls 3 [(0, .ref (q 9)), (1, .int x1), (2, .int x2)] → W p l e (headSpec wsX5_runTicks rmX5_runTicks).room s m args below meth c H locs 0 0 (MQ below (QCv D q cI cJ cZ cP cS K n Q A) args s 0 0 A) (F0 m 2 ls []) := by
  intro fu
  induction fu with
  | zero =>
    intro x1 x2 S L R H locs ls h
    exact h.elim
  | succ fu ih =>
    intro x1 x2 S L R H locs ls h hW hl
    refine lv_iload_n C.1 C.2.1 dX5_runTicks_2 rfl (lv_at hl 2 rfl) ?_
    refine lv_iload_n C.1 C.2.1 dX5_runTicks_3 rfl (lv_at hl 1 rfl) ?_
    refine lv_icmp_ge (tgt := 18) C.1 C.2.1 dX5_runTicks_4 (by decide) (fun c1 => ?_) (fun c1 => ?_)
    · replace h := h.1 c1
      exact t_v C hr hlk (u := (S, L, R)) hW.2.2.2.1 hW.B h dX5_runTicks_18
    · replace h := h.2 c1
      refine lv_aload_n C.1 C.2.1 dX5_runTicks_7 rfl (lv_at hl 0 rfl) ?_
      refine lv_iload_n C.1 C.2.1 dX5_runTicks_8 rfl (lv_at hl 2 rfl) ?_
      refine k_v hW (va_runV (As := [.int x2]) (rest := []) C (mtX5_tick l D q cI cJ cZ cP cS K n H.size x2 S L R _ h) (cwV 1 C.2.2.2.2 gX5_runTicks_X5_tick rfl rfl rfl (by decide +kernel) ⟨Nat.le_of_ble_eq_true rfl, Nat.le_of_ble_eq_true rfl⟩) ⟨mP_blind cX_B, va_recv hW.1 hW.2.1 (ci := 5) (q0 := 9) rfl (wL_get (by omega)), fun U hU hV => ⟨rfl, hW.pre hU hV (hX.call hW hU hV)⟩⟩ rfl rfl hl.1 rfl (lv_room (Nat.le_of_ble_eq_true rfl)) dX5_runTicks_9 ⟨Nat.zero_le _, Nat.zero_le _⟩) (fun u H locs h hW => ?_)
      obtain ⟨S2, L3, R4⟩ := u
      replace hW : hw D (tyC cI cJ cZ cP cS) q (29 + 2 * n) (gC q cI cJ cZ cP cS K n S2 L3 R4) A s H locs := hW
      obtain ⟨x2_5, ex2_5⟩ : ∃ z : Int32, z = x2 + (1 : Int32) := ⟨_, rfl⟩
      replace h := h x2_5 ex2_5
      refine lv_iinc (v := x2_5) (lv' := [(2, .int x2_5), (0, .ref (q 9)), (1, .int x1)]) C.1 C.2.1 dX5_runTicks_12 hl (k := 2) rfl (by rw [ex2_5]; rfl) (by decide) rfl (fun ls hl => ?_)
      refine lv_goto (tgt := 2) C.1 C.2.1 dX5_runTicks_15 (by decide) ?_
      exact ih x1 x2_5 S2 L3 R4 _ _ _ h hW (lv_sub hl [1, 2, 0] rfl)
set_option maxRecDepth 100000 in
set_option maxHeartbeats 4000000 in
theorem sX5_runTicks {p : Program} {l : Launch} {e : Env} {s : State} {m : MethodId} {args : Array Value} {below : List Frame} {meth : Method} {c : Code} {D : va_G} {q : Nat → Nat} {A : Nat → Prop} {cI cJ cZ cP cS : ClassId} {K : Nat → Nat} {n : Nat} (C : CallFix p m c cX5_runTicks 3 s args wsX5_runTicks RX5) (hr : meth.sig.returnType = none) (hlk : meth.locks = false) (hX : cX A s) (Q : (Nat → Nat → Int32) → (Nat → Int64) → (Nat → Option Nat) → Prop) : ∀ (x1 : Int32) (S : Nat → Nat → Int32) (L : Nat → Int64) (R : Nat → Option Nat) (H : Heap) (locs : List Loc) (ls : Array Slot), vX5_runTicks K n x1 S L R Q → hw D (tyC cI cJ cZ cP cS) q (29 + 2 * n) (gC q cI cJ cZ cP cS K n S L R) A s H locs → lv_has ls 3 [(0, .ref (q 9)), (1, .int x1)] → W p l e (headSpec wsX5_runTicks rmX5_runTicks).room s m args below meth c H locs 0 0 (MQ below (QCv D q cI cJ cZ cP cS K n Q A) args s 0 0 A) (F0 m 0 ls []) := by
  intro x1 S L R H locs ls h hW hl
  unfold vX5_runTicks at h
  refine lv_iconst (v := 0) C.1 C.2.1 dX5_runTicks_0 (by decide) ?_
  refine lv_istore_n (lv' := [(2, .int (0 : Int32)), (0, .ref (q 9)), (1, .int x1)]) C.1 C.2.1 dX5_runTicks_1 rfl hl (by decide) rfl (fun ls hl => ?_)
  obtain ⟨n9, h⟩ := h
  exact sX5_runTicks_2 C hr hlk hX Q n9 x1 (0 : Int32) S L R _ _ _ h hW (lv_sub hl [1, 2, 0] rfl)
set_option maxRecDepth 100000 in
set_option maxHeartbeats 4000000 in
theorem mtX5_runTicks (l : Launch) (D : va_G) (q : Nat → Nat) (cI cJ cZ cP cS : ClassId) (K : Nat → Nat) (n : Nat) (sz : Nat) (x1 : Int32) (S : Nat → Nat → Int32) (L : Nat → Int64) (R : Nat → Option Nat) (Q : (Nat → Nat → Int32) → (Nat → Int64) → (Nat → Option Nat) → Prop) (h : vX5_runTicks K n x1 S L R Q) : Met l yX5_runTicks wsX5_runTicks rmX5_runTicks (va_Pc [.ref (q 9), .int x1] (mP D (tyC cI cJ cZ cP cS) q (29 + 2 * n) (gC q cI cJ cZ cP cS K n S L R) sz (cX (aQ q (29 + 2 * n) sz)))) (QCv D q cI cJ cZ cP cS K n Q (aQ q (29 + 2 * n) sz)) 0 0 (aQ q (29 + 2 * n) sz) := by
  refine met_w (cc := cX5_runTicks) (maxL := 3) (ret := none) (by decide) rfl (Nat.le_of_ble_eq_true rfl) ?_
  intro p e s m below meth c ls C hr hlk hW hX hnm hl
  exact sX5_runTicks C hr hlk hX Q x1 S L R _ _ _ h hW hl
theorem inX10_after_X10 : ∀ w ∈ wsX100, w ∈ wsX10_after := fun _ h => List.mem_cons_of_mem _ (List.mem_append_left _ (List.mem_append_left _ (List.mem_append_left _ (List.mem_append_left _ (List.mem_append_left _ (List.mem_append_right _ h))))))
theorem inX10_after_X5 : ∀ w ∈ wsX50, w ∈ wsX10_after := fun _ h => List.mem_cons_of_mem _ (List.mem_append_left _ (List.mem_append_left _ (List.mem_append_left _ (List.mem_append_left _ (List.mem_append_right _ h)))))
theorem inX10_after_X2 : ∀ w ∈ wsX20, w ∈ wsX10_after := fun _ h => List.mem_cons_of_mem _ (List.mem_append_left _ (List.mem_append_left _ (List.mem_append_left _ (List.mem_append_right _ h))))
theorem inX10_after_X3 : ∀ w ∈ wsX30, w ∈ wsX10_after := fun _ h => List.mem_cons_of_mem _ (List.mem_append_left _ (List.mem_append_left _ (List.mem_append_right _ h)))
theorem inX10_after_X4 : ∀ w ∈ wsX40, w ∈ wsX10_after := fun _ h => List.mem_cons_of_mem _ (List.mem_append_left _ (List.mem_append_right _ h))
theorem inX10_after_X7 : ∀ w ∈ wsX70, w ∈ wsX10_after := fun _ h => List.mem_cons_of_mem _ (List.mem_append_right _ h)
abbrev rmX10_after : Room := { frames := 6, cells := 0, slots := 0, locals := 135 }
def vX10_after (K : Nat → Nat) (n : Nat) (x1 : Int32) (x2 : Int32) (x3 : Int32) (x4 : Int32) (x5 : Int32) (x6 : Int32) (S : Nat → Nat → Int32) (L : Nat → Int64) (R : Nat → Option Nat) (Q : Int32 → (Nat → Nat → Int32) → (Nat → Int64) → (Nat → Option Nat) → Prop) : Prop := vX10_millOf K n x1 S L R (fun o1 S2 L3 R4 => (o1 = none → Q (-1 : Int32) S2 L3 R4) ∧ (∀ mi5 : Nat, o1 = some mi5 → vX10_canRun x2 x3 x4 (fun r6 => (r6 = 0 → Q (-2 : Int32) S2 L3 R4) ∧ (¬ (r6 = 0) → vX10_within x5 (0 : Int32) (300 : Int32) (fun r8 => (r8 = 0 → Q (-2 : Int32) S2 L3 R4) ∧ (¬ (r8 = 0) → vX10_within x6 (0 : Int32) (2 : Int32) (fun r10 => (¬ r10 = 0 → vX5_begin K n (some mi5) none x2 x3 x4 S2 L3 R4 (fun S12 L13 R14 => vX5_runTicks K n x5 S12 L13 R14 (fun S15 L16 R17 => (¬ x6 = 0 → (¬ x6 = (1 : Int32) → vp_in x5 301 ∧ (Q (S15 (17 + 3 * 0) x5.toNatClampNeg) S15 L16 R17)) ∧ (x6 = (1 : Int32) → vp_in x5 301 ∧ (Q (S15 (16 + 3 * 0) x5.toNatClampNeg) S15 L16 R17))) ∧ (x6 = 0 → vX5_beatAt K n x5 S15 L16 R17 (fun r22 S23 L24 R25 => Q r22 S23 L24 R25))))) ∧ (r10 = 0 → Q (-2 : Int32) S2 L3 R4))))))))
set_option maxRecDepth 100000 in
set_option maxHeartbeats 4000000 in
theorem sX10_after {p : Program} {l : Launch} {e : Env} {s : State} {m : MethodId} {args : Array Value} {below : List Frame} {meth : Method} {c : Code} {D : va_G} {q : Nat → Nat} {A : Nat → Prop} {cI cJ cZ cP cS : ClassId} {K : Nat → Nat} {n : Nat} (C : CallFix p m c cX10_after 8 s args wsX10_after RX10) (hr : meth.sig.returnType = (some .int)) (hlk : meth.locks = false) (hX : cX A s) (Q : Int32 → (Nat → Nat → Int32) → (Nat → Int64) → (Nat → Option Nat) → Prop) : ∀ (x1 : Int32) (x2 : Int32) (x3 : Int32) (x4 : Int32) (x5 : Int32) (x6 : Int32) (S : Nat → Nat → Int32) (L : Nat → Int64) (R : Nat → Option Nat) (H : Heap) (locs : List Loc) (ls : Array Slot), vX10_after K n x1 x2 x3 x4 x5 x6 S L R Q → hw D (tyC cI cJ cZ cP cS) q (29 + 2 * n) (gC q cI cJ cZ cP cS K n S L R) A s H locs → lv_has ls 8 [(0, .ref (q 0)), (1, .int x1), (2, .int x2), (3, .int x3), (4, .int x4), (5, .int x5), (6, .int x6)] → W p l e (headSpec wsX10_after rmX10_after).room s m args below meth c H locs 0 0 (MQ below (QCi D q cI cJ cZ cP cS K n Q A) args s 0 0 A) (F0 m 0 ls []) := by
  intro x1 x2 x3 x4 x5 x6 S L R H locs ls h hW hl
  unfold vX10_after at h
  refine lv_aload_n C.1 C.2.1 dX10_after_0 rfl (lv_at hl 0 rfl) ?_
  refine lv_iload_n C.1 C.2.1 dX10_after_1 rfl (lv_at hl 1 rfl) ?_
  refine k_q hW (va_runV (As := [.int x1]) (rest := []) C (mtX10_millOf l D q cI cJ cZ cP cS K n H.size x1 S L R _ h) (cwV 1 C.2.2.2.2 gX10_after_X10_millOf rfl rfl rfl (by decide +kernel) ⟨Nat.le_of_ble_eq_true rfl, Nat.le_of_ble_eq_true rfl⟩) ⟨mP_blind cX_B, va_recv hW.1 hW.2.1 (ci := 10) (q0 := 0) rfl (wL_get (by omega)), fun U hU hV => ⟨rfl, hW.pre hU hV (hX.call hW hU hV)⟩⟩ rfl rfl hl.1 rfl (lv_room (Nat.le_of_ble_eq_true rfl)) dX10_after_2 ⟨Nat.zero_le _, Nat.zero_le _⟩) (fun r9 u H locs h hW => ?_)
  obtain ⟨S2, L3, R4⟩ := u
  obtain ⟨o1, rfl, h⟩ := h
  replace hW : hw D (tyC cI cJ cZ cP cS) q (29 + 2 * n) (gC q cI cJ cZ cP cS K n S2 L3 R4) A s H locs := hW
  refine cv_astore (lv' := [(7, va_rf (Option.map (qM q) o1)), (0, .ref (q 0)), (1, .int x1), (2, .int x2), (3, .int x3), (4, .int x4), (5, .int x5), (6, .int x6)]) C.1 C.2.1 dX10_after_5 hl (by decide) rfl (fun ls hl => ?_)
  refine cv_aload C.1 C.2.1 dX10_after_7 (lv_at hl 0 rfl) ?_
  rcases o1 with _ | mi5
  · replace h := h.1 rfl
    replace hl : lv_has ls 8 [(7, .null), (0, .ref (q 0)), (1, .int x1), (2, .int x2), (3, .int x3), (4, .int x4), (5, .int x5), (6, .int x6)] := hl
    refine lv_ifnonnullN C.1 C.2.1 dX10_after_9 ?_
    refine lv_iconst (v := -1) C.1 C.2.1 dX10_after_12 (by decide) ?_
    exact t_i C hr hlk (u := (S2, L3, R4)) hW.2.2.2.1 hW.B h dX10_after_13
  · replace h := h.2 mi5 rfl
    replace hl : lv_has ls 8 [(7, .ref (q (29 + 2 * mi5))), (0, .ref (q 0)), (1, .int x1), (2, .int x2), (3, .int x3), (4, .int x4), (5, .int x5), (6, .int x6)] := hl
    refine lv_ifnonnull (tgt := 14) C.1 C.2.1 dX10_after_9 (by decide) ?_
    refine lv_iload_n C.1 C.2.1 dX10_after_14 rfl (lv_at hl 3 rfl) ?_
    refine lv_iload_n C.1 C.2.1 dX10_after_15 rfl (lv_at hl 4 rfl) ?_
    refine lv_iload C.1 C.2.1 dX10_after_16 (lv_at hl 5 rfl) ?_
    refine k_pi hW (va_runS (As := [.int x2, .int x3, .int x4]) (rest := []) C (mtX10_canRun l D q _ H.size x2 x3 x4 _ h) (va_cwS 3 C.2.2.2.2 gX10_after_X10_canRun rfl rfl rfl (by decide +kernel) ⟨Nat.le_of_ble_eq_true rfl, Nat.le_of_ble_eq_true rfl⟩) ⟨mP_blind tX_B, fun U hU hV => ⟨rfl, hW.pre0 hU hV trivial⟩⟩ rfl rfl hl.1 rfl (lv_room (Nat.le_of_ble_eq_true rfl)) dX10_after_18 ⟨Nat.zero_le _, Nat.zero_le _⟩) (fun r6 H locs h hW => ?_)
    refine lv_if_eq (tgt := 46) C.1 C.2.1 dX10_after_21 (by decide) (fun c7 => ?_) (fun c7 => ?_)
    · replace h := h.1 c7
      refine lv_bipush (v := -2) C.1 C.2.1 dX10_after_46 (by decide) ?_
      exact t_i C hr hlk (u := (S2, L3, R4)) hW.2.2.2.1 hW.B h dX10_after_48
    · replace h := h.2 c7
      refine lv_iload C.1 C.2.1 dX10_after_24 (lv_at hl 6 rfl) ?_
      refine lv_iconst (v := 0) C.1 C.2.1 dX10_after_26 (by decide) ?_
      refine lv_sipush (v := 300) C.1 C.2.1 dX10_after_27 (by decide) ?_
      refine k_pi hW (va_runS (As := [.int x5, .int (0 : Int32), .int (300 : Int32)]) (rest := []) C (mtX10_within l D q _ H.size x5 (0 : Int32) (300 : Int32) _ h) (va_cwS 3 C.2.2.2.2 gX10_after_X10_within rfl rfl rfl (by decide +kernel) ⟨Nat.le_of_ble_eq_true rfl, Nat.le_of_ble_eq_true rfl⟩) ⟨mP_blind tX_B, fun U hU hV => ⟨rfl, hW.pre0 hU hV trivial⟩⟩ rfl rfl hl.1 rfl (lv_room (Nat.le_of_ble_eq_true rfl)) dX10_after_30 ⟨Nat.zero_le _, Nat.zero_le _⟩) (fun r8 H locs h hW => ?_)
      refine lv_if_eq (tgt := 46) C.1 C.2.1 dX10_after_33 (by decide) (fun c9 => ?_) (fun c9 => ?_)
      · replace h := h.1 c9
        refine lv_bipush (v := -2) C.1 C.2.1 dX10_after_46 (by decide) ?_
        exact t_i C hr hlk (u := (S2, L3, R4)) hW.2.2.2.1 hW.B h dX10_after_48
      · replace h := h.2 c9
        refine lv_iload C.1 C.2.1 dX10_after_36 (lv_at hl 7 rfl) ?_
        refine lv_iconst (v := 0) C.1 C.2.1 dX10_after_38 (by decide) ?_
        refine lv_iconst (v := 2) C.1 C.2.1 dX10_after_39 (by decide) ?_
        refine k_pi hW (va_runS (As := [.int x6, .int (0 : Int32), .int (2 : Int32)]) (rest := []) C (mtX10_within l D q _ H.size x6 (0 : Int32) (2 : Int32) _ h) (va_cwS 3 C.2.2.2.2 gX10_after_X10_within rfl rfl rfl (by decide +kernel) ⟨Nat.le_of_ble_eq_true rfl, Nat.le_of_ble_eq_true rfl⟩) ⟨mP_blind tX_B, fun U hU hV => ⟨rfl, hW.pre0 hU hV trivial⟩⟩ rfl rfl hl.1 rfl (lv_room (Nat.le_of_ble_eq_true rfl)) dX10_after_40 ⟨Nat.zero_le _, Nat.zero_le _⟩) (fun r10 H locs h hW => ?_)
        refine lv_if_ne (tgt := 49) C.1 C.2.1 dX10_after_43 (by decide) (fun c11 => ?_) (fun c11 => ?_)
        · replace h := h.1 c11
          refine lv_aload_n C.1 C.2.1 dX10_after_49 rfl (lv_at hl 1 rfl) ?_
          refine r_get C hW (ci := 10) (T := TX10) (n := 11) (ref := "BallMinder") (v := .ref (q 9)) (0) (by omega) rfl rfl 5 (by decide) inX10_after_X10 (by decide +kernel) (fun _ h9 => h9) rfl dX10_after_50 ?_
          refine lv_aload C.1 C.2.1 dX10_after_53 (lv_at hl 0 rfl) ?_
          refine lv_null C.1 C.2.1 dX10_after_55 ?_
          refine lv_iload_n C.1 C.2.1 dX10_after_56 rfl (lv_at hl 3 rfl) ?_
          refine lv_iload_n C.1 C.2.1 dX10_after_57 rfl (lv_at hl 4 rfl) ?_
          refine lv_iload C.1 C.2.1 dX10_after_58 (lv_at hl 5 rfl) ?_
          refine k_v hW (va_runV (As := [.ref (q (29 + 2 * mi5)), .null, .int x2, .int x3, .int x4]) (rest := []) C (mtX5_begin l D q cI cJ cZ cP cS K n H.size (some mi5) none x2 x3 x4 S2 L3 R4 _ h) (cwV 5 C.2.2.2.2 gX10_after_X5_begin rfl rfl rfl (by decide +kernel) ⟨Nat.le_of_ble_eq_true rfl, Nat.le_of_ble_eq_true rfl⟩) ⟨mP_blind cX_B, va_recv hW.1 hW.2.1 (ci := 5) (q0 := 9) rfl (wL_get (by omega)), fun U hU hV => ⟨rfl, hW.pre hU hV (hX.call hW hU hV)⟩⟩ rfl rfl hl.1 rfl (lv_room (Nat.le_of_ble_eq_true rfl)) dX10_after_60 ⟨Nat.zero_le _, Nat.zero_le _⟩) (fun u H locs h hW => ?_)
          obtain ⟨S12, L13, R14⟩ := u
          replace hW : hw D (tyC cI cJ cZ cP cS) q (29 + 2 * n) (gC q cI cJ cZ cP cS K n S12 L13 R14) A s H locs := hW
          refine lv_aload_n C.1 C.2.1 dX10_after_63 rfl (lv_at hl 1 rfl) ?_
          refine r_get C hW (ci := 10) (T := TX10) (n := 11) (ref := "BallMinder") (v := .ref (q 9)) (0) (by omega) rfl rfl 5 (by decide) inX10_after_X10 (by decide +kernel) (fun _ h9 => h9) rfl dX10_after_64 ?_
          refine lv_iload C.1 C.2.1 dX10_after_67 (lv_at hl 6 rfl) ?_
          refine k_v hW (va_runV (As := [.int x5]) (rest := []) C (mtX5_runTicks l D q cI cJ cZ cP cS K n H.size x5 S12 L13 R14 _ h) (cwV 1 C.2.2.2.2 gX10_after_X5_runTicks rfl rfl rfl (by decide +kernel) ⟨Nat.le_of_ble_eq_true rfl, Nat.le_of_ble_eq_true rfl⟩) ⟨mP_blind cX_B, va_recv hW.1 hW.2.1 (ci := 5) (q0 := 9) rfl (wL_get (by omega)), fun U hU hV => ⟨rfl, hW.pre hU hV (hX.call hW hU hV)⟩⟩ rfl rfl hl.1 rfl (lv_room (Nat.le_of_ble_eq_true rfl)) dX10_after_69 ⟨Nat.zero_le _, Nat.zero_le _⟩) (fun u H locs h hW => ?_)
          obtain ⟨S15, L16, R17⟩ := u
          replace hW : hw D (tyC cI cJ cZ cP cS) q (29 + 2 * n) (gC q cI cJ cZ cP cS K n S15 L16 R17) A s H locs := hW
          refine lv_iload C.1 C.2.1 dX10_after_72 (lv_at hl 7 rfl) ?_
          refine lv_if_ne (tgt := 87) C.1 C.2.1 dX10_after_74 (by decide) (fun c18 => ?_) (fun c18 => ?_)
          · replace h := h.1 c18
            refine lv_iload C.1 C.2.1 dX10_after_87 (lv_at hl 7 rfl) ?_
            refine lv_iconst (v := 1) C.1 C.2.1 dX10_after_89 (by decide) ?_
            refine lv_icmp_ne (tgt := 109) C.1 C.2.1 dX10_after_90 (by decide) (fun c19 => ?_) (fun c19 => ?_)
            · replace h := h.1 c19
              refine lv_aload_n C.1 C.2.1 dX10_after_109 rfl (lv_at hl 1 rfl) ?_
              refine r_get C hW (ci := 10) (T := TX10) (n := 11) (ref := "BallMinder") (v := .ref (q 9)) (0) (by omega) rfl rfl 5 (by decide) inX10_after_X10 (by decide +kernel) (fun _ h9 => h9) rfl dX10_after_110 ?_
              refine r_getN C hW (ci := 5) (T := TX5) (n := 13) (ref := "BallMinder$Shaft") (host := "BallMinder") (v := .ref (q (15 + 3 * 0))) (9) (by omega) rfl rfl 1 (by decide) inX10_after_X5 (hX.1 _ (by decide +kernel)) (fun _ h9 => h9) rfl dX10_after_113 ?_
              refine r_getN C hW (ci := 2) (T := TX2) (n := 3) (ref := "BallMinder$Gate") (host := "BallMinder") (v := .ref (q (17 + 3 * 0))) (15 + 3 * 0) (by omega) (gC_gate (by decide)) rfl 1 (by decide) inX10_after_X2 (hX.1 _ (by decide +kernel)) (fun _ h9 => h9) rfl dX10_after_116 ?_
              refine lv_iload C.1 C.2.1 dX10_after_119 (lv_at hl 6 rfl) ?_
              obtain ⟨hs20, h⟩ := h
              refine r_iald C hW (cA := cI) (n := 301) (f := S15 (17 + 3 * 0)) (17 + 3 * 0) 0 (by omega) (gC_missed (by decide)) rfl hs20 dX10_after_121 ?_
              exact t_i C hr hlk (u := (S15, L16, R17)) hW.2.2.2.1 hW.B h dX10_after_122
            · replace h := h.2 c19
              refine lv_aload_n C.1 C.2.1 dX10_after_93 rfl (lv_at hl 1 rfl) ?_
              refine r_get C hW (ci := 10) (T := TX10) (n := 11) (ref := "BallMinder") (v := .ref (q 9)) (0) (by omega) rfl rfl 5 (by decide) inX10_after_X10 (by decide +kernel) (fun _ h9 => h9) rfl dX10_after_94 ?_
              refine r_getN C hW (ci := 5) (T := TX5) (n := 13) (ref := "BallMinder$Shaft") (host := "BallMinder") (v := .ref (q (15 + 3 * 0))) (9) (by omega) rfl rfl 1 (by decide) inX10_after_X5 (hX.1 _ (by decide +kernel)) (fun _ h9 => h9) rfl dX10_after_97 ?_
              refine r_getN C hW (ci := 2) (T := TX2) (n := 3) (ref := "BallMinder$Gate") (host := "BallMinder") (v := .ref (q (16 + 3 * 0))) (15 + 3 * 0) (by omega) (gC_gate (by decide)) rfl 0 (by decide) inX10_after_X2 (hX.1 _ (by decide +kernel)) (fun _ h9 => h9) rfl dX10_after_100 ?_
              refine lv_iload C.1 C.2.1 dX10_after_103 (lv_at hl 6 rfl) ?_
              obtain ⟨hs21, h⟩ := h
              refine r_iald C hW (cA := cI) (n := 301) (f := S15 (16 + 3 * 0)) (16 + 3 * 0) 0 (by omega) (gC_valves (by decide)) rfl hs21 dX10_after_105 ?_
              refine lv_goto (tgt := 122) C.1 C.2.1 dX10_after_106 (by decide) ?_
              exact t_i C hr hlk (u := (S15, L16, R17)) hW.2.2.2.1 hW.B h dX10_after_122
          · replace h := h.2 c18
            refine lv_aload_n C.1 C.2.1 dX10_after_77 rfl (lv_at hl 1 rfl) ?_
            refine r_get C hW (ci := 10) (T := TX10) (n := 11) (ref := "BallMinder") (v := .ref (q 9)) (0) (by omega) rfl rfl 5 (by decide) inX10_after_X10 (by decide +kernel) (fun _ h9 => h9) rfl dX10_after_78 ?_
            refine lv_iload C.1 C.2.1 dX10_after_81 (lv_at hl 6 rfl) ?_
            refine k_i hW (va_runV (As := [.int x5]) (rest := []) C (mtX5_beatAt l D q cI cJ cZ cP cS K n H.size x5 S15 L16 R17 _ h) (cwV 1 C.2.2.2.2 gX10_after_X5_beatAt rfl rfl rfl (by decide +kernel) ⟨Nat.le_of_ble_eq_true rfl, Nat.le_of_ble_eq_true rfl⟩) ⟨mP_blind cX_B, va_recv hW.1 hW.2.1 (ci := 5) (q0 := 9) rfl (wL_get (by omega)), fun U hU hV => ⟨rfl, hW.pre hU hV (hX.call hW hU hV)⟩⟩ rfl rfl hl.1 rfl (lv_room (Nat.le_of_ble_eq_true rfl)) dX10_after_83 ⟨Nat.zero_le _, Nat.zero_le _⟩) (fun r22 u H locs h hW => ?_)
            obtain ⟨S23, L24, R25⟩ := u
            replace hW : hw D (tyC cI cJ cZ cP cS) q (29 + 2 * n) (gC q cI cJ cZ cP cS K n S23 L24 R25) A s H locs := hW
            exact t_i C hr hlk (u := (S23, L24, R25)) hW.2.2.2.1 hW.B h dX10_after_86
        · replace h := h.2 c11
          refine lv_bipush (v := -2) C.1 C.2.1 dX10_after_46 (by decide) ?_
          exact t_i C hr hlk (u := (S2, L3, R4)) hW.2.2.2.1 hW.B h dX10_after_48
set_option maxRecDepth 100000 in
set_option maxHeartbeats 4000000 in
theorem mtX10_after (l : Launch) (D : va_G) (q : Nat → Nat) (cI cJ cZ cP cS : ClassId) (K : Nat → Nat) (n : Nat) (sz : Nat) (x1 : Int32) (x2 : Int32) (x3 : Int32) (x4 : Int32) (x5 : Int32) (x6 : Int32) (S : Nat → Nat → Int32) (L : Nat → Int64) (R : Nat → Option Nat) (Q : Int32 → (Nat → Nat → Int32) → (Nat → Int64) → (Nat → Option Nat) → Prop) (h : vX10_after K n x1 x2 x3 x4 x5 x6 S L R Q) : Met l yX10_after wsX10_after rmX10_after (va_Pc [.ref (q 0), .int x1, .int x2, .int x3, .int x4, .int x5, .int x6] (mP D (tyC cI cJ cZ cP cS) q (29 + 2 * n) (gC q cI cJ cZ cP cS K n S L R) sz (cX (aQ q (29 + 2 * n) sz)))) (QCi D q cI cJ cZ cP cS K n Q (aQ q (29 + 2 * n) sz)) 0 0 (aQ q (29 + 2 * n) sz) := by
  refine met_w (cc := cX10_after) (maxL := 8) (ret := (some .int)) (by decide) rfl (Nat.le_of_ble_eq_true rfl) ?_
  intro p e s m below meth c ls C hr hlk hW hX hnm hl
  exact sX10_after C hr hlk hX Q x1 x2 x3 x4 x5 x6 S L R _ _ _ h hW hl
theorem inX10_reach_X10 : ∀ w ∈ wsX100, w ∈ wsX10_reach := fun _ h => List.mem_cons_of_mem _ (List.mem_append_left _ (List.mem_append_left _ (List.mem_append_left _ (List.mem_append_left _ (List.mem_append_left _ (List.mem_append_right _ h))))))
theorem inX10_reach_X5 : ∀ w ∈ wsX50, w ∈ wsX10_reach := fun _ h => List.mem_cons_of_mem _ (List.mem_append_left _ (List.mem_append_left _ (List.mem_append_left _ (List.mem_append_left _ (List.mem_append_right _ h)))))
theorem inX10_reach_X2 : ∀ w ∈ wsX20, w ∈ wsX10_reach := fun _ h => List.mem_cons_of_mem _ (List.mem_append_left _ (List.mem_append_left _ (List.mem_append_left _ (List.mem_append_right _ h))))
theorem inX10_reach_X3 : ∀ w ∈ wsX30, w ∈ wsX10_reach := fun _ h => List.mem_cons_of_mem _ (List.mem_append_left _ (List.mem_append_left _ (List.mem_append_right _ h)))
theorem inX10_reach_X4 : ∀ w ∈ wsX40, w ∈ wsX10_reach := fun _ h => List.mem_cons_of_mem _ (List.mem_append_left _ (List.mem_append_right _ h))
theorem inX10_reach_X7 : ∀ w ∈ wsX70, w ∈ wsX10_reach := fun _ h => List.mem_cons_of_mem _ (List.mem_append_right _ h)
abbrev rmX10_reach : Room := { frames := 6, cells := 0, slots := 0, locals := 135 }
def vX10_reach_18 (K : Nat → Nat) (n : Nat) (Q : Int32 → (Nat → Nat → Int32) → (Nat → Int64) → (Nat → Option Nat) → Prop) : Nat → Nat → Int32 → Int32 → (Nat → Nat → Int32) → (Nat → Int64) → (Nat → Option Nat) → Prop
  | 0, _, _, _, _, _, _ => False
  | fu+1, x2, x3, x4, S, L, R => ((99 : Int32) < x4 → Q x3 S L R) ∧ (¬ ((99 : Int32) < x4) → vX5_begin K n (some x2) none ((100 : Int32) + x4) (50 : Int32) (50 : Int32) S L R (fun S7 L8 R9 => vX5_runTillRound K n  S7 L8 R9 (fun S10 L11 R12 => vX5_ending K n  S10 L11 R12 (fun r13 S14 L15 R16 => (r13 = 0 → ∀ x4_18 : Int32, x4_18 = x4 + (1 : Int32) → vX10_reach_18 K n Q fu x2 x4 x4_18 S14 L15 R16) ∧ (¬ (r13 = 0) → Q x3 S14 L15 R16)))))
def vX10_reach (K : Nat → Nat) (n : Nat) (x1 : Int32) (S : Nat → Nat → Int32) (L : Nat → Int64) (R : Nat → Option Nat) (Q : Int32 → (Nat → Nat → Int32) → (Nat → Int64) → (Nat → Option Nat) → Prop) : Prop := vX10_millOf K n x1 S L R (fun o1 S2 L3 R4 => (o1 = none → Q (-1 : Int32) S2 L3 R4) ∧ (∀ mi5 : Nat, o1 = some mi5 → ∃ n18, vX10_reach_18 K n Q n18 mi5 (-9 : Int32) (0 : Int32) S2 L3 R4))
set_option maxRecDepth 100000 in
set_option maxHeartbeats 4000000 in
theorem sX10_reach_18 {p : Program} {l : Launch} {e : Env} {s : State} {m : MethodId} {args : Array Value} {below : List Frame} {meth : Method} {c : Code} {D : va_G} {q : Nat → Nat} {A : Nat → Prop} {cI cJ cZ cP cS : ClassId} {K : Nat → Nat} {n : Nat} (C : CallFix p m c cX10_reach 5 s args wsX10_reach RX10) (hr : meth.sig.returnType = (some .int)) (hlk : meth.locks = false) (hX : cX A s) (Q : Int32 → (Nat → Nat → Int32) → (Nat → Int64) → (Nat → Option Nat) → Prop) : ∀ (fu : Nat) (x2 : Nat) (x3 : Int32) (x4 : Int32) (S : Nat → Nat → Int32) (L : Nat → Int64) (R : Nat → Option Nat) (H : Heap) (locs : List Loc) (ls : Array Slot), vX10_reach_18 K n Q fu x2 x3 x4 S L R → hw D (tyC cI cJ cZ cP cS) q (29 + 2 * n) (gC q cI cJ cZ cP cS K n S L R) A s H locs → lv_has ls 5 [(0, .ref (q 0)), (2, .ref (q (29 + 2 * x2))), (3, .int x3), (4, .int x4)] → W p l e (headSpec wsX10_reach rmX10_reach).room s m args below meth c H locs 0 0 (MQ below (QCi D q cI cJ cZ cP cS K n Q A) args s 0 0 A) (F0 m 18 ls []) := by
  intro fu
  induction fu with
  | zero =>
    intro x2 x3 x4 S L R H locs ls h
    exact h.elim
  | succ fu ih =>
    intro x2 x3 x4 S L R H locs ls h hW hl
    refine lv_iload C.1 C.2.1 dX10_reach_18 (lv_at hl 3 rfl) ?_
    refine lv_bipush (v := 99) C.1 C.2.1 dX10_reach_20 (by decide) ?_
    refine lv_icmp_gt (tgt := 72) C.1 C.2.1 dX10_reach_22 (by decide) (fun c6 => ?_) (fun c6 => ?_)
    · replace h := h.1 c6
      refine lv_iload_n C.1 C.2.1 dX10_reach_72 rfl (lv_at hl 2 rfl) ?_
      exact t_i C hr hlk (u := (S, L, R)) hW.2.2.2.1 hW.B h dX10_reach_73
    · replace h := h.2 c6
      refine lv_aload_n C.1 C.2.1 dX10_reach_25 rfl (lv_at hl 0 rfl) ?_
      refine r_get C hW (ci := 10) (T := TX10) (n := 11) (ref := "BallMinder") (v := .ref (q 9)) (0) (by omega) rfl rfl 5 (by decide) inX10_reach_X10 (by decide +kernel) (fun _ h9 => h9) rfl dX10_reach_26 ?_
      refine lv_aload_n C.1 C.2.1 dX10_reach_29 rfl (lv_at hl 1 rfl) ?_
      refine lv_null C.1 C.2.1 dX10_reach_30 ?_
      refine lv_bipush (v := 100) C.1 C.2.1 dX10_reach_31 (by decide) ?_
      refine lv_iload C.1 C.2.1 dX10_reach_33 (lv_at hl 3 rfl) ?_
      refine lv_iadd C.1 C.2.1 dX10_reach_35 ?_
      refine lv_bipush (v := 50) C.1 C.2.1 dX10_reach_36 (by decide) ?_
      refine lv_bipush (v := 50) C.1 C.2.1 dX10_reach_38 (by decide) ?_
      refine k_v hW (va_runV (As := [.ref (q (29 + 2 * x2)), .null, .int ((100 : Int32) + x4), .int (50 : Int32), .int (50 : Int32)]) (rest := []) C (mtX5_begin l D q cI cJ cZ cP cS K n H.size (some x2) none ((100 : Int32) + x4) (50 : Int32) (50 : Int32) S L R _ h) (cwV 5 C.2.2.2.2 gX10_reach_X5_begin rfl rfl rfl (by decide +kernel) ⟨Nat.le_of_ble_eq_true rfl, Nat.le_of_ble_eq_true rfl⟩) ⟨mP_blind cX_B, va_recv hW.1 hW.2.1 (ci := 5) (q0 := 9) rfl (wL_get (by omega)), fun U hU hV => ⟨rfl, hW.pre hU hV (hX.call hW hU hV)⟩⟩ rfl rfl hl.1 rfl (lv_room (Nat.le_of_ble_eq_true rfl)) dX10_reach_40 ⟨Nat.zero_le _, Nat.zero_le _⟩) (fun u H locs h hW => ?_)
      obtain ⟨S7, L8, R9⟩ := u
      replace hW : hw D (tyC cI cJ cZ cP cS) q (29 + 2 * n) (gC q cI cJ cZ cP cS K n S7 L8 R9) A s H locs := hW
      refine lv_aload_n C.1 C.2.1 dX10_reach_43 rfl (lv_at hl 0 rfl) ?_
      refine r_get C hW (ci := 10) (T := TX10) (n := 11) (ref := "BallMinder") (v := .ref (q 9)) (0) (by omega) rfl rfl 5 (by decide) inX10_reach_X10 (by decide +kernel) (fun _ h9 => h9) rfl dX10_reach_44 ?_
      refine k_v hW (va_runV (As := []) (rest := []) C (mtX5_runTillRound l D q cI cJ cZ cP cS K n H.size  S7 L8 R9 _ h) (cwV 0 C.2.2.2.2 gX10_reach_X5_runTillRound rfl rfl rfl (by decide +kernel) ⟨Nat.le_of_ble_eq_true rfl, Nat.le_of_ble_eq_true rfl⟩) ⟨mP_blind cX_B, va_recv hW.1 hW.2.1 (ci := 5) (q0 := 9) rfl (wL_get (by omega)), fun U hU hV => ⟨rfl, hW.pre hU hV (hX.call hW hU hV)⟩⟩ rfl rfl hl.1 rfl (lv_room (Nat.le_of_ble_eq_true rfl)) dX10_reach_47 ⟨Nat.zero_le _, Nat.zero_le _⟩) (fun u H locs h hW => ?_)
      obtain ⟨S10, L11, R12⟩ := u
      replace hW : hw D (tyC cI cJ cZ cP cS) q (29 + 2 * n) (gC q cI cJ cZ cP cS K n S10 L11 R12) A s H locs := hW
      refine lv_aload_n C.1 C.2.1 dX10_reach_50 rfl (lv_at hl 0 rfl) ?_
      refine r_get C hW (ci := 10) (T := TX10) (n := 11) (ref := "BallMinder") (v := .ref (q 9)) (0) (by omega) rfl rfl 5 (by decide) inX10_reach_X10 (by decide +kernel) (fun _ h9 => h9) rfl dX10_reach_51 ?_
      refine k_i hW (va_runV (As := []) (rest := []) C (mtX5_ending l D q cI cJ cZ cP cS K n H.size  S10 L11 R12 _ h) (cwV 0 C.2.2.2.2 gX10_reach_X5_ending rfl rfl rfl (by decide +kernel) ⟨Nat.le_of_ble_eq_true rfl, Nat.le_of_ble_eq_true rfl⟩) ⟨mP_blind cX_B, va_recv hW.1 hW.2.1 (ci := 5) (q0 := 9) rfl (wL_get (by omega)), fun U hU hV => ⟨rfl, hW.pre hU hV (hX.call hW hU hV)⟩⟩ rfl rfl hl.1 rfl (lv_room (Nat.le_of_ble_eq_true rfl)) dX10_reach_54 ⟨Nat.zero_le _, Nat.zero_le _⟩) (fun r13 u H locs h hW => ?_)
      obtain ⟨S14, L15, R16⟩ := u
      replace hW : hw D (tyC cI cJ cZ cP cS) q (29 + 2 * n) (gC q cI cJ cZ cP cS K n S14 L15 R16) A s H locs := hW
      refine lv_if_eq (tgt := 63) C.1 C.2.1 dX10_reach_57 (by decide) (fun c17 => ?_) (fun c17 => ?_)
      · replace h := h.1 c17
        refine lv_iload C.1 C.2.1 dX10_reach_63 (lv_at hl 3 rfl) ?_
        refine lv_istore_n (lv' := [(3, .int x4), (0, .ref (q 0)), (2, .ref (q (29 + 2 * x2))), (4, .int x4)]) C.1 C.2.1 dX10_reach_65 rfl hl (by decide) rfl (fun ls hl => ?_)
        obtain ⟨x4_18, ex4_18⟩ : ∃ z : Int32, z = x4 + (1 : Int32) := ⟨_, rfl⟩
        replace h := h x4_18 ex4_18
        refine lv_iinc (v := x4_18) (lv' := [(4, .int x4_18), (3, .int x4), (0, .ref (q 0)), (2, .ref (q (29 + 2 * x2)))]) C.1 C.2.1 dX10_reach_66 hl (k := 3) rfl (by rw [ex4_18]; rfl) (by decide) rfl (fun ls hl => ?_)
        refine lv_goto (tgt := 18) C.1 C.2.1 dX10_reach_69 (by decide) ?_
        exact ih x2 x4 x4_18 S14 L15 R16 _ _ _ h hW (lv_sub hl [2, 3, 1, 0] rfl)
      · replace h := h.2 c17
        refine lv_goto (tgt := 72) C.1 C.2.1 dX10_reach_60 (by decide) ?_
        refine lv_iload_n C.1 C.2.1 dX10_reach_72 rfl (lv_at hl 2 rfl) ?_
        exact t_i C hr hlk (u := (S14, L15, R16)) hW.2.2.2.1 hW.B h dX10_reach_73
set_option maxRecDepth 100000 in
set_option maxHeartbeats 4000000 in
theorem sX10_reach {p : Program} {l : Launch} {e : Env} {s : State} {m : MethodId} {args : Array Value} {below : List Frame} {meth : Method} {c : Code} {D : va_G} {q : Nat → Nat} {A : Nat → Prop} {cI cJ cZ cP cS : ClassId} {K : Nat → Nat} {n : Nat} (C : CallFix p m c cX10_reach 5 s args wsX10_reach RX10) (hr : meth.sig.returnType = (some .int)) (hlk : meth.locks = false) (hX : cX A s) (Q : Int32 → (Nat → Nat → Int32) → (Nat → Int64) → (Nat → Option Nat) → Prop) : ∀ (x1 : Int32) (S : Nat → Nat → Int32) (L : Nat → Int64) (R : Nat → Option Nat) (H : Heap) (locs : List Loc) (ls : Array Slot), vX10_reach K n x1 S L R Q → hw D (tyC cI cJ cZ cP cS) q (29 + 2 * n) (gC q cI cJ cZ cP cS K n S L R) A s H locs → lv_has ls 5 [(0, .ref (q 0)), (1, .int x1)] → W p l e (headSpec wsX10_reach rmX10_reach).room s m args below meth c H locs 0 0 (MQ below (QCi D q cI cJ cZ cP cS K n Q A) args s 0 0 A) (F0 m 0 ls []) := by
  intro x1 S L R H locs ls h hW hl
  unfold vX10_reach at h
  refine lv_aload_n C.1 C.2.1 dX10_reach_0 rfl (lv_at hl 0 rfl) ?_
  refine lv_iload_n C.1 C.2.1 dX10_reach_1 rfl (lv_at hl 1 rfl) ?_
  refine k_q hW (va_runV (As := [.int x1]) (rest := []) C (mtX10_millOf l D q cI cJ cZ cP cS K n H.size x1 S L R _ h) (cwV 1 C.2.2.2.2 gX10_reach_X10_millOf rfl rfl rfl (by decide +kernel) ⟨Nat.le_of_ble_eq_true rfl, Nat.le_of_ble_eq_true rfl⟩) ⟨mP_blind cX_B, va_recv hW.1 hW.2.1 (ci := 10) (q0 := 0) rfl (wL_get (by omega)), fun U hU hV => ⟨rfl, hW.pre hU hV (hX.call hW hU hV)⟩⟩ rfl rfl hl.1 rfl (lv_room (Nat.le_of_ble_eq_true rfl)) dX10_reach_2 ⟨Nat.zero_le _, Nat.zero_le _⟩) (fun r9 u H locs h hW => ?_)
  obtain ⟨S2, L3, R4⟩ := u
  obtain ⟨o1, rfl, h⟩ := h
  replace hW : hw D (tyC cI cJ cZ cP cS) q (29 + 2 * n) (gC q cI cJ cZ cP cS K n S2 L3 R4) A s H locs := hW
  refine cv_astore_n (lv' := [(2, va_rf (Option.map (qM q) o1)), (0, .ref (q 0)), (1, .int x1)]) C.1 C.2.1 dX10_reach_5 rfl hl (by decide) rfl (fun ls hl => ?_)
  refine cv_aload_n C.1 C.2.1 dX10_reach_6 rfl (lv_at hl 0 rfl) ?_
  rcases o1 with _ | mi5
  · replace h := h.1 rfl
    replace hl : lv_has ls 5 [(2, .null), (0, .ref (q 0)), (1, .int x1)] := hl
    refine lv_ifnonnullN C.1 C.2.1 dX10_reach_7 ?_
    refine lv_iconst (v := -1) C.1 C.2.1 dX10_reach_10 (by decide) ?_
    exact t_i C hr hlk (u := (S2, L3, R4)) hW.2.2.2.1 hW.B h dX10_reach_11
  · replace h := h.2 mi5 rfl
    replace hl : lv_has ls 5 [(2, .ref (q (29 + 2 * mi5))), (0, .ref (q 0)), (1, .int x1)] := hl
    refine lv_ifnonnull (tgt := 12) C.1 C.2.1 dX10_reach_7 (by decide) ?_
    refine lv_bipush (v := -9) C.1 C.2.1 dX10_reach_12 (by decide) ?_
    refine lv_istore_n (lv' := [(3, .int (-9 : Int32)), (2, .ref (q (29 + 2 * mi5))), (0, .ref (q 0)), (1, .int x1)]) C.1 C.2.1 dX10_reach_14 rfl hl (by decide) rfl (fun ls hl => ?_)
    refine lv_iconst (v := 0) C.1 C.2.1 dX10_reach_15 (by decide) ?_
    refine lv_istore (lv' := [(4, .int (0 : Int32)), (3, .int (-9 : Int32)), (2, .ref (q (29 + 2 * mi5))), (0, .ref (q 0)), (1, .int x1)]) C.1 C.2.1 dX10_reach_16 hl (by decide) rfl (fun ls hl => ?_)
    obtain ⟨n9, h⟩ := h
    exact sX10_reach_18 C hr hlk hX Q n9 mi5 (-9 : Int32) (0 : Int32) S2 L3 R4 _ _ _ h hW (lv_sub hl [3, 2, 1, 0] rfl)
set_option maxRecDepth 100000 in
set_option maxHeartbeats 4000000 in
theorem mtX10_reach (l : Launch) (D : va_G) (q : Nat → Nat) (cI cJ cZ cP cS : ClassId) (K : Nat → Nat) (n : Nat) (sz : Nat) (x1 : Int32) (S : Nat → Nat → Int32) (L : Nat → Int64) (R : Nat → Option Nat) (Q : Int32 → (Nat → Nat → Int32) → (Nat → Int64) → (Nat → Option Nat) → Prop) (h : vX10_reach K n x1 S L R Q) : Met l yX10_reach wsX10_reach rmX10_reach (va_Pc [.ref (q 0), .int x1] (mP D (tyC cI cJ cZ cP cS) q (29 + 2 * n) (gC q cI cJ cZ cP cS K n S L R) sz (cX (aQ q (29 + 2 * n) sz)))) (QCi D q cI cJ cZ cP cS K n Q (aQ q (29 + 2 * n) sz)) 0 0 (aQ q (29 + 2 * n) sz) := by
  refine met_w (cc := cX10_reach) (maxL := 5) (ret := (some .int)) (by decide) rfl (Nat.le_of_ble_eq_true rfl) ?_
  intro p e s m below meth c ls C hr hlk hW hX hnm hl
  exact sX10_reach C hr hlk hX Q x1 S L R _ _ _ h hW hl
theorem inX10_two_X10 : ∀ w ∈ wsX100, w ∈ wsX10_two := fun _ h => List.mem_cons_of_mem _ (List.mem_append_left _ (List.mem_append_left _ (List.mem_append_left _ (List.mem_append_left _ (List.mem_append_left _ (List.mem_append_right _ h))))))
theorem inX10_two_X5 : ∀ w ∈ wsX50, w ∈ wsX10_two := fun _ h => List.mem_cons_of_mem _ (List.mem_append_left _ (List.mem_append_left _ (List.mem_append_left _ (List.mem_append_left _ (List.mem_append_right _ h)))))
theorem inX10_two_X2 : ∀ w ∈ wsX20, w ∈ wsX10_two := fun _ h => List.mem_cons_of_mem _ (List.mem_append_left _ (List.mem_append_left _ (List.mem_append_left _ (List.mem_append_right _ h))))
theorem inX10_two_X3 : ∀ w ∈ wsX30, w ∈ wsX10_two := fun _ h => List.mem_cons_of_mem _ (List.mem_append_left _ (List.mem_append_left _ (List.mem_append_right _ h)))
theorem inX10_two_X4 : ∀ w ∈ wsX40, w ∈ wsX10_two := fun _ h => List.mem_cons_of_mem _ (List.mem_append_left _ (List.mem_append_right _ h))
theorem inX10_two_X7 : ∀ w ∈ wsX70, w ∈ wsX10_two := fun _ h => List.mem_cons_of_mem _ (List.mem_append_right _ h)
abbrev rmX10_two : Room := { frames := 6, cells := 0, slots := 0, locals := 135 }
def vX10_two (K : Nat → Nat) (n : Nat) (x1 : Int32) (x2 : Int32) (x3 : Int32) (x4 : Int32) (x5 : Int32) (S : Nat → Nat → Int32) (L : Nat → Int64) (R : Nat → Option Nat) (Q : Int32 → (Nat → Nat → Int32) → (Nat → Int64) → (Nat → Option Nat) → Prop) : Prop := vX10_millOf K n x1 S L R (fun o1 S2 L3 R4 => vX10_millOf K n x2 S2 L3 R4 (fun o5 S6 L7 R8 => (o1 = none → Q (-1 : Int32) S6 L7 R8) ∧ (∀ mi9 : Nat, o1 = some mi9 → (o5 = none → Q (-1 : Int32) S6 L7 R8) ∧ (∀ mi10 : Nat, o5 = some mi10 → vX10_within x3 (0 : Int32) (999 : Int32) (fun r11 => (r11 = 0 → Q (-2 : Int32) S6 L7 R8) ∧ (¬ (r11 = 0) → vX10_within x4 (0 : Int32) (200 : Int32) (fun r13 => (r13 = 0 → Q (-2 : Int32) S6 L7 R8) ∧ (¬ (r13 = 0) → vX10_within x5 (0 : Int32) (6 : Int32) (fun r15 => (r15 = 0 → Q (-2 : Int32) S6 L7 R8) ∧ (¬ (r15 = 0) → (¬ x1 = x2 → vX5_begin K n (some mi9) (some mi10) x3 (50 : Int32) x4 S6 L7 R8 (fun S18 L19 R20 => vX5_runTillRound K n  S18 L19 R20 (fun S21 L22 R23 => vX5_told K n x5 S21 L22 R23 (fun r24 S25 L26 R27 => Q r24 S25 L26 R27)))) ∧ (x1 = x2 → Q (-2 : Int32) S6 L7 R8)))))))))))
set_option maxRecDepth 100000 in
set_option maxHeartbeats 4000000 in
theorem sX10_two {p : Program} {l : Launch} {e : Env} {s : State} {m : MethodId} {args : Array Value} {below : List Frame} {meth : Method} {c : Code} {D : va_G} {q : Nat → Nat} {A : Nat → Prop} {cI cJ cZ cP cS : ClassId} {K : Nat → Nat} {n : Nat} (C : CallFix p m c cX10_two 8 s args wsX10_two RX10) (hr : meth.sig.returnType = (some .int)) (hlk : meth.locks = false) (hX : cX A s) (Q : Int32 → (Nat → Nat → Int32) → (Nat → Int64) → (Nat → Option Nat) → Prop) : ∀ (x1 : Int32) (x2 : Int32) (x3 : Int32) (x4 : Int32) (x5 : Int32) (S : Nat → Nat → Int32) (L : Nat → Int64) (R : Nat → Option Nat) (H : Heap) (locs : List Loc) (ls : Array Slot), vX10_two K n x1 x2 x3 x4 x5 S L R Q → hw D (tyC cI cJ cZ cP cS) q (29 + 2 * n) (gC q cI cJ cZ cP cS K n S L R) A s H locs → lv_has ls 8 [(0, .ref (q 0)), (1, .int x1), (2, .int x2), (3, .int x3), (4, .int x4), (5, .int x5)] → W p l e (headSpec wsX10_two rmX10_two).room s m args below meth c H locs 0 0 (MQ below (QCi D q cI cJ cZ cP cS K n Q A) args s 0 0 A) (F0 m 0 ls []) := by
  intro x1 x2 x3 x4 x5 S L R H locs ls h hW hl
  unfold vX10_two at h
  refine lv_aload_n C.1 C.2.1 dX10_two_0 rfl (lv_at hl 0 rfl) ?_
  refine lv_iload_n C.1 C.2.1 dX10_two_1 rfl (lv_at hl 1 rfl) ?_
  refine k_q hW (va_runV (As := [.int x1]) (rest := []) C (mtX10_millOf l D q cI cJ cZ cP cS K n H.size x1 S L R _ h) (cwV 1 C.2.2.2.2 gX10_two_X10_millOf rfl rfl rfl (by decide +kernel) ⟨Nat.le_of_ble_eq_true rfl, Nat.le_of_ble_eq_true rfl⟩) ⟨mP_blind cX_B, va_recv hW.1 hW.2.1 (ci := 10) (q0 := 0) rfl (wL_get (by omega)), fun U hU hV => ⟨rfl, hW.pre hU hV (hX.call hW hU hV)⟩⟩ rfl rfl hl.1 rfl (lv_room (Nat.le_of_ble_eq_true rfl)) dX10_two_2 ⟨Nat.zero_le _, Nat.zero_le _⟩) (fun r9 u H locs h hW => ?_)
  obtain ⟨S2, L3, R4⟩ := u
  obtain ⟨o1, rfl, h⟩ := h
  replace hW : hw D (tyC cI cJ cZ cP cS) q (29 + 2 * n) (gC q cI cJ cZ cP cS K n S2 L3 R4) A s H locs := hW
  refine cv_astore (lv' := [(6, va_rf (Option.map (qM q) o1)), (0, .ref (q 0)), (1, .int x1), (2, .int x2), (3, .int x3), (4, .int x4), (5, .int x5)]) C.1 C.2.1 dX10_two_5 hl (by decide) rfl (fun ls hl => ?_)
  refine lv_aload_n C.1 C.2.1 dX10_two_7 rfl (lv_at hl 1 rfl) ?_
  refine lv_iload_n C.1 C.2.1 dX10_two_8 rfl (lv_at hl 3 rfl) ?_
  refine k_q hW (va_runV (As := [.int x2]) (rest := []) C (mtX10_millOf l D q cI cJ cZ cP cS K n H.size x2 S2 L3 R4 _ h) (cwV 1 C.2.2.2.2 gX10_two_X10_millOf rfl rfl rfl (by decide +kernel) ⟨Nat.le_of_ble_eq_true rfl, Nat.le_of_ble_eq_true rfl⟩) ⟨mP_blind cX_B, va_recv hW.1 hW.2.1 (ci := 10) (q0 := 0) rfl (wL_get (by omega)), fun U hU hV => ⟨rfl, hW.pre hU hV (hX.call hW hU hV)⟩⟩ rfl rfl hl.1 rfl (lv_room (Nat.le_of_ble_eq_true rfl)) dX10_two_9 ⟨Nat.zero_le _, Nat.zero_le _⟩) (fun r9 u H locs h hW => ?_)
  obtain ⟨S6, L7, R8⟩ := u
  obtain ⟨o5, rfl, h⟩ := h
  replace hW : hw D (tyC cI cJ cZ cP cS) q (29 + 2 * n) (gC q cI cJ cZ cP cS K n S6 L7 R8) A s H locs := hW
  refine cv_astore (lv' := [(7, va_rf (Option.map (qM q) o5)), (6, va_rf (Option.map (qM q) o1)), (0, .ref (q 0)), (1, .int x1), (2, .int x2), (3, .int x3), (4, .int x4), (5, .int x5)]) C.1 C.2.1 dX10_two_12 hl (by decide) (by rcases o1 with _ | _ <;> rfl) (fun ls hl => ?_)
  refine cv_aload C.1 C.2.1 dX10_two_14 (lv_at hl 1 rfl) ?_
  rcases o1 with _ | mi9
  · replace h := h.1 rfl
    replace hl : lv_has ls 8 [(7, va_rf (Option.map (qM q) o5)), (6, .null), (0, .ref (q 0)), (1, .int x1), (2, .int x2), (3, .int x3), (4, .int x4), (5, .int x5)] := hl
    refine lv_ifnullN (tgt := 24) C.1 C.2.1 dX10_two_16 (by decide) ?_
    refine lv_iconst (v := -1) C.1 C.2.1 dX10_two_24 (by decide) ?_
    exact t_i C hr hlk (u := (S6, L7, R8)) hW.2.2.2.1 hW.B h dX10_two_25
  · replace h := h.2 mi9 rfl
    replace hl : lv_has ls 8 [(7, va_rf (Option.map (qM q) o5)), (6, .ref (q (29 + 2 * mi9))), (0, .ref (q 0)), (1, .int x1), (2, .int x2), (3, .int x3), (4, .int x4), (5, .int x5)] := hl
    refine lv_ifnull C.1 C.2.1 dX10_two_16 ?_
    refine cv_aload C.1 C.2.1 dX10_two_19 (lv_at hl 0 rfl) ?_
    rcases o5 with _ | mi10
    · replace h := h.1 rfl
      replace hl : lv_has ls 8 [(7, .null), (6, .ref (q (29 + 2 * mi9))), (0, .ref (q 0)), (1, .int x1), (2, .int x2), (3, .int x3), (4, .int x4), (5, .int x5)] := hl
      refine lv_ifnonnullN C.1 C.2.1 dX10_two_21 ?_
      refine lv_iconst (v := -1) C.1 C.2.1 dX10_two_24 (by decide) ?_
      exact t_i C hr hlk (u := (S6, L7, R8)) hW.2.2.2.1 hW.B h dX10_two_25
    · replace h := h.2 mi10 rfl
      replace hl : lv_has ls 8 [(7, .ref (q (29 + 2 * mi10))), (6, .ref (q (29 + 2 * mi9))), (0, .ref (q 0)), (1, .int x1), (2, .int x2), (3, .int x3), (4, .int x4), (5, .int x5)] := hl
      refine lv_ifnonnull (tgt := 26) C.1 C.2.1 dX10_two_21 (by decide) ?_
      refine lv_iload_n C.1 C.2.1 dX10_two_26 rfl (lv_at hl 5 rfl) ?_
      refine lv_iconst (v := 0) C.1 C.2.1 dX10_two_27 (by decide) ?_
      refine lv_sipush (v := 999) C.1 C.2.1 dX10_two_28 (by decide) ?_
      refine k_pi hW (va_runS (As := [.int x3, .int (0 : Int32), .int (999 : Int32)]) (rest := []) C (mtX10_within l D q _ H.size x3 (0 : Int32) (999 : Int32) _ h) (va_cwS 3 C.2.2.2.2 gX10_two_X10_within rfl rfl rfl (by decide +kernel) ⟨Nat.le_of_ble_eq_true rfl, Nat.le_of_ble_eq_true rfl⟩) ⟨mP_blind tX_B, fun U hU hV => ⟨rfl, hW.pre0 hU hV trivial⟩⟩ rfl rfl hl.1 rfl (lv_room (Nat.le_of_ble_eq_true rfl)) dX10_two_31 ⟨Nat.zero_le _, Nat.zero_le _⟩) (fun r11 H locs h hW => ?_)
      refine lv_if_eq (tgt := 65) C.1 C.2.1 dX10_two_34 (by decide) (fun c12 => ?_) (fun c12 => ?_)
      · replace h := h.1 c12
        refine lv_bipush (v := -2) C.1 C.2.1 dX10_two_65 (by decide) ?_
        exact t_i C hr hlk (u := (S6, L7, R8)) hW.2.2.2.1 hW.B h dX10_two_67
      · replace h := h.2 c12
        refine lv_iload C.1 C.2.1 dX10_two_37 (lv_at hl 6 rfl) ?_
        refine lv_iconst (v := 0) C.1 C.2.1 dX10_two_39 (by decide) ?_
        refine lv_sipush (v := 200) C.1 C.2.1 dX10_two_40 (by decide) ?_
        refine k_pi hW (va_runS (As := [.int x4, .int (0 : Int32), .int (200 : Int32)]) (rest := []) C (mtX10_within l D q _ H.size x4 (0 : Int32) (200 : Int32) _ h) (va_cwS 3 C.2.2.2.2 gX10_two_X10_within rfl rfl rfl (by decide +kernel) ⟨Nat.le_of_ble_eq_true rfl, Nat.le_of_ble_eq_true rfl⟩) ⟨mP_blind tX_B, fun U hU hV => ⟨rfl, hW.pre0 hU hV trivial⟩⟩ rfl rfl hl.1 rfl (lv_room (Nat.le_of_ble_eq_true rfl)) dX10_two_43 ⟨Nat.zero_le _, Nat.zero_le _⟩) (fun r13 H locs h hW => ?_)
        refine lv_if_eq (tgt := 65) C.1 C.2.1 dX10_two_46 (by decide) (fun c14 => ?_) (fun c14 => ?_)
        · replace h := h.1 c14
          refine lv_bipush (v := -2) C.1 C.2.1 dX10_two_65 (by decide) ?_
          exact t_i C hr hlk (u := (S6, L7, R8)) hW.2.2.2.1 hW.B h dX10_two_67
        · replace h := h.2 c14
          refine lv_iload C.1 C.2.1 dX10_two_49 (lv_at hl 7 rfl) ?_
          refine lv_iconst (v := 0) C.1 C.2.1 dX10_two_51 (by decide) ?_
          refine lv_bipush (v := 6) C.1 C.2.1 dX10_two_52 (by decide) ?_
          refine k_pi hW (va_runS (As := [.int x5, .int (0 : Int32), .int (6 : Int32)]) (rest := []) C (mtX10_within l D q _ H.size x5 (0 : Int32) (6 : Int32) _ h) (va_cwS 3 C.2.2.2.2 gX10_two_X10_within rfl rfl rfl (by decide +kernel) ⟨Nat.le_of_ble_eq_true rfl, Nat.le_of_ble_eq_true rfl⟩) ⟨mP_blind tX_B, fun U hU hV => ⟨rfl, hW.pre0 hU hV trivial⟩⟩ rfl rfl hl.1 rfl (lv_room (Nat.le_of_ble_eq_true rfl)) dX10_two_54 ⟨Nat.zero_le _, Nat.zero_le _⟩) (fun r15 H locs h hW => ?_)
          refine lv_if_eq (tgt := 65) C.1 C.2.1 dX10_two_57 (by decide) (fun c16 => ?_) (fun c16 => ?_)
          · replace h := h.1 c16
            refine lv_bipush (v := -2) C.1 C.2.1 dX10_two_65 (by decide) ?_
            exact t_i C hr hlk (u := (S6, L7, R8)) hW.2.2.2.1 hW.B h dX10_two_67
          · replace h := h.2 c16
            refine lv_iload_n C.1 C.2.1 dX10_two_60 rfl (lv_at hl 3 rfl) ?_
            refine lv_iload_n C.1 C.2.1 dX10_two_61 rfl (lv_at hl 4 rfl) ?_
            refine lv_icmp_ne (tgt := 68) C.1 C.2.1 dX10_two_62 (by decide) (fun c17 => ?_) (fun c17 => ?_)
            · replace h := h.1 c17
              refine lv_aload_n C.1 C.2.1 dX10_two_68 rfl (lv_at hl 2 rfl) ?_
              refine r_get C hW (ci := 10) (T := TX10) (n := 11) (ref := "BallMinder") (v := .ref (q 9)) (0) (by omega) rfl rfl 5 (by decide) inX10_two_X10 (by decide +kernel) (fun _ h9 => h9) rfl dX10_two_69 ?_
              refine lv_aload C.1 C.2.1 dX10_two_72 (lv_at hl 1 rfl) ?_
              refine lv_aload C.1 C.2.1 dX10_two_74 (lv_at hl 0 rfl) ?_
              refine lv_iload_n C.1 C.2.1 dX10_two_76 rfl (lv_at hl 5 rfl) ?_
              refine lv_bipush (v := 50) C.1 C.2.1 dX10_two_77 (by decide) ?_
              refine lv_iload C.1 C.2.1 dX10_two_79 (lv_at hl 6 rfl) ?_
              refine k_v hW (va_runV (As := [.ref (q (29 + 2 * mi9)), .ref (q (29 + 2 * mi10)), .int x3, .int (50 : Int32), .int x4]) (rest := []) C (mtX5_begin l D q cI cJ cZ cP cS K n H.size (some mi9) (some mi10) x3 (50 : Int32) x4 S6 L7 R8 _ h) (cwV 5 C.2.2.2.2 gX10_two_X5_begin rfl rfl rfl (by decide +kernel) ⟨Nat.le_of_ble_eq_true rfl, Nat.le_of_ble_eq_true rfl⟩) ⟨mP_blind cX_B, va_recv hW.1 hW.2.1 (ci := 5) (q0 := 9) rfl (wL_get (by omega)), fun U hU hV => ⟨rfl, hW.pre hU hV (hX.call hW hU hV)⟩⟩ rfl rfl hl.1 rfl (lv_room (Nat.le_of_ble_eq_true rfl)) dX10_two_81 ⟨Nat.zero_le _, Nat.zero_le _⟩) (fun u H locs h hW => ?_)
              obtain ⟨S18, L19, R20⟩ := u
              replace hW : hw D (tyC cI cJ cZ cP cS) q (29 + 2 * n) (gC q cI cJ cZ cP cS K n S18 L19 R20) A s H locs := hW
              refine lv_aload_n C.1 C.2.1 dX10_two_84 rfl (lv_at hl 2 rfl) ?_
              refine r_get C hW (ci := 10) (T := TX10) (n := 11) (ref := "BallMinder") (v := .ref (q 9)) (0) (by omega) rfl rfl 5 (by decide) inX10_two_X10 (by decide +kernel) (fun _ h9 => h9) rfl dX10_two_85 ?_
              refine k_v hW (va_runV (As := []) (rest := []) C (mtX5_runTillRound l D q cI cJ cZ cP cS K n H.size  S18 L19 R20 _ h) (cwV 0 C.2.2.2.2 gX10_two_X5_runTillRound rfl rfl rfl (by decide +kernel) ⟨Nat.le_of_ble_eq_true rfl, Nat.le_of_ble_eq_true rfl⟩) ⟨mP_blind cX_B, va_recv hW.1 hW.2.1 (ci := 5) (q0 := 9) rfl (wL_get (by omega)), fun U hU hV => ⟨rfl, hW.pre hU hV (hX.call hW hU hV)⟩⟩ rfl rfl hl.1 rfl (lv_room (Nat.le_of_ble_eq_true rfl)) dX10_two_88 ⟨Nat.zero_le _, Nat.zero_le _⟩) (fun u H locs h hW => ?_)
              obtain ⟨S21, L22, R23⟩ := u
              replace hW : hw D (tyC cI cJ cZ cP cS) q (29 + 2 * n) (gC q cI cJ cZ cP cS K n S21 L22 R23) A s H locs := hW
              refine lv_aload_n C.1 C.2.1 dX10_two_91 rfl (lv_at hl 2 rfl) ?_
              refine r_get C hW (ci := 10) (T := TX10) (n := 11) (ref := "BallMinder") (v := .ref (q 9)) (0) (by omega) rfl rfl 5 (by decide) inX10_two_X10 (by decide +kernel) (fun _ h9 => h9) rfl dX10_two_92 ?_
              refine lv_iload C.1 C.2.1 dX10_two_95 (lv_at hl 7 rfl) ?_
              refine k_i hW (va_runV (As := [.int x5]) (rest := []) C (mtX5_told l D q cI cJ cZ cP cS K n H.size x5 S21 L22 R23 _ h) (cwV 1 C.2.2.2.2 gX10_two_X5_told rfl rfl rfl (by decide +kernel) ⟨Nat.le_of_ble_eq_true rfl, Nat.le_of_ble_eq_true rfl⟩) ⟨mP_blind cX_B, va_recv hW.1 hW.2.1 (ci := 5) (q0 := 9) rfl (wL_get (by omega)), fun U hU hV => ⟨rfl, hW.pre hU hV (hX.call hW hU hV)⟩⟩ rfl rfl hl.1 rfl (lv_room (Nat.le_of_ble_eq_true rfl)) dX10_two_97 ⟨Nat.zero_le _, Nat.zero_le _⟩) (fun r24 u H locs h hW => ?_)
              obtain ⟨S25, L26, R27⟩ := u
              replace hW : hw D (tyC cI cJ cZ cP cS) q (29 + 2 * n) (gC q cI cJ cZ cP cS K n S25 L26 R27) A s H locs := hW
              exact t_i C hr hlk (u := (S25, L26, R27)) hW.2.2.2.1 hW.B h dX10_two_100
            · replace h := h.2 c17
              refine lv_bipush (v := -2) C.1 C.2.1 dX10_two_65 (by decide) ?_
              exact t_i C hr hlk (u := (S6, L7, R8)) hW.2.2.2.1 hW.B h dX10_two_67
set_option maxRecDepth 100000 in
set_option maxHeartbeats 4000000 in
theorem mtX10_two (l : Launch) (D : va_G) (q : Nat → Nat) (cI cJ cZ cP cS : ClassId) (K : Nat → Nat) (n : Nat) (sz : Nat) (x1 : Int32) (x2 : Int32) (x3 : Int32) (x4 : Int32) (x5 : Int32) (S : Nat → Nat → Int32) (L : Nat → Int64) (R : Nat → Option Nat) (Q : Int32 → (Nat → Nat → Int32) → (Nat → Int64) → (Nat → Option Nat) → Prop) (h : vX10_two K n x1 x2 x3 x4 x5 S L R Q) : Met l yX10_two wsX10_two rmX10_two (va_Pc [.ref (q 0), .int x1, .int x2, .int x3, .int x4, .int x5] (mP D (tyC cI cJ cZ cP cS) q (29 + 2 * n) (gC q cI cJ cZ cP cS K n S L R) sz (cX (aQ q (29 + 2 * n) sz)))) (QCi D q cI cJ cZ cP cS K n Q (aQ q (29 + 2 * n) sz)) 0 0 (aQ q (29 + 2 * n) sz) := by
  refine met_w (cc := cX10_two) (maxL := 8) (ret := (some .int)) (by decide) rfl (Nat.le_of_ble_eq_true rfl) ?_
  intro p e s m below meth c ls C hr hlk hW hX hnm hl
  exact sX10_two C hr hlk hX Q x1 x2 x3 x4 x5 S L R _ _ _ h hW hl
theorem inX10_share_X3 : ∀ w ∈ wsX30, w ∈ wsX10_share := fun _ h => List.mem_cons_of_mem _ (List.mem_append_left _ (List.mem_append_left _ (List.mem_append_left _ (List.mem_append_right _ h))))
theorem inX10_share_X4 : ∀ w ∈ wsX40, w ∈ wsX10_share := fun _ h => List.mem_cons_of_mem _ (List.mem_append_left _ (List.mem_append_left _ (List.mem_append_right _ h)))
theorem inX10_share_X7 : ∀ w ∈ wsX70, w ∈ wsX10_share := fun _ h => List.mem_cons_of_mem _ (List.mem_append_left _ (List.mem_append_right _ h))
theorem inX10_share_X10 : ∀ w ∈ wsX100, w ∈ wsX10_share := fun _ h => List.mem_cons_of_mem _ (List.mem_append_right _ h)
abbrev rmX10_share : Room := { frames := 2, cells := 0, slots := 0, locals := 52 }
def vX10_share (K : Nat → Nat) (n : Nat) (x1 : Int32) (x2 : Int32) (x3 : Int32) (S : Nat → Nat → Int32) (L : Nat → Int64) (R : Nat → Option Nat) (Q : Int64 → (Nat → Nat → Int32) → (Nat → Int64) → (Nat → Option Nat) → Prop) : Prop := vX10_millOf K n x1 S L R (fun o1 S2 L3 R4 => vX10_millOf K n x2 S2 L3 R4 (fun o5 S6 L7 R8 => (o1 = none → Q (-9223372036854775808 : Int64) S6 L7 R8) ∧ (∀ mi9 : Nat, o1 = some mi9 → (o5 = none → Q (-9223372036854775808 : Int64) S6 L7 R8) ∧ (∀ mi10 : Nat, o5 = some mi10 → (x1 = x2 → Q (-9223372036854775808 : Int64) S6 L7 R8) ∧ (¬ (x1 = x2) → vX10_within x3 (0 : Int32) (1 : Int32) (fun r12 => (¬ r12 = 0 → mi9 < n ∧ (vX4_hasRestOfItsOwn K n mi9  S6 L7 R8 (fun r14 S15 L16 R17 => (r14 = 0 → Q (-9223372036854775808 : Int64) S15 L16 R17) ∧ (¬ (r14 = 0) → mi10 < n ∧ (vX4_hasRestOfItsOwn K n mi10  S15 L16 R17 (fun r20 S21 L22 R23 => (¬ r20 = 0 → vp_in (5 : Int32) 9 ∧ (vp_in (4 : Int32) 9 ∧ (∀ x6_28 : Int64, x6_28 = ((S21 (30 + 2 * mi9) (5 : Int32).toNatClampNeg).toInt64) * ((S21 (30 + 2 * mi10) (4 : Int32).toNatClampNeg).toInt64) → vp_in (5 : Int32) 9 ∧ (vp_in (4 : Int32) 9 ∧ (∀ x8_31 : Int64, x8_31 = ((S21 (30 + 2 * mi10) (5 : Int32).toNatClampNeg).toInt64) * ((S21 (30 + 2 * mi9) (4 : Int32).toNatClampNeg).toInt64) → vX10_inLeastTerms x6_28 (x6_28 + x8_31) x3 (fun r32 => Q r32 S21 L22 R23)))))) ∧ (r20 = 0 → Q (-9223372036854775808 : Int64) S21 L22 R23))))))) ∧ (r12 = 0 → Q (-9223372036854775808 : Int64) S6 L7 R8)))))))
set_option maxRecDepth 100000 in
set_option maxHeartbeats 4000000 in
theorem sX10_share {p : Program} {l : Launch} {e : Env} {s : State} {m : MethodId} {args : Array Value} {below : List Frame} {meth : Method} {c : Code} {D : va_G} {q : Nat → Nat} {A : Nat → Prop} {cI cJ cZ cP cS : ClassId} {K : Nat → Nat} {n : Nat} (C : CallFix p m c cX10_share 10 s args wsX10_share RX10) (hr : meth.sig.returnType = (some .long)) (hlk : meth.locks = false) (hX : cX A s) (Q : Int64 → (Nat → Nat → Int32) → (Nat → Int64) → (Nat → Option Nat) → Prop) : ∀ (x1 : Int32) (x2 : Int32) (x3 : Int32) (S : Nat → Nat → Int32) (L : Nat → Int64) (R : Nat → Option Nat) (H : Heap) (locs : List Loc) (ls : Array Slot), vX10_share K n x1 x2 x3 S L R Q → hw D (tyC cI cJ cZ cP cS) q (29 + 2 * n) (gC q cI cJ cZ cP cS K n S L R) A s H locs → lv_has ls 10 [(0, .ref (q 0)), (1, .int x1), (2, .int x2), (3, .int x3)] → W p l e (headSpec wsX10_share rmX10_share).room s m args below meth c H locs 0 0 (MQ below (QCl D q cI cJ cZ cP cS K n Q A) args s 0 0 A) (F0 m 0 ls []) := by
  intro x1 x2 x3 S L R H locs ls h hW hl
  unfold vX10_share at h
  refine lv_aload_n C.1 C.2.1 dX10_share_0 rfl (lv_at hl 0 rfl) ?_
  refine lv_iload_n C.1 C.2.1 dX10_share_1 rfl (lv_at hl 1 rfl) ?_
  refine k_q hW (va_runV (As := [.int x1]) (rest := []) C (mtX10_millOf l D q cI cJ cZ cP cS K n H.size x1 S L R _ h) (cwV 1 C.2.2.2.2 gX10_share_X10_millOf rfl rfl rfl (by decide +kernel) ⟨Nat.le_of_ble_eq_true rfl, Nat.le_of_ble_eq_true rfl⟩) ⟨mP_blind cX_B, va_recv hW.1 hW.2.1 (ci := 10) (q0 := 0) rfl (wL_get (by omega)), fun U hU hV => ⟨rfl, hW.pre hU hV (hX.call hW hU hV)⟩⟩ rfl rfl hl.1 rfl (lv_room (Nat.le_of_ble_eq_true rfl)) dX10_share_2 ⟨Nat.zero_le _, Nat.zero_le _⟩) (fun r9 u H locs h hW => ?_)
  obtain ⟨S2, L3, R4⟩ := u
  obtain ⟨o1, rfl, h⟩ := h
  replace hW : hw D (tyC cI cJ cZ cP cS) q (29 + 2 * n) (gC q cI cJ cZ cP cS K n S2 L3 R4) A s H locs := hW
  refine cv_astore (lv' := [(4, va_rf (Option.map (qM q) o1)), (0, .ref (q 0)), (1, .int x1), (2, .int x2), (3, .int x3)]) C.1 C.2.1 dX10_share_5 hl (by decide) rfl (fun ls hl => ?_)
  refine lv_aload_n C.1 C.2.1 dX10_share_7 rfl (lv_at hl 1 rfl) ?_
  refine lv_iload_n C.1 C.2.1 dX10_share_8 rfl (lv_at hl 3 rfl) ?_
  refine k_q hW (va_runV (As := [.int x2]) (rest := []) C (mtX10_millOf l D q cI cJ cZ cP cS K n H.size x2 S2 L3 R4 _ h) (cwV 1 C.2.2.2.2 gX10_share_X10_millOf rfl rfl rfl (by decide +kernel) ⟨Nat.le_of_ble_eq_true rfl, Nat.le_of_ble_eq_true rfl⟩) ⟨mP_blind cX_B, va_recv hW.1 hW.2.1 (ci := 10) (q0 := 0) rfl (wL_get (by omega)), fun U hU hV => ⟨rfl, hW.pre hU hV (hX.call hW hU hV)⟩⟩ rfl rfl hl.1 rfl (lv_room (Nat.le_of_ble_eq_true rfl)) dX10_share_9 ⟨Nat.zero_le _, Nat.zero_le _⟩) (fun r9 u H locs h hW => ?_)
  obtain ⟨S6, L7, R8⟩ := u
  obtain ⟨o5, rfl, h⟩ := h
  replace hW : hw D (tyC cI cJ cZ cP cS) q (29 + 2 * n) (gC q cI cJ cZ cP cS K n S6 L7 R8) A s H locs := hW
  refine cv_astore (lv' := [(5, va_rf (Option.map (qM q) o5)), (4, va_rf (Option.map (qM q) o1)), (0, .ref (q 0)), (1, .int x1), (2, .int x2), (3, .int x3)]) C.1 C.2.1 dX10_share_12 hl (by decide) (by rcases o1 with _ | _ <;> rfl) (fun ls hl => ?_)
  refine cv_aload C.1 C.2.1 dX10_share_14 (lv_at hl 1 rfl) ?_
  rcases o1 with _ | mi9
  · replace h := h.1 rfl
    replace hl : lv_has ls 10 [(5, va_rf (Option.map (qM q) o5)), (4, .null), (0, .ref (q 0)), (1, .int x1), (2, .int x2), (3, .int x3)] := hl
    refine lv_ifnullN (tgt := 38) C.1 C.2.1 dX10_share_16 (by decide) ?_
    refine lv_ldc2 (v := (-9223372036854775808)) C.1 C.2.1 C.2.2.2.1 (C.2.2.2.2 (.constantLong RX10 112 (-9223372036854775808)) (by decide +kernel)) dX10_share_38 ?_
    exact t_l C hr hlk (u := (S6, L7, R8)) hW.2.2.2.1 hW.B h dX10_share_41
  · replace h := h.2 mi9 rfl
    replace hl : lv_has ls 10 [(5, va_rf (Option.map (qM q) o5)), (4, .ref (q (29 + 2 * mi9))), (0, .ref (q 0)), (1, .int x1), (2, .int x2), (3, .int x3)] := hl
    refine lv_ifnull C.1 C.2.1 dX10_share_16 ?_
    refine cv_aload C.1 C.2.1 dX10_share_19 (lv_at hl 0 rfl) ?_
    rcases o5 with _ | mi10
    · replace h := h.1 rfl
      replace hl : lv_has ls 10 [(5, .null), (4, .ref (q (29 + 2 * mi9))), (0, .ref (q 0)), (1, .int x1), (2, .int x2), (3, .int x3)] := hl
      refine lv_ifnullN (tgt := 38) C.1 C.2.1 dX10_share_21 (by decide) ?_
      refine lv_ldc2 (v := (-9223372036854775808)) C.1 C.2.1 C.2.2.2.1 (C.2.2.2.2 (.constantLong RX10 112 (-9223372036854775808)) (by decide +kernel)) dX10_share_38 ?_
      exact t_l C hr hlk (u := (S6, L7, R8)) hW.2.2.2.1 hW.B h dX10_share_41
    · replace h := h.2 mi10 rfl
      replace hl : lv_has ls 10 [(5, .ref (q (29 + 2 * mi10))), (4, .ref (q (29 + 2 * mi9))), (0, .ref (q 0)), (1, .int x1), (2, .int x2), (3, .int x3)] := hl
      refine lv_ifnull C.1 C.2.1 dX10_share_21 ?_
      refine lv_iload_n C.1 C.2.1 dX10_share_24 rfl (lv_at hl 3 rfl) ?_
      refine lv_iload_n C.1 C.2.1 dX10_share_25 rfl (lv_at hl 4 rfl) ?_
      refine lv_icmp_eq (tgt := 38) C.1 C.2.1 dX10_share_26 (by decide) (fun c11 => ?_) (fun c11 => ?_)
      · replace h := h.1 c11
        refine lv_ldc2 (v := (-9223372036854775808)) C.1 C.2.1 C.2.2.2.1 (C.2.2.2.2 (.constantLong RX10 112 (-9223372036854775808)) (by decide +kernel)) dX10_share_38 ?_
        exact t_l C hr hlk (u := (S6, L7, R8)) hW.2.2.2.1 hW.B h dX10_share_41
      · replace h := h.2 c11
        refine lv_iload_n C.1 C.2.1 dX10_share_29 rfl (lv_at hl 5 rfl) ?_
        refine lv_iconst (v := 0) C.1 C.2.1 dX10_share_30 (by decide) ?_
        refine lv_iconst (v := 1) C.1 C.2.1 dX10_share_31 (by decide) ?_
        refine k_pi hW (va_runS (As := [.int x3, .int (0 : Int32), .int (1 : Int32)]) (rest := []) C (mtX10_within l D q _ H.size x3 (0 : Int32) (1 : Int32) _ h) (va_cwS 3 C.2.2.2.2 gX10_share_X10_within rfl rfl rfl (by decide +kernel) ⟨Nat.le_of_ble_eq_true rfl, Nat.le_of_ble_eq_true rfl⟩) ⟨mP_blind tX_B, fun U hU hV => ⟨rfl, hW.pre0 hU hV trivial⟩⟩ rfl rfl hl.1 rfl (lv_room (Nat.le_of_ble_eq_true rfl)) dX10_share_32 ⟨Nat.zero_le _, Nat.zero_le _⟩) (fun r12 H locs h hW => ?_)
        refine lv_if_ne (tgt := 42) C.1 C.2.1 dX10_share_35 (by decide) (fun c13 => ?_) (fun c13 => ?_)
        · replace h := h.1 c13
          refine lv_aload C.1 C.2.1 dX10_share_42 (lv_at hl 1 rfl) ?_
          obtain ⟨hb18, h⟩ := h
          refine k_i hW (by1 (k := K mi9) h (fun k0 h => va_runV (As := []) (rest := []) C (mtX4_hasRestOfItsOwn l D q cI cJ cZ cP cS K n mi9 hb18 H.size  S6 L7 R8 _ h) (cwV 0 C.2.2.2.2 gX10_share_X4_hasRestOfItsOwn rfl rfl rfl (by decide +kernel) ⟨Nat.le_of_ble_eq_true rfl, Nat.le_of_ble_eq_true rfl⟩) ⟨mP_blind cX_B, c_rec0 hW hb18 k0, fun U hU hV => ⟨rfl, hW.pre hU hV (hX.call hW hU hV)⟩⟩ rfl rfl hl.1 rfl (lv_room (Nat.le_of_ble_eq_true rfl)) dX10_share_44 ⟨Nat.zero_le _, Nat.zero_le _⟩) (fun k1 h => va_runU (As := []) (rest := []) C (mtX4_hasRestOfItsOwn l D q cI cJ cZ cP cS K n mi9 hb18 H.size  S6 L7 R8 _ h) (va_cwU 0 C.2.2.2.2 gX10_share_X4_hasRestOfItsOwn_u183X3 rfl rfl rfl rfl (by decide +kernel) ⟨Nat.le_of_ble_eq_true rfl, Nat.le_of_ble_eq_true rfl⟩) ⟨mP_blind cX_B, c_rec1 hW hb18 k1, fun U hU hV => ⟨rfl, hW.pre hU hV (hX.call hW hU hV)⟩⟩ rfl rfl hl.1 rfl (lv_room (Nat.le_of_ble_eq_true rfl)) dX10_share_44 ⟨Nat.zero_le _, Nat.zero_le _⟩) (fun k0 k1 h => va_runU (As := []) (rest := []) C (mtX4_hasRestOfItsOwn l D q cI cJ cZ cP cS K n mi9 hb18 H.size  S6 L7 R8 _ h) (va_cwU 0 C.2.2.2.2 gX10_share_X4_hasRestOfItsOwn_u183X7 rfl rfl rfl rfl (by decide +kernel) ⟨Nat.le_of_ble_eq_true rfl, Nat.le_of_ble_eq_true rfl⟩) ⟨mP_blind cX_B, c_rec2 hW hb18 k0 k1, fun U hU hV => ⟨rfl, hW.pre hU hV (hX.call hW hU hV)⟩⟩ rfl rfl hl.1 rfl (lv_room (Nat.le_of_ble_eq_true rfl)) dX10_share_44 ⟨Nat.zero_le _, Nat.zero_le _⟩)) (fun r14 u H locs h hW => ?_)
          obtain ⟨S15, L16, R17⟩ := u
          replace hW : hw D (tyC cI cJ cZ cP cS) q (29 + 2 * n) (gC q cI cJ cZ cP cS K n S15 L16 R17) A s H locs := hW
          refine lv_if_eq (tgt := 58) C.1 C.2.1 dX10_share_47 (by decide) (fun c19 => ?_) (fun c19 => ?_)
          · replace h := h.1 c19
            refine lv_ldc2 (v := (-9223372036854775808)) C.1 C.2.1 C.2.2.2.1 (C.2.2.2.2 (.constantLong RX10 112 (-9223372036854775808)) (by decide +kernel)) dX10_share_58 ?_
            exact t_l C hr hlk (u := (S15, L16, R17)) hW.2.2.2.1 hW.B h dX10_share_61
          · replace h := h.2 c19
            refine lv_aload C.1 C.2.1 dX10_share_50 (lv_at hl 0 rfl) ?_
            obtain ⟨hb24, h⟩ := h
            refine k_i hW (by1 (k := K mi10) h (fun k0 h => va_runV (As := []) (rest := []) C (mtX4_hasRestOfItsOwn l D q cI cJ cZ cP cS K n mi10 hb24 H.size  S15 L16 R17 _ h) (cwV 0 C.2.2.2.2 gX10_share_X4_hasRestOfItsOwn rfl rfl rfl (by decide +kernel) ⟨Nat.le_of_ble_eq_true rfl, Nat.le_of_ble_eq_true rfl⟩) ⟨mP_blind cX_B, c_rec0 hW hb24 k0, fun U hU hV => ⟨rfl, hW.pre hU hV (hX.call hW hU hV)⟩⟩ rfl rfl hl.1 rfl (lv_room (Nat.le_of_ble_eq_true rfl)) dX10_share_52 ⟨Nat.zero_le _, Nat.zero_le _⟩) (fun k1 h => va_runU (As := []) (rest := []) C (mtX4_hasRestOfItsOwn l D q cI cJ cZ cP cS K n mi10 hb24 H.size  S15 L16 R17 _ h) (va_cwU 0 C.2.2.2.2 gX10_share_X4_hasRestOfItsOwn_u183X3 rfl rfl rfl rfl (by decide +kernel) ⟨Nat.le_of_ble_eq_true rfl, Nat.le_of_ble_eq_true rfl⟩) ⟨mP_blind cX_B, c_rec1 hW hb24 k1, fun U hU hV => ⟨rfl, hW.pre hU hV (hX.call hW hU hV)⟩⟩ rfl rfl hl.1 rfl (lv_room (Nat.le_of_ble_eq_true rfl)) dX10_share_52 ⟨Nat.zero_le _, Nat.zero_le _⟩) (fun k0 k1 h => va_runU (As := []) (rest := []) C (mtX4_hasRestOfItsOwn l D q cI cJ cZ cP cS K n mi10 hb24 H.size  S15 L16 R17 _ h) (va_cwU 0 C.2.2.2.2 gX10_share_X4_hasRestOfItsOwn_u183X7 rfl rfl rfl rfl (by decide +kernel) ⟨Nat.le_of_ble_eq_true rfl, Nat.le_of_ble_eq_true rfl⟩) ⟨mP_blind cX_B, c_rec2 hW hb24 k0 k1, fun U hU hV => ⟨rfl, hW.pre hU hV (hX.call hW hU hV)⟩⟩ rfl rfl hl.1 rfl (lv_room (Nat.le_of_ble_eq_true rfl)) dX10_share_52 ⟨Nat.zero_le _, Nat.zero_le _⟩)) (fun r20 u H locs h hW => ?_)
            obtain ⟨S21, L22, R23⟩ := u
            replace hW : hw D (tyC cI cJ cZ cP cS) q (29 + 2 * n) (gC q cI cJ cZ cP cS K n S21 L22 R23) A s H locs := hW
            refine lv_if_ne (tgt := 62) C.1 C.2.1 dX10_share_55 (by decide) (fun c25 => ?_) (fun c25 => ?_)
            · replace h := h.1 c25
              refine lv_aload C.1 C.2.1 dX10_share_62 (lv_at hl 1 rfl) ?_
              refine c_nums C hW hb18 inX10_share_X3 inX10_share_X4 inX10_share_X7 (ref := "BallMinder$Plain") (by decide +kernel) (fun _ h9 => h9) dX10_share_64 ?_
              refine lv_iconst (v := 5) C.1 C.2.1 dX10_share_67 (by decide) ?_
              obtain ⟨hs26, h⟩ := h
              refine r_iald C hW (cA := cI) (n := 9) (f := S21 (30 + 2 * mi9)) (30 + 2 * mi9) 0 (by omega) (gC_nums mi9) rfl hs26 dX10_share_68 ?_
              refine lv_i2l C.1 C.2.1 dX10_share_69 rfl ?_
              refine lv_aload C.1 C.2.1 dX10_share_70 (lv_at hl 0 rfl) ?_
              refine c_nums C hW hb24 inX10_share_X3 inX10_share_X4 inX10_share_X7 (ref := "BallMinder$Plain") (by decide +kernel) (fun _ h9 => h9) dX10_share_72 ?_
              refine lv_iconst (v := 4) C.1 C.2.1 dX10_share_75 (by decide) ?_
              obtain ⟨hs27, h⟩ := h
              refine r_iald C hW (cA := cI) (n := 9) (f := S21 (30 + 2 * mi10)) (30 + 2 * mi10) 0 (by omega) (gC_nums mi10) rfl hs27 dX10_share_76 ?_
              refine lv_i2l C.1 C.2.1 dX10_share_77 rfl ?_
              refine lv_lmul C.1 C.2.1 dX10_share_78 ?_
              refine lv_topl (fun x6_28 ex6_28 => ?_)
              replace h := h x6_28 ex6_28
              refine lv_lstore (lv' := [(6, .long x6_28), (5, .ref (q (29 + 2 * mi10))), (4, .ref (q (29 + 2 * mi9))), (0, .ref (q 0)), (1, .int x1), (2, .int x2), (3, .int x3)]) C.1 C.2.1 dX10_share_79 hl (by decide) rfl (fun ls hl => ?_)
              refine lv_aload C.1 C.2.1 dX10_share_81 (lv_at hl 1 rfl) ?_
              refine c_nums C hW hb24 inX10_share_X3 inX10_share_X4 inX10_share_X7 (ref := "BallMinder$Plain") (by decide +kernel) (fun _ h9 => h9) dX10_share_83 ?_
              refine lv_iconst (v := 5) C.1 C.2.1 dX10_share_86 (by decide) ?_
              obtain ⟨hs29, h⟩ := h
              refine r_iald C hW (cA := cI) (n := 9) (f := S21 (30 + 2 * mi10)) (30 + 2 * mi10) 0 (by omega) (gC_nums mi10) rfl hs29 dX10_share_87 ?_
              refine lv_i2l C.1 C.2.1 dX10_share_88 rfl ?_
              refine lv_aload C.1 C.2.1 dX10_share_89 (lv_at hl 2 rfl) ?_
              refine c_nums C hW hb18 inX10_share_X3 inX10_share_X4 inX10_share_X7 (ref := "BallMinder$Plain") (by decide +kernel) (fun _ h9 => h9) dX10_share_91 ?_
              refine lv_iconst (v := 4) C.1 C.2.1 dX10_share_94 (by decide) ?_
              obtain ⟨hs30, h⟩ := h
              refine r_iald C hW (cA := cI) (n := 9) (f := S21 (30 + 2 * mi9)) (30 + 2 * mi9) 0 (by omega) (gC_nums mi9) rfl hs30 dX10_share_95 ?_
              refine lv_i2l C.1 C.2.1 dX10_share_96 rfl ?_
              refine lv_lmul C.1 C.2.1 dX10_share_97 ?_
              refine lv_topl (fun x8_31 ex8_31 => ?_)
              replace h := h x8_31 ex8_31
              refine lv_lstore (lv' := [(8, .long x8_31), (6, .long x6_28), (5, .ref (q (29 + 2 * mi10))), (4, .ref (q (29 + 2 * mi9))), (0, .ref (q 0)), (1, .int x1), (2, .int x2), (3, .int x3)]) C.1 C.2.1 dX10_share_98 hl (by decide) rfl (fun ls hl => ?_)
              refine lv_lload C.1 C.2.1 dX10_share_100 (lv_at hl 1 rfl) ?_
              refine lv_lload C.1 C.2.1 dX10_share_102 (lv_at hl 1 rfl) ?_
              refine lv_lload C.1 C.2.1 dX10_share_104 (lv_at hl 0 rfl) ?_
              refine lv_ladd C.1 C.2.1 dX10_share_106 ?_
              refine lv_iload_n C.1 C.2.1 dX10_share_107 rfl (lv_at hl 7 rfl) ?_
              refine k_pl hW (va_runS (As := [.long x6_28, .long (x6_28 + x8_31), .int x3]) (rest := []) C (mtX10_inLeastTerms l D q _ H.size x6_28 (x6_28 + x8_31) x3 _ h) (va_cwS 3 C.2.2.2.2 gX10_share_X10_inLeastTerms rfl rfl rfl (by decide +kernel) ⟨Nat.le_of_ble_eq_true rfl, Nat.le_of_ble_eq_true rfl⟩) ⟨mP_blind tX_B, fun U hU hV => ⟨rfl, hW.pre0 hU hV trivial⟩⟩ rfl rfl hl.1 rfl (lv_room (Nat.le_of_ble_eq_true rfl)) dX10_share_108 ⟨Nat.zero_le _, Nat.zero_le _⟩) (fun r32 H locs h hW => ?_)
              exact t_l C hr hlk (u := (S21, L22, R23)) hW.2.2.2.1 hW.B h dX10_share_111
            · replace h := h.2 c25
              refine lv_ldc2 (v := (-9223372036854775808)) C.1 C.2.1 C.2.2.2.1 (C.2.2.2.2 (.constantLong RX10 112 (-9223372036854775808)) (by decide +kernel)) dX10_share_58 ?_
              exact t_l C hr hlk (u := (S21, L22, R23)) hW.2.2.2.1 hW.B h dX10_share_61
        · replace h := h.2 c13
          refine lv_ldc2 (v := (-9223372036854775808)) C.1 C.2.1 C.2.2.2.1 (C.2.2.2.2 (.constantLong RX10 112 (-9223372036854775808)) (by decide +kernel)) dX10_share_38 ?_
          exact t_l C hr hlk (u := (S6, L7, R8)) hW.2.2.2.1 hW.B h dX10_share_41
set_option maxRecDepth 100000 in
set_option maxHeartbeats 4000000 in
theorem mtX10_share (l : Launch) (D : va_G) (q : Nat → Nat) (cI cJ cZ cP cS : ClassId) (K : Nat → Nat) (n : Nat) (sz : Nat) (x1 : Int32) (x2 : Int32) (x3 : Int32) (S : Nat → Nat → Int32) (L : Nat → Int64) (R : Nat → Option Nat) (Q : Int64 → (Nat → Nat → Int32) → (Nat → Int64) → (Nat → Option Nat) → Prop) (h : vX10_share K n x1 x2 x3 S L R Q) : Met l yX10_share wsX10_share rmX10_share (va_Pc [.ref (q 0), .int x1, .int x2, .int x3] (mP D (tyC cI cJ cZ cP cS) q (29 + 2 * n) (gC q cI cJ cZ cP cS K n S L R) sz (cX (aQ q (29 + 2 * n) sz)))) (QCl D q cI cJ cZ cP cS K n Q (aQ q (29 + 2 * n) sz)) 0 0 (aQ q (29 + 2 * n) sz) := by
  refine met_w (cc := cX10_share) (maxL := 10) (ret := (some .long)) (by decide) rfl (Nat.le_of_ble_eq_true rfl) ?_
  intro p e s m below meth c ls C hr hlk hW hX hnm hl
  exact sX10_share C hr hlk hX Q x1 x2 x3 S L R _ _ _ h hW hl
