theorem inX10_cell_X10 : ∀ w ∈ wsX100, w ∈ wsX10_cell := fun _ h => List.mem_cons_of_mem _ (List.mem_append_left _ (List.mem_append_right _ h))
theorem inX10_cell_X6 : ∀ w ∈ wsX60, w ∈ wsX10_cell := fun _ h => List.mem_cons_of_mem _ (List.mem_append_right _ h)
abbrev rmX10_cell : Room := { frames := 3, cells := 0, slots := 0, locals := 64 }
def vX10_cell_55 (K : Nat → Nat) (n : Nat) (Q : Int64 → (Nat → Nat → Int32) → (Nat → Int64) → (Nat → Option Nat) → Prop) (x2 : Int32) (x4 : Nat) (x5 : Int32) (S : Nat → Nat → Int32) (L : Nat → Int64) (R : Nat → Option Nat) : Prop := (x5 = 0 → x4 < 4 ∧ (vX6_at K n x4 x2 S L R (fun r16 S17 L18 R19 => Q r16.toInt64 S17 L18 R19))) ∧ (¬ (x5 = 0) → ∀ S21 : Nat → Nat → Int32, S21 = va_up S 0 (upd (S 0) 10 x5) → Q (-9223372036854775808 : Int64) S21 L R)
def vX10_cell (K : Nat → Nat) (n : Nat) (x1 : Int32) (x2 : Int32) (x3 : Int32) (S : Nat → Nat → Int32) (L : Nat → Int64) (R : Nat → Option Nat) (Q : Int64 → (Nat → Nat → Int32) → (Nat → Int64) → (Nat → Option Nat) → Prop) : Prop := ∀ S1 : Nat → Nat → Int32, S1 = va_up S 0 (upd (S 0) 10 (0 : Int32)) → vX10_sheetOf K n x1 S1 L R (fun o2 S3 L4 R5 => (o2 = none → Q (-9223372036854775808 : Int64) S3 L4 R5) ∧ (∀ mi6 : Nat, o2 = some mi6 → vX10_within x3 (0 : Int32) (2 : Int32) (fun r7 => (¬ r7 = 0 → mi6 < 4 ∧ (vX6_faultOfTakingAs K n mi6 x3 S3 L4 R5 (fun r9 S10 L11 R12 => (¬ r9 = 0 → vX10_cell_55 K n Q x2 mi6 r9 S10 L11 R12) ∧ (r9 = 0 → vX6_hasCell K n mi6 x2 S10 L11 R12 (fun r22 S23 L24 R25 => (¬ r22 = 0 → vX10_cell_55 K n Q x2 mi6 r9 S23 L24 R25) ∧ (r22 = 0 → vX10_cell_55 K n Q x2 mi6 (3 : Int32) S23 L24 R25)))))) ∧ (r7 = 0 → Q (-9223372036854775808 : Int64) S3 L4 R5))))
set_option maxRecDepth 100000 in
set_option maxHeartbeats 4000000 in
theorem sX10_cell_55 {p : Program} {l : Launch} {e : Env} {s : State} {m : MethodId} {args : Array Value} {below : List Frame} {meth : Method} {c : Code} {D : va_G} {q : Nat → Nat} {A : Nat → Prop} {cI cJ cZ cP cS : ClassId} {K : Nat → Nat} {n : Nat} (C : CallFix p m c cX10_cell 6 s args wsX10_cell RX10) (hr : meth.sig.returnType = (some .long)) (hlk : meth.locks = false) (hX : cX A s) (Q : Int64 → (Nat → Nat → Int32) → (Nat → Int64) → (Nat → Option Nat) → Prop) : ∀ (x2 : Int32) (x4 : Nat) (x5 : Int32) (S : Nat → Nat → Int32) (L : Nat → Int64) (R : Nat → Option Nat) (H : Heap) (locs : List Loc) (ls : Array Slot), vX10_cell_55 K n Q x2 x4 x5 S L R → hw D (tyC cI cJ cZ cP cS) q (29 + 2 * n) (gC q cI cJ cZ cP cS K n S L R) A s H locs → lv_has ls 6 [(0, .ref (q 0)), (2, .int x2), (4, .ref (q (21 + 2 * x4))), (5, .int x5)] → W p l e (headSpec wsX10_cell rmX10_cell).room s m args below meth c H locs 0 0 (MQ below (QCl D q cI cJ cZ cP cS K n Q A) args s 0 0 A) (F0 m 55 ls []) := by
  intro x2 x4 x5 S L R H locs ls h hW hl
  unfold vX10_cell_55 at h
  refine lv_iload C.1 C.2.1 dX10_cell_55 (lv_at hl 3 rfl) ?_
  refine lv_if_eq (tgt := 70) C.1 C.2.1 dX10_cell_57 (by decide) (fun c15 => ?_) (fun c15 => ?_)
  · replace h := h.1 c15
    refine lv_aload C.1 C.2.1 dX10_cell_70 (lv_at hl 2 rfl) ?_
    refine lv_iload_n C.1 C.2.1 dX10_cell_72 rfl (lv_at hl 1 rfl) ?_
    obtain ⟨hb20, h⟩ := h
    refine k_i hW (va_runV (As := [.int x2]) (rest := []) C (mtX6_at l D q cI cJ cZ cP cS K n x4 hb20 H.size x2 S L R _ h) (cwV 1 C.2.2.2.2 gX10_cell_X6_at rfl rfl rfl (by decide +kernel) ⟨Nat.le_of_ble_eq_true rfl, Nat.le_of_ble_eq_true rfl⟩) ⟨mP_blind cX_B, va_recv hW.1 hW.2.1 (ci := 6) (q0 := 21 + 2 * x4) rfl (by rw [wL_get (by omega), gC_sheet hb20]), fun U hU hV => ⟨rfl, hW.pre hU hV (hX.call hW hU hV)⟩⟩ rfl rfl hl.1 rfl (lv_room (Nat.le_of_ble_eq_true rfl)) dX10_cell_73 ⟨Nat.zero_le _, Nat.zero_le _⟩) (fun r16 u H locs h hW => ?_)
    obtain ⟨S17, L18, R19⟩ := u
    replace hW : hw D (tyC cI cJ cZ cP cS) q (29 + 2 * n) (gC q cI cJ cZ cP cS K n S17 L18 R19) A s H locs := hW
    refine lv_i2l C.1 C.2.1 dX10_cell_76 rfl ?_
    exact t_l C hr hlk (u := (S17, L18, R19)) hW.2.2.2.1 hW.B h dX10_cell_77
  · replace h := h.2 c15
    refine lv_aload_n C.1 C.2.1 dX10_cell_60 rfl (lv_at hl 0 rfl) ?_
    refine lv_iload C.1 C.2.1 dX10_cell_61 (lv_at hl 3 rfl) ?_
    refine r_put C hW (ci := 10) (T := TX10) (n := 11) (ref := "BallMinder") (0) (by omega) rfl rfl 10 (by decide) inX10_cell_X10 tyX10 tyX10_ok nmX10 (by decide +kernel) (fun _ h9 => h9) rfl rfl rfl (Nat.le_of_ble_eq_true rfl) dX10_cell_63 (fun H locs hW => ?_)
    replace hW := gC_put (F := upd (S 0) 10 x5) rfl hW
    obtain ⟨S21, eS21⟩ : ∃ z : Nat → Nat → Int32, z = va_up S 0 (upd (S 0) 10 x5) := ⟨_, rfl⟩
    rw [← eS21] at hW
    replace h := h S21 eS21
    refine lv_ldc2 (v := (-9223372036854775808)) C.1 C.2.1 C.2.2.2.1 (C.2.2.2.2 (.constantLong RX10 112 (-9223372036854775808)) (by decide +kernel)) dX10_cell_66 ?_
    exact t_l C hr hlk (u := (S21, L, R)) hW.2.2.2.1 hW.B h dX10_cell_69
set_option maxRecDepth 100000 in
set_option maxHeartbeats 4000000 in
theorem sX10_cell {p : Program} {l : Launch} {e : Env} {s : State} {m : MethodId} {args : Array Value} {below : List Frame} {meth : Method} {c : Code} {D : va_G} {q : Nat → Nat} {A : Nat → Prop} {cI cJ cZ cP cS : ClassId} {K : Nat → Nat} {n : Nat} (C : CallFix p m c cX10_cell 6 s args wsX10_cell RX10) (hr : meth.sig.returnType = (some .long)) (hlk : meth.locks = false) (hX : cX A s) (Q : Int64 → (Nat → Nat → Int32) → (Nat → Int64) → (Nat → Option Nat) → Prop) : ∀ (x1 : Int32) (x2 : Int32) (x3 : Int32) (S : Nat → Nat → Int32) (L : Nat → Int64) (R : Nat → Option Nat) (H : Heap) (locs : List Loc) (ls : Array Slot), vX10_cell K n x1 x2 x3 S L R Q → hw D (tyC cI cJ cZ cP cS) q (29 + 2 * n) (gC q cI cJ cZ cP cS K n S L R) A s H locs → lv_has ls 6 [(0, .ref (q 0)), (1, .int x1), (2, .int x2), (3, .int x3)] → W p l e (headSpec wsX10_cell rmX10_cell).room s m args below meth c H locs 0 0 (MQ below (QCl D q cI cJ cZ cP cS K n Q A) args s 0 0 A) (F0 m 0 ls []) := by
  intro x1 x2 x3 S L R H locs ls h hW hl
  unfold vX10_cell at h
  refine lv_aload_n C.1 C.2.1 dX10_cell_0 rfl (lv_at hl 0 rfl) ?_
  refine lv_iconst (v := 0) C.1 C.2.1 dX10_cell_1 (by decide) ?_
  refine r_put C hW (ci := 10) (T := TX10) (n := 11) (ref := "BallMinder") (0) (by omega) rfl rfl 10 (by decide) inX10_cell_X10 tyX10 tyX10_ok nmX10 (by decide +kernel) (fun _ h9 => h9) rfl rfl rfl (Nat.le_of_ble_eq_true rfl) dX10_cell_2 (fun H locs hW => ?_)
  replace hW := gC_put (F := upd (S 0) 10 (0 : Int32)) rfl hW
  obtain ⟨S1, eS1⟩ : ∃ z : Nat → Nat → Int32, z = va_up S 0 (upd (S 0) 10 (0 : Int32)) := ⟨_, rfl⟩
  rw [← eS1] at hW
  replace h := h S1 eS1
  refine lv_aload_n C.1 C.2.1 dX10_cell_5 rfl (lv_at hl 0 rfl) ?_
  refine lv_iload_n C.1 C.2.1 dX10_cell_6 rfl (lv_at hl 1 rfl) ?_
  refine k_q hW (va_runV (As := [.int x1]) (rest := []) C (mtX10_sheetOf l D q cI cJ cZ cP cS K n H.size x1 S1 L R _ h) (cwV 1 C.2.2.2.2 gX10_cell_X10_sheetOf rfl rfl rfl (by decide +kernel) ⟨Nat.le_of_ble_eq_true rfl, Nat.le_of_ble_eq_true rfl⟩) ⟨mP_blind cX_B, va_recv hW.1 hW.2.1 (ci := 10) (q0 := 0) rfl (wL_get (by omega)), fun U hU hV => ⟨rfl, hW.pre hU hV (hX.call hW hU hV)⟩⟩ rfl rfl hl.1 rfl (lv_room (Nat.le_of_ble_eq_true rfl)) dX10_cell_7 ⟨Nat.zero_le _, Nat.zero_le _⟩) (fun r9 u H locs h hW => ?_)
  obtain ⟨S3, L4, R5⟩ := u
  obtain ⟨o2, rfl, h⟩ := h
  replace hW : hw D (tyC cI cJ cZ cP cS) q (29 + 2 * n) (gC q cI cJ cZ cP cS K n S3 L4 R5) A s H locs := hW
  refine cv_astore (lv' := [(4, va_rf (Option.map (qS q) o2)), (0, .ref (q 0)), (1, .int x1), (2, .int x2), (3, .int x3)]) C.1 C.2.1 dX10_cell_10 hl (by decide) rfl (fun ls hl => ?_)
  refine cv_aload C.1 C.2.1 dX10_cell_12 (lv_at hl 0 rfl) ?_
  rcases o2 with _ | mi6
  · replace h := h.1 rfl
    replace hl : lv_has ls 6 [(4, .null), (0, .ref (q 0)), (1, .int x1), (2, .int x2), (3, .int x3)] := hl
    refine lv_ifnullN (tgt := 26) C.1 C.2.1 dX10_cell_14 (by decide) ?_
    refine lv_ldc2 (v := (-9223372036854775808)) C.1 C.2.1 C.2.2.2.1 (C.2.2.2.2 (.constantLong RX10 112 (-9223372036854775808)) (by decide +kernel)) dX10_cell_26 ?_
    exact t_l C hr hlk (u := (S3, L4, R5)) hW.2.2.2.1 hW.B h dX10_cell_29
  · replace h := h.2 mi6 rfl
    replace hl : lv_has ls 6 [(4, .ref (q (21 + 2 * mi6))), (0, .ref (q 0)), (1, .int x1), (2, .int x2), (3, .int x3)] := hl
    refine lv_ifnull C.1 C.2.1 dX10_cell_14 ?_
    refine lv_iload_n C.1 C.2.1 dX10_cell_17 rfl (lv_at hl 4 rfl) ?_
    refine lv_iconst (v := 0) C.1 C.2.1 dX10_cell_18 (by decide) ?_
    refine lv_iconst (v := 2) C.1 C.2.1 dX10_cell_19 (by decide) ?_
    refine k_pi hW (va_runS (As := [.int x3, .int (0 : Int32), .int (2 : Int32)]) (rest := []) C (mtX10_within l D q _ H.size x3 (0 : Int32) (2 : Int32) _ h) (va_cwS 3 C.2.2.2.2 gX10_cell_X10_within rfl rfl rfl (by decide +kernel) ⟨Nat.le_of_ble_eq_true rfl, Nat.le_of_ble_eq_true rfl⟩) ⟨mP_blind tX_B, fun U hU hV => ⟨rfl, hW.pre0 hU hV trivial⟩⟩ rfl rfl hl.1 rfl (lv_room (Nat.le_of_ble_eq_true rfl)) dX10_cell_20 ⟨Nat.zero_le _, Nat.zero_le _⟩) (fun r7 H locs h hW => ?_)
    refine lv_if_ne (tgt := 30) C.1 C.2.1 dX10_cell_23 (by decide) (fun c8 => ?_) (fun c8 => ?_)
    · replace h := h.1 c8
      refine lv_aload C.1 C.2.1 dX10_cell_30 (lv_at hl 0 rfl) ?_
      refine lv_iload_n C.1 C.2.1 dX10_cell_32 rfl (lv_at hl 4 rfl) ?_
      obtain ⟨hb13, h⟩ := h
      refine k_i hW (va_runV (As := [.int x3]) (rest := []) C (mtX6_faultOfTakingAs l D q cI cJ cZ cP cS K n mi6 hb13 H.size x3 S3 L4 R5 _ h) (cwV 1 C.2.2.2.2 gX10_cell_X6_faultOfTakingAs rfl rfl rfl (by decide +kernel) ⟨Nat.le_of_ble_eq_true rfl, Nat.le_of_ble_eq_true rfl⟩) ⟨mP_blind cX_B, va_recv hW.1 hW.2.1 (ci := 6) (q0 := 21 + 2 * mi6) rfl (by rw [wL_get (by omega), gC_sheet hb13]), fun U hU hV => ⟨rfl, hW.pre hU hV (hX.call hW hU hV)⟩⟩ rfl rfl hl.1 rfl (lv_room (Nat.le_of_ble_eq_true rfl)) dX10_cell_33 ⟨Nat.zero_le _, Nat.zero_le _⟩) (fun r9 u H locs h hW => ?_)
      obtain ⟨S10, L11, R12⟩ := u
      replace hW : hw D (tyC cI cJ cZ cP cS) q (29 + 2 * n) (gC q cI cJ cZ cP cS K n S10 L11 R12) A s H locs := hW
      refine lv_istore (lv' := [(5, .int r9), (4, .ref (q (21 + 2 * mi6))), (0, .ref (q 0)), (1, .int x1), (2, .int x2), (3, .int x3)]) C.1 C.2.1 dX10_cell_36 hl (by decide) rfl (fun ls hl => ?_)
      refine lv_iload C.1 C.2.1 dX10_cell_38 (lv_at hl 0 rfl) ?_
      refine lv_if_ne (tgt := 55) C.1 C.2.1 dX10_cell_40 (by decide) (fun c14 => ?_) (fun c14 => ?_)
      · replace h := h.1 c14
        exact sX10_cell_55 C hr hlk hX Q x2 mi6 r9 S10 L11 R12 _ _ _ h hW (lv_sub hl [2, 4, 1, 0] rfl)
      · replace h := h.2 c14
        refine lv_aload C.1 C.2.1 dX10_cell_43 (lv_at hl 1 rfl) ?_
        refine lv_iload_n C.1 C.2.1 dX10_cell_45 rfl (lv_at hl 4 rfl) ?_
        refine k_i hW (va_runV (As := [.int x2]) (rest := []) C (mtX6_hasCell l D q cI cJ cZ cP cS K n mi6 hb13 H.size x2 S10 L11 R12 _ h) (cwV 1 C.2.2.2.2 gX10_cell_X6_hasCell rfl rfl rfl (by decide +kernel) ⟨Nat.le_of_ble_eq_true rfl, Nat.le_of_ble_eq_true rfl⟩) ⟨mP_blind cX_B, va_recv hW.1 hW.2.1 (ci := 6) (q0 := 21 + 2 * mi6) rfl (by rw [wL_get (by omega), gC_sheet hb13]), fun U hU hV => ⟨rfl, hW.pre hU hV (hX.call hW hU hV)⟩⟩ rfl rfl hl.1 rfl (lv_room (Nat.le_of_ble_eq_true rfl)) dX10_cell_46 ⟨Nat.zero_le _, Nat.zero_le _⟩) (fun r22 u H locs h hW => ?_)
        obtain ⟨S23, L24, R25⟩ := u
        replace hW : hw D (tyC cI cJ cZ cP cS) q (29 + 2 * n) (gC q cI cJ cZ cP cS K n S23 L24 R25) A s H locs := hW
        refine lv_if_ne (tgt := 55) C.1 C.2.1 dX10_cell_49 (by decide) (fun c26 => ?_) (fun c26 => ?_)
        · replace h := h.1 c26
          exact sX10_cell_55 C hr hlk hX Q x2 mi6 r9 S23 L24 R25 _ _ _ h hW (lv_sub hl [2, 4, 1, 0] rfl)
        · replace h := h.2 c26
          refine lv_iconst (v := 3) C.1 C.2.1 dX10_cell_52 (by decide) ?_
          refine lv_istore (lv' := [(5, .int (3 : Int32)), (4, .ref (q (21 + 2 * mi6))), (0, .ref (q 0)), (1, .int x1), (2, .int x2), (3, .int x3)]) C.1 C.2.1 dX10_cell_53 hl (by decide) rfl (fun ls hl => ?_)
          exact sX10_cell_55 C hr hlk hX Q x2 mi6 (3 : Int32) S23 L24 R25 _ _ _ h hW (lv_sub hl [2, 4, 1, 0] rfl)
    · replace h := h.2 c8
      refine lv_ldc2 (v := (-9223372036854775808)) C.1 C.2.1 C.2.2.2.1 (C.2.2.2.2 (.constantLong RX10 112 (-9223372036854775808)) (by decide +kernel)) dX10_cell_26 ?_
      exact t_l C hr hlk (u := (S3, L4, R5)) hW.2.2.2.1 hW.B h dX10_cell_29
set_option maxRecDepth 100000 in
set_option maxHeartbeats 4000000 in
theorem mtX10_cell (l : Launch) (D : va_G) (q : Nat → Nat) (cI cJ cZ cP cS : ClassId) (K : Nat → Nat) (n : Nat) (sz : Nat) (x1 : Int32) (x2 : Int32) (x3 : Int32) (S : Nat → Nat → Int32) (L : Nat → Int64) (R : Nat → Option Nat) (Q : Int64 → (Nat → Nat → Int32) → (Nat → Int64) → (Nat → Option Nat) → Prop) (h : vX10_cell K n x1 x2 x3 S L R Q) : Met l yX10_cell wsX10_cell rmX10_cell (va_Pc [.ref (q 0), .int x1, .int x2, .int x3] (mP D (tyC cI cJ cZ cP cS) q (29 + 2 * n) (gC q cI cJ cZ cP cS K n S L R) sz (cX (aQ q (29 + 2 * n) sz)))) (QCl D q cI cJ cZ cP cS K n Q (aQ q (29 + 2 * n) sz)) 0 0 (aQ q (29 + 2 * n) sz) := by
  refine met_w (cc := cX10_cell) (maxL := 6) (ret := (some .long)) (by decide) rfl (Nat.le_of_ble_eq_true rfl) ?_
  intro p e s m below meth c ls C hr hlk hW hX hnm hl
  exact sX10_cell C hr hlk hX Q x1 x2 x3 S L R _ _ _ h hW hl
theorem inX10_copy_X10 : ∀ w ∈ wsX100, w ∈ wsX10_copy := fun _ h => List.mem_cons_of_mem _ (List.mem_append_left _ (List.mem_append_right _ h))
theorem inX10_copy_X6 : ∀ w ∈ wsX60, w ∈ wsX10_copy := fun _ h => List.mem_cons_of_mem _ (List.mem_append_right _ h)
abbrev rmX10_copy : Room := { frames := 2, cells := 0, slots := 0, locals := 44 }
def vX10_copy_47 (K : Nat → Nat) (n : Nat) (Q : Int32 → (Nat → Nat → Int32) → (Nat → Int64) → (Nat → Option Nat) → Prop) (S : Nat → Nat → Int32) (L : Nat → Int64) (R : Nat → Option Nat) : Prop := vX10_faulted K n (1 : Int32) S L R (fun r14 S15 L16 R17 => Q r14 S15 L16 R17)
def vX10_copy_95 (K : Nat → Nat) (n : Nat) (Q : Int32 → (Nat → Nat → Int32) → (Nat → Int64) → (Nat → Option Nat) → Prop) (S : Nat → Nat → Int32) (L : Nat → Int64) (R : Nat → Option Nat) : Prop := vX10_faulted K n (3 : Int32) S L R (fun r26 S27 L28 R29 => Q r26 S27 L28 R29)
def vX10_copy (K : Nat → Nat) (n : Nat) (x1 : Int32) (x2 : Int32) (x3 : Int32) (x4 : Int32) (x5 : Int32) (S : Nat → Nat → Int32) (L : Nat → Int64) (R : Nat → Option Nat) (Q : Int32 → (Nat → Nat → Int32) → (Nat → Int64) → (Nat → Option Nat) → Prop) : Prop := ∀ S1 : Nat → Nat → Int32, S1 = va_up S 0 (upd (S 0) 10 (0 : Int32)) → vX10_sheetOf K n x1 S1 L R (fun o2 S3 L4 R5 => vX10_sheetOf K n x3 S3 L4 R5 (fun o6 S7 L8 R9 => (o2 = none → Q (-1 : Int32) S7 L8 R9) ∧ (∀ mi10 : Nat, o2 = some mi10 → (o6 = none → Q (-1 : Int32) S7 L8 R9) ∧ (∀ mi11 : Nat, o6 = some mi11 → mi10 < 4 ∧ (((S7 (21 + 2 * mi10) 1) = 0 → vX10_copy_47 K n Q S7 L8 R9) ∧ (¬ ((S7 (21 + 2 * mi10) 1) = 0) → mi11 < 4 ∧ ((¬ (S7 (21 + 2 * mi11) 1) = 0 → ((S7 (21 + 2 * mi10) 2) = (S7 (21 + 2 * mi11) 2) → vX6_spans K n mi10 x2 x5 S7 L8 R9 (fun r21 S22 L23 R24 => (r21 = 0 → vX10_copy_95 K n Q S22 L23 R24) ∧ (¬ (r21 = 0) → vX6_spans K n mi11 x4 x5 S22 L23 R24 (fun r30 S31 L32 R33 => (¬ r30 = 0 → ¬ x2 < 0 ∧ ¬ x4 < 0 ∧ ¬ x5 < 0 ∧ x2.toNatClampNeg + x5.toNatClampNeg ≤ 60 ∧ x4.toNatClampNeg + x5.toNatClampNeg ≤ 60 ∧ (∀ S35 : Nat → Nat → Int32, S35 = va_up S31 (22 + 2 * mi11) (va_cpy (S31 (22 + 2 * mi10)) (S31 (22 + 2 * mi11)) x2.toNatClampNeg x4.toNatClampNeg x5.toNatClampNeg) → Q x5 S35 L32 R33)) ∧ (r30 = 0 → vX10_copy_95 K n Q S31 L32 R33))))) ∧ (¬ ((S7 (21 + 2 * mi10) 2) = (S7 (21 + 2 * mi11) 2)) → vX10_faulted K n (2 : Int32) S7 L8 R9 (fun r41 S42 L43 R44 => Q r41 S42 L43 R44))) ∧ ((S7 (21 + 2 * mi11) 1) = 0 → vX10_copy_47 K n Q S7 L8 R9))))))))
set_option maxRecDepth 100000 in
set_option maxHeartbeats 4000000 in
theorem sX10_copy_47 {p : Program} {l : Launch} {e : Env} {s : State} {m : MethodId} {args : Array Value} {below : List Frame} {meth : Method} {c : Code} {D : va_G} {q : Nat → Nat} {A : Nat → Prop} {cI cJ cZ cP cS : ClassId} {K : Nat → Nat} {n : Nat} (C : CallFix p m c cX10_copy 8 s args wsX10_copy RX10) (hr : meth.sig.returnType = (some .int)) (hlk : meth.locks = false) (hX : cX A s) (Q : Int32 → (Nat → Nat → Int32) → (Nat → Int64) → (Nat → Option Nat) → Prop) : ∀ (S : Nat → Nat → Int32) (L : Nat → Int64) (R : Nat → Option Nat) (H : Heap) (locs : List Loc) (ls : Array Slot), vX10_copy_47 K n Q S L R → hw D (tyC cI cJ cZ cP cS) q (29 + 2 * n) (gC q cI cJ cZ cP cS K n S L R) A s H locs → lv_has ls 8 [(0, .ref (q 0))] → W p l e (headSpec wsX10_copy rmX10_copy).room s m args below meth c H locs 0 0 (MQ below (QCi D q cI cJ cZ cP cS K n Q A) args s 0 0 A) (F0 m 47 ls []) := by
  intro S L R H locs ls h hW hl
  unfold vX10_copy_47 at h
  refine lv_aload_n C.1 C.2.1 dX10_copy_47 rfl (lv_at hl 0 rfl) ?_
  refine lv_iconst (v := 1) C.1 C.2.1 dX10_copy_48 (by decide) ?_
  refine k_i hW (va_runV (As := [.int (1 : Int32)]) (rest := []) C (mtX10_faulted l D q cI cJ cZ cP cS K n H.size (1 : Int32) S L R _ h) (cwV 1 C.2.2.2.2 gX10_copy_X10_faulted rfl rfl rfl (by decide +kernel) ⟨Nat.le_of_ble_eq_true rfl, Nat.le_of_ble_eq_true rfl⟩) ⟨mP_blind cX_B, va_recv hW.1 hW.2.1 (ci := 10) (q0 := 0) rfl (wL_get (by omega)), fun U hU hV => ⟨rfl, hW.pre hU hV (hX.call hW hU hV)⟩⟩ rfl rfl hl.1 rfl (lv_room (Nat.le_of_ble_eq_true rfl)) dX10_copy_49 ⟨Nat.zero_le _, Nat.zero_le _⟩) (fun r14 u H locs h hW => ?_)
  obtain ⟨S15, L16, R17⟩ := u
  replace hW : hw D (tyC cI cJ cZ cP cS) q (29 + 2 * n) (gC q cI cJ cZ cP cS K n S15 L16 R17) A s H locs := hW
  exact t_i C hr hlk (u := (S15, L16, R17)) hW.2.2.2.1 hW.B h dX10_copy_52
set_option maxRecDepth 100000 in
set_option maxHeartbeats 4000000 in
theorem sX10_copy_95 {p : Program} {l : Launch} {e : Env} {s : State} {m : MethodId} {args : Array Value} {below : List Frame} {meth : Method} {c : Code} {D : va_G} {q : Nat → Nat} {A : Nat → Prop} {cI cJ cZ cP cS : ClassId} {K : Nat → Nat} {n : Nat} (C : CallFix p m c cX10_copy 8 s args wsX10_copy RX10) (hr : meth.sig.returnType = (some .int)) (hlk : meth.locks = false) (hX : cX A s) (Q : Int32 → (Nat → Nat → Int32) → (Nat → Int64) → (Nat → Option Nat) → Prop) : ∀ (S : Nat → Nat → Int32) (L : Nat → Int64) (R : Nat → Option Nat) (H : Heap) (locs : List Loc) (ls : Array Slot), vX10_copy_95 K n Q S L R → hw D (tyC cI cJ cZ cP cS) q (29 + 2 * n) (gC q cI cJ cZ cP cS K n S L R) A s H locs → lv_has ls 8 [(0, .ref (q 0))] → W p l e (headSpec wsX10_copy rmX10_copy).room s m args below meth c H locs 0 0 (MQ below (QCi D q cI cJ cZ cP cS K n Q A) args s 0 0 A) (F0 m 95 ls []) := by
  intro S L R H locs ls h hW hl
  unfold vX10_copy_95 at h
  refine lv_aload_n C.1 C.2.1 dX10_copy_95 rfl (lv_at hl 0 rfl) ?_
  refine lv_iconst (v := 3) C.1 C.2.1 dX10_copy_96 (by decide) ?_
  refine k_i hW (va_runV (As := [.int (3 : Int32)]) (rest := []) C (mtX10_faulted l D q cI cJ cZ cP cS K n H.size (3 : Int32) S L R _ h) (cwV 1 C.2.2.2.2 gX10_copy_X10_faulted rfl rfl rfl (by decide +kernel) ⟨Nat.le_of_ble_eq_true rfl, Nat.le_of_ble_eq_true rfl⟩) ⟨mP_blind cX_B, va_recv hW.1 hW.2.1 (ci := 10) (q0 := 0) rfl (wL_get (by omega)), fun U hU hV => ⟨rfl, hW.pre hU hV (hX.call hW hU hV)⟩⟩ rfl rfl hl.1 rfl (lv_room (Nat.le_of_ble_eq_true rfl)) dX10_copy_97 ⟨Nat.zero_le _, Nat.zero_le _⟩) (fun r26 u H locs h hW => ?_)
  obtain ⟨S27, L28, R29⟩ := u
  replace hW : hw D (tyC cI cJ cZ cP cS) q (29 + 2 * n) (gC q cI cJ cZ cP cS K n S27 L28 R29) A s H locs := hW
  exact t_i C hr hlk (u := (S27, L28, R29)) hW.2.2.2.1 hW.B h dX10_copy_100
set_option maxRecDepth 100000 in
set_option maxHeartbeats 4000000 in
theorem sX10_copy {p : Program} {l : Launch} {e : Env} {s : State} {m : MethodId} {args : Array Value} {below : List Frame} {meth : Method} {c : Code} {D : va_G} {q : Nat → Nat} {A : Nat → Prop} {cI cJ cZ cP cS : ClassId} {K : Nat → Nat} {n : Nat} (C : CallFix p m c cX10_copy 8 s args wsX10_copy RX10) (hr : meth.sig.returnType = (some .int)) (hlk : meth.locks = false) (hX : cX A s) (Q : Int32 → (Nat → Nat → Int32) → (Nat → Int64) → (Nat → Option Nat) → Prop) : ∀ (x1 : Int32) (x2 : Int32) (x3 : Int32) (x4 : Int32) (x5 : Int32) (S : Nat → Nat → Int32) (L : Nat → Int64) (R : Nat → Option Nat) (H : Heap) (locs : List Loc) (ls : Array Slot), vX10_copy K n x1 x2 x3 x4 x5 S L R Q → hw D (tyC cI cJ cZ cP cS) q (29 + 2 * n) (gC q cI cJ cZ cP cS K n S L R) A s H locs → lv_has ls 8 [(0, .ref (q 0)), (1, .int x1), (2, .int x2), (3, .int x3), (4, .int x4), (5, .int x5)] → W p l e (headSpec wsX10_copy rmX10_copy).room s m args below meth c H locs 0 0 (MQ below (QCi D q cI cJ cZ cP cS K n Q A) args s 0 0 A) (F0 m 0 ls []) := by
  intro x1 x2 x3 x4 x5 S L R H locs ls h hW hl
  unfold vX10_copy at h
  refine lv_aload_n C.1 C.2.1 dX10_copy_0 rfl (lv_at hl 0 rfl) ?_
  refine lv_iconst (v := 0) C.1 C.2.1 dX10_copy_1 (by decide) ?_
  refine r_put C hW (ci := 10) (T := TX10) (n := 11) (ref := "BallMinder") (0) (by omega) rfl rfl 10 (by decide) inX10_copy_X10 tyX10 tyX10_ok nmX10 (by decide +kernel) (fun _ h9 => h9) rfl rfl rfl (Nat.le_of_ble_eq_true rfl) dX10_copy_2 (fun H locs hW => ?_)
  replace hW := gC_put (F := upd (S 0) 10 (0 : Int32)) rfl hW
  obtain ⟨S1, eS1⟩ : ∃ z : Nat → Nat → Int32, z = va_up S 0 (upd (S 0) 10 (0 : Int32)) := ⟨_, rfl⟩
  rw [← eS1] at hW
  replace h := h S1 eS1
  refine lv_aload_n C.1 C.2.1 dX10_copy_5 rfl (lv_at hl 0 rfl) ?_
  refine lv_iload_n C.1 C.2.1 dX10_copy_6 rfl (lv_at hl 1 rfl) ?_
  refine k_q hW (va_runV (As := [.int x1]) (rest := []) C (mtX10_sheetOf l D q cI cJ cZ cP cS K n H.size x1 S1 L R _ h) (cwV 1 C.2.2.2.2 gX10_copy_X10_sheetOf rfl rfl rfl (by decide +kernel) ⟨Nat.le_of_ble_eq_true rfl, Nat.le_of_ble_eq_true rfl⟩) ⟨mP_blind cX_B, va_recv hW.1 hW.2.1 (ci := 10) (q0 := 0) rfl (wL_get (by omega)), fun U hU hV => ⟨rfl, hW.pre hU hV (hX.call hW hU hV)⟩⟩ rfl rfl hl.1 rfl (lv_room (Nat.le_of_ble_eq_true rfl)) dX10_copy_7 ⟨Nat.zero_le _, Nat.zero_le _⟩) (fun r9 u H locs h hW => ?_)
  obtain ⟨S3, L4, R5⟩ := u
  obtain ⟨o2, rfl, h⟩ := h
  replace hW : hw D (tyC cI cJ cZ cP cS) q (29 + 2 * n) (gC q cI cJ cZ cP cS K n S3 L4 R5) A s H locs := hW
  refine cv_astore (lv' := [(6, va_rf (Option.map (qS q) o2)), (0, .ref (q 0)), (1, .int x1), (2, .int x2), (3, .int x3), (4, .int x4), (5, .int x5)]) C.1 C.2.1 dX10_copy_10 hl (by decide) rfl (fun ls hl => ?_)
  refine lv_aload_n C.1 C.2.1 dX10_copy_12 rfl (lv_at hl 1 rfl) ?_
  refine lv_iload_n C.1 C.2.1 dX10_copy_13 rfl (lv_at hl 4 rfl) ?_
  refine k_q hW (va_runV (As := [.int x3]) (rest := []) C (mtX10_sheetOf l D q cI cJ cZ cP cS K n H.size x3 S3 L4 R5 _ h) (cwV 1 C.2.2.2.2 gX10_copy_X10_sheetOf rfl rfl rfl (by decide +kernel) ⟨Nat.le_of_ble_eq_true rfl, Nat.le_of_ble_eq_true rfl⟩) ⟨mP_blind cX_B, va_recv hW.1 hW.2.1 (ci := 10) (q0 := 0) rfl (wL_get (by omega)), fun U hU hV => ⟨rfl, hW.pre hU hV (hX.call hW hU hV)⟩⟩ rfl rfl hl.1 rfl (lv_room (Nat.le_of_ble_eq_true rfl)) dX10_copy_14 ⟨Nat.zero_le _, Nat.zero_le _⟩) (fun r9 u H locs h hW => ?_)
  obtain ⟨S7, L8, R9⟩ := u
  obtain ⟨o6, rfl, h⟩ := h
  replace hW : hw D (tyC cI cJ cZ cP cS) q (29 + 2 * n) (gC q cI cJ cZ cP cS K n S7 L8 R9) A s H locs := hW
  refine cv_astore (lv' := [(7, va_rf (Option.map (qS q) o6)), (6, va_rf (Option.map (qS q) o2)), (0, .ref (q 0)), (1, .int x1), (2, .int x2), (3, .int x3), (4, .int x4), (5, .int x5)]) C.1 C.2.1 dX10_copy_17 hl (by decide) (by rcases o2 with _ | _ <;> rfl) (fun ls hl => ?_)
  refine cv_aload C.1 C.2.1 dX10_copy_19 (lv_at hl 1 rfl) ?_
  rcases o2 with _ | mi10
  · replace h := h.1 rfl
    replace hl : lv_has ls 8 [(7, va_rf (Option.map (qS q) o6)), (6, .null), (0, .ref (q 0)), (1, .int x1), (2, .int x2), (3, .int x3), (4, .int x4), (5, .int x5)] := hl
    refine lv_ifnullN (tgt := 29) C.1 C.2.1 dX10_copy_21 (by decide) ?_
    refine lv_iconst (v := -1) C.1 C.2.1 dX10_copy_29 (by decide) ?_
    exact t_i C hr hlk (u := (S7, L8, R9)) hW.2.2.2.1 hW.B h dX10_copy_30
  · replace h := h.2 mi10 rfl
    replace hl : lv_has ls 8 [(7, va_rf (Option.map (qS q) o6)), (6, .ref (q (21 + 2 * mi10))), (0, .ref (q 0)), (1, .int x1), (2, .int x2), (3, .int x3), (4, .int x4), (5, .int x5)] := hl
    refine lv_ifnull C.1 C.2.1 dX10_copy_21 ?_
    refine cv_aload C.1 C.2.1 dX10_copy_24 (lv_at hl 0 rfl) ?_
    rcases o6 with _ | mi11
    · replace h := h.1 rfl
      replace hl : lv_has ls 8 [(7, .null), (6, .ref (q (21 + 2 * mi10))), (0, .ref (q 0)), (1, .int x1), (2, .int x2), (3, .int x3), (4, .int x4), (5, .int x5)] := hl
      refine lv_ifnonnullN C.1 C.2.1 dX10_copy_26 ?_
      refine lv_iconst (v := -1) C.1 C.2.1 dX10_copy_29 (by decide) ?_
      exact t_i C hr hlk (u := (S7, L8, R9)) hW.2.2.2.1 hW.B h dX10_copy_30
    · replace h := h.2 mi11 rfl
      replace hl : lv_has ls 8 [(7, .ref (q (21 + 2 * mi11))), (6, .ref (q (21 + 2 * mi10))), (0, .ref (q 0)), (1, .int x1), (2, .int x2), (3, .int x3), (4, .int x4), (5, .int x5)] := hl
      refine lv_ifnonnull (tgt := 31) C.1 C.2.1 dX10_copy_26 (by decide) ?_
      refine lv_aload C.1 C.2.1 dX10_copy_31 (lv_at hl 1 rfl) ?_
      obtain ⟨hb12, h⟩ := h
      refine r_getN C hW (ci := 6) (T := TX6) (n := 4) (ref := "BallMinder$Sheet") (host := "BallMinder") (v := .int (S7 (21 + 2 * mi10) 1)) (21 + 2 * mi10) (by omega) (gC_sheet hb12) rfl 1 (by decide) inX10_copy_X6 (hX.1 _ (by decide +kernel)) (fun _ h9 => h9) rfl dX10_copy_33 ?_
      refine lv_if_eq (tgt := 47) C.1 C.2.1 dX10_copy_36 (by decide) (fun c13 => ?_) (fun c13 => ?_)
      · replace h := h.1 c13
        exact sX10_copy_47 C hr hlk hX Q S7 L8 R9 _ _ _ h hW (lv_sub hl [2] rfl)
      · replace h := h.2 c13
        refine lv_aload C.1 C.2.1 dX10_copy_39 (lv_at hl 0 rfl) ?_
        obtain ⟨hb18, h⟩ := h
        refine r_getN C hW (ci := 6) (T := TX6) (n := 4) (ref := "BallMinder$Sheet") (host := "BallMinder") (v := .int (S7 (21 + 2 * mi11) 1)) (21 + 2 * mi11) (by omega) (gC_sheet hb18) rfl 1 (by decide) inX10_copy_X6 (hX.1 _ (by decide +kernel)) (fun _ h9 => h9) rfl dX10_copy_41 ?_
        refine lv_if_ne (tgt := 53) C.1 C.2.1 dX10_copy_44 (by decide) (fun c19 => ?_) (fun c19 => ?_)
        · replace h := h.1 c19
          refine lv_aload C.1 C.2.1 dX10_copy_53 (lv_at hl 1 rfl) ?_
          refine r_getN C hW (ci := 6) (T := TX6) (n := 4) (ref := "BallMinder$Sheet") (host := "BallMinder") (v := .int (S7 (21 + 2 * mi10) 2)) (21 + 2 * mi10) (by omega) (gC_sheet hb12) rfl 2 (by decide) inX10_copy_X6 (hX.1 _ (by decide +kernel)) (fun _ h9 => h9) rfl dX10_copy_55 ?_
          refine lv_aload C.1 C.2.1 dX10_copy_58 (lv_at hl 0 rfl) ?_
          refine r_getN C hW (ci := 6) (T := TX6) (n := 4) (ref := "BallMinder$Sheet") (host := "BallMinder") (v := .int (S7 (21 + 2 * mi11) 2)) (21 + 2 * mi11) (by omega) (gC_sheet hb18) rfl 2 (by decide) inX10_copy_X6 (hX.1 _ (by decide +kernel)) (fun _ h9 => h9) rfl dX10_copy_60 ?_
          refine lv_icmp_eq (tgt := 72) C.1 C.2.1 dX10_copy_63 (by decide) (fun c20 => ?_) (fun c20 => ?_)
          · replace h := h.1 c20
            refine lv_aload C.1 C.2.1 dX10_copy_72 (lv_at hl 1 rfl) ?_
            refine lv_iload_n C.1 C.2.1 dX10_copy_74 rfl (lv_at hl 4 rfl) ?_
            refine lv_iload C.1 C.2.1 dX10_copy_75 (lv_at hl 7 rfl) ?_
            refine k_i hW (va_runV (As := [.int x2, .int x5]) (rest := []) C (mtX6_spans l D q cI cJ cZ cP cS K n mi10 hb12 H.size x2 x5 S7 L8 R9 _ h) (cwV 2 C.2.2.2.2 gX10_copy_X6_spans rfl rfl rfl (by decide +kernel) ⟨Nat.le_of_ble_eq_true rfl, Nat.le_of_ble_eq_true rfl⟩) ⟨mP_blind cX_B, va_recv hW.1 hW.2.1 (ci := 6) (q0 := 21 + 2 * mi10) rfl (by rw [wL_get (by omega), gC_sheet hb12]), fun U hU hV => ⟨rfl, hW.pre hU hV (hX.call hW hU hV)⟩⟩ rfl rfl hl.1 rfl (lv_room (Nat.le_of_ble_eq_true rfl)) dX10_copy_77 ⟨Nat.zero_le _, Nat.zero_le _⟩) (fun r21 u H locs h hW => ?_)
            obtain ⟨S22, L23, R24⟩ := u
            replace hW : hw D (tyC cI cJ cZ cP cS) q (29 + 2 * n) (gC q cI cJ cZ cP cS K n S22 L23 R24) A s H locs := hW
            refine lv_if_eq (tgt := 95) C.1 C.2.1 dX10_copy_80 (by decide) (fun c25 => ?_) (fun c25 => ?_)
            · replace h := h.1 c25
              exact sX10_copy_95 C hr hlk hX Q S22 L23 R24 _ _ _ h hW (lv_sub hl [2] rfl)
            · replace h := h.2 c25
              refine lv_aload C.1 C.2.1 dX10_copy_83 (lv_at hl 0 rfl) ?_
              refine lv_iload C.1 C.2.1 dX10_copy_85 (lv_at hl 6 rfl) ?_
              refine lv_iload C.1 C.2.1 dX10_copy_87 (lv_at hl 7 rfl) ?_
              refine k_i hW (va_runV (As := [.int x4, .int x5]) (rest := []) C (mtX6_spans l D q cI cJ cZ cP cS K n mi11 hb18 H.size x4 x5 S22 L23 R24 _ h) (cwV 2 C.2.2.2.2 gX10_copy_X6_spans rfl rfl rfl (by decide +kernel) ⟨Nat.le_of_ble_eq_true rfl, Nat.le_of_ble_eq_true rfl⟩) ⟨mP_blind cX_B, va_recv hW.1 hW.2.1 (ci := 6) (q0 := 21 + 2 * mi11) rfl (by rw [wL_get (by omega), gC_sheet hb18]), fun U hU hV => ⟨rfl, hW.pre hU hV (hX.call hW hU hV)⟩⟩ rfl rfl hl.1 rfl (lv_room (Nat.le_of_ble_eq_true rfl)) dX10_copy_89 ⟨Nat.zero_le _, Nat.zero_le _⟩) (fun r30 u H locs h hW => ?_)
              obtain ⟨S31, L32, R33⟩ := u
              replace hW : hw D (tyC cI cJ cZ cP cS) q (29 + 2 * n) (gC q cI cJ cZ cP cS K n S31 L32 R33) A s H locs := hW
              refine lv_if_ne (tgt := 101) C.1 C.2.1 dX10_copy_92 (by decide) (fun c34 => ?_) (fun c34 => ?_)
              · replace h := h.1 c34
                refine lv_aload C.1 C.2.1 dX10_copy_101 (lv_at hl 1 rfl) ?_
                refine r_getN C hW (ci := 6) (T := TX6) (n := 4) (ref := "BallMinder$Sheet") (host := "BallMinder") (v := .ref (q (22 + 2 * mi10))) (21 + 2 * mi10) (by omega) (gC_sheet hb12) rfl 0 (by decide) inX10_copy_X6 (hX.1 _ (by decide +kernel)) (fun _ h9 => h9) rfl dX10_copy_103 ?_
                refine lv_iload_n C.1 C.2.1 dX10_copy_106 rfl (lv_at hl 4 rfl) ?_
                refine lv_aload C.1 C.2.1 dX10_copy_107 (lv_at hl 0 rfl) ?_
                refine r_getN C hW (ci := 6) (T := TX6) (n := 4) (ref := "BallMinder$Sheet") (host := "BallMinder") (v := .ref (q (22 + 2 * mi11))) (21 + 2 * mi11) (by omega) (gC_sheet hb18) rfl 0 (by decide) inX10_copy_X6 (hX.1 _ (by decide +kernel)) (fun _ h9 => h9) rfl dX10_copy_109 ?_
                refine lv_iload C.1 C.2.1 dX10_copy_112 (lv_at hl 6 rfl) ?_
                refine lv_iload C.1 C.2.1 dX10_copy_114 (lv_at hl 7 rfl) ?_
                obtain ⟨hs36, hs37, hs38, hs39, hs40, h⟩ := h
                refine c_copy C hW hb12 hb18 hs36 hs37 hs38 hs39 hs40 (by rw [C.2.2.1, hl.1]) (C.2.2.2.2 (.methodLink RX10 232 arraycopyName) (by decide +kernel)) (C.2.2.2.2 (.native arraycopyName) (by decide +kernel)) (C.2.2.2.2 (.static arraycopyName) (by decide +kernel)) (C.2.2.2.2 (.initialized "java/lang/System") (by decide +kernel)) (Nat.le_of_ble_eq_true rfl) (by decide +kernel) dX10_copy_116 (fun H locs hW => ?_)
                obtain ⟨S35, eS35⟩ : ∃ z : Nat → Nat → Int32, z = va_up S31 (22 + 2 * mi11) (va_cpy (S31 (22 + 2 * mi10)) (S31 (22 + 2 * mi11)) x2.toNatClampNeg x4.toNatClampNeg x5.toNatClampNeg) := ⟨_, rfl⟩
                rw [← eS35] at hW
                replace h := h S35 eS35
                refine lv_iload C.1 C.2.1 dX10_copy_119 (lv_at hl 7 rfl) ?_
                exact t_i C hr hlk (u := (S35, L32, R33)) hW.2.2.2.1 hW.B h dX10_copy_121
              · replace h := h.2 c34
                exact sX10_copy_95 C hr hlk hX Q S31 L32 R33 _ _ _ h hW (lv_sub hl [2] rfl)
          · replace h := h.2 c20
            refine lv_aload_n C.1 C.2.1 dX10_copy_66 rfl (lv_at hl 2 rfl) ?_
            refine lv_iconst (v := 2) C.1 C.2.1 dX10_copy_67 (by decide) ?_
            refine k_i hW (va_runV (As := [.int (2 : Int32)]) (rest := []) C (mtX10_faulted l D q cI cJ cZ cP cS K n H.size (2 : Int32) S7 L8 R9 _ h) (cwV 1 C.2.2.2.2 gX10_copy_X10_faulted rfl rfl rfl (by decide +kernel) ⟨Nat.le_of_ble_eq_true rfl, Nat.le_of_ble_eq_true rfl⟩) ⟨mP_blind cX_B, va_recv hW.1 hW.2.1 (ci := 10) (q0 := 0) rfl (wL_get (by omega)), fun U hU hV => ⟨rfl, hW.pre hU hV (hX.call hW hU hV)⟩⟩ rfl rfl hl.1 rfl (lv_room (Nat.le_of_ble_eq_true rfl)) dX10_copy_68 ⟨Nat.zero_le _, Nat.zero_le _⟩) (fun r41 u H locs h hW => ?_)
            obtain ⟨S42, L43, R44⟩ := u
            replace hW : hw D (tyC cI cJ cZ cP cS) q (29 + 2 * n) (gC q cI cJ cZ cP cS K n S42 L43 R44) A s H locs := hW
            exact t_i C hr hlk (u := (S42, L43, R44)) hW.2.2.2.1 hW.B h dX10_copy_71
        · replace h := h.2 c19
          exact sX10_copy_47 C hr hlk hX Q S7 L8 R9 _ _ _ h hW (lv_sub hl [2] rfl)
set_option maxRecDepth 100000 in
set_option maxHeartbeats 4000000 in
theorem mtX10_copy (l : Launch) (D : va_G) (q : Nat → Nat) (cI cJ cZ cP cS : ClassId) (K : Nat → Nat) (n : Nat) (sz : Nat) (x1 : Int32) (x2 : Int32) (x3 : Int32) (x4 : Int32) (x5 : Int32) (S : Nat → Nat → Int32) (L : Nat → Int64) (R : Nat → Option Nat) (Q : Int32 → (Nat → Nat → Int32) → (Nat → Int64) → (Nat → Option Nat) → Prop) (h : vX10_copy K n x1 x2 x3 x4 x5 S L R Q) : Met l yX10_copy wsX10_copy rmX10_copy (va_Pc [.ref (q 0), .int x1, .int x2, .int x3, .int x4, .int x5] (mP D (tyC cI cJ cZ cP cS) q (29 + 2 * n) (gC q cI cJ cZ cP cS K n S L R) sz (cX (aQ q (29 + 2 * n) sz)))) (QCi D q cI cJ cZ cP cS K n Q (aQ q (29 + 2 * n) sz)) 0 0 (aQ q (29 + 2 * n) sz) := by
  refine met_w (cc := cX10_copy) (maxL := 8) (ret := (some .int)) (by decide) rfl (Nat.le_of_ble_eq_true rfl) ?_
  intro p e s m below meth c ls C hr hlk hW hX hnm hl
  exact sX10_copy C hr hlk hX Q x1 x2 x3 x4 x5 S L R _ _ _ h hW hl
theorem inX10_tell_X10 : ∀ w ∈ wsX100, w ∈ wsX10_tell := fun _ h => List.mem_cons_of_mem _ (List.mem_append_left _ (List.mem_append_left _ (List.mem_append_left _ (List.mem_append_left _ (List.mem_append_right _ h)))))
theorem inX10_tell_X9 : ∀ w ∈ wsX90, w ∈ wsX10_tell := fun _ h => List.mem_cons_of_mem _ (List.mem_append_left _ (List.mem_append_left _ (List.mem_append_left _ (List.mem_append_right _ h))))
theorem inX10_tell_X3 : ∀ w ∈ wsX30, w ∈ wsX10_tell := fun _ h => List.mem_cons_of_mem _ (List.mem_append_left _ (List.mem_append_left _ (List.mem_append_right _ h)))
theorem inX10_tell_X4 : ∀ w ∈ wsX40, w ∈ wsX10_tell := fun _ h => List.mem_cons_of_mem _ (List.mem_append_left _ (List.mem_append_right _ h))
theorem inX10_tell_X7 : ∀ w ∈ wsX70, w ∈ wsX10_tell := fun _ h => List.mem_cons_of_mem _ (List.mem_append_right _ h)
abbrev rmX10_tell : Room := { frames := 5, cells := 0, slots := 0, locals := 105 }
def vX10_tell (K : Nat → Nat) (n : Nat) (x1 : Int32) (S : Nat → Nat → Int32) (L : Nat → Int64) (R : Nat → Option Nat) (Q : Int32 → (Nat → Nat → Int32) → (Nat → Int64) → (Nat → Option Nat) → Prop) : Prop := vX10_millOf K n x1 S L R (fun o1 S2 L3 R4 => (o1 = none → Q (-1 : Int32) S2 L3 R4) ∧ (∀ mi5 : Nat, o1 = some mi5 → mi5 < n ∧ ((K mi5 = 0 → vX4_telling K n mi5  S2 L3 R4 (fun r6 S7 L8 R9 => Q r6 S7 L8 R9)) ∧ (K mi5 = 1 → vX3_telling K n mi5  S2 L3 R4 (fun r6 S7 L8 R9 => Q r6 S7 L8 R9)) ∧ (¬ K mi5 = 0 → ¬ K mi5 = 1 → vX7_telling K n mi5  S2 L3 R4 (fun r6 S7 L8 R9 => Q r6 S7 L8 R9)))))
set_option maxRecDepth 100000 in
set_option maxHeartbeats 4000000 in
theorem sX10_tell {p : Program} {l : Launch} {e : Env} {s : State} {m : MethodId} {args : Array Value} {below : List Frame} {meth : Method} {c : Code} {D : va_G} {q : Nat → Nat} {A : Nat → Prop} {cI cJ cZ cP cS : ClassId} {K : Nat → Nat} {n : Nat} (C : CallFix p m c cX10_tell 3 s args wsX10_tell RX10) (hr : meth.sig.returnType = (some .int)) (hlk : meth.locks = false) (hX : cX A s) (Q : Int32 → (Nat → Nat → Int32) → (Nat → Int64) → (Nat → Option Nat) → Prop) : ∀ (x1 : Int32) (S : Nat → Nat → Int32) (L : Nat → Int64) (R : Nat → Option Nat) (H : Heap) (locs : List Loc) (ls : Array Slot), vX10_tell K n x1 S L R Q → hw D (tyC cI cJ cZ cP cS) q (29 + 2 * n) (gC q cI cJ cZ cP cS K n S L R) A s H locs → lv_has ls 3 [(0, .ref (q 0)), (1, .int x1)] → W p l e (headSpec wsX10_tell rmX10_tell).room s m args below meth c H locs 0 0 (MQ below (QCi D q cI cJ cZ cP cS K n Q A) args s 0 0 A) (F0 m 0 ls []) := by
  intro x1 S L R H locs ls h hW hl
  unfold vX10_tell at h
  refine lv_aload_n C.1 C.2.1 dX10_tell_0 rfl (lv_at hl 0 rfl) ?_
  refine lv_iload_n C.1 C.2.1 dX10_tell_1 rfl (lv_at hl 1 rfl) ?_
  refine k_q hW (va_runV (As := [.int x1]) (rest := []) C (mtX10_millOf l D q cI cJ cZ cP cS K n H.size x1 S L R _ h) (cwV 1 C.2.2.2.2 gX10_tell_X10_millOf rfl rfl rfl (by decide +kernel) ⟨Nat.le_of_ble_eq_true rfl, Nat.le_of_ble_eq_true rfl⟩) ⟨mP_blind cX_B, va_recv hW.1 hW.2.1 (ci := 10) (q0 := 0) rfl (wL_get (by omega)), fun U hU hV => ⟨rfl, hW.pre hU hV (hX.call hW hU hV)⟩⟩ rfl rfl hl.1 rfl (lv_room (Nat.le_of_ble_eq_true rfl)) dX10_tell_2 ⟨Nat.zero_le _, Nat.zero_le _⟩) (fun r9 u H locs h hW => ?_)
  obtain ⟨S2, L3, R4⟩ := u
  obtain ⟨o1, rfl, h⟩ := h
  replace hW : hw D (tyC cI cJ cZ cP cS) q (29 + 2 * n) (gC q cI cJ cZ cP cS K n S2 L3 R4) A s H locs := hW
  refine cv_astore_n (lv' := [(2, va_rf (Option.map (qM q) o1)), (0, .ref (q 0)), (1, .int x1)]) C.1 C.2.1 dX10_tell_5 rfl hl (by decide) rfl (fun ls hl => ?_)
  refine cv_aload_n C.1 C.2.1 dX10_tell_6 rfl (lv_at hl 0 rfl) ?_
  rcases o1 with _ | mi5
  · replace h := h.1 rfl
    replace hl : lv_has ls 3 [(2, .null), (0, .ref (q 0)), (1, .int x1)] := hl
    refine lv_ifnonnullN C.1 C.2.1 dX10_tell_7 ?_
    refine lv_iconst (v := -1) C.1 C.2.1 dX10_tell_10 (by decide) ?_
    refine lv_goto (tgt := 22) C.1 C.2.1 dX10_tell_11 (by decide) ?_
    exact t_i C hr hlk (u := (S2, L3, R4)) hW.2.2.2.1 hW.B h dX10_tell_22
  · replace h := h.2 mi5 rfl
    replace hl : lv_has ls 3 [(2, .ref (q (29 + 2 * mi5))), (0, .ref (q 0)), (1, .int x1)] := hl
    refine lv_ifnonnull (tgt := 14) C.1 C.2.1 dX10_tell_7 (by decide) ?_
    refine lv_aload_n C.1 C.2.1 dX10_tell_14 rfl (lv_at hl 0 rfl) ?_
    refine lv_aload_n C.1 C.2.1 dX10_tell_15 rfl (lv_at hl 1 rfl) ?_
    refine r_get C hW (ci := 10) (T := TX10) (n := 11) (ref := "BallMinder") (v := .ref (q 14)) (0) (by omega) rfl rfl 7 (by decide) inX10_tell_X10 (by decide +kernel) (fun _ h9 => h9) rfl dX10_tell_16 ?_
    obtain ⟨hb10, h⟩ := h
    refine k_i hW (by3 (k := K mi5) h (fun k0 h => va_runV (As := [.ref (q 14)]) (rest := []) C (mtX4_telling l D q cI cJ cZ cP cS K n mi5 hb10 H.size  S2 L3 R4 _ h) (cwV 1 C.2.2.2.2 gX10_tell_X4_telling rfl rfl rfl (by decide +kernel) ⟨Nat.le_of_ble_eq_true rfl, Nat.le_of_ble_eq_true rfl⟩) ⟨mP_blind cX_B, c_rec0 hW hb10 k0, fun U hU hV => ⟨rfl, hW.pre hU hV (hX.call hW hU hV)⟩⟩ rfl rfl hl.1 rfl (lv_room (Nat.le_of_ble_eq_true rfl)) dX10_tell_19 ⟨Nat.zero_le _, Nat.zero_le _⟩) (fun k1 h => va_runU (As := [.ref (q 14)]) (rest := []) C (mtX3_telling l D q cI cJ cZ cP cS K n mi5 hb10 H.size  S2 L3 R4 _ h) (va_cwO 1 C.2.2.2.2 gX10_tell_X3_telling_u238X3 rfl rfl rfl (show Cond.code yX4_telling cX4_telling 2 (some .int) ∈ wsX10_tell by decide +kernel) (by decide +kernel) ⟨Nat.le_of_ble_eq_true rfl, Nat.le_of_ble_eq_true rfl⟩) ⟨mP_blind cX_B, c_rec1 hW hb10 k1, fun U hU hV => ⟨rfl, hW.pre hU hV (hX.call hW hU hV)⟩⟩ rfl rfl hl.1 rfl (lv_room (Nat.le_of_ble_eq_true rfl)) dX10_tell_19 ⟨Nat.zero_le _, Nat.zero_le _⟩) (fun k0 k1 h => va_runU (As := [.ref (q 14)]) (rest := []) C (mtX7_telling l D q cI cJ cZ cP cS K n mi5 hb10 k0 k1 H.size  S2 L3 R4 _ h) (va_cwO 1 C.2.2.2.2 gX10_tell_X7_telling_u238X7 rfl rfl rfl (show Cond.code yX4_telling cX4_telling 2 (some .int) ∈ wsX10_tell by decide +kernel) (by decide +kernel) ⟨Nat.le_of_ble_eq_true rfl, Nat.le_of_ble_eq_true rfl⟩) ⟨mP_blind cX_B, c_rec2 hW hb10 k0 k1, fun U hU hV => ⟨rfl, hW.pre hU hV (hX.call hW hU hV)⟩⟩ rfl rfl hl.1 rfl (lv_room (Nat.le_of_ble_eq_true rfl)) dX10_tell_19 ⟨Nat.zero_le _, Nat.zero_le _⟩)) (fun r6 u H locs h hW => ?_)
    obtain ⟨S7, L8, R9⟩ := u
    replace hW : hw D (tyC cI cJ cZ cP cS) q (29 + 2 * n) (gC q cI cJ cZ cP cS K n S7 L8 R9) A s H locs := hW
    exact t_i C hr hlk (u := (S7, L8, R9)) hW.2.2.2.1 hW.B h dX10_tell_22
set_option maxRecDepth 100000 in
set_option maxHeartbeats 4000000 in
theorem mtX10_tell (l : Launch) (D : va_G) (q : Nat → Nat) (cI cJ cZ cP cS : ClassId) (K : Nat → Nat) (n : Nat) (sz : Nat) (x1 : Int32) (S : Nat → Nat → Int32) (L : Nat → Int64) (R : Nat → Option Nat) (Q : Int32 → (Nat → Nat → Int32) → (Nat → Int64) → (Nat → Option Nat) → Prop) (h : vX10_tell K n x1 S L R Q) : Met l yX10_tell wsX10_tell rmX10_tell (va_Pc [.ref (q 0), .int x1] (mP D (tyC cI cJ cZ cP cS) q (29 + 2 * n) (gC q cI cJ cZ cP cS K n S L R) sz (cX (aQ q (29 + 2 * n) sz)))) (QCi D q cI cJ cZ cP cS K n Q (aQ q (29 + 2 * n) sz)) 0 0 (aQ q (29 + 2 * n) sz) := by
  refine met_w (cc := cX10_tell) (maxL := 3) (ret := (some .int)) (by decide) rfl (Nat.le_of_ble_eq_true rfl) ?_
  intro p e s m below meth c ls C hr hlk hW hX hnm hl
  exact sX10_tell C hr hlk hX Q x1 S L R _ _ _ h hW hl
theorem inX10_ring_X10 : ∀ w ∈ wsX100, w ∈ wsX10_ring := fun _ h => List.mem_cons_of_mem _ (List.mem_append_left _ (List.mem_append_left _ (List.mem_append_left _ (List.mem_append_left _ (List.mem_append_right _ h)))))
theorem inX10_ring_X3 : ∀ w ∈ wsX30, w ∈ wsX10_ring := fun _ h => List.mem_cons_of_mem _ (List.mem_append_left _ (List.mem_append_left _ (List.mem_append_left _ (List.mem_append_right _ h))))
theorem inX10_ring_X4 : ∀ w ∈ wsX40, w ∈ wsX10_ring := fun _ h => List.mem_cons_of_mem _ (List.mem_append_left _ (List.mem_append_left _ (List.mem_append_right _ h)))
theorem inX10_ring_X7 : ∀ w ∈ wsX70, w ∈ wsX10_ring := fun _ h => List.mem_cons_of_mem _ (List.mem_append_left _ (List.mem_append_right _ h))
theorem inX10_ring_X9 : ∀ w ∈ wsX90, w ∈ wsX10_ring := fun _ h => List.mem_cons_of_mem _ (List.mem_append_right _ h)
abbrev rmX10_ring : Room := { frames := 2, cells := 0, slots := 0, locals := 43 }
def vX10_ring (K : Nat → Nat) (n : Nat) (x1 : Int32) (S : Nat → Nat → Int32) (L : Nat → Int64) (R : Nat → Option Nat) (Q : Int32 → (Nat → Nat → Int32) → (Nat → Int64) → (Nat → Option Nat) → Prop) : Prop := vX10_millOf K n x1 S L R (fun o1 S2 L3 R4 => (o1 = none → Q (-1 : Int32) S2 L3 R4) ∧ (∀ mi5 : Nat, o1 = some mi5 → mi5 < n ∧ ((K mi5 = 0 → vX4_rung K n mi5  S2 L3 R4 (fun r6 S7 L8 R9 => Q r6 S7 L8 R9)) ∧ (K mi5 = 1 → vX4_rung K n mi5  S2 L3 R4 (fun r6 S7 L8 R9 => Q r6 S7 L8 R9)) ∧ (¬ K mi5 = 0 → ¬ K mi5 = 1 → vX7_rung K n mi5  S2 L3 R4 (fun r6 S7 L8 R9 => Q r6 S7 L8 R9)))))
set_option maxRecDepth 100000 in
set_option maxHeartbeats 4000000 in
theorem sX10_ring {p : Program} {l : Launch} {e : Env} {s : State} {m : MethodId} {args : Array Value} {below : List Frame} {meth : Method} {c : Code} {D : va_G} {q : Nat → Nat} {A : Nat → Prop} {cI cJ cZ cP cS : ClassId} {K : Nat → Nat} {n : Nat} (C : CallFix p m c cX10_ring 3 s args wsX10_ring RX10) (hr : meth.sig.returnType = (some .int)) (hlk : meth.locks = false) (hX : cX A s) (Q : Int32 → (Nat → Nat → Int32) → (Nat → Int64) → (Nat → Option Nat) → Prop) : ∀ (x1 : Int32) (S : Nat → Nat → Int32) (L : Nat → Int64) (R : Nat → Option Nat) (H : Heap) (locs : List Loc) (ls : Array Slot), vX10_ring K n x1 S L R Q → hw D (tyC cI cJ cZ cP cS) q (29 + 2 * n) (gC q cI cJ cZ cP cS K n S L R) A s H locs → lv_has ls 3 [(0, .ref (q 0)), (1, .int x1)] → W p l e (headSpec wsX10_ring rmX10_ring).room s m args below meth c H locs 0 0 (MQ below (QCi D q cI cJ cZ cP cS K n Q A) args s 0 0 A) (F0 m 0 ls []) := by
  intro x1 S L R H locs ls h hW hl
  unfold vX10_ring at h
  refine lv_aload_n C.1 C.2.1 dX10_ring_0 rfl (lv_at hl 0 rfl) ?_
  refine lv_iload_n C.1 C.2.1 dX10_ring_1 rfl (lv_at hl 1 rfl) ?_
  refine k_q hW (va_runV (As := [.int x1]) (rest := []) C (mtX10_millOf l D q cI cJ cZ cP cS K n H.size x1 S L R _ h) (cwV 1 C.2.2.2.2 gX10_ring_X10_millOf rfl rfl rfl (by decide +kernel) ⟨Nat.le_of_ble_eq_true rfl, Nat.le_of_ble_eq_true rfl⟩) ⟨mP_blind cX_B, va_recv hW.1 hW.2.1 (ci := 10) (q0 := 0) rfl (wL_get (by omega)), fun U hU hV => ⟨rfl, hW.pre hU hV (hX.call hW hU hV)⟩⟩ rfl rfl hl.1 rfl (lv_room (Nat.le_of_ble_eq_true rfl)) dX10_ring_2 ⟨Nat.zero_le _, Nat.zero_le _⟩) (fun r9 u H locs h hW => ?_)
  obtain ⟨S2, L3, R4⟩ := u
  obtain ⟨o1, rfl, h⟩ := h
  replace hW : hw D (tyC cI cJ cZ cP cS) q (29 + 2 * n) (gC q cI cJ cZ cP cS K n S2 L3 R4) A s H locs := hW
  refine cv_astore_n (lv' := [(2, va_rf (Option.map (qM q) o1)), (0, .ref (q 0)), (1, .int x1)]) C.1 C.2.1 dX10_ring_5 rfl hl (by decide) rfl (fun ls hl => ?_)
  refine cv_aload_n C.1 C.2.1 dX10_ring_6 rfl (lv_at hl 0 rfl) ?_
  rcases o1 with _ | mi5
  · replace h := h.1 rfl
    replace hl : lv_has ls 3 [(2, .null), (0, .ref (q 0)), (1, .int x1)] := hl
    refine lv_ifnonnullN C.1 C.2.1 dX10_ring_7 ?_
    refine lv_iconst (v := -1) C.1 C.2.1 dX10_ring_10 (by decide) ?_
    refine lv_goto (tgt := 22) C.1 C.2.1 dX10_ring_11 (by decide) ?_
    exact t_i C hr hlk (u := (S2, L3, R4)) hW.2.2.2.1 hW.B h dX10_ring_22
  · replace h := h.2 mi5 rfl
    replace hl : lv_has ls 3 [(2, .ref (q (29 + 2 * mi5))), (0, .ref (q 0)), (1, .int x1)] := hl
    refine lv_ifnonnull (tgt := 14) C.1 C.2.1 dX10_ring_7 (by decide) ?_
    refine lv_aload_n C.1 C.2.1 dX10_ring_14 rfl (lv_at hl 0 rfl) ?_
    refine lv_aload_n C.1 C.2.1 dX10_ring_15 rfl (lv_at hl 1 rfl) ?_
    refine r_get C hW (ci := 10) (T := TX10) (n := 11) (ref := "BallMinder") (v := .ref (q 14)) (0) (by omega) rfl rfl 7 (by decide) inX10_ring_X10 (by decide +kernel) (fun _ h9 => h9) rfl dX10_ring_16 ?_
    obtain ⟨hb10, h⟩ := h
    refine k_i hW (by3 (k := K mi5) h (fun k0 h => va_runV (As := [.ref (q 14)]) (rest := []) C (mtX4_rung l D q cI cJ cZ cP cS K n mi5 hb10 H.size  S2 L3 R4 _ h) (cwV 1 C.2.2.2.2 gX10_ring_X4_rung rfl rfl rfl (by decide +kernel) ⟨Nat.le_of_ble_eq_true rfl, Nat.le_of_ble_eq_true rfl⟩) ⟨mP_blind cX_B, c_rec0 hW hb10 k0, fun U hU hV => ⟨rfl, hW.pre hU hV (hX.call hW hU hV)⟩⟩ rfl rfl hl.1 rfl (lv_room (Nat.le_of_ble_eq_true rfl)) dX10_ring_19 ⟨Nat.zero_le _, Nat.zero_le _⟩) (fun k1 h => va_runU (As := [.ref (q 14)]) (rest := []) C (mtX4_rung l D q cI cJ cZ cP cS K n mi5 hb10 H.size  S2 L3 R4 _ h) (va_cwU 1 C.2.2.2.2 gX10_ring_X4_rung_u242X3 rfl rfl rfl rfl (by decide +kernel) ⟨Nat.le_of_ble_eq_true rfl, Nat.le_of_ble_eq_true rfl⟩) ⟨mP_blind cX_B, c_rec1 hW hb10 k1, fun U hU hV => ⟨rfl, hW.pre hU hV (hX.call hW hU hV)⟩⟩ rfl rfl hl.1 rfl (lv_room (Nat.le_of_ble_eq_true rfl)) dX10_ring_19 ⟨Nat.zero_le _, Nat.zero_le _⟩) (fun k0 k1 h => va_runU (As := [.ref (q 14)]) (rest := []) C (mtX7_rung l D q cI cJ cZ cP cS K n mi5 hb10 k0 k1 H.size  S2 L3 R4 _ h) (va_cwO 1 C.2.2.2.2 gX10_ring_X7_rung_u242X7 rfl rfl rfl (show Cond.code yX4_rung cX4_rung 2 (some .int) ∈ wsX10_ring by decide +kernel) (by decide +kernel) ⟨Nat.le_of_ble_eq_true rfl, Nat.le_of_ble_eq_true rfl⟩) ⟨mP_blind cX_B, c_rec2 hW hb10 k0 k1, fun U hU hV => ⟨rfl, hW.pre hU hV (hX.call hW hU hV)⟩⟩ rfl rfl hl.1 rfl (lv_room (Nat.le_of_ble_eq_true rfl)) dX10_ring_19 ⟨Nat.zero_le _, Nat.zero_le _⟩)) (fun r6 u H locs h hW => ?_)
    obtain ⟨S7, L8, R9⟩ := u
    replace hW : hw D (tyC cI cJ cZ cP cS) q (29 + 2 * n) (gC q cI cJ cZ cP cS K n S7 L8 R9) A s H locs := hW
    exact t_i C hr hlk (u := (S7, L8, R9)) hW.2.2.2.1 hW.B h dX10_ring_22
set_option maxRecDepth 100000 in
set_option maxHeartbeats 4000000 in
theorem mtX10_ring (l : Launch) (D : va_G) (q : Nat → Nat) (cI cJ cZ cP cS : ClassId) (K : Nat → Nat) (n : Nat) (sz : Nat) (x1 : Int32) (S : Nat → Nat → Int32) (L : Nat → Int64) (R : Nat → Option Nat) (Q : Int32 → (Nat → Nat → Int32) → (Nat → Int64) → (Nat → Option Nat) → Prop) (h : vX10_ring K n x1 S L R Q) : Met l yX10_ring wsX10_ring rmX10_ring (va_Pc [.ref (q 0), .int x1] (mP D (tyC cI cJ cZ cP cS) q (29 + 2 * n) (gC q cI cJ cZ cP cS K n S L R) sz (cX (aQ q (29 + 2 * n) sz)))) (QCi D q cI cJ cZ cP cS K n Q (aQ q (29 + 2 * n) sz)) 0 0 (aQ q (29 + 2 * n) sz) := by
  refine met_w (cc := cX10_ring) (maxL := 3) (ret := (some .int)) (by decide) rfl (Nat.le_of_ble_eq_true rfl) ?_
  intro p e s m below meth c ls C hr hlk hW hX hnm hl
  exact sX10_ring C hr hlk hX Q x1 S L R _ _ _ h hW hl
theorem inX10_as_X10 : ∀ w ∈ wsX100, w ∈ wsX10_as := fun _ h => List.mem_cons_of_mem _ (List.mem_append_right _ h)
abbrev rmX10_as : Room := { frames := 2, cells := 0, slots := 0, locals := 43 }
def vX10_as (K : Nat → Nat) (n : Nat) (x1 : Int32) (x2 : Int32) (S : Nat → Nat → Int32) (L : Nat → Int64) (R : Nat → Option Nat) (Q : Int32 → (Nat → Nat → Int32) → (Nat → Int64) → (Nat → Option Nat) → Prop) : Prop := ∀ S1 : Nat → Nat → Int32, S1 = va_up S 0 (upd (S 0) 10 (0 : Int32)) → vX10_millOf K n x1 S1 L R (fun o2 S3 L4 R5 => (o2 = none → Q (-1 : Int32) S3 L4 R5) ∧ (∀ mi6 : Nat, o2 = some mi6 → vX10_within x2 (0 : Int32) (2 : Int32) (fun r7 => (¬ r7 = 0 → mi6 < n ∧ ((K mi6 = 0 → vX4_kind K n mi6  S3 L4 R5 (fun r9 S10 L11 R12 => (r9 < x2 → vX10_faulted K n (2 : Int32) S10 L11 R12 (fun r15 S16 L17 R18 => Q r15 S16 L17 R18)) ∧ (¬ (r9 < x2) → Q (1 : Int32) S10 L11 R12))) ∧ (K mi6 = 1 → vX3_kind K n mi6  S3 L4 R5 (fun r9 S10 L11 R12 => (r9 < x2 → vX10_faulted K n (2 : Int32) S10 L11 R12 (fun r15 S16 L17 R18 => Q r15 S16 L17 R18)) ∧ (¬ (r9 < x2) → Q (1 : Int32) S10 L11 R12))) ∧ (¬ K mi6 = 0 → ¬ K mi6 = 1 → vX7_kind K n mi6  S3 L4 R5 (fun r9 S10 L11 R12 => (r9 < x2 → vX10_faulted K n (2 : Int32) S10 L11 R12 (fun r15 S16 L17 R18 => Q r15 S16 L17 R18)) ∧ (¬ (r9 < x2) → Q (1 : Int32) S10 L11 R12))))) ∧ (r7 = 0 → Q (-2 : Int32) S3 L4 R5))))
set_option maxRecDepth 100000 in
set_option maxHeartbeats 4000000 in
theorem sX10_as {p : Program} {l : Launch} {e : Env} {s : State} {m : MethodId} {args : Array Value} {below : List Frame} {meth : Method} {c : Code} {D : va_G} {q : Nat → Nat} {A : Nat → Prop} {cI cJ cZ cP cS : ClassId} {K : Nat → Nat} {n : Nat} (C : CallFix p m c cX10_as 4 s args wsX10_as RX10) (hr : meth.sig.returnType = (some .int)) (hlk : meth.locks = false) (hX : cX A s) (Q : Int32 → (Nat → Nat → Int32) → (Nat → Int64) → (Nat → Option Nat) → Prop) : ∀ (x1 : Int32) (x2 : Int32) (S : Nat → Nat → Int32) (L : Nat → Int64) (R : Nat → Option Nat) (H : Heap) (locs : List Loc) (ls : Array Slot), vX10_as K n x1 x2 S L R Q → hw D (tyC cI cJ cZ cP cS) q (29 + 2 * n) (gC q cI cJ cZ cP cS K n S L R) A s H locs → lv_has ls 4 [(0, .ref (q 0)), (1, .int x1), (2, .int x2)] → W p l e (headSpec wsX10_as rmX10_as).room s m args below meth c H locs 0 0 (MQ below (QCi D q cI cJ cZ cP cS K n Q A) args s 0 0 A) (F0 m 0 ls []) := by
  intro x1 x2 S L R H locs ls h hW hl
  unfold vX10_as at h
  refine lv_aload_n C.1 C.2.1 dX10_as_0 rfl (lv_at hl 0 rfl) ?_
  refine lv_iconst (v := 0) C.1 C.2.1 dX10_as_1 (by decide) ?_
  refine r_put C hW (ci := 10) (T := TX10) (n := 11) (ref := "BallMinder") (0) (by omega) rfl rfl 10 (by decide) inX10_as_X10 tyX10 tyX10_ok nmX10 (by decide +kernel) (fun _ h9 => h9) rfl rfl rfl (Nat.le_of_ble_eq_true rfl) dX10_as_2 (fun H locs hW => ?_)
  replace hW := gC_put (F := upd (S 0) 10 (0 : Int32)) rfl hW
  obtain ⟨S1, eS1⟩ : ∃ z : Nat → Nat → Int32, z = va_up S 0 (upd (S 0) 10 (0 : Int32)) := ⟨_, rfl⟩
  rw [← eS1] at hW
  replace h := h S1 eS1
  refine lv_aload_n C.1 C.2.1 dX10_as_5 rfl (lv_at hl 0 rfl) ?_
  refine lv_iload_n C.1 C.2.1 dX10_as_6 rfl (lv_at hl 1 rfl) ?_
  refine k_q hW (va_runV (As := [.int x1]) (rest := []) C (mtX10_millOf l D q cI cJ cZ cP cS K n H.size x1 S1 L R _ h) (cwV 1 C.2.2.2.2 gX10_as_X10_millOf rfl rfl rfl (by decide +kernel) ⟨Nat.le_of_ble_eq_true rfl, Nat.le_of_ble_eq_true rfl⟩) ⟨mP_blind cX_B, va_recv hW.1 hW.2.1 (ci := 10) (q0 := 0) rfl (wL_get (by omega)), fun U hU hV => ⟨rfl, hW.pre hU hV (hX.call hW hU hV)⟩⟩ rfl rfl hl.1 rfl (lv_room (Nat.le_of_ble_eq_true rfl)) dX10_as_7 ⟨Nat.zero_le _, Nat.zero_le _⟩) (fun r9 u H locs h hW => ?_)
  obtain ⟨S3, L4, R5⟩ := u
  obtain ⟨o2, rfl, h⟩ := h
  replace hW : hw D (tyC cI cJ cZ cP cS) q (29 + 2 * n) (gC q cI cJ cZ cP cS K n S3 L4 R5) A s H locs := hW
  refine cv_astore_n (lv' := [(3, va_rf (Option.map (qM q) o2)), (0, .ref (q 0)), (1, .int x1), (2, .int x2)]) C.1 C.2.1 dX10_as_10 rfl hl (by decide) rfl (fun ls hl => ?_)
  refine cv_aload_n C.1 C.2.1 dX10_as_11 rfl (lv_at hl 0 rfl) ?_
  rcases o2 with _ | mi6
  · replace h := h.1 rfl
    replace hl : lv_has ls 4 [(3, .null), (0, .ref (q 0)), (1, .int x1), (2, .int x2)] := hl
    refine lv_ifnonnullN C.1 C.2.1 dX10_as_12 ?_
    refine lv_iconst (v := -1) C.1 C.2.1 dX10_as_15 (by decide) ?_
    exact t_i C hr hlk (u := (S3, L4, R5)) hW.2.2.2.1 hW.B h dX10_as_16
  · replace h := h.2 mi6 rfl
    replace hl : lv_has ls 4 [(3, .ref (q (29 + 2 * mi6))), (0, .ref (q 0)), (1, .int x1), (2, .int x2)] := hl
    refine lv_ifnonnull (tgt := 17) C.1 C.2.1 dX10_as_12 (by decide) ?_
    refine lv_iload_n C.1 C.2.1 dX10_as_17 rfl (lv_at hl 3 rfl) ?_
    refine lv_iconst (v := 0) C.1 C.2.1 dX10_as_18 (by decide) ?_
    refine lv_iconst (v := 2) C.1 C.2.1 dX10_as_19 (by decide) ?_
    refine k_pi hW (va_runS (As := [.int x2, .int (0 : Int32), .int (2 : Int32)]) (rest := []) C (mtX10_within l D q _ H.size x2 (0 : Int32) (2 : Int32) _ h) (va_cwS 3 C.2.2.2.2 gX10_as_X10_within rfl rfl rfl (by decide +kernel) ⟨Nat.le_of_ble_eq_true rfl, Nat.le_of_ble_eq_true rfl⟩) ⟨mP_blind tX_B, fun U hU hV => ⟨rfl, hW.pre0 hU hV trivial⟩⟩ rfl rfl hl.1 rfl (lv_room (Nat.le_of_ble_eq_true rfl)) dX10_as_20 ⟨Nat.zero_le _, Nat.zero_le _⟩) (fun r7 H locs h hW => ?_)
    refine lv_if_ne (tgt := 29) C.1 C.2.1 dX10_as_23 (by decide) (fun c8 => ?_) (fun c8 => ?_)
    · replace h := h.1 c8
      refine lv_aload_n C.1 C.2.1 dX10_as_29 rfl (lv_at hl 0 rfl) ?_
      obtain ⟨hb13, h⟩ := h
      refine k_i hW (by3 (k := K mi6) h (fun k0 h => va_runV (As := []) (rest := []) C (mtX4_kind l D q cI cJ cZ cP cS K n mi6 hb13 H.size  S3 L4 R5 _ h) (cwV 0 C.2.2.2.2 gX10_as_X4_kind rfl rfl rfl (by decide +kernel) ⟨Nat.le_of_ble_eq_true rfl, Nat.le_of_ble_eq_true rfl⟩) ⟨mP_blind cX_B, c_rec0 hW hb13 k0, fun U hU hV => ⟨rfl, hW.pre hU hV (hX.call hW hU hV)⟩⟩ rfl rfl hl.1 rfl (lv_room (Nat.le_of_ble_eq_true rfl)) dX10_as_30 ⟨Nat.zero_le _, Nat.zero_le _⟩) (fun k1 h => va_runU (As := []) (rest := []) C (mtX3_kind l D q cI cJ cZ cP cS K n mi6 hb13 H.size  S3 L4 R5 _ h) (va_cwO 0 C.2.2.2.2 gX10_as_X3_kind_u101X3 rfl rfl rfl (show Cond.code yX4_kind cX4_kind 1 (some .int) ∈ wsX10_as by decide +kernel) (by decide +kernel) ⟨Nat.le_of_ble_eq_true rfl, Nat.le_of_ble_eq_true rfl⟩) ⟨mP_blind cX_B, c_rec1 hW hb13 k1, fun U hU hV => ⟨rfl, hW.pre hU hV (hX.call hW hU hV)⟩⟩ rfl rfl hl.1 rfl (lv_room (Nat.le_of_ble_eq_true rfl)) dX10_as_30 ⟨Nat.zero_le _, Nat.zero_le _⟩) (fun k0 k1 h => va_runU (As := []) (rest := []) C (mtX7_kind l D q cI cJ cZ cP cS K n mi6 hb13 k0 k1 H.size  S3 L4 R5 _ h) (va_cwO 0 C.2.2.2.2 gX10_as_X7_kind_u101X7 rfl rfl rfl (show Cond.code yX4_kind cX4_kind 1 (some .int) ∈ wsX10_as by decide +kernel) (by decide +kernel) ⟨Nat.le_of_ble_eq_true rfl, Nat.le_of_ble_eq_true rfl⟩) ⟨mP_blind cX_B, c_rec2 hW hb13 k0 k1, fun U hU hV => ⟨rfl, hW.pre hU hV (hX.call hW hU hV)⟩⟩ rfl rfl hl.1 rfl (lv_room (Nat.le_of_ble_eq_true rfl)) dX10_as_30 ⟨Nat.zero_le _, Nat.zero_le _⟩)) (fun r9 u H locs h hW => ?_)
      obtain ⟨S10, L11, R12⟩ := u
      replace hW : hw D (tyC cI cJ cZ cP cS) q (29 + 2 * n) (gC q cI cJ cZ cP cS K n S10 L11 R12) A s H locs := hW
      refine lv_iload_n C.1 C.2.1 dX10_as_33 rfl (lv_at hl 3 rfl) ?_
      refine lv_icmp_lt (tgt := 41) C.1 C.2.1 dX10_as_34 (by decide) (fun c14 => ?_) (fun c14 => ?_)
      · replace h := h.1 c14
        refine lv_aload_n C.1 C.2.1 dX10_as_41 rfl (lv_at hl 1 rfl) ?_
        refine lv_iconst (v := 2) C.1 C.2.1 dX10_as_42 (by decide) ?_
        refine k_i hW (va_runV (As := [.int (2 : Int32)]) (rest := []) C (mtX10_faulted l D q cI cJ cZ cP cS K n H.size (2 : Int32) S10 L11 R12 _ h) (cwV 1 C.2.2.2.2 gX10_as_X10_faulted rfl rfl rfl (by decide +kernel) ⟨Nat.le_of_ble_eq_true rfl, Nat.le_of_ble_eq_true rfl⟩) ⟨mP_blind cX_B, va_recv hW.1 hW.2.1 (ci := 10) (q0 := 0) rfl (wL_get (by omega)), fun U hU hV => ⟨rfl, hW.pre hU hV (hX.call hW hU hV)⟩⟩ rfl rfl hl.1 rfl (lv_room (Nat.le_of_ble_eq_true rfl)) dX10_as_43 ⟨Nat.zero_le _, Nat.zero_le _⟩) (fun r15 u H locs h hW => ?_)
        obtain ⟨S16, L17, R18⟩ := u
        replace hW : hw D (tyC cI cJ cZ cP cS) q (29 + 2 * n) (gC q cI cJ cZ cP cS K n S16 L17 R18) A s H locs := hW
        exact t_i C hr hlk (u := (S16, L17, R18)) hW.2.2.2.1 hW.B h dX10_as_46
      · replace h := h.2 c14
        refine lv_iconst (v := 1) C.1 C.2.1 dX10_as_37 (by decide) ?_
        refine lv_goto (tgt := 46) C.1 C.2.1 dX10_as_38 (by decide) ?_
        exact t_i C hr hlk (u := (S10, L11, R12)) hW.2.2.2.1 hW.B h dX10_as_46
    · replace h := h.2 c8
      refine lv_bipush (v := -2) C.1 C.2.1 dX10_as_26 (by decide) ?_
      exact t_i C hr hlk (u := (S3, L4, R5)) hW.2.2.2.1 hW.B h dX10_as_28
set_option maxRecDepth 100000 in
set_option maxHeartbeats 4000000 in
theorem mtX10_as (l : Launch) (D : va_G) (q : Nat → Nat) (cI cJ cZ cP cS : ClassId) (K : Nat → Nat) (n : Nat) (sz : Nat) (x1 : Int32) (x2 : Int32) (S : Nat → Nat → Int32) (L : Nat → Int64) (R : Nat → Option Nat) (Q : Int32 → (Nat → Nat → Int32) → (Nat → Int64) → (Nat → Option Nat) → Prop) (h : vX10_as K n x1 x2 S L R Q) : Met l yX10_as wsX10_as rmX10_as (va_Pc [.ref (q 0), .int x1, .int x2] (mP D (tyC cI cJ cZ cP cS) q (29 + 2 * n) (gC q cI cJ cZ cP cS K n S L R) sz (cX (aQ q (29 + 2 * n) sz)))) (QCi D q cI cJ cZ cP cS K n Q (aQ q (29 + 2 * n) sz)) 0 0 (aQ q (29 + 2 * n) sz) := by
  refine met_w (cc := cX10_as) (maxL := 4) (ret := (some .int)) (by decide) rfl (Nat.le_of_ble_eq_true rfl) ?_
  intro p e s m below meth c ls C hr hlk hW hX hnm hl
  exact sX10_as C hr hlk hX Q x1 x2 S L R _ _ _ h hW hl
theorem inX10_trace_X10 : ∀ w ∈ wsX100, w ∈ wsX10_trace := fun _ h => List.mem_cons_of_mem _ (List.mem_append_left _ (List.mem_append_right _ h))
theorem inX10_trace_X9 : ∀ w ∈ wsX90, w ∈ wsX10_trace := fun _ h => List.mem_cons_of_mem _ (List.mem_append_right _ h)
abbrev rmX10_trace : Room := { frames := 0, cells := 0, slots := 0, locals := 0 }
def vX10_trace (K : Nat → Nat) (n : Nat) (S : Nat → Nat → Int32) (L : Nat → Int64) (R : Nat → Option Nat) (Q : Int32 → (Nat → Nat → Int32) → (Nat → Int64) → (Nat → Option Nat) → Prop) : Prop := Q (S 14 0) S L R
set_option maxRecDepth 100000 in
set_option maxHeartbeats 4000000 in
theorem sX10_trace {p : Program} {l : Launch} {e : Env} {s : State} {m : MethodId} {args : Array Value} {below : List Frame} {meth : Method} {c : Code} {D : va_G} {q : Nat → Nat} {A : Nat → Prop} {cI cJ cZ cP cS : ClassId} {K : Nat → Nat} {n : Nat} (C : CallFix p m c cX10_trace 1 s args wsX10_trace RX10) (hr : meth.sig.returnType = (some .int)) (hlk : meth.locks = false) (hX : cX A s) (Q : Int32 → (Nat → Nat → Int32) → (Nat → Int64) → (Nat → Option Nat) → Prop) : ∀ (S : Nat → Nat → Int32) (L : Nat → Int64) (R : Nat → Option Nat) (H : Heap) (locs : List Loc) (ls : Array Slot), vX10_trace K n S L R Q → hw D (tyC cI cJ cZ cP cS) q (29 + 2 * n) (gC q cI cJ cZ cP cS K n S L R) A s H locs → lv_has ls 1 [(0, .ref (q 0))] → W p l e (headSpec wsX10_trace rmX10_trace).room s m args below meth c H locs 0 0 (MQ below (QCi D q cI cJ cZ cP cS K n Q A) args s 0 0 A) (F0 m 0 ls []) := by
  intro S L R H locs ls h hW hl
  unfold vX10_trace at h
  refine lv_aload_n C.1 C.2.1 dX10_trace_0 rfl (lv_at hl 0 rfl) ?_
  refine r_get C hW (ci := 10) (T := TX10) (n := 11) (ref := "BallMinder") (v := .ref (q 14)) (0) (by omega) rfl rfl 7 (by decide) inX10_trace_X10 (by decide +kernel) (fun _ h9 => h9) rfl dX10_trace_1 ?_
  refine r_getN C hW (ci := 9) (T := TX9) (n := 1) (ref := "BallMinder$Trace") (host := "BallMinder") (v := .int (S 14 0)) (14) (by omega) rfl rfl 0 (by decide) inX10_trace_X9 (hX.1 _ (by decide +kernel)) (fun _ h9 => h9) rfl dX10_trace_4 ?_
  exact t_i C hr hlk (u := (S, L, R)) hW.2.2.2.1 hW.B h dX10_trace_7
set_option maxRecDepth 100000 in
set_option maxHeartbeats 4000000 in
theorem mtX10_trace (l : Launch) (D : va_G) (q : Nat → Nat) (cI cJ cZ cP cS : ClassId) (K : Nat → Nat) (n : Nat) (sz : Nat) (S : Nat → Nat → Int32) (L : Nat → Int64) (R : Nat → Option Nat) (Q : Int32 → (Nat → Nat → Int32) → (Nat → Int64) → (Nat → Option Nat) → Prop) (h : vX10_trace K n S L R Q) : Met l yX10_trace wsX10_trace rmX10_trace (va_Pc [.ref (q 0)] (mP D (tyC cI cJ cZ cP cS) q (29 + 2 * n) (gC q cI cJ cZ cP cS K n S L R) sz (cX (aQ q (29 + 2 * n) sz)))) (QCi D q cI cJ cZ cP cS K n Q (aQ q (29 + 2 * n) sz)) 0 0 (aQ q (29 + 2 * n) sz) := by
  refine met_w (cc := cX10_trace) (maxL := 1) (ret := (some .int)) (by decide) rfl (Nat.le_of_ble_eq_true rfl) ?_
  intro p e s m below meth c ls C hr hlk hW hX hnm hl
  exact sX10_trace C hr hlk hX Q S L R _ _ _ h hW hl
theorem inX10_fault_X10 : ∀ w ∈ wsX100, w ∈ wsX10_fault := fun _ h => List.mem_cons_of_mem _ (List.mem_append_right _ h)
abbrev rmX10_fault : Room := { frames := 0, cells := 0, slots := 0, locals := 0 }
def vX10_fault (K : Nat → Nat) (n : Nat) (S : Nat → Nat → Int32) (L : Nat → Int64) (R : Nat → Option Nat) (Q : Int32 → (Nat → Nat → Int32) → (Nat → Int64) → (Nat → Option Nat) → Prop) : Prop := Q (S 0 10) S L R
set_option maxRecDepth 100000 in
set_option maxHeartbeats 4000000 in
theorem sX10_fault {p : Program} {l : Launch} {e : Env} {s : State} {m : MethodId} {args : Array Value} {below : List Frame} {meth : Method} {c : Code} {D : va_G} {q : Nat → Nat} {A : Nat → Prop} {cI cJ cZ cP cS : ClassId} {K : Nat → Nat} {n : Nat} (C : CallFix p m c cX10_fault 1 s args wsX10_fault RX10) (hr : meth.sig.returnType = (some .int)) (hlk : meth.locks = false) (hX : cX A s) (Q : Int32 → (Nat → Nat → Int32) → (Nat → Int64) → (Nat → Option Nat) → Prop) : ∀ (S : Nat → Nat → Int32) (L : Nat → Int64) (R : Nat → Option Nat) (H : Heap) (locs : List Loc) (ls : Array Slot), vX10_fault K n S L R Q → hw D (tyC cI cJ cZ cP cS) q (29 + 2 * n) (gC q cI cJ cZ cP cS K n S L R) A s H locs → lv_has ls 1 [(0, .ref (q 0))] → W p l e (headSpec wsX10_fault rmX10_fault).room s m args below meth c H locs 0 0 (MQ below (QCi D q cI cJ cZ cP cS K n Q A) args s 0 0 A) (F0 m 0 ls []) := by
  intro S L R H locs ls h hW hl
  unfold vX10_fault at h
  refine lv_aload_n C.1 C.2.1 dX10_fault_0 rfl (lv_at hl 0 rfl) ?_
  refine r_get C hW (ci := 10) (T := TX10) (n := 11) (ref := "BallMinder") (v := .int (S 0 10)) (0) (by omega) rfl rfl 10 (by decide) inX10_fault_X10 (by decide +kernel) (fun _ h9 => h9) rfl dX10_fault_1 ?_
  exact t_i C hr hlk (u := (S, L, R)) hW.2.2.2.1 hW.B h dX10_fault_4
set_option maxRecDepth 100000 in
set_option maxHeartbeats 4000000 in
theorem mtX10_fault (l : Launch) (D : va_G) (q : Nat → Nat) (cI cJ cZ cP cS : ClassId) (K : Nat → Nat) (n : Nat) (sz : Nat) (S : Nat → Nat → Int32) (L : Nat → Int64) (R : Nat → Option Nat) (Q : Int32 → (Nat → Nat → Int32) → (Nat → Int64) → (Nat → Option Nat) → Prop) (h : vX10_fault K n S L R Q) : Met l yX10_fault wsX10_fault rmX10_fault (va_Pc [.ref (q 0)] (mP D (tyC cI cJ cZ cP cS) q (29 + 2 * n) (gC q cI cJ cZ cP cS K n S L R) sz (cX (aQ q (29 + 2 * n) sz)))) (QCi D q cI cJ cZ cP cS K n Q (aQ q (29 + 2 * n) sz)) 0 0 (aQ q (29 + 2 * n) sz) := by
  refine met_w (cc := cX10_fault) (maxL := 1) (ret := (some .int)) (by decide) rfl (Nat.le_of_ble_eq_true rfl) ?_
  intro p e s m below meth c ls C hr hlk hW hX hnm hl
  exact sX10_fault C hr hlk hX Q S L R _ _ _ h hW hl
theorem inX10_many_X10 : ∀ w ∈ wsX100, w ∈ wsX10_many := fun _ h => List.mem_cons_of_mem _ (List.mem_append_right _ h)
abbrev rmX10_many : Room := { frames := 1, cells := 0, slots := 0, locals := 22 }
def vX10_many (K : Nat → Nat) (n : Nat) (x1 : Int32) (S : Nat → Nat → Int32) (L : Nat → Int64) (R : Nat → Option Nat) (Q : Int32 → (Nat → Nat → Int32) → (Nat → Int64) → (Nat → Option Nat) → Prop) : Prop := vX10_within x1 (0 : Int32) (1 : Int32) (fun r1 => (¬ r1 = 0 → (¬ x1 = 0 → Q (S 0 9) S L R) ∧ (x1 = 0 → Q (S 0 8) S L R)) ∧ (r1 = 0 → Q (-2 : Int32) S L R))
set_option maxRecDepth 100000 in
set_option maxHeartbeats 4000000 in
theorem sX10_many {p : Program} {l : Launch} {e : Env} {s : State} {m : MethodId} {args : Array Value} {below : List Frame} {meth : Method} {c : Code} {D : va_G} {q : Nat → Nat} {A : Nat → Prop} {cI cJ cZ cP cS : ClassId} {K : Nat → Nat} {n : Nat} (C : CallFix p m c cX10_many 2 s args wsX10_many RX10) (hr : meth.sig.returnType = (some .int)) (hlk : meth.locks = false) (hX : cX A s) (Q : Int32 → (Nat → Nat → Int32) → (Nat → Int64) → (Nat → Option Nat) → Prop) : ∀ (x1 : Int32) (S : Nat → Nat → Int32) (L : Nat → Int64) (R : Nat → Option Nat) (H : Heap) (locs : List Loc) (ls : Array Slot), vX10_many K n x1 S L R Q → hw D (tyC cI cJ cZ cP cS) q (29 + 2 * n) (gC q cI cJ cZ cP cS K n S L R) A s H locs → lv_has ls 2 [(0, .ref (q 0)), (1, .int x1)] → W p l e (headSpec wsX10_many rmX10_many).room s m args below meth c H locs 0 0 (MQ below (QCi D q cI cJ cZ cP cS K n Q A) args s 0 0 A) (F0 m 0 ls []) := by
  intro x1 S L R H locs ls h hW hl
  unfold vX10_many at h
  refine lv_iload_n C.1 C.2.1 dX10_many_0 rfl (lv_at hl 1 rfl) ?_
  refine lv_iconst (v := 0) C.1 C.2.1 dX10_many_1 (by decide) ?_
  refine lv_iconst (v := 1) C.1 C.2.1 dX10_many_2 (by decide) ?_
  refine k_pi hW (va_runS (As := [.int x1, .int (0 : Int32), .int (1 : Int32)]) (rest := []) C (mtX10_within l D q _ H.size x1 (0 : Int32) (1 : Int32) _ h) (va_cwS 3 C.2.2.2.2 gX10_many_X10_within rfl rfl rfl (by decide +kernel) ⟨Nat.le_of_ble_eq_true rfl, Nat.le_of_ble_eq_true rfl⟩) ⟨mP_blind tX_B, fun U hU hV => ⟨rfl, hW.pre0 hU hV trivial⟩⟩ rfl rfl hl.1 rfl (lv_room (Nat.le_of_ble_eq_true rfl)) dX10_many_3 ⟨Nat.zero_le _, Nat.zero_le _⟩) (fun r1 H locs h hW => ?_)
  refine lv_if_ne (tgt := 12) C.1 C.2.1 dX10_many_6 (by decide) (fun c2 => ?_) (fun c2 => ?_)
  · replace h := h.1 c2
    refine lv_iload_n C.1 C.2.1 dX10_many_12 rfl (lv_at hl 1 rfl) ?_
    refine lv_if_ne (tgt := 23) C.1 C.2.1 dX10_many_13 (by decide) (fun c3 => ?_) (fun c3 => ?_)
    · replace h := h.1 c3
      refine lv_aload_n C.1 C.2.1 dX10_many_23 rfl (lv_at hl 0 rfl) ?_
      refine r_get C hW (ci := 10) (T := TX10) (n := 11) (ref := "BallMinder") (v := .int (S 0 9)) (0) (by omega) rfl rfl 9 (by decide) inX10_many_X10 (by decide +kernel) (fun _ h9 => h9) rfl dX10_many_24 ?_
      exact t_i C hr hlk (u := (S, L, R)) hW.2.2.2.1 hW.B h dX10_many_27
    · replace h := h.2 c3
      refine lv_aload_n C.1 C.2.1 dX10_many_16 rfl (lv_at hl 0 rfl) ?_
      refine r_get C hW (ci := 10) (T := TX10) (n := 11) (ref := "BallMinder") (v := .int (S 0 8)) (0) (by omega) rfl rfl 8 (by decide) inX10_many_X10 (by decide +kernel) (fun _ h9 => h9) rfl dX10_many_17 ?_
      refine lv_goto (tgt := 27) C.1 C.2.1 dX10_many_20 (by decide) ?_
      exact t_i C hr hlk (u := (S, L, R)) hW.2.2.2.1 hW.B h dX10_many_27
  · replace h := h.2 c2
    refine lv_bipush (v := -2) C.1 C.2.1 dX10_many_9 (by decide) ?_
    exact t_i C hr hlk (u := (S, L, R)) hW.2.2.2.1 hW.B h dX10_many_11
set_option maxRecDepth 100000 in
set_option maxHeartbeats 4000000 in
theorem mtX10_many (l : Launch) (D : va_G) (q : Nat → Nat) (cI cJ cZ cP cS : ClassId) (K : Nat → Nat) (n : Nat) (sz : Nat) (x1 : Int32) (S : Nat → Nat → Int32) (L : Nat → Int64) (R : Nat → Option Nat) (Q : Int32 → (Nat → Nat → Int32) → (Nat → Int64) → (Nat → Option Nat) → Prop) (h : vX10_many K n x1 S L R Q) : Met l yX10_many wsX10_many rmX10_many (va_Pc [.ref (q 0), .int x1] (mP D (tyC cI cJ cZ cP cS) q (29 + 2 * n) (gC q cI cJ cZ cP cS K n S L R) sz (cX (aQ q (29 + 2 * n) sz)))) (QCi D q cI cJ cZ cP cS K n Q (aQ q (29 + 2 * n) sz)) 0 0 (aQ q (29 + 2 * n) sz) := by
  refine met_w (cc := cX10_many) (maxL := 2) (ret := (some .int)) (by decide) rfl (Nat.le_of_ble_eq_true rfl) ?_
  intro p e s m below meth c ls C hr hlk hW hX hnm hl
  exact sX10_many C hr hlk hX Q x1 S L R _ _ _ h hW hl
theorem inX0_begin_X0 : ∀ w ∈ wsX00, w ∈ wsX0_begin := fun _ h => List.mem_cons_of_mem _ (List.mem_append_right _ h)
abbrev rmX0_begin : Room := { frames := 0, cells := 0, slots := 0, locals := 0 }
def vX0_begin_18 (K : Nat → Nat) (n : Nat) (Q : (Nat → Nat → Int32) → (Nat → Int64) → (Nat → Option Nat) → Prop) : Nat → Int32 → (Nat → Nat → Int32) → (Nat → Int64) → (Nat → Option Nat) → Prop
  | 0, _, _, _, _ => False
  | fu+1, x4, S, L, R => ((9 : Int32) ≤ x4 → Q S L R) ∧ (¬ ((9 : Int32) ≤ x4) → vp_in x4 9 ∧ (vp_in x4 9 ∧ (∀ S9 : Nat → Nat → Int32, S9 = va_up S 5 (upd (S 5) x4.toNatClampNeg (firstV x4.toNatClampNeg)) → vp_in x4 9 ∧ (∀ S11 : Nat → Nat → Int32, S11 = va_up S9 6 (upd (S9 6) x4.toNatClampNeg (vp_nar .boolean (0 : Int32))) → ∀ x4_12 : Int32, x4_12 = x4 + (1 : Int32) → vX0_begin_18 K n Q fu x4_12 S11 L R))))
def vX0_begin (K : Nat → Nat) (n : Nat) (x1 : Nat) (x2 : Int32) (x3 : Int32) (S : Nat → Nat → Int32) (L : Nat → Int64) (R : Nat → Option Nat) (Q : (Nat → Nat → Int32) → (Nat → Int64) → (Nat → Option Nat) → Prop) : Prop := ∀ R1 : Nat → Option Nat, R1 = va_up R 4 (some x1) → ∀ S2 : Nat → Nat → Int32, S2 = va_up S 4 (upd (S 4) 3 x2) → ∀ S3 : Nat → Nat → Int32, S3 = va_up S2 4 (upd (S2 4) 4 x3) → ∃ n18, vX0_begin_18 K n Q n18 (0 : Int32) S3 L R1
set_option maxRecDepth 100000 in
set_option maxHeartbeats 4000000 in
theorem sX0_begin_18 {p : Program} {l : Launch} {e : Env} {s : State} {m : MethodId} {args : Array Value} {below : List Frame} {meth : Method} {c : Code} {D : va_G} {q : Nat → Nat} {A : Nat → Prop} {cI cJ cZ cP cS : ClassId} {K : Nat → Nat} {n : Nat} (C : CallFix p m c cX0_begin 5 s args wsX0_begin RX0) (hr : meth.sig.returnType = none) (hlk : meth.locks = false) (hX : cX A s) (Q : (Nat → Nat → Int32) → (Nat → Int64) → (Nat → Option Nat) → Prop) : ∀ (fu : Nat) (x4 : Int32) (S : Nat → Nat → Int32) (L : Nat → Int64) (R : Nat → Option Nat) (H : Heap) (locs : List Loc) (ls : Array Slot), vX0_begin_18 K n Q fu x4 S L R → hw D (tyC cI cJ cZ cP cS) q (29 + 2 * n) (gC q cI cJ cZ cP cS K n S L R) A s H locs → lv_has ls 5 [(0, .ref (q 4)), (4, .int x4)] → W p l e (headSpec wsX0_begin rmX0_begin).room s m args below meth c H locs 0 0 (MQ below (QCv D q cI cJ cZ cP cS K n Q A) args s 0 0 A) (F0 m 18 ls []) := by
  intro fu
  induction fu with
  | zero =>
    intro x4 S L R H locs ls h
    exact h.elim
  | succ fu ih =>
    intro x4 S L R H locs ls h hW hl
    refine lv_iload C.1 C.2.1 dX0_begin_18 (lv_at hl 1 rfl) ?_
    refine lv_bipush (v := 9) C.1 C.2.1 dX0_begin_20 (by decide) ?_
    refine lv_icmp_ge (tgt := 52) C.1 C.2.1 dX0_begin_22 (by decide) (fun c4 => ?_) (fun c4 => ?_)
    · replace h := h.1 c4
      exact t_v C hr hlk (u := (S, L, R)) hW.2.2.2.1 hW.B h dX0_begin_52
    · replace h := h.2 c4
      refine lv_aload_n C.1 C.2.1 dX0_begin_25 rfl (lv_at hl 0 rfl) ?_
      refine r_get C hW (ci := 0) (T := TX0) (n := 5) (ref := "BallMinder$Drawing") (v := .ref (q 5)) (4) (by omega) rfl rfl 0 (by decide) inX0_begin_X0 (by decide +kernel) (fun _ h9 => h9) rfl dX0_begin_26 ?_
      refine lv_iload C.1 C.2.1 dX0_begin_29 (lv_at hl 1 rfl) ?_
      refine c_statN C hW hX.2.2.2.1 (hX.1 _ (by decide +kernel)) dX0_begin_31 (fun t5 hT6 => ?_)
      refine lv_iload C.1 C.2.1 dX0_begin_34 (lv_at hl 1 rfl) ?_
      obtain ⟨hs7, h⟩ := h
      refine va_ti C.1 C.2.1 hT6 hW.2.2.2.1 hs7 rfl dX0_begin_36 ?_
      obtain ⟨hs8, h⟩ := h
      refine r_iast C hW (cA := cI) (n := 9) (f := S 5) (5) 0 (by omega) rfl rfl hs8 dX0_begin_37 (fun H locs hW => ?_)
      replace hW := gC_put (F := upd (S 5) x4.toNatClampNeg (firstV x4.toNatClampNeg)) rfl hW
      obtain ⟨S9, eS9⟩ : ∃ z : Nat → Nat → Int32, z = va_up S 5 (upd (S 5) x4.toNatClampNeg (firstV x4.toNatClampNeg)) := ⟨_, rfl⟩
      rw [← eS9] at hW
      replace h := h S9 eS9
      refine lv_aload_n C.1 C.2.1 dX0_begin_38 rfl (lv_at hl 0 rfl) ?_
      refine r_get C hW (ci := 0) (T := TX0) (n := 5) (ref := "BallMinder$Drawing") (v := .ref (q 6)) (4) (by omega) rfl rfl 1 (by decide) inX0_begin_X0 (by decide +kernel) (fun _ h9 => h9) rfl dX0_begin_39 ?_
      refine lv_iload C.1 C.2.1 dX0_begin_42 (lv_at hl 1 rfl) ?_
      refine lv_iconst (v := 0) C.1 C.2.1 dX0_begin_44 (by decide) ?_
      obtain ⟨hs10, h⟩ := h
      refine r_zast C hW (cA := cZ) (n := 9) (f := S9 6) (6) 2 (by omega) rfl rfl hs10 dX0_begin_45 (fun H locs hW => ?_)
      replace hW := gC_put (F := upd (S9 6) x4.toNatClampNeg (vp_nar .boolean (0 : Int32))) rfl hW
      obtain ⟨S11, eS11⟩ : ∃ z : Nat → Nat → Int32, z = va_up S9 6 (upd (S9 6) x4.toNatClampNeg (vp_nar .boolean (0 : Int32))) := ⟨_, rfl⟩
      rw [← eS11] at hW
      replace h := h S11 eS11
      obtain ⟨x4_12, ex4_12⟩ : ∃ z : Int32, z = x4 + (1 : Int32) := ⟨_, rfl⟩
      replace h := h x4_12 ex4_12
      refine lv_iinc (v := x4_12) (lv' := [(4, .int x4_12), (0, .ref (q 4))]) C.1 C.2.1 dX0_begin_46 hl (k := 1) rfl (by rw [ex4_12]; rfl) (by decide) rfl (fun ls hl => ?_)
      refine lv_goto (tgt := 18) C.1 C.2.1 dX0_begin_49 (by decide) ?_
      exact ih x4_12 S11 L R _ _ _ h hW (lv_sub hl [1, 0] rfl)
set_option maxRecDepth 100000 in
set_option maxHeartbeats 4000000 in
theorem sX0_begin {p : Program} {l : Launch} {e : Env} {s : State} {m : MethodId} {args : Array Value} {below : List Frame} {meth : Method} {c : Code} {D : va_G} {q : Nat → Nat} {A : Nat → Prop} {cI cJ cZ cP cS : ClassId} {K : Nat → Nat} {n : Nat} (C : CallFix p m c cX0_begin 5 s args wsX0_begin RX0) (hr : meth.sig.returnType = none) (hlk : meth.locks = false) (hX : cX A s) (Q : (Nat → Nat → Int32) → (Nat → Int64) → (Nat → Option Nat) → Prop) : ∀ (x1 : Nat) (x2 : Int32) (x3 : Int32) (S : Nat → Nat → Int32) (L : Nat → Int64) (R : Nat → Option Nat) (H : Heap) (locs : List Loc) (ls : Array Slot), vX0_begin K n x1 x2 x3 S L R Q → hw D (tyC cI cJ cZ cP cS) q (29 + 2 * n) (gC q cI cJ cZ cP cS K n S L R) A s H locs → lv_has ls 5 [(0, .ref (q 4)), (1, .ref (q (21 + 2 * x1))), (2, .int x2), (3, .int x3)] → W p l e (headSpec wsX0_begin rmX0_begin).room s m args below meth c H locs 0 0 (MQ below (QCv D q cI cJ cZ cP cS K n Q A) args s 0 0 A) (F0 m 0 ls []) := by
  intro x1 x2 x3 S L R H locs ls h hW hl
  unfold vX0_begin at h
  refine lv_aload_n C.1 C.2.1 dX0_begin_0 rfl (lv_at hl 0 rfl) ?_
  refine lv_aload_n C.1 C.2.1 dX0_begin_1 rfl (lv_at hl 1 rfl) ?_
  refine r_put C hW (ci := 0) (T := TX0) (n := 5) (ref := "BallMinder$Drawing") (4) (by omega) rfl rfl 2 (by decide) inX0_begin_X0 tyX0 tyX0_ok nmX0 (by decide +kernel) (fun _ h9 => h9) rfl rfl rfl (Nat.le_of_ble_eq_true rfl) dX0_begin_2 (fun H locs hW => ?_)
  replace hW := gC_putR (o := (some x1)) rfl hW
  obtain ⟨R1, eR1⟩ : ∃ z : Nat → Option Nat, z = va_up R 4 (some x1) := ⟨_, rfl⟩
  rw [← eR1] at hW
  replace h := h R1 eR1
  refine lv_aload_n C.1 C.2.1 dX0_begin_5 rfl (lv_at hl 0 rfl) ?_
  refine lv_iload_n C.1 C.2.1 dX0_begin_6 rfl (lv_at hl 2 rfl) ?_
  refine r_put C hW (ci := 0) (T := TX0) (n := 5) (ref := "BallMinder$Drawing") (4) (by omega) rfl rfl 3 (by decide) inX0_begin_X0 tyX0 tyX0_ok nmX0 (by decide +kernel) (fun _ h9 => h9) rfl rfl rfl (Nat.le_of_ble_eq_true rfl) dX0_begin_7 (fun H locs hW => ?_)
  replace hW := gC_put (F := upd (S 4) 3 x2) rfl hW
  obtain ⟨S2, eS2⟩ : ∃ z : Nat → Nat → Int32, z = va_up S 4 (upd (S 4) 3 x2) := ⟨_, rfl⟩
  rw [← eS2] at hW
  replace h := h S2 eS2
  refine lv_aload_n C.1 C.2.1 dX0_begin_10 rfl (lv_at hl 0 rfl) ?_
  refine lv_iload_n C.1 C.2.1 dX0_begin_11 rfl (lv_at hl 3 rfl) ?_
  refine r_put C hW (ci := 0) (T := TX0) (n := 5) (ref := "BallMinder$Drawing") (4) (by omega) rfl rfl 4 (by decide) inX0_begin_X0 tyX0 tyX0_ok nmX0 (by decide +kernel) (fun _ h9 => h9) rfl rfl rfl (Nat.le_of_ble_eq_true rfl) dX0_begin_12 (fun H locs hW => ?_)
  replace hW := gC_put (F := upd (S2 4) 4 x3) rfl hW
  obtain ⟨S3, eS3⟩ : ∃ z : Nat → Nat → Int32, z = va_up S2 4 (upd (S2 4) 4 x3) := ⟨_, rfl⟩
  rw [← eS3] at hW
  replace h := h S3 eS3
  refine lv_iconst (v := 0) C.1 C.2.1 dX0_begin_15 (by decide) ?_
  refine lv_istore (lv' := [(4, .int (0 : Int32)), (0, .ref (q 4)), (1, .ref (q (21 + 2 * x1))), (2, .int x2), (3, .int x3)]) C.1 C.2.1 dX0_begin_16 hl (by decide) rfl (fun ls hl => ?_)
  obtain ⟨n9, h⟩ := h
  exact sX0_begin_18 C hr hlk hX Q n9 (0 : Int32) S3 L R1 _ _ _ h hW (lv_sub hl [1, 0] rfl)
set_option maxRecDepth 100000 in
set_option maxHeartbeats 4000000 in
theorem mtX0_begin (l : Launch) (D : va_G) (q : Nat → Nat) (cI cJ cZ cP cS : ClassId) (K : Nat → Nat) (n : Nat) (sz : Nat) (x1 : Nat) (x2 : Int32) (x3 : Int32) (S : Nat → Nat → Int32) (L : Nat → Int64) (R : Nat → Option Nat) (Q : (Nat → Nat → Int32) → (Nat → Int64) → (Nat → Option Nat) → Prop) (h : vX0_begin K n x1 x2 x3 S L R Q) : Met l yX0_begin wsX0_begin rmX0_begin (va_Pc [.ref (q 4), .ref (q (21 + 2 * x1)), .int x2, .int x3] (mP D (tyC cI cJ cZ cP cS) q (29 + 2 * n) (gC q cI cJ cZ cP cS K n S L R) sz (cX (aQ q (29 + 2 * n) sz)))) (QCv D q cI cJ cZ cP cS K n Q (aQ q (29 + 2 * n) sz)) 0 0 (aQ q (29 + 2 * n) sz) := by
  refine met_w (cc := cX0_begin) (maxL := 5) (ret := none) (by decide) rfl (Nat.le_of_ble_eq_true rfl) ?_
  intro p e s m below meth c ls C hr hlk hW hX hnm hl
  exact sX0_begin C hr hlk hX Q x1 x2 x3 S L R _ _ _ h hW hl
