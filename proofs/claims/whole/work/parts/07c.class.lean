theorem inX10_marginOf_X10 : ∀ w ∈ wsX100, w ∈ wsX10_marginOf := fun _ h => List.mem_cons_of_mem _ (List.mem_append_left _ (List.mem_append_left _ (List.mem_append_left _ (List.mem_append_left _ (List.mem_append_right _ h)))))
theorem inX10_marginOf_X3 : ∀ w ∈ wsX30, w ∈ wsX10_marginOf := fun _ h => List.mem_cons_of_mem _ (List.mem_append_left _ (List.mem_append_left _ (List.mem_append_left _ (List.mem_append_right _ h))))
theorem inX10_marginOf_X4 : ∀ w ∈ wsX40, w ∈ wsX10_marginOf := fun _ h => List.mem_cons_of_mem _ (List.mem_append_left _ (List.mem_append_left _ (List.mem_append_right _ h)))
theorem inX10_marginOf_X7 : ∀ w ∈ wsX70, w ∈ wsX10_marginOf := fun _ h => List.mem_cons_of_mem _ (List.mem_append_left _ (List.mem_append_right _ h))
theorem inX10_marginOf_X8 : ∀ w ∈ wsX80, w ∈ wsX10_marginOf := fun _ h => List.mem_cons_of_mem _ (List.mem_append_right _ h)
abbrev rmX10_marginOf : Room := { frames := 1, cells := 0, slots := 0, locals := 27 }
def vX10_marginOf (K : Nat → Nat) (n : Nat) (x1 : Nat) (S : Nat → Nat → Int32) (L : Nat → Int64) (R : Nat → Option Nat) (Q : Int64 → (Nat → Nat → Int32) → (Nat → Int64) → (Nat → Option Nat) → Prop) : Prop := x1 < n ∧ (vX8_draw K n x1 S L R (fun S2 L3 R4 => vX8_clearance K n  S2 L3 R4 (fun r5 S6 L7 R8 => Q r5 S6 L7 R8)))
set_option maxRecDepth 100000 in
set_option maxHeartbeats 4000000 in
theorem sX10_marginOf {p : Program} {l : Launch} {e : Env} {s : State} {m : MethodId} {args : Array Value} {below : List Frame} {meth : Method} {c : Code} {D : va_G} {q : Nat → Nat} {A : Nat → Prop} {cI cJ cZ cP cS : ClassId} {K : Nat → Nat} {n : Nat} (C : CallFix p m c cX10_marginOf 2 s args wsX10_marginOf RX10) (hr : meth.sig.returnType = (some .long)) (hlk : meth.locks = false) (hX : cX A s) (Q : Int64 → (Nat → Nat → Int32) → (Nat → Int64) → (Nat → Option Nat) → Prop) : ∀ (x1 : Nat) (S : Nat → Nat → Int32) (L : Nat → Int64) (R : Nat → Option Nat) (H : Heap) (locs : List Loc) (ls : Array Slot), vX10_marginOf K n x1 S L R Q → hw D (tyC cI cJ cZ cP cS) q (29 + 2 * n) (gC q cI cJ cZ cP cS K n S L R) A s H locs → lv_has ls 2 [(0, .ref (q 0)), (1, .ref (q (29 + 2 * x1)))] → W p l e (headSpec wsX10_marginOf rmX10_marginOf).room s m args below meth c H locs 0 0 (MQ below (QCl D q cI cJ cZ cP cS K n Q A) args s 0 0 A) (F0 m 0 ls []) := by
  intro x1 S L R H locs ls h hW hl
  unfold vX10_marginOf at h
  refine lv_aload_n C.1 C.2.1 dX10_marginOf_0 rfl (lv_at hl 0 rfl) ?_
  refine r_get C hW (ci := 10) (T := TX10) (n := 11) (ref := "BallMinder") (v := .ref (q 7)) (0) (by omega) rfl rfl 4 (by decide) inX10_marginOf_X10 (by decide +kernel) (fun _ h9 => h9) rfl dX10_marginOf_1 ?_
  refine lv_aload_n C.1 C.2.1 dX10_marginOf_4 rfl (lv_at hl 1 rfl) ?_
  obtain ⟨hb1, h⟩ := h
  refine c_nums C hW hb1 inX10_marginOf_X3 inX10_marginOf_X4 inX10_marginOf_X7 (ref := "BallMinder$Plain") (by decide +kernel) (fun _ h9 => h9) dX10_marginOf_5 ?_
  refine k_v hW (va_runV (As := [.ref (q (30 + 2 * x1))]) (rest := []) C (mtX8_draw l D q cI cJ cZ cP cS K n H.size x1 S L R _ h) (cwV 1 C.2.2.2.2 gX10_marginOf_X8_draw rfl rfl rfl (by decide +kernel) ⟨Nat.le_of_ble_eq_true rfl, Nat.le_of_ble_eq_true rfl⟩) ⟨mP_blind cX_B, va_recv hW.1 hW.2.1 (ci := 8) (q0 := 7) rfl (wL_get (by omega)), fun U hU hV => ⟨rfl, hW.pre hU hV (hX.call hW hU hV)⟩⟩ rfl rfl hl.1 rfl (lv_room (Nat.le_of_ble_eq_true rfl)) dX10_marginOf_8 ⟨Nat.zero_le _, Nat.zero_le _⟩) (fun u H locs h hW => ?_)
  obtain ⟨S2, L3, R4⟩ := u
  replace hW : hw D (tyC cI cJ cZ cP cS) q (29 + 2 * n) (gC q cI cJ cZ cP cS K n S2 L3 R4) A s H locs := hW
  refine lv_aload_n C.1 C.2.1 dX10_marginOf_11 rfl (lv_at hl 0 rfl) ?_
  refine r_get C hW (ci := 10) (T := TX10) (n := 11) (ref := "BallMinder") (v := .ref (q 7)) (0) (by omega) rfl rfl 4 (by decide) inX10_marginOf_X10 (by decide +kernel) (fun _ h9 => h9) rfl dX10_marginOf_12 ?_
  refine k_l hW (va_runV (As := []) (rest := []) C (mtX8_clearance l D q cI cJ cZ cP cS K n H.size  S2 L3 R4 _ h) (cwV 0 C.2.2.2.2 gX10_marginOf_X8_clearance rfl rfl rfl (by decide +kernel) ⟨Nat.le_of_ble_eq_true rfl, Nat.le_of_ble_eq_true rfl⟩) ⟨mP_blind cX_B, va_recv hW.1 hW.2.1 (ci := 8) (q0 := 7) rfl (wL_get (by omega)), fun U hU hV => ⟨rfl, hW.pre hU hV (hX.call hW hU hV)⟩⟩ rfl rfl hl.1 rfl (lv_room (Nat.le_of_ble_eq_true rfl)) dX10_marginOf_15 ⟨Nat.zero_le _, Nat.zero_le _⟩) (fun r5 u H locs h hW => ?_)
  obtain ⟨S6, L7, R8⟩ := u
  replace hW : hw D (tyC cI cJ cZ cP cS) q (29 + 2 * n) (gC q cI cJ cZ cP cS K n S6 L7 R8) A s H locs := hW
  exact t_l C hr hlk (u := (S6, L7, R8)) hW.2.2.2.1 hW.B h dX10_marginOf_18
set_option maxRecDepth 100000 in
set_option maxHeartbeats 4000000 in
theorem mtX10_marginOf (l : Launch) (D : va_G) (q : Nat → Nat) (cI cJ cZ cP cS : ClassId) (K : Nat → Nat) (n : Nat) (sz : Nat) (x1 : Nat) (S : Nat → Nat → Int32) (L : Nat → Int64) (R : Nat → Option Nat) (Q : Int64 → (Nat → Nat → Int32) → (Nat → Int64) → (Nat → Option Nat) → Prop) (h : vX10_marginOf K n x1 S L R Q) : Met l yX10_marginOf wsX10_marginOf rmX10_marginOf (va_Pc [.ref (q 0), .ref (q (29 + 2 * x1))] (mP D (tyC cI cJ cZ cP cS) q (29 + 2 * n) (gC q cI cJ cZ cP cS K n S L R) sz (cX (aQ q (29 + 2 * n) sz)))) (QCl D q cI cJ cZ cP cS K n Q (aQ q (29 + 2 * n) sz)) 0 0 (aQ q (29 + 2 * n) sz) := by
  refine met_w (cc := cX10_marginOf) (maxL := 2) (ret := (some .long)) (by decide) rfl (Nat.le_of_ble_eq_true rfl) ?_
  intro p e s m below meth c ls C hr hlk hW hX hnm hl
  exact sX10_marginOf C hr hlk hX Q x1 S L R _ _ _ h hW hl
theorem inX10_margin_X10 : ∀ w ∈ wsX100, w ∈ wsX10_margin := fun _ h => List.mem_cons_of_mem _ (List.mem_append_left _ (List.mem_append_left _ (List.mem_append_left _ (List.mem_append_left _ (List.mem_append_right _ h)))))
theorem inX10_margin_X3 : ∀ w ∈ wsX30, w ∈ wsX10_margin := fun _ h => List.mem_cons_of_mem _ (List.mem_append_left _ (List.mem_append_left _ (List.mem_append_left _ (List.mem_append_right _ h))))
theorem inX10_margin_X4 : ∀ w ∈ wsX40, w ∈ wsX10_margin := fun _ h => List.mem_cons_of_mem _ (List.mem_append_left _ (List.mem_append_left _ (List.mem_append_right _ h)))
theorem inX10_margin_X7 : ∀ w ∈ wsX70, w ∈ wsX10_margin := fun _ h => List.mem_cons_of_mem _ (List.mem_append_left _ (List.mem_append_right _ h))
theorem inX10_margin_X8 : ∀ w ∈ wsX80, w ∈ wsX10_margin := fun _ h => List.mem_cons_of_mem _ (List.mem_append_right _ h)
abbrev rmX10_margin : Room := { frames := 2, cells := 0, slots := 0, locals := 48 }
def vX10_margin (K : Nat → Nat) (n : Nat) (x1 : Int32) (S : Nat → Nat → Int32) (L : Nat → Int64) (R : Nat → Option Nat) (Q : Int64 → (Nat → Nat → Int32) → (Nat → Int64) → (Nat → Option Nat) → Prop) : Prop := vX10_millOf K n x1 S L R (fun o1 S2 L3 R4 => (o1 = none → Q (-9223372036854775808 : Int64) S2 L3 R4) ∧ (∀ mi5 : Nat, o1 = some mi5 → vX10_marginOf K n mi5 S2 L3 R4 (fun r6 S7 L8 R9 => Q r6 S7 L8 R9)))
set_option maxRecDepth 100000 in
set_option maxHeartbeats 4000000 in
theorem sX10_margin {p : Program} {l : Launch} {e : Env} {s : State} {m : MethodId} {args : Array Value} {below : List Frame} {meth : Method} {c : Code} {D : va_G} {q : Nat → Nat} {A : Nat → Prop} {cI cJ cZ cP cS : ClassId} {K : Nat → Nat} {n : Nat} (C : CallFix p m c cX10_margin 3 s args wsX10_margin RX10) (hr : meth.sig.returnType = (some .long)) (hlk : meth.locks = false) (hX : cX A s) (Q : Int64 → (Nat → Nat → Int32) → (Nat → Int64) → (Nat → Option Nat) → Prop) : ∀ (x1 : Int32) (S : Nat → Nat → Int32) (L : Nat → Int64) (R : Nat → Option Nat) (H : Heap) (locs : List Loc) (ls : Array Slot), vX10_margin K n x1 S L R Q → hw D (tyC cI cJ cZ cP cS) q (29 + 2 * n) (gC q cI cJ cZ cP cS K n S L R) A s H locs → lv_has ls 3 [(0, .ref (q 0)), (1, .int x1)] → W p l e (headSpec wsX10_margin rmX10_margin).room s m args below meth c H locs 0 0 (MQ below (QCl D q cI cJ cZ cP cS K n Q A) args s 0 0 A) (F0 m 0 ls []) := by
  intro x1 S L R H locs ls h hW hl
  unfold vX10_margin at h
  refine lv_aload_n C.1 C.2.1 dX10_margin_0 rfl (lv_at hl 0 rfl) ?_
  refine lv_iload_n C.1 C.2.1 dX10_margin_1 rfl (lv_at hl 1 rfl) ?_
  refine k_q hW (va_runV (As := [.int x1]) (rest := []) C (mtX10_millOf l D q cI cJ cZ cP cS K n H.size x1 S L R _ h) (cwV 1 C.2.2.2.2 gX10_margin_X10_millOf rfl rfl rfl (by decide +kernel) ⟨Nat.le_of_ble_eq_true rfl, Nat.le_of_ble_eq_true rfl⟩) ⟨mP_blind cX_B, va_recv hW.1 hW.2.1 (ci := 10) (q0 := 0) rfl (wL_get (by omega)), fun U hU hV => ⟨rfl, hW.pre hU hV (hX.call hW hU hV)⟩⟩ rfl rfl hl.1 rfl (lv_room (Nat.le_of_ble_eq_true rfl)) dX10_margin_2 ⟨Nat.zero_le _, Nat.zero_le _⟩) (fun r9 u H locs h hW => ?_)
  obtain ⟨S2, L3, R4⟩ := u
  obtain ⟨o1, rfl, h⟩ := h
  replace hW : hw D (tyC cI cJ cZ cP cS) q (29 + 2 * n) (gC q cI cJ cZ cP cS K n S2 L3 R4) A s H locs := hW
  refine cv_astore_n (lv' := [(2, va_rf (Option.map (qM q) o1)), (0, .ref (q 0)), (1, .int x1)]) C.1 C.2.1 dX10_margin_5 rfl hl (by decide) rfl (fun ls hl => ?_)
  refine cv_aload_n C.1 C.2.1 dX10_margin_6 rfl (lv_at hl 0 rfl) ?_
  rcases o1 with _ | mi5
  · replace h := h.1 rfl
    replace hl : lv_has ls 3 [(2, .null), (0, .ref (q 0)), (1, .int x1)] := hl
    refine lv_ifnonnullN C.1 C.2.1 dX10_margin_7 ?_
    refine lv_ldc2 (v := (-9223372036854775808)) C.1 C.2.1 C.2.2.2.1 (C.2.2.2.2 (.constantLong RX10 112 (-9223372036854775808)) (by decide +kernel)) dX10_margin_10 ?_
    refine lv_goto (tgt := 21) C.1 C.2.1 dX10_margin_13 (by decide) ?_
    exact t_l C hr hlk (u := (S2, L3, R4)) hW.2.2.2.1 hW.B h dX10_margin_21
  · replace h := h.2 mi5 rfl
    replace hl : lv_has ls 3 [(2, .ref (q (29 + 2 * mi5))), (0, .ref (q 0)), (1, .int x1)] := hl
    refine lv_ifnonnull (tgt := 16) C.1 C.2.1 dX10_margin_7 (by decide) ?_
    refine lv_aload_n C.1 C.2.1 dX10_margin_16 rfl (lv_at hl 1 rfl) ?_
    refine lv_aload_n C.1 C.2.1 dX10_margin_17 rfl (lv_at hl 0 rfl) ?_
    refine k_l hW (va_runV (As := [.ref (q (29 + 2 * mi5))]) (rest := []) C (mtX10_marginOf l D q cI cJ cZ cP cS K n H.size mi5 S2 L3 R4 _ h) (cwV 1 C.2.2.2.2 gX10_margin_X10_marginOf rfl rfl rfl (by decide +kernel) ⟨Nat.le_of_ble_eq_true rfl, Nat.le_of_ble_eq_true rfl⟩) ⟨mP_blind cX_B, va_recv hW.1 hW.2.1 (ci := 10) (q0 := 0) rfl (wL_get (by omega)), fun U hU hV => ⟨rfl, hW.pre hU hV (hX.call hW hU hV)⟩⟩ rfl rfl hl.1 rfl (lv_room (Nat.le_of_ble_eq_true rfl)) dX10_margin_18 ⟨Nat.zero_le _, Nat.zero_le _⟩) (fun r6 u H locs h hW => ?_)
    obtain ⟨S7, L8, R9⟩ := u
    replace hW : hw D (tyC cI cJ cZ cP cS) q (29 + 2 * n) (gC q cI cJ cZ cP cS K n S7 L8 R9) A s H locs := hW
    exact t_l C hr hlk (u := (S7, L8, R9)) hW.2.2.2.1 hW.B h dX10_margin_21
set_option maxRecDepth 100000 in
set_option maxHeartbeats 4000000 in
theorem mtX10_margin (l : Launch) (D : va_G) (q : Nat → Nat) (cI cJ cZ cP cS : ClassId) (K : Nat → Nat) (n : Nat) (sz : Nat) (x1 : Int32) (S : Nat → Nat → Int32) (L : Nat → Int64) (R : Nat → Option Nat) (Q : Int64 → (Nat → Nat → Int32) → (Nat → Int64) → (Nat → Option Nat) → Prop) (h : vX10_margin K n x1 S L R Q) : Met l yX10_margin wsX10_margin rmX10_margin (va_Pc [.ref (q 0), .int x1] (mP D (tyC cI cJ cZ cP cS) q (29 + 2 * n) (gC q cI cJ cZ cP cS K n S L R) sz (cX (aQ q (29 + 2 * n) sz)))) (QCl D q cI cJ cZ cP cS K n Q (aQ q (29 + 2 * n) sz)) 0 0 (aQ q (29 + 2 * n) sz) := by
  refine met_w (cc := cX10_margin) (maxL := 3) (ret := (some .long)) (by decide) rfl (Nat.le_of_ble_eq_true rfl) ?_
  intro p e s m below meth c ls C hr hlk hW hX hnm hl
  exact sX10_margin C hr hlk hX Q x1 S L R _ _ _ h hW hl
theorem inX8_standing_X8 : ∀ w ∈ wsX80, w ∈ wsX8_standing := fun _ h => List.mem_cons_of_mem _ (List.mem_append_right _ h)
abbrev rmX8_standing : Room := { frames := 1, cells := 0, slots := 0, locals := 20 }
def vX8_standing_2 (K : Nat → Nat) (n : Nat) (Q : Int32 → (Nat → Nat → Int32) → (Nat → Int64) → (Nat → Option Nat) → Prop) : Nat → Int32 → (Nat → Nat → Int32) → (Nat → Int64) → (Nat → Option Nat) → Prop
  | 0, _, _, _, _ => False
  | fu+1, x1, S, L, R => ((S 7 1) < x1 → vX8_clearance K n  S L R (fun r2 S3 L4 R5 => (¬ r2 = (0 : Int64) → (r2 ≤ (0 : Int64) → Q (0 : Int32) S3 L4 R5) ∧ (¬ (r2 ≤ (0 : Int64)) → Q (2 : Int32) S3 L4 R5)) ∧ (r2 = (0 : Int64) → Q (1 : Int32) S3 L4 R5))) ∧ (¬ ((S 7 1) < x1) → vp_in x1 5 ∧ (((0 : Int64) < (L x1.toNatClampNeg) → ∀ x1_10 : Int32, x1_10 = x1 + (1 : Int32) → vX8_standing_2 K n Q fu x1_10 S L R) ∧ (¬ ((0 : Int64) < (L x1.toNatClampNeg)) → Q (0 : Int32) S L R)))
def vX8_standing (K : Nat → Nat) (n : Nat) (S : Nat → Nat → Int32) (L : Nat → Int64) (R : Nat → Option Nat) (Q : Int32 → (Nat → Nat → Int32) → (Nat → Int64) → (Nat → Option Nat) → Prop) : Prop := ∃ n2, vX8_standing_2 K n Q n2 (0 : Int32) S L R
set_option maxRecDepth 100000 in
set_option maxHeartbeats 4000000 in
theorem sX8_standing_2 {p : Program} {l : Launch} {e : Env} {s : State} {m : MethodId} {args : Array Value} {below : List Frame} {meth : Method} {c : Code} {D : va_G} {q : Nat → Nat} {A : Nat → Prop} {cI cJ cZ cP cS : ClassId} {K : Nat → Nat} {n : Nat} (C : CallFix p m c cX8_standing 3 s args wsX8_standing RX8) (hr : meth.sig.returnType = (some .int)) (hlk : meth.locks = false) (hX : cX A s) (Q : Int32 → (Nat → Nat → Int32) → (Nat → Int64) → (Nat → Option Nat) → Prop) : ∀ (fu : Nat) (x1 : Int32) (S : Nat → Nat → Int32) (L : Nat → Int64) (R : Nat → Option Nat) (H : Heap) (locs : List Loc) (ls : Array Slot), vX8_standing_2 K n Q fu x1 S L R → hw D (tyC cI cJ cZ cP cS) q (29 + 2 * n) (gC q cI cJ cZ cP cS K n S L R) A s H locs → lv_has ls 3 [(0, .ref (q 7)), (1, .int x1)] → W p l e (headSpec wsX8_standing rmX8_standing).room s m args below meth c H locs 0 0 (MQ below (QCi D q cI cJ cZ cP cS K n Q A) args s 0 0 A) (F0 m 2 ls []) := by
  intro fu
  induction fu with
  | zero =>
    intro x1 S L R H locs ls h
    exact h.elim
  | succ fu ih =>
    intro x1 S L R H locs ls h hW hl
    refine lv_iload_n C.1 C.2.1 dX8_standing_2 rfl (lv_at hl 1 rfl) ?_
    refine lv_aload_n C.1 C.2.1 dX8_standing_3 rfl (lv_at hl 0 rfl) ?_
    refine r_get C hW (ci := 8) (T := TX8) (n := 2) (ref := "BallMinder$Sums") (v := .int (S 7 1)) (7) (by omega) rfl rfl 1 (by decide) inX8_standing_X8 (by decide +kernel) (fun _ h9 => h9) rfl dX8_standing_4 ?_
    refine lv_icmp_gt (tgt := 29) C.1 C.2.1 dX8_standing_7 (by decide) (fun c1 => ?_) (fun c1 => ?_)
    · replace h := h.1 c1
      refine lv_aload_n C.1 C.2.1 dX8_standing_29 rfl (lv_at hl 0 rfl) ?_
      refine k_l hW (va_runV (As := []) (rest := []) C (mtX8_clearance l D q cI cJ cZ cP cS K n H.size  S L R _ h) (cwV 0 C.2.2.2.2 gX8_standing_X8_clearance rfl rfl rfl (by decide +kernel) ⟨Nat.le_of_ble_eq_true rfl, Nat.le_of_ble_eq_true rfl⟩) ⟨mP_blind cX_B, va_recv hW.1 hW.2.1 (ci := 8) (q0 := 7) rfl (wL_get (by omega)), fun U hU hV => ⟨rfl, hW.pre hU hV (hX.call hW hU hV)⟩⟩ rfl rfl hl.1 rfl (lv_room (Nat.le_of_ble_eq_true rfl)) dX8_standing_30 ⟨Nat.zero_le _, Nat.zero_le _⟩) (fun r2 u H locs h hW => ?_)
      obtain ⟨S3, L4, R5⟩ := u
      replace hW : hw D (tyC cI cJ cZ cP cS) q (29 + 2 * n) (gC q cI cJ cZ cP cS K n S3 L4 R5) A s H locs := hW
      refine lv_lstore_n (lv' := [(1, .long r2), (0, .ref (q 7))]) C.1 C.2.1 dX8_standing_33 rfl hl (by decide) rfl (fun ls hl => ?_)
      refine lv_lload_n C.1 C.2.1 dX8_standing_34 rfl (lv_at hl 0 rfl) ?_
      refine lv_lconst (v := 0) C.1 C.2.1 dX8_standing_35 (by decide) ?_
      refine W.lcmp C.1 C.2.1 dX8_standing_36 ?_
      refine lv_if_ne (tgt := 42) C.1 C.2.1 dX8_standing_37 (by decide) (fun c6 => ?_) (fun c6 => ?_)
      · replace h := h.1 (lc_ne.mp c6)
        refine lv_lload_n C.1 C.2.1 dX8_standing_42 rfl (lv_at hl 0 rfl) ?_
        refine lv_lconst (v := 0) C.1 C.2.1 dX8_standing_43 (by decide) ?_
        refine W.lcmp C.1 C.2.1 dX8_standing_44 ?_
        refine lv_if_le (tgt := 52) C.1 C.2.1 dX8_standing_45 (by decide) (fun c7 => ?_) (fun c7 => ?_)
        · replace h := h.1 (lc_le.mp c7)
          refine lv_iconst (v := 0) C.1 C.2.1 dX8_standing_52 (by decide) ?_
          exact t_i C hr hlk (u := (S3, L4, R5)) hW.2.2.2.1 hW.B h dX8_standing_53
        · replace h := h.2 (fun z => c7 (lc_le.mpr z))
          refine lv_iconst (v := 2) C.1 C.2.1 dX8_standing_48 (by decide) ?_
          refine lv_goto (tgt := 53) C.1 C.2.1 dX8_standing_49 (by decide) ?_
          exact t_i C hr hlk (u := (S3, L4, R5)) hW.2.2.2.1 hW.B h dX8_standing_53
      · replace h := h.2 (lc_eq.mp c6)
        refine lv_iconst (v := 1) C.1 C.2.1 dX8_standing_40 (by decide) ?_
        exact t_i C hr hlk (u := (S3, L4, R5)) hW.2.2.2.1 hW.B h dX8_standing_41
    · replace h := h.2 c1
      refine lv_aload_n C.1 C.2.1 dX8_standing_10 rfl (lv_at hl 0 rfl) ?_
      refine r_get C hW (ci := 8) (T := TX8) (n := 2) (ref := "BallMinder$Sums") (v := .ref (q 8)) (7) (by omega) rfl rfl 0 (by decide) inX8_standing_X8 (by decide +kernel) (fun _ h9 => h9) rfl dX8_standing_11 ?_
      refine lv_iload_n C.1 C.2.1 dX8_standing_14 rfl (lv_at hl 1 rfl) ?_
      obtain ⟨hs8, h⟩ := h
      refine r_lald C hW (cA := cJ) (n := 5) (f := L) (8) 1 (by omega) rfl rfl hs8 dX8_standing_15 ?_
      refine lv_lconst (v := 0) C.1 C.2.1 dX8_standing_16 (by decide) ?_
      refine W.lcmp C.1 C.2.1 dX8_standing_17 ?_
      refine lv_if_gt (tgt := 23) C.1 C.2.1 dX8_standing_18 (by decide) (fun c9 => ?_) (fun c9 => ?_)
      · replace h := h.1 (lc_gt.mp c9)
        obtain ⟨x1_10, ex1_10⟩ : ∃ z : Int32, z = x1 + (1 : Int32) := ⟨_, rfl⟩
        replace h := h x1_10 ex1_10
        refine lv_iinc (v := x1_10) (lv' := [(1, .int x1_10), (0, .ref (q 7))]) C.1 C.2.1 dX8_standing_23 hl (k := 1) rfl (by rw [ex1_10]; rfl) (by decide) rfl (fun ls hl => ?_)
        refine lv_goto (tgt := 2) C.1 C.2.1 dX8_standing_26 (by decide) ?_
        exact ih x1_10 S L R _ _ _ h hW (lv_sub hl [1, 0] rfl)
      · replace h := h.2 (fun z => c9 (lc_gt.mpr z))
        refine lv_iconst (v := 0) C.1 C.2.1 dX8_standing_21 (by decide) ?_
        exact t_i C hr hlk (u := (S, L, R)) hW.2.2.2.1 hW.B h dX8_standing_22
set_option maxRecDepth 100000 in
set_option maxHeartbeats 4000000 in
theorem sX8_standing {p : Program} {l : Launch} {e : Env} {s : State} {m : MethodId} {args : Array Value} {below : List Frame} {meth : Method} {c : Code} {D : va_G} {q : Nat → Nat} {A : Nat → Prop} {cI cJ cZ cP cS : ClassId} {K : Nat → Nat} {n : Nat} (C : CallFix p m c cX8_standing 3 s args wsX8_standing RX8) (hr : meth.sig.returnType = (some .int)) (hlk : meth.locks = false) (hX : cX A s) (Q : Int32 → (Nat → Nat → Int32) → (Nat → Int64) → (Nat → Option Nat) → Prop) : ∀ (S : Nat → Nat → Int32) (L : Nat → Int64) (R : Nat → Option Nat) (H : Heap) (locs : List Loc) (ls : Array Slot), vX8_standing K n S L R Q → hw D (tyC cI cJ cZ cP cS) q (29 + 2 * n) (gC q cI cJ cZ cP cS K n S L R) A s H locs → lv_has ls 3 [(0, .ref (q 7))] → W p l e (headSpec wsX8_standing rmX8_standing).room s m args below meth c H locs 0 0 (MQ below (QCi D q cI cJ cZ cP cS K n Q A) args s 0 0 A) (F0 m 0 ls []) := by
  intro S L R H locs ls h hW hl
  unfold vX8_standing at h
  refine lv_iconst (v := 0) C.1 C.2.1 dX8_standing_0 (by decide) ?_
  refine lv_istore_n (lv' := [(1, .int (0 : Int32)), (0, .ref (q 7))]) C.1 C.2.1 dX8_standing_1 rfl hl (by decide) rfl (fun ls hl => ?_)
  obtain ⟨n9, h⟩ := h
  exact sX8_standing_2 C hr hlk hX Q n9 (0 : Int32) S L R _ _ _ h hW (lv_sub hl [1, 0] rfl)
set_option maxRecDepth 100000 in
set_option maxHeartbeats 4000000 in
theorem mtX8_standing (l : Launch) (D : va_G) (q : Nat → Nat) (cI cJ cZ cP cS : ClassId) (K : Nat → Nat) (n : Nat) (sz : Nat) (S : Nat → Nat → Int32) (L : Nat → Int64) (R : Nat → Option Nat) (Q : Int32 → (Nat → Nat → Int32) → (Nat → Int64) → (Nat → Option Nat) → Prop) (h : vX8_standing K n S L R Q) : Met l yX8_standing wsX8_standing rmX8_standing (va_Pc [.ref (q 7)] (mP D (tyC cI cJ cZ cP cS) q (29 + 2 * n) (gC q cI cJ cZ cP cS K n S L R) sz (cX (aQ q (29 + 2 * n) sz)))) (QCi D q cI cJ cZ cP cS K n Q (aQ q (29 + 2 * n) sz)) 0 0 (aQ q (29 + 2 * n) sz) := by
  refine met_w (cc := cX8_standing) (maxL := 3) (ret := (some .int)) (by decide) rfl (Nat.le_of_ble_eq_true rfl) ?_
  intro p e s m below meth c ls C hr hlk hW hX hnm hl
  exact sX8_standing C hr hlk hX Q S L R _ _ _ h hW hl
theorem inX10_standingOf_X10 : ∀ w ∈ wsX100, w ∈ wsX10_standingOf := fun _ h => List.mem_cons_of_mem _ (List.mem_append_left _ (List.mem_append_left _ (List.mem_append_left _ (List.mem_append_left _ (List.mem_append_right _ h)))))
theorem inX10_standingOf_X3 : ∀ w ∈ wsX30, w ∈ wsX10_standingOf := fun _ h => List.mem_cons_of_mem _ (List.mem_append_left _ (List.mem_append_left _ (List.mem_append_left _ (List.mem_append_right _ h))))
theorem inX10_standingOf_X4 : ∀ w ∈ wsX40, w ∈ wsX10_standingOf := fun _ h => List.mem_cons_of_mem _ (List.mem_append_left _ (List.mem_append_left _ (List.mem_append_right _ h)))
theorem inX10_standingOf_X7 : ∀ w ∈ wsX70, w ∈ wsX10_standingOf := fun _ h => List.mem_cons_of_mem _ (List.mem_append_left _ (List.mem_append_right _ h))
theorem inX10_standingOf_X8 : ∀ w ∈ wsX80, w ∈ wsX10_standingOf := fun _ h => List.mem_cons_of_mem _ (List.mem_append_right _ h)
abbrev rmX10_standingOf : Room := { frames := 2, cells := 0, slots := 0, locals := 42 }
def vX10_standingOf (K : Nat → Nat) (n : Nat) (x1 : Nat) (S : Nat → Nat → Int32) (L : Nat → Int64) (R : Nat → Option Nat) (Q : Int32 → (Nat → Nat → Int32) → (Nat → Int64) → (Nat → Option Nat) → Prop) : Prop := x1 < n ∧ (vX8_draw K n x1 S L R (fun S2 L3 R4 => vX8_standing K n  S2 L3 R4 (fun r5 S6 L7 R8 => Q r5 S6 L7 R8)))
set_option maxRecDepth 100000 in
set_option maxHeartbeats 4000000 in
theorem sX10_standingOf {p : Program} {l : Launch} {e : Env} {s : State} {m : MethodId} {args : Array Value} {below : List Frame} {meth : Method} {c : Code} {D : va_G} {q : Nat → Nat} {A : Nat → Prop} {cI cJ cZ cP cS : ClassId} {K : Nat → Nat} {n : Nat} (C : CallFix p m c cX10_standingOf 2 s args wsX10_standingOf RX10) (hr : meth.sig.returnType = (some .int)) (hlk : meth.locks = false) (hX : cX A s) (Q : Int32 → (Nat → Nat → Int32) → (Nat → Int64) → (Nat → Option Nat) → Prop) : ∀ (x1 : Nat) (S : Nat → Nat → Int32) (L : Nat → Int64) (R : Nat → Option Nat) (H : Heap) (locs : List Loc) (ls : Array Slot), vX10_standingOf K n x1 S L R Q → hw D (tyC cI cJ cZ cP cS) q (29 + 2 * n) (gC q cI cJ cZ cP cS K n S L R) A s H locs → lv_has ls 2 [(0, .ref (q 0)), (1, .ref (q (29 + 2 * x1)))] → W p l e (headSpec wsX10_standingOf rmX10_standingOf).room s m args below meth c H locs 0 0 (MQ below (QCi D q cI cJ cZ cP cS K n Q A) args s 0 0 A) (F0 m 0 ls []) := by
  intro x1 S L R H locs ls h hW hl
  unfold vX10_standingOf at h
  refine lv_aload_n C.1 C.2.1 dX10_standingOf_0 rfl (lv_at hl 0 rfl) ?_
  refine r_get C hW (ci := 10) (T := TX10) (n := 11) (ref := "BallMinder") (v := .ref (q 7)) (0) (by omega) rfl rfl 4 (by decide) inX10_standingOf_X10 (by decide +kernel) (fun _ h9 => h9) rfl dX10_standingOf_1 ?_
  refine lv_aload_n C.1 C.2.1 dX10_standingOf_4 rfl (lv_at hl 1 rfl) ?_
  obtain ⟨hb1, h⟩ := h
  refine c_nums C hW hb1 inX10_standingOf_X3 inX10_standingOf_X4 inX10_standingOf_X7 (ref := "BallMinder$Plain") (by decide +kernel) (fun _ h9 => h9) dX10_standingOf_5 ?_
  refine k_v hW (va_runV (As := [.ref (q (30 + 2 * x1))]) (rest := []) C (mtX8_draw l D q cI cJ cZ cP cS K n H.size x1 S L R _ h) (cwV 1 C.2.2.2.2 gX10_standingOf_X8_draw rfl rfl rfl (by decide +kernel) ⟨Nat.le_of_ble_eq_true rfl, Nat.le_of_ble_eq_true rfl⟩) ⟨mP_blind cX_B, va_recv hW.1 hW.2.1 (ci := 8) (q0 := 7) rfl (wL_get (by omega)), fun U hU hV => ⟨rfl, hW.pre hU hV (hX.call hW hU hV)⟩⟩ rfl rfl hl.1 rfl (lv_room (Nat.le_of_ble_eq_true rfl)) dX10_standingOf_8 ⟨Nat.zero_le _, Nat.zero_le _⟩) (fun u H locs h hW => ?_)
  obtain ⟨S2, L3, R4⟩ := u
  replace hW : hw D (tyC cI cJ cZ cP cS) q (29 + 2 * n) (gC q cI cJ cZ cP cS K n S2 L3 R4) A s H locs := hW
  refine lv_aload_n C.1 C.2.1 dX10_standingOf_11 rfl (lv_at hl 0 rfl) ?_
  refine r_get C hW (ci := 10) (T := TX10) (n := 11) (ref := "BallMinder") (v := .ref (q 7)) (0) (by omega) rfl rfl 4 (by decide) inX10_standingOf_X10 (by decide +kernel) (fun _ h9 => h9) rfl dX10_standingOf_12 ?_
  refine k_i hW (va_runV (As := []) (rest := []) C (mtX8_standing l D q cI cJ cZ cP cS K n H.size  S2 L3 R4 _ h) (cwV 0 C.2.2.2.2 gX10_standingOf_X8_standing rfl rfl rfl (by decide +kernel) ⟨Nat.le_of_ble_eq_true rfl, Nat.le_of_ble_eq_true rfl⟩) ⟨mP_blind cX_B, va_recv hW.1 hW.2.1 (ci := 8) (q0 := 7) rfl (wL_get (by omega)), fun U hU hV => ⟨rfl, hW.pre hU hV (hX.call hW hU hV)⟩⟩ rfl rfl hl.1 rfl (lv_room (Nat.le_of_ble_eq_true rfl)) dX10_standingOf_15 ⟨Nat.zero_le _, Nat.zero_le _⟩) (fun r5 u H locs h hW => ?_)
  obtain ⟨S6, L7, R8⟩ := u
  replace hW : hw D (tyC cI cJ cZ cP cS) q (29 + 2 * n) (gC q cI cJ cZ cP cS K n S6 L7 R8) A s H locs := hW
  exact t_i C hr hlk (u := (S6, L7, R8)) hW.2.2.2.1 hW.B h dX10_standingOf_18
set_option maxRecDepth 100000 in
set_option maxHeartbeats 4000000 in
theorem mtX10_standingOf (l : Launch) (D : va_G) (q : Nat → Nat) (cI cJ cZ cP cS : ClassId) (K : Nat → Nat) (n : Nat) (sz : Nat) (x1 : Nat) (S : Nat → Nat → Int32) (L : Nat → Int64) (R : Nat → Option Nat) (Q : Int32 → (Nat → Nat → Int32) → (Nat → Int64) → (Nat → Option Nat) → Prop) (h : vX10_standingOf K n x1 S L R Q) : Met l yX10_standingOf wsX10_standingOf rmX10_standingOf (va_Pc [.ref (q 0), .ref (q (29 + 2 * x1))] (mP D (tyC cI cJ cZ cP cS) q (29 + 2 * n) (gC q cI cJ cZ cP cS K n S L R) sz (cX (aQ q (29 + 2 * n) sz)))) (QCi D q cI cJ cZ cP cS K n Q (aQ q (29 + 2 * n) sz)) 0 0 (aQ q (29 + 2 * n) sz) := by
  refine met_w (cc := cX10_standingOf) (maxL := 2) (ret := (some .int)) (by decide) rfl (Nat.le_of_ble_eq_true rfl) ?_
  intro p e s m below meth c ls C hr hlk hW hX hnm hl
  exact sX10_standingOf C hr hlk hX Q x1 S L R _ _ _ h hW hl
theorem inX10_near_X10 : ∀ w ∈ wsX100, w ∈ wsX10_near := fun _ h => List.mem_cons_of_mem _ (List.mem_append_left _ (List.mem_append_left _ (List.mem_append_left _ (List.mem_append_left _ (List.mem_append_right _ h)))))
theorem inX10_near_X3 : ∀ w ∈ wsX30, w ∈ wsX10_near := fun _ h => List.mem_cons_of_mem _ (List.mem_append_left _ (List.mem_append_left _ (List.mem_append_left _ (List.mem_append_right _ h))))
theorem inX10_near_X4 : ∀ w ∈ wsX40, w ∈ wsX10_near := fun _ h => List.mem_cons_of_mem _ (List.mem_append_left _ (List.mem_append_left _ (List.mem_append_right _ h)))
theorem inX10_near_X7 : ∀ w ∈ wsX70, w ∈ wsX10_near := fun _ h => List.mem_cons_of_mem _ (List.mem_append_left _ (List.mem_append_right _ h))
theorem inX10_near_X8 : ∀ w ∈ wsX80, w ∈ wsX10_near := fun _ h => List.mem_cons_of_mem _ (List.mem_append_right _ h)
abbrev rmX10_near : Room := { frames := 3, cells := 0, slots := 0, locals := 63 }
def vX10_near (K : Nat → Nat) (n : Nat) (x1 : Int32) (S : Nat → Nat → Int32) (L : Nat → Int64) (R : Nat → Option Nat) (Q : Int32 → (Nat → Nat → Int32) → (Nat → Int64) → (Nat → Option Nat) → Prop) : Prop := vX10_millOf K n x1 S L R (fun o1 S2 L3 R4 => (o1 = none → Q (-1 : Int32) S2 L3 R4) ∧ (∀ mi5 : Nat, o1 = some mi5 → vX10_standingOf K n mi5 S2 L3 R4 (fun r6 S7 L8 R9 => Q r6 S7 L8 R9)))
set_option maxRecDepth 100000 in
set_option maxHeartbeats 4000000 in
theorem sX10_near {p : Program} {l : Launch} {e : Env} {s : State} {m : MethodId} {args : Array Value} {below : List Frame} {meth : Method} {c : Code} {D : va_G} {q : Nat → Nat} {A : Nat → Prop} {cI cJ cZ cP cS : ClassId} {K : Nat → Nat} {n : Nat} (C : CallFix p m c cX10_near 3 s args wsX10_near RX10) (hr : meth.sig.returnType = (some .int)) (hlk : meth.locks = false) (hX : cX A s) (Q : Int32 → (Nat → Nat → Int32) → (Nat → Int64) → (Nat → Option Nat) → Prop) : ∀ (x1 : Int32) (S : Nat → Nat → Int32) (L : Nat → Int64) (R : Nat → Option Nat) (H : Heap) (locs : List Loc) (ls : Array Slot), vX10_near K n x1 S L R Q → hw D (tyC cI cJ cZ cP cS) q (29 + 2 * n) (gC q cI cJ cZ cP cS K n S L R) A s H locs → lv_has ls 3 [(0, .ref (q 0)), (1, .int x1)] → W p l e (headSpec wsX10_near rmX10_near).room s m args below meth c H locs 0 0 (MQ below (QCi D q cI cJ cZ cP cS K n Q A) args s 0 0 A) (F0 m 0 ls []) := by
  intro x1 S L R H locs ls h hW hl
  unfold vX10_near at h
  refine lv_aload_n C.1 C.2.1 dX10_near_0 rfl (lv_at hl 0 rfl) ?_
  refine lv_iload_n C.1 C.2.1 dX10_near_1 rfl (lv_at hl 1 rfl) ?_
  refine k_q hW (va_runV (As := [.int x1]) (rest := []) C (mtX10_millOf l D q cI cJ cZ cP cS K n H.size x1 S L R _ h) (cwV 1 C.2.2.2.2 gX10_near_X10_millOf rfl rfl rfl (by decide +kernel) ⟨Nat.le_of_ble_eq_true rfl, Nat.le_of_ble_eq_true rfl⟩) ⟨mP_blind cX_B, va_recv hW.1 hW.2.1 (ci := 10) (q0 := 0) rfl (wL_get (by omega)), fun U hU hV => ⟨rfl, hW.pre hU hV (hX.call hW hU hV)⟩⟩ rfl rfl hl.1 rfl (lv_room (Nat.le_of_ble_eq_true rfl)) dX10_near_2 ⟨Nat.zero_le _, Nat.zero_le _⟩) (fun r9 u H locs h hW => ?_)
  obtain ⟨S2, L3, R4⟩ := u
  obtain ⟨o1, rfl, h⟩ := h
  replace hW : hw D (tyC cI cJ cZ cP cS) q (29 + 2 * n) (gC q cI cJ cZ cP cS K n S2 L3 R4) A s H locs := hW
  refine cv_astore_n (lv' := [(2, va_rf (Option.map (qM q) o1)), (0, .ref (q 0)), (1, .int x1)]) C.1 C.2.1 dX10_near_5 rfl hl (by decide) rfl (fun ls hl => ?_)
  refine cv_aload_n C.1 C.2.1 dX10_near_6 rfl (lv_at hl 0 rfl) ?_
  rcases o1 with _ | mi5
  · replace h := h.1 rfl
    replace hl : lv_has ls 3 [(2, .null), (0, .ref (q 0)), (1, .int x1)] := hl
    refine lv_ifnonnullN C.1 C.2.1 dX10_near_7 ?_
    refine lv_iconst (v := -1) C.1 C.2.1 dX10_near_10 (by decide) ?_
    refine lv_goto (tgt := 19) C.1 C.2.1 dX10_near_11 (by decide) ?_
    exact t_i C hr hlk (u := (S2, L3, R4)) hW.2.2.2.1 hW.B h dX10_near_19
  · replace h := h.2 mi5 rfl
    replace hl : lv_has ls 3 [(2, .ref (q (29 + 2 * mi5))), (0, .ref (q 0)), (1, .int x1)] := hl
    refine lv_ifnonnull (tgt := 14) C.1 C.2.1 dX10_near_7 (by decide) ?_
    refine lv_aload_n C.1 C.2.1 dX10_near_14 rfl (lv_at hl 1 rfl) ?_
    refine lv_aload_n C.1 C.2.1 dX10_near_15 rfl (lv_at hl 0 rfl) ?_
    refine k_i hW (va_runV (As := [.ref (q (29 + 2 * mi5))]) (rest := []) C (mtX10_standingOf l D q cI cJ cZ cP cS K n H.size mi5 S2 L3 R4 _ h) (cwV 1 C.2.2.2.2 gX10_near_X10_standingOf rfl rfl rfl (by decide +kernel) ⟨Nat.le_of_ble_eq_true rfl, Nat.le_of_ble_eq_true rfl⟩) ⟨mP_blind cX_B, va_recv hW.1 hW.2.1 (ci := 10) (q0 := 0) rfl (wL_get (by omega)), fun U hU hV => ⟨rfl, hW.pre hU hV (hX.call hW hU hV)⟩⟩ rfl rfl hl.1 rfl (lv_room (Nat.le_of_ble_eq_true rfl)) dX10_near_16 ⟨Nat.zero_le _, Nat.zero_le _⟩) (fun r6 u H locs h hW => ?_)
    obtain ⟨S7, L8, R9⟩ := u
    replace hW : hw D (tyC cI cJ cZ cP cS) q (29 + 2 * n) (gC q cI cJ cZ cP cS K n S7 L8 R9) A s H locs := hW
    exact t_i C hr hlk (u := (S7, L8, R9)) hW.2.2.2.1 hW.B h dX10_near_19
set_option maxRecDepth 100000 in
set_option maxHeartbeats 4000000 in
theorem mtX10_near (l : Launch) (D : va_G) (q : Nat → Nat) (cI cJ cZ cP cS : ClassId) (K : Nat → Nat) (n : Nat) (sz : Nat) (x1 : Int32) (S : Nat → Nat → Int32) (L : Nat → Int64) (R : Nat → Option Nat) (Q : Int32 → (Nat → Nat → Int32) → (Nat → Int64) → (Nat → Option Nat) → Prop) (h : vX10_near K n x1 S L R Q) : Met l yX10_near wsX10_near rmX10_near (va_Pc [.ref (q 0), .int x1] (mP D (tyC cI cJ cZ cP cS) q (29 + 2 * n) (gC q cI cJ cZ cP cS K n S L R) sz (cX (aQ q (29 + 2 * n) sz)))) (QCi D q cI cJ cZ cP cS K n Q (aQ q (29 + 2 * n) sz)) 0 0 (aQ q (29 + 2 * n) sz) := by
  refine met_w (cc := cX10_near) (maxL := 3) (ret := (some .int)) (by decide) rfl (Nat.le_of_ble_eq_true rfl) ?_
  intro p e s m below meth c ls C hr hlk hW hX hnm hl
  exact sX10_near C hr hlk hX Q x1 S L R _ _ _ h hW hl
theorem inX1_clear_X1 : ∀ w ∈ wsX10, w ∈ wsX1_clear := fun _ h => List.mem_cons_of_mem _ (List.mem_append_right _ h)
abbrev rmX1_clear : Room := { frames := 0, cells := 0, slots := 0, locals := 0 }
def vX1_clear (K : Nat → Nat) (n : Nat) (S : Nat → Nat → Int32) (L : Nat → Int64) (R : Nat → Option Nat) (Q : (Nat → Nat → Int32) → (Nat → Int64) → (Nat → Option Nat) → Prop) : Prop := ∀ S1 : Nat → Nat → Int32, S1 = va_up S 13 (upd (S 13) 2 (0 : Int32)) → Q S1 L R
set_option maxRecDepth 100000 in
set_option maxHeartbeats 4000000 in
theorem sX1_clear {p : Program} {l : Launch} {e : Env} {s : State} {m : MethodId} {args : Array Value} {below : List Frame} {meth : Method} {c : Code} {D : va_G} {q : Nat → Nat} {A : Nat → Prop} {cI cJ cZ cP cS : ClassId} {K : Nat → Nat} {n : Nat} (C : CallFix p m c cX1_clear 1 s args wsX1_clear RX1) (hr : meth.sig.returnType = none) (hlk : meth.locks = false) (hX : cX A s) (Q : (Nat → Nat → Int32) → (Nat → Int64) → (Nat → Option Nat) → Prop) : ∀ (S : Nat → Nat → Int32) (L : Nat → Int64) (R : Nat → Option Nat) (H : Heap) (locs : List Loc) (ls : Array Slot), vX1_clear K n S L R Q → hw D (tyC cI cJ cZ cP cS) q (29 + 2 * n) (gC q cI cJ cZ cP cS K n S L R) A s H locs → lv_has ls 1 [(0, .ref (q 13))] → W p l e (headSpec wsX1_clear rmX1_clear).room s m args below meth c H locs 0 0 (MQ below (QCv D q cI cJ cZ cP cS K n Q A) args s 0 0 A) (F0 m 0 ls []) := by
  intro S L R H locs ls h hW hl
  unfold vX1_clear at h
  refine lv_aload_n C.1 C.2.1 dX1_clear_0 rfl (lv_at hl 0 rfl) ?_
  refine lv_iconst (v := 0) C.1 C.2.1 dX1_clear_1 (by decide) ?_
  refine r_put C hW (ci := 1) (T := TX1) (n := 3) (ref := "BallMinder$Found") (13) (by omega) rfl rfl 2 (by decide) inX1_clear_X1 tyX1 tyX1_ok nmX1 (by decide +kernel) (fun _ h9 => h9) rfl rfl rfl (Nat.le_of_ble_eq_true rfl) dX1_clear_2 (fun H locs hW => ?_)
  replace hW := gC_put (F := upd (S 13) 2 (0 : Int32)) rfl hW
  obtain ⟨S1, eS1⟩ : ∃ z : Nat → Nat → Int32, z = va_up S 13 (upd (S 13) 2 (0 : Int32)) := ⟨_, rfl⟩
  rw [← eS1] at hW
  replace h := h S1 eS1
  exact t_v C hr hlk (u := (S1, L, R)) hW.2.2.2.1 hW.B h dX1_clear_5
set_option maxRecDepth 100000 in
set_option maxHeartbeats 4000000 in
theorem mtX1_clear (l : Launch) (D : va_G) (q : Nat → Nat) (cI cJ cZ cP cS : ClassId) (K : Nat → Nat) (n : Nat) (sz : Nat) (S : Nat → Nat → Int32) (L : Nat → Int64) (R : Nat → Option Nat) (Q : (Nat → Nat → Int32) → (Nat → Int64) → (Nat → Option Nat) → Prop) (h : vX1_clear K n S L R Q) : Met l yX1_clear wsX1_clear rmX1_clear (va_Pc [.ref (q 13)] (mP D (tyC cI cJ cZ cP cS) q (29 + 2 * n) (gC q cI cJ cZ cP cS K n S L R) sz (cX (aQ q (29 + 2 * n) sz)))) (QCv D q cI cJ cZ cP cS K n Q (aQ q (29 + 2 * n) sz)) 0 0 (aQ q (29 + 2 * n) sz) := by
  refine met_w (cc := cX1_clear) (maxL := 1) (ret := none) (by decide) rfl (Nat.le_of_ble_eq_true rfl) ?_
  intro p e s m below meth c ls C hr hlk hW hX hnm hl
  exact sX1_clear C hr hlk hX Q S L R _ _ _ h hW hl
theorem inX1_take_X1 : ∀ w ∈ wsX10, w ∈ wsX1_take := fun _ h => List.mem_cons_of_mem _ (List.mem_append_right _ h)
abbrev rmX1_take : Room := { frames := 0, cells := 0, slots := 0, locals := 0 }
def vX1_take_12 (K : Nat → Nat) (n : Nat) (Q : (Nat → Nat → Int32) → (Nat → Int64) → (Nat → Option Nat) → Prop) (x1 : Int32) (S : Nat → Nat → Int32) (L : Nat → Int64) (R : Nat → Option Nat) : Prop := ∀ S2 : Nat → Nat → Int32, S2 = va_up S 13 (upd (S 13) 1 x1) → ∀ S3 : Nat → Nat → Int32, S3 = va_up S2 13 (upd (S2 13) 2 ((S2 13 2) + (1 : Int32))) → Q S3 L R
def vX1_take (K : Nat → Nat) (n : Nat) (x1 : Int32) (S : Nat → Nat → Int32) (L : Nat → Int64) (R : Nat → Option Nat) (Q : (Nat → Nat → Int32) → (Nat → Int64) → (Nat → Option Nat) → Prop) : Prop := (¬ (S 13 2) = 0 → vX1_take_12 K n Q x1 S L R) ∧ ((S 13 2) = 0 → ∀ S4 : Nat → Nat → Int32, S4 = va_up S 13 (upd (S 13) 0 x1) → vX1_take_12 K n Q x1 S4 L R)
set_option maxRecDepth 100000 in
set_option maxHeartbeats 4000000 in
theorem sX1_take_12 {p : Program} {l : Launch} {e : Env} {s : State} {m : MethodId} {args : Array Value} {below : List Frame} {meth : Method} {c : Code} {D : va_G} {q : Nat → Nat} {A : Nat → Prop} {cI cJ cZ cP cS : ClassId} {K : Nat → Nat} {n : Nat} (C : CallFix p m c cX1_take 2 s args wsX1_take RX1) (hr : meth.sig.returnType = none) (hlk : meth.locks = false) (hX : cX A s) (Q : (Nat → Nat → Int32) → (Nat → Int64) → (Nat → Option Nat) → Prop) : ∀ (x1 : Int32) (S : Nat → Nat → Int32) (L : Nat → Int64) (R : Nat → Option Nat) (H : Heap) (locs : List Loc) (ls : Array Slot), vX1_take_12 K n Q x1 S L R → hw D (tyC cI cJ cZ cP cS) q (29 + 2 * n) (gC q cI cJ cZ cP cS K n S L R) A s H locs → lv_has ls 2 [(0, .ref (q 13)), (1, .int x1)] → W p l e (headSpec wsX1_take rmX1_take).room s m args below meth c H locs 0 0 (MQ below (QCv D q cI cJ cZ cP cS K n Q A) args s 0 0 A) (F0 m 12 ls []) := by
  intro x1 S L R H locs ls h hW hl
  unfold vX1_take_12 at h
  refine lv_aload_n C.1 C.2.1 dX1_take_12 rfl (lv_at hl 0 rfl) ?_
  refine lv_iload_n C.1 C.2.1 dX1_take_13 rfl (lv_at hl 1 rfl) ?_
  refine r_put C hW (ci := 1) (T := TX1) (n := 3) (ref := "BallMinder$Found") (13) (by omega) rfl rfl 1 (by decide) inX1_take_X1 tyX1 tyX1_ok nmX1 (by decide +kernel) (fun _ h9 => h9) rfl rfl rfl (Nat.le_of_ble_eq_true rfl) dX1_take_14 (fun H locs hW => ?_)
  replace hW := gC_put (F := upd (S 13) 1 x1) rfl hW
  obtain ⟨S2, eS2⟩ : ∃ z : Nat → Nat → Int32, z = va_up S 13 (upd (S 13) 1 x1) := ⟨_, rfl⟩
  rw [← eS2] at hW
  replace h := h S2 eS2
  refine lv_aload_n C.1 C.2.1 dX1_take_17 rfl (lv_at hl 0 rfl) ?_
  refine lv_dup C.1 C.2.1 dX1_take_18 rfl ?_
  refine r_get C hW (ci := 1) (T := TX1) (n := 3) (ref := "BallMinder$Found") (v := .int (S2 13 2)) (13) (by omega) rfl rfl 2 (by decide) inX1_take_X1 (by decide +kernel) (fun _ h9 => h9) rfl dX1_take_19 ?_
  refine lv_iconst (v := 1) C.1 C.2.1 dX1_take_22 (by decide) ?_
  refine lv_iadd C.1 C.2.1 dX1_take_23 ?_
  refine r_put C hW (ci := 1) (T := TX1) (n := 3) (ref := "BallMinder$Found") (13) (by omega) rfl rfl 2 (by decide) inX1_take_X1 tyX1 tyX1_ok nmX1 (by decide +kernel) (fun _ h9 => h9) rfl rfl rfl (Nat.le_of_ble_eq_true rfl) dX1_take_24 (fun H locs hW => ?_)
  replace hW := gC_put (F := upd (S2 13) 2 ((S2 13 2) + (1 : Int32))) rfl hW
  obtain ⟨S3, eS3⟩ : ∃ z : Nat → Nat → Int32, z = va_up S2 13 (upd (S2 13) 2 ((S2 13 2) + (1 : Int32))) := ⟨_, rfl⟩
  rw [← eS3] at hW
  replace h := h S3 eS3
  exact t_v C hr hlk (u := (S3, L, R)) hW.2.2.2.1 hW.B h dX1_take_27
set_option maxRecDepth 100000 in
set_option maxHeartbeats 4000000 in
theorem sX1_take {p : Program} {l : Launch} {e : Env} {s : State} {m : MethodId} {args : Array Value} {below : List Frame} {meth : Method} {c : Code} {D : va_G} {q : Nat → Nat} {A : Nat → Prop} {cI cJ cZ cP cS : ClassId} {K : Nat → Nat} {n : Nat} (C : CallFix p m c cX1_take 2 s args wsX1_take RX1) (hr : meth.sig.returnType = none) (hlk : meth.locks = false) (hX : cX A s) (Q : (Nat → Nat → Int32) → (Nat → Int64) → (Nat → Option Nat) → Prop) : ∀ (x1 : Int32) (S : Nat → Nat → Int32) (L : Nat → Int64) (R : Nat → Option Nat) (H : Heap) (locs : List Loc) (ls : Array Slot), vX1_take K n x1 S L R Q → hw D (tyC cI cJ cZ cP cS) q (29 + 2 * n) (gC q cI cJ cZ cP cS K n S L R) A s H locs → lv_has ls 2 [(0, .ref (q 13)), (1, .int x1)] → W p l e (headSpec wsX1_take rmX1_take).room s m args below meth c H locs 0 0 (MQ below (QCv D q cI cJ cZ cP cS K n Q A) args s 0 0 A) (F0 m 0 ls []) := by
  intro x1 S L R H locs ls h hW hl
  unfold vX1_take at h
  refine lv_aload_n C.1 C.2.1 dX1_take_0 rfl (lv_at hl 0 rfl) ?_
  refine r_get C hW (ci := 1) (T := TX1) (n := 3) (ref := "BallMinder$Found") (v := .int (S 13 2)) (13) (by omega) rfl rfl 2 (by decide) inX1_take_X1 (by decide +kernel) (fun _ h9 => h9) rfl dX1_take_1 ?_
  refine lv_if_ne (tgt := 12) C.1 C.2.1 dX1_take_4 (by decide) (fun c1 => ?_) (fun c1 => ?_)
  · replace h := h.1 c1
    exact sX1_take_12 C hr hlk hX Q x1 S L R _ _ _ h hW (lv_sub hl [0, 1] rfl)
  · replace h := h.2 c1
    refine lv_aload_n C.1 C.2.1 dX1_take_7 rfl (lv_at hl 0 rfl) ?_
    refine lv_iload_n C.1 C.2.1 dX1_take_8 rfl (lv_at hl 1 rfl) ?_
    refine r_put C hW (ci := 1) (T := TX1) (n := 3) (ref := "BallMinder$Found") (13) (by omega) rfl rfl 0 (by decide) inX1_take_X1 tyX1 tyX1_ok nmX1 (by decide +kernel) (fun _ h9 => h9) rfl rfl rfl (Nat.le_of_ble_eq_true rfl) dX1_take_9 (fun H locs hW => ?_)
    replace hW := gC_put (F := upd (S 13) 0 x1) rfl hW
    obtain ⟨S4, eS4⟩ : ∃ z : Nat → Nat → Int32, z = va_up S 13 (upd (S 13) 0 x1) := ⟨_, rfl⟩
    rw [← eS4] at hW
    replace h := h S4 eS4
    exact sX1_take_12 C hr hlk hX Q x1 S4 L R _ _ _ h hW (lv_sub hl [0, 1] rfl)
set_option maxRecDepth 100000 in
set_option maxHeartbeats 4000000 in
theorem mtX1_take (l : Launch) (D : va_G) (q : Nat → Nat) (cI cJ cZ cP cS : ClassId) (K : Nat → Nat) (n : Nat) (sz : Nat) (x1 : Int32) (S : Nat → Nat → Int32) (L : Nat → Int64) (R : Nat → Option Nat) (Q : (Nat → Nat → Int32) → (Nat → Int64) → (Nat → Option Nat) → Prop) (h : vX1_take K n x1 S L R Q) : Met l yX1_take wsX1_take rmX1_take (va_Pc [.ref (q 13), .int x1] (mP D (tyC cI cJ cZ cP cS) q (29 + 2 * n) (gC q cI cJ cZ cP cS K n S L R) sz (cX (aQ q (29 + 2 * n) sz)))) (QCv D q cI cJ cZ cP cS K n Q (aQ q (29 + 2 * n) sz)) 0 0 (aQ q (29 + 2 * n) sz) := by
  refine met_w (cc := cX1_take) (maxL := 2) (ret := none) (by decide) rfl (Nat.le_of_ble_eq_true rfl) ?_
  intro p e s m below meth c ls C hr hlk hW hX hnm hl
  exact sX1_take C hr hlk hX Q x1 S L R _ _ _ h hW hl
theorem inX1_told_X1 : ∀ w ∈ wsX10, w ∈ wsX1_told := fun _ h => List.mem_cons_of_mem _ (List.mem_append_right _ h)
abbrev rmX1_told : Room := { frames := 0, cells := 0, slots := 0, locals := 0 }
def vX1_told (K : Nat → Nat) (n : Nat) (x1 : Int32) (S : Nat → Nat → Int32) (L : Nat → Int64) (R : Nat → Option Nat) (Q : Int32 → (Nat → Nat → Int32) → (Nat → Int64) → (Nat → Option Nat) → Prop) : Prop := (¬ x1 = (2 : Int32) → (¬ (S 13 2) = 0 → (¬ x1 = 0 → Q (S 13 1) S L R) ∧ (x1 = 0 → Q (S 13 0) S L R)) ∧ ((S 13 2) = 0 → Q (-9 : Int32) S L R)) ∧ (x1 = (2 : Int32) → Q (S 13 2) S L R)
set_option maxRecDepth 100000 in
set_option maxHeartbeats 4000000 in
theorem sX1_told {p : Program} {l : Launch} {e : Env} {s : State} {m : MethodId} {args : Array Value} {below : List Frame} {meth : Method} {c : Code} {D : va_G} {q : Nat → Nat} {A : Nat → Prop} {cI cJ cZ cP cS : ClassId} {K : Nat → Nat} {n : Nat} (C : CallFix p m c cX1_told 2 s args wsX1_told RX1) (hr : meth.sig.returnType = (some .int)) (hlk : meth.locks = false) (hX : cX A s) (Q : Int32 → (Nat → Nat → Int32) → (Nat → Int64) → (Nat → Option Nat) → Prop) : ∀ (x1 : Int32) (S : Nat → Nat → Int32) (L : Nat → Int64) (R : Nat → Option Nat) (H : Heap) (locs : List Loc) (ls : Array Slot), vX1_told K n x1 S L R Q → hw D (tyC cI cJ cZ cP cS) q (29 + 2 * n) (gC q cI cJ cZ cP cS K n S L R) A s H locs → lv_has ls 2 [(0, .ref (q 13)), (1, .int x1)] → W p l e (headSpec wsX1_told rmX1_told).room s m args below meth c H locs 0 0 (MQ below (QCi D q cI cJ cZ cP cS K n Q A) args s 0 0 A) (F0 m 0 ls []) := by
  intro x1 S L R H locs ls h hW hl
  unfold vX1_told at h
  refine lv_iload_n C.1 C.2.1 dX1_told_0 rfl (lv_at hl 1 rfl) ?_
  refine lv_iconst (v := 2) C.1 C.2.1 dX1_told_1 (by decide) ?_
  refine lv_icmp_ne (tgt := 10) C.1 C.2.1 dX1_told_2 (by decide) (fun c1 => ?_) (fun c1 => ?_)
  · replace h := h.1 c1
    refine lv_aload_n C.1 C.2.1 dX1_told_10 rfl (lv_at hl 0 rfl) ?_
    refine r_get C hW (ci := 1) (T := TX1) (n := 3) (ref := "BallMinder$Found") (v := .int (S 13 2)) (13) (by omega) rfl rfl 2 (by decide) inX1_told_X1 (by decide +kernel) (fun _ h9 => h9) rfl dX1_told_11 ?_
    refine lv_if_ne (tgt := 20) C.1 C.2.1 dX1_told_14 (by decide) (fun c2 => ?_) (fun c2 => ?_)
    · replace h := h.1 c2
      refine lv_iload_n C.1 C.2.1 dX1_told_20 rfl (lv_at hl 1 rfl) ?_
      refine lv_if_ne (tgt := 31) C.1 C.2.1 dX1_told_21 (by decide) (fun c3 => ?_) (fun c3 => ?_)
      · replace h := h.1 c3
        refine lv_aload_n C.1 C.2.1 dX1_told_31 rfl (lv_at hl 0 rfl) ?_
        refine r_get C hW (ci := 1) (T := TX1) (n := 3) (ref := "BallMinder$Found") (v := .int (S 13 1)) (13) (by omega) rfl rfl 1 (by decide) inX1_told_X1 (by decide +kernel) (fun _ h9 => h9) rfl dX1_told_32 ?_
        exact t_i C hr hlk (u := (S, L, R)) hW.2.2.2.1 hW.B h dX1_told_35
      · replace h := h.2 c3
        refine lv_aload_n C.1 C.2.1 dX1_told_24 rfl (lv_at hl 0 rfl) ?_
        refine r_get C hW (ci := 1) (T := TX1) (n := 3) (ref := "BallMinder$Found") (v := .int (S 13 0)) (13) (by omega) rfl rfl 0 (by decide) inX1_told_X1 (by decide +kernel) (fun _ h9 => h9) rfl dX1_told_25 ?_
        refine lv_goto (tgt := 35) C.1 C.2.1 dX1_told_28 (by decide) ?_
        exact t_i C hr hlk (u := (S, L, R)) hW.2.2.2.1 hW.B h dX1_told_35
    · replace h := h.2 c2
      refine lv_bipush (v := -9) C.1 C.2.1 dX1_told_17 (by decide) ?_
      exact t_i C hr hlk (u := (S, L, R)) hW.2.2.2.1 hW.B h dX1_told_19
  · replace h := h.2 c1
    refine lv_aload_n C.1 C.2.1 dX1_told_5 rfl (lv_at hl 0 rfl) ?_
    refine r_get C hW (ci := 1) (T := TX1) (n := 3) (ref := "BallMinder$Found") (v := .int (S 13 2)) (13) (by omega) rfl rfl 2 (by decide) inX1_told_X1 (by decide +kernel) (fun _ h9 => h9) rfl dX1_told_6 ?_
    exact t_i C hr hlk (u := (S, L, R)) hW.2.2.2.1 hW.B h dX1_told_9
set_option maxRecDepth 100000 in
set_option maxHeartbeats 4000000 in
theorem mtX1_told (l : Launch) (D : va_G) (q : Nat → Nat) (cI cJ cZ cP cS : ClassId) (K : Nat → Nat) (n : Nat) (sz : Nat) (x1 : Int32) (S : Nat → Nat → Int32) (L : Nat → Int64) (R : Nat → Option Nat) (Q : Int32 → (Nat → Nat → Int32) → (Nat → Int64) → (Nat → Option Nat) → Prop) (h : vX1_told K n x1 S L R Q) : Met l yX1_told wsX1_told rmX1_told (va_Pc [.ref (q 13), .int x1] (mP D (tyC cI cJ cZ cP cS) q (29 + 2 * n) (gC q cI cJ cZ cP cS K n S L R) sz (cX (aQ q (29 + 2 * n) sz)))) (QCi D q cI cJ cZ cP cS K n Q (aQ q (29 + 2 * n) sz)) 0 0 (aQ q (29 + 2 * n) sz) := by
  refine met_w (cc := cX1_told) (maxL := 2) (ret := (some .int)) (by decide) rfl (Nat.le_of_ble_eq_true rfl) ?_
  intro p e s m below meth c ls C hr hlk hW hX hnm hl
  exact sX1_told C hr hlk hX Q x1 S L R _ _ _ h hW hl
theorem inX10_line_X3 : ∀ w ∈ wsX30, w ∈ wsX10_line := fun _ h => List.mem_cons_of_mem _ (List.mem_append_left _ (List.mem_append_left _ (List.mem_append_left _ (List.mem_append_left _ (List.mem_append_left _ (List.mem_append_right _ h))))))
theorem inX10_line_X4 : ∀ w ∈ wsX40, w ∈ wsX10_line := fun _ h => List.mem_cons_of_mem _ (List.mem_append_left _ (List.mem_append_left _ (List.mem_append_left _ (List.mem_append_left _ (List.mem_append_right _ h)))))
theorem inX10_line_X7 : ∀ w ∈ wsX70, w ∈ wsX10_line := fun _ h => List.mem_cons_of_mem _ (List.mem_append_left _ (List.mem_append_left _ (List.mem_append_left _ (List.mem_append_right _ h))))
theorem inX10_line_X10 : ∀ w ∈ wsX100, w ∈ wsX10_line := fun _ h => List.mem_cons_of_mem _ (List.mem_append_left _ (List.mem_append_left _ (List.mem_append_right _ h)))
theorem inX10_line_X1 : ∀ w ∈ wsX10, w ∈ wsX10_line := fun _ h => List.mem_cons_of_mem _ (List.mem_append_left _ (List.mem_append_right _ h))
theorem inX10_line_X8 : ∀ w ∈ wsX80, w ∈ wsX10_line := fun _ h => List.mem_cons_of_mem _ (List.mem_append_right _ h)
abbrev rmX10_line : Room := { frames := 3, cells := 0, slots := 0, locals := 63 }
def vX10_line_97 (K : Nat → Nat) (n : Nat) (K59 : Int32 → Int32 → Nat → Int32 → Int32 → (Nat → Nat → Int32) → (Nat → Int64) → (Nat → Option Nat) → Prop) (Q : Int32 → (Nat → Nat → Int32) → (Nat → Int64) → (Nat → Option Nat) → Prop) (x2 : Int32) (x3 : Int32) (x4 : Nat) (x5 : Int32) (x6 : Int32) (S : Nat → Nat → Int32) (L : Nat → Int64) (R : Nat → Option Nat) : Prop := ∀ x6_39 : Int32, x6_39 = x6 + (1 : Int32) → K59 x2 x3 x4 x5 x6_39 S L R
def vX10_line_59 (K : Nat → Nat) (n : Nat) (Q : Int32 → (Nat → Nat → Int32) → (Nat → Int64) → (Nat → Option Nat) → Prop) : Nat → Int32 → Int32 → Nat → Int32 → Int32 → (Nat → Nat → Int32) → (Nat → Int64) → (Nat → Option Nat) → Prop
  | 0, _, _, _, _, _, _, _, _ => False
  | fu+1, x2, x3, x4, x5, x6, S, L, R => vp_in x2 9 ∧ (((greatestV x2.toNatClampNeg) < x6 → x4 < n ∧ (vp_in x2 9 ∧ (∀ S26 : Nat → Nat → Int32, S26 = va_up S (30 + 2 * x4) (upd (S (30 + 2 * x4)) x2.toNatClampNeg x5) → vX1_told K n x3 S26 L R (fun r27 S28 L29 R30 => Q r27 S28 L29 R30)))) ∧ (¬ ((greatestV x2.toNatClampNeg) < x6) → x4 < n ∧ (vp_in x2 9 ∧ (∀ S33 : Nat → Nat → Int32, S33 = va_up S (30 + 2 * x4) (upd (S (30 + 2 * x4)) x2.toNatClampNeg x6) → vX10_standingOf K n x4 S33 L R (fun r34 S35 L36 R37 => (¬ r34 = (2 : Int32) → vX10_line_97 K n (vX10_line_59 K n Q fu) Q x2 x3 x4 x5 x6 S35 L36 R37) ∧ (r34 = (2 : Int32) → vX1_take K n x6 S35 L36 R37 (fun S40 L41 R42 => vX10_line_97 K n (vX10_line_59 K n Q fu) Q x2 x3 x4 x5 x6 S40 L41 R42)))))))
def vX10_line (K : Nat → Nat) (n : Nat) (x1 : Int32) (x2 : Int32) (x3 : Int32) (S : Nat → Nat → Int32) (L : Nat → Int64) (R : Nat → Option Nat) (Q : Int32 → (Nat → Nat → Int32) → (Nat → Int64) → (Nat → Option Nat) → Prop) : Prop := vX10_millOf K n x1 S L R (fun o1 S2 L3 R4 => (o1 = none → Q (-1 : Int32) S2 L3 R4) ∧ (∀ mi5 : Nat, o1 = some mi5 → vX10_within x2 (0 : Int32) (6 : Int32) (fun r6 => (¬ r6 = 0 → vX10_within x3 (0 : Int32) (2 : Int32) (fun r8 => (¬ r8 = 0 → mi5 < n ∧ (vp_in x2 9 ∧ (∀ x5_12 : Int32, x5_12 = S2 (30 + 2 * mi5) x2.toNatClampNeg → vX1_clear K n  S2 L3 R4 (fun S13 L14 R15 => vp_in x2 9 ∧ (∀ x6_19 : Int32, x6_19 = leastV x2.toNatClampNeg → ∃ n59, vX10_line_59 K n Q n59 x2 x3 mi5 x5_12 x6_19 S13 L14 R15))))) ∧ (r8 = 0 → Q (-2 : Int32) S2 L3 R4))) ∧ (r6 = 0 → Q (-1 : Int32) S2 L3 R4))))
set_option maxRecDepth 100000 in
set_option maxHeartbeats 4000000 in
theorem sX10_line_97 {p : Program} {l : Launch} {e : Env} {s : State} {m : MethodId} {args : Array Value} {below : List Frame} {meth : Method} {c : Code} {D : va_G} {q : Nat → Nat} {A : Nat → Prop} {cI cJ cZ cP cS : ClassId} {K : Nat → Nat} {n : Nat} (C : CallFix p m c cX10_line 7 s args wsX10_line RX10) (hr : meth.sig.returnType = (some .int)) (hlk : meth.locks = false) (hX : cX A s) (Q : Int32 → (Nat → Nat → Int32) → (Nat → Int64) → (Nat → Option Nat) → Prop) (K59 : Int32 → Int32 → Nat → Int32 → Int32 → (Nat → Nat → Int32) → (Nat → Int64) → (Nat → Option Nat) → Prop) (hK59 : ∀ (x2 : Int32) (x3 : Int32) (x4 : Nat) (x5 : Int32) (x6 : Int32) (S : Nat → Nat → Int32) (L : Nat → Int64) (R : Nat → Option Nat) (H : Heap) (locs : List Loc) (ls : Array Slot), K59 x2 x3 x4 x5 x6 S L R → hw D (tyC cI cJ cZ cP cS) q (29 + 2 * n) (gC q cI cJ cZ cP cS K n S L R) A s H locs → lv_has ls 7 [(0, .ref (q 0)), (2, .int x2), (3, .int x3), (4, .ref (q (29 + 2 * x4))), (5, .int x5), (6, .int x6)] → W p l e (headSpec wsX10_line rmX10_line).room s m args below meth c H locs 0 0 (MQ below (QCi D q cI cJ cZ cP cS K n Q A) args s 0 0 A) (F0 m 59 ls [])) : ∀ (x2 : Int32) (x3 : Int32) (x4 : Nat) (x5 : Int32) (x6 : Int32) (S : Nat → Nat → Int32) (L : Nat → Int64) (R : Nat → Option Nat) (H : Heap) (locs : List Loc) (ls : Array Slot), vX10_line_97 K n K59 Q x2 x3 x4 x5 x6 S L R → hw D (tyC cI cJ cZ cP cS) q (29 + 2 * n) (gC q cI cJ cZ cP cS K n S L R) A s H locs → lv_has ls 7 [(0, .ref (q 0)), (2, .int x2), (3, .int x3), (4, .ref (q (29 + 2 * x4))), (5, .int x5), (6, .int x6)] → W p l e (headSpec wsX10_line rmX10_line).room s m args below meth c H locs 0 0 (MQ below (QCi D q cI cJ cZ cP cS K n Q A) args s 0 0 A) (F0 m 97 ls []) := by
  intro x2 x3 x4 x5 x6 S L R H locs ls h hW hl
  unfold vX10_line_97 at h
  obtain ⟨x6_39, ex6_39⟩ : ∃ z : Int32, z = x6 + (1 : Int32) := ⟨_, rfl⟩
  replace h := h x6_39 ex6_39
  refine lv_iinc (v := x6_39) (lv' := [(6, .int x6_39), (0, .ref (q 0)), (2, .int x2), (3, .int x3), (4, .ref (q (29 + 2 * x4))), (5, .int x5)]) C.1 C.2.1 dX10_line_97 hl (k := 5) rfl (by rw [ex6_39]; rfl) (by decide) rfl (fun ls hl => ?_)
  refine lv_goto (tgt := 59) C.1 C.2.1 dX10_line_100 (by decide) ?_
  exact hK59 x2 x3 x4 x5 x6_39 S L R _ _ _ h hW (lv_sub hl [1, 2, 3, 4, 5, 0] rfl)
set_option maxRecDepth 100000 in
set_option maxHeartbeats 4000000 in
theorem sX10_line_59 {p : Program} {l : Launch} {e : Env} {s : State} {m : MethodId} {args : Array Value} {below : List Frame} {meth : Method} {c : Code} {D : va_G} {q : Nat → Nat} {A : Nat → Prop} {cI cJ cZ cP cS : ClassId} {K : Nat → Nat} {n : Nat} (C : CallFix p m c cX10_line 7 s args wsX10_line RX10) (hr : meth.sig.returnType = (some .int)) (hlk : meth.locks = false) (hX : cX A s) (Q : Int32 → (Nat → Nat → Int32) → (Nat → Int64) → (Nat → Option Nat) → Prop) : ∀ (fu : Nat) (x2 : Int32) (x3 : Int32) (x4 : Nat) (x5 : Int32) (x6 : Int32) (S : Nat → Nat → Int32) (L : Nat → Int64) (R : Nat → Option Nat) (H : Heap) (locs : List Loc) (ls : Array Slot), vX10_line_59 K n Q fu x2 x3 x4 x5 x6 S L R → hw D (tyC cI cJ cZ cP cS) q (29 + 2 * n) (gC q cI cJ cZ cP cS K n S L R) A s H locs → lv_has ls 7 [(0, .ref (q 0)), (2, .int x2), (3, .int x3), (4, .ref (q (29 + 2 * x4))), (5, .int x5), (6, .int x6)] → W p l e (headSpec wsX10_line rmX10_line).room s m args below meth c H locs 0 0 (MQ below (QCi D q cI cJ cZ cP cS K n Q A) args s 0 0 A) (F0 m 59 ls []) := by
  intro fu
  induction fu with
  | zero =>
    intro x2 x3 x4 x5 x6 S L R H locs ls h
    exact h.elim
  | succ fu ih =>
    intro x2 x3 x4 x5 x6 S L R H locs ls h hW hl
    refine lv_iload C.1 C.2.1 dX10_line_59 (lv_at hl 5 rfl) ?_
    refine c_stat C hW hX.2.2.1 (by decide +kernel) dX10_line_61 (fun t20 hT21 => ?_)
    refine lv_iload_n C.1 C.2.1 dX10_line_64 rfl (lv_at hl 1 rfl) ?_
    obtain ⟨hs22, h⟩ := h
    refine va_ti C.1 C.2.1 hT21 hW.2.2.2.1 hs22 rfl dX10_line_65 ?_
    refine lv_icmp_gt (tgt := 103) C.1 C.2.1 dX10_line_66 (by decide) (fun c23 => ?_) (fun c23 => ?_)
    · replace h := h.1 c23
      refine lv_aload C.1 C.2.1 dX10_line_103 (lv_at hl 3 rfl) ?_
      obtain ⟨hb24, h⟩ := h
      refine c_nums C hW hb24 inX10_line_X3 inX10_line_X4 inX10_line_X7 (ref := "BallMinder$Plain") (by decide +kernel) (fun _ h9 => h9) dX10_line_105 ?_
      refine lv_iload_n C.1 C.2.1 dX10_line_108 rfl (lv_at hl 1 rfl) ?_
      refine lv_iload C.1 C.2.1 dX10_line_109 (lv_at hl 4 rfl) ?_
      obtain ⟨hs25, h⟩ := h
      refine r_iast C hW (cA := cI) (n := 9) (f := S (30 + 2 * x4)) (30 + 2 * x4) 0 (by omega) (gC_nums x4) rfl hs25 dX10_line_111 (fun H locs hW => ?_)
      replace hW := gC_put (F := upd (S (30 + 2 * x4)) x2.toNatClampNeg x5) (by rw [gC_nums, va_up_self]) hW
      obtain ⟨S26, eS26⟩ : ∃ z : Nat → Nat → Int32, z = va_up S (30 + 2 * x4) (upd (S (30 + 2 * x4)) x2.toNatClampNeg x5) := ⟨_, rfl⟩
      rw [← eS26] at hW
      replace h := h S26 eS26
      refine lv_aload_n C.1 C.2.1 dX10_line_112 rfl (lv_at hl 0 rfl) ?_
      refine r_get C hW (ci := 10) (T := TX10) (n := 11) (ref := "BallMinder") (v := .ref (q 13)) (0) (by omega) rfl rfl 6 (by decide) inX10_line_X10 (by decide +kernel) (fun _ h9 => h9) rfl dX10_line_113 ?_
      refine lv_iload_n C.1 C.2.1 dX10_line_116 rfl (lv_at hl 2 rfl) ?_
      refine k_i hW (va_runV (As := [.int x3]) (rest := []) C (mtX1_told l D q cI cJ cZ cP cS K n H.size x3 S26 L R _ h) (cwV 1 C.2.2.2.2 gX10_line_X1_told rfl rfl rfl (by decide +kernel) ⟨Nat.le_of_ble_eq_true rfl, Nat.le_of_ble_eq_true rfl⟩) ⟨mP_blind cX_B, va_recv hW.1 hW.2.1 (ci := 1) (q0 := 13) rfl (wL_get (by omega)), fun U hU hV => ⟨rfl, hW.pre hU hV (hX.call hW hU hV)⟩⟩ rfl rfl hl.1 rfl (lv_room (Nat.le_of_ble_eq_true rfl)) dX10_line_117 ⟨Nat.zero_le _, Nat.zero_le _⟩) (fun r27 u H locs h hW => ?_)
      obtain ⟨S28, L29, R30⟩ := u
      replace hW : hw D (tyC cI cJ cZ cP cS) q (29 + 2 * n) (gC q cI cJ cZ cP cS K n S28 L29 R30) A s H locs := hW
      exact t_i C hr hlk (u := (S28, L29, R30)) hW.2.2.2.1 hW.B h dX10_line_120
    · replace h := h.2 c23
      refine lv_aload C.1 C.2.1 dX10_line_69 (lv_at hl 3 rfl) ?_
      obtain ⟨hb31, h⟩ := h
      refine c_nums C hW hb31 inX10_line_X3 inX10_line_X4 inX10_line_X7 (ref := "BallMinder$Plain") (by decide +kernel) (fun _ h9 => h9) dX10_line_71 ?_
      refine lv_iload_n C.1 C.2.1 dX10_line_74 rfl (lv_at hl 1 rfl) ?_
      refine lv_iload C.1 C.2.1 dX10_line_75 (lv_at hl 5 rfl) ?_
      obtain ⟨hs32, h⟩ := h
      refine r_iast C hW (cA := cI) (n := 9) (f := S (30 + 2 * x4)) (30 + 2 * x4) 0 (by omega) (gC_nums x4) rfl hs32 dX10_line_77 (fun H locs hW => ?_)
      replace hW := gC_put (F := upd (S (30 + 2 * x4)) x2.toNatClampNeg x6) (by rw [gC_nums, va_up_self]) hW
      obtain ⟨S33, eS33⟩ : ∃ z : Nat → Nat → Int32, z = va_up S (30 + 2 * x4) (upd (S (30 + 2 * x4)) x2.toNatClampNeg x6) := ⟨_, rfl⟩
      rw [← eS33] at hW
      replace h := h S33 eS33
      refine lv_aload_n C.1 C.2.1 dX10_line_78 rfl (lv_at hl 0 rfl) ?_
      refine lv_aload C.1 C.2.1 dX10_line_79 (lv_at hl 3 rfl) ?_
      refine k_i hW (va_runV (As := [.ref (q (29 + 2 * x4))]) (rest := []) C (mtX10_standingOf l D q cI cJ cZ cP cS K n H.size x4 S33 L R _ h) (cwV 1 C.2.2.2.2 gX10_line_X10_standingOf rfl rfl rfl (by decide +kernel) ⟨Nat.le_of_ble_eq_true rfl, Nat.le_of_ble_eq_true rfl⟩) ⟨mP_blind cX_B, va_recv hW.1 hW.2.1 (ci := 10) (q0 := 0) rfl (wL_get (by omega)), fun U hU hV => ⟨rfl, hW.pre hU hV (hX.call hW hU hV)⟩⟩ rfl rfl hl.1 rfl (lv_room (Nat.le_of_ble_eq_true rfl)) dX10_line_81 ⟨Nat.zero_le _, Nat.zero_le _⟩) (fun r34 u H locs h hW => ?_)
      obtain ⟨S35, L36, R37⟩ := u
      replace hW : hw D (tyC cI cJ cZ cP cS) q (29 + 2 * n) (gC q cI cJ cZ cP cS K n S35 L36 R37) A s H locs := hW
      refine lv_iconst (v := 2) C.1 C.2.1 dX10_line_84 (by decide) ?_
      refine lv_icmp_ne (tgt := 97) C.1 C.2.1 dX10_line_85 (by decide) (fun c38 => ?_) (fun c38 => ?_)
      · replace h := h.1 c38
        exact sX10_line_97 C hr hlk hX Q _ ih x2 x3 x4 x5 x6 S35 L36 R37 _ _ _ h hW (lv_sub hl [0, 1, 2, 3, 4, 5] rfl)
      · replace h := h.2 c38
        refine lv_aload_n C.1 C.2.1 dX10_line_88 rfl (lv_at hl 0 rfl) ?_
        refine r_get C hW (ci := 10) (T := TX10) (n := 11) (ref := "BallMinder") (v := .ref (q 13)) (0) (by omega) rfl rfl 6 (by decide) inX10_line_X10 (by decide +kernel) (fun _ h9 => h9) rfl dX10_line_89 ?_
        refine lv_iload C.1 C.2.1 dX10_line_92 (lv_at hl 5 rfl) ?_
        refine k_v hW (va_runV (As := [.int x6]) (rest := []) C (mtX1_take l D q cI cJ cZ cP cS K n H.size x6 S35 L36 R37 _ h) (cwV 1 C.2.2.2.2 gX10_line_X1_take rfl rfl rfl (by decide +kernel) ⟨Nat.le_of_ble_eq_true rfl, Nat.le_of_ble_eq_true rfl⟩) ⟨mP_blind cX_B, va_recv hW.1 hW.2.1 (ci := 1) (q0 := 13) rfl (wL_get (by omega)), fun U hU hV => ⟨rfl, hW.pre hU hV (hX.call hW hU hV)⟩⟩ rfl rfl hl.1 rfl (lv_room (Nat.le_of_ble_eq_true rfl)) dX10_line_94 ⟨Nat.zero_le _, Nat.zero_le _⟩) (fun u H locs h hW => ?_)
        obtain ⟨S40, L41, R42⟩ := u
        replace hW : hw D (tyC cI cJ cZ cP cS) q (29 + 2 * n) (gC q cI cJ cZ cP cS K n S40 L41 R42) A s H locs := hW
        exact sX10_line_97 C hr hlk hX Q _ ih x2 x3 x4 x5 x6 S40 L41 R42 _ _ _ h hW (lv_sub hl [0, 1, 2, 3, 4, 5] rfl)
set_option maxRecDepth 100000 in
set_option maxHeartbeats 4000000 in
theorem sX10_line {p : Program} {l : Launch} {e : Env} {s : State} {m : MethodId} {args : Array Value} {below : List Frame} {meth : Method} {c : Code} {D : va_G} {q : Nat → Nat} {A : Nat → Prop} {cI cJ cZ cP cS : ClassId} {K : Nat → Nat} {n : Nat} (C : CallFix p m c cX10_line 7 s args wsX10_line RX10) (hr : meth.sig.returnType = (some .int)) (hlk : meth.locks = false) (hX : cX A s) (Q : Int32 → (Nat → Nat → Int32) → (Nat → Int64) → (Nat → Option Nat) → Prop) : ∀ (x1 : Int32) (x2 : Int32) (x3 : Int32) (S : Nat → Nat → Int32) (L : Nat → Int64) (R : Nat → Option Nat) (H : Heap) (locs : List Loc) (ls : Array Slot), vX10_line K n x1 x2 x3 S L R Q → hw D (tyC cI cJ cZ cP cS) q (29 + 2 * n) (gC q cI cJ cZ cP cS K n S L R) A s H locs → lv_has ls 7 [(0, .ref (q 0)), (1, .int x1), (2, .int x2), (3, .int x3)] → W p l e (headSpec wsX10_line rmX10_line).room s m args below meth c H locs 0 0 (MQ below (QCi D q cI cJ cZ cP cS K n Q A) args s 0 0 A) (F0 m 0 ls []) := by
  intro x1 x2 x3 S L R H locs ls h hW hl
  unfold vX10_line at h
  refine lv_aload_n C.1 C.2.1 dX10_line_0 rfl (lv_at hl 0 rfl) ?_
  refine lv_iload_n C.1 C.2.1 dX10_line_1 rfl (lv_at hl 1 rfl) ?_
  refine k_q hW (va_runV (As := [.int x1]) (rest := []) C (mtX10_millOf l D q cI cJ cZ cP cS K n H.size x1 S L R _ h) (cwV 1 C.2.2.2.2 gX10_line_X10_millOf rfl rfl rfl (by decide +kernel) ⟨Nat.le_of_ble_eq_true rfl, Nat.le_of_ble_eq_true rfl⟩) ⟨mP_blind cX_B, va_recv hW.1 hW.2.1 (ci := 10) (q0 := 0) rfl (wL_get (by omega)), fun U hU hV => ⟨rfl, hW.pre hU hV (hX.call hW hU hV)⟩⟩ rfl rfl hl.1 rfl (lv_room (Nat.le_of_ble_eq_true rfl)) dX10_line_2 ⟨Nat.zero_le _, Nat.zero_le _⟩) (fun r9 u H locs h hW => ?_)
  obtain ⟨S2, L3, R4⟩ := u
  obtain ⟨o1, rfl, h⟩ := h
  replace hW : hw D (tyC cI cJ cZ cP cS) q (29 + 2 * n) (gC q cI cJ cZ cP cS K n S2 L3 R4) A s H locs := hW
  refine cv_astore (lv' := [(4, va_rf (Option.map (qM q) o1)), (0, .ref (q 0)), (1, .int x1), (2, .int x2), (3, .int x3)]) C.1 C.2.1 dX10_line_5 hl (by decide) rfl (fun ls hl => ?_)
  refine cv_aload C.1 C.2.1 dX10_line_7 (lv_at hl 0 rfl) ?_
  rcases o1 with _ | mi5
  · replace h := h.1 rfl
    replace hl : lv_has ls 7 [(4, .null), (0, .ref (q 0)), (1, .int x1), (2, .int x2), (3, .int x3)] := hl
    refine lv_ifnullN (tgt := 22) C.1 C.2.1 dX10_line_9 (by decide) ?_
    refine lv_iconst (v := -1) C.1 C.2.1 dX10_line_22 (by decide) ?_
    exact t_i C hr hlk (u := (S2, L3, R4)) hW.2.2.2.1 hW.B h dX10_line_23
  · replace h := h.2 mi5 rfl
    replace hl : lv_has ls 7 [(4, .ref (q (29 + 2 * mi5))), (0, .ref (q 0)), (1, .int x1), (2, .int x2), (3, .int x3)] := hl
    refine lv_ifnull C.1 C.2.1 dX10_line_9 ?_
    refine lv_iload_n C.1 C.2.1 dX10_line_12 rfl (lv_at hl 3 rfl) ?_
    refine lv_iconst (v := 0) C.1 C.2.1 dX10_line_13 (by decide) ?_
    refine lv_bipush (v := 6) C.1 C.2.1 dX10_line_14 (by decide) ?_
    refine k_pi hW (va_runS (As := [.int x2, .int (0 : Int32), .int (6 : Int32)]) (rest := []) C (mtX10_within l D q _ H.size x2 (0 : Int32) (6 : Int32) _ h) (va_cwS 3 C.2.2.2.2 gX10_line_X10_within rfl rfl rfl (by decide +kernel) ⟨Nat.le_of_ble_eq_true rfl, Nat.le_of_ble_eq_true rfl⟩) ⟨mP_blind tX_B, fun U hU hV => ⟨rfl, hW.pre0 hU hV trivial⟩⟩ rfl rfl hl.1 rfl (lv_room (Nat.le_of_ble_eq_true rfl)) dX10_line_16 ⟨Nat.zero_le _, Nat.zero_le _⟩) (fun r6 H locs h hW => ?_)
    refine lv_if_ne (tgt := 24) C.1 C.2.1 dX10_line_19 (by decide) (fun c7 => ?_) (fun c7 => ?_)
    · replace h := h.1 c7
      refine lv_iload_n C.1 C.2.1 dX10_line_24 rfl (lv_at hl 4 rfl) ?_
      refine lv_iconst (v := 0) C.1 C.2.1 dX10_line_25 (by decide) ?_
      refine lv_iconst (v := 2) C.1 C.2.1 dX10_line_26 (by decide) ?_
      refine k_pi hW (va_runS (As := [.int x3, .int (0 : Int32), .int (2 : Int32)]) (rest := []) C (mtX10_within l D q _ H.size x3 (0 : Int32) (2 : Int32) _ h) (va_cwS 3 C.2.2.2.2 gX10_line_X10_within rfl rfl rfl (by decide +kernel) ⟨Nat.le_of_ble_eq_true rfl, Nat.le_of_ble_eq_true rfl⟩) ⟨mP_blind tX_B, fun U hU hV => ⟨rfl, hW.pre0 hU hV trivial⟩⟩ rfl rfl hl.1 rfl (lv_room (Nat.le_of_ble_eq_true rfl)) dX10_line_27 ⟨Nat.zero_le _, Nat.zero_le _⟩) (fun r8 H locs h hW => ?_)
      refine lv_if_ne (tgt := 36) C.1 C.2.1 dX10_line_30 (by decide) (fun c9 => ?_) (fun c9 => ?_)
      · replace h := h.1 c9
        refine lv_aload C.1 C.2.1 dX10_line_36 (lv_at hl 0 rfl) ?_
        obtain ⟨hb10, h⟩ := h
        refine c_nums C hW hb10 inX10_line_X3 inX10_line_X4 inX10_line_X7 (ref := "BallMinder$Plain") (by decide +kernel) (fun _ h9 => h9) dX10_line_38 ?_
        refine lv_iload_n C.1 C.2.1 dX10_line_41 rfl (lv_at hl 3 rfl) ?_
        obtain ⟨hs11, h⟩ := h
        refine r_iald C hW (cA := cI) (n := 9) (f := S2 (30 + 2 * mi5)) (30 + 2 * mi5) 0 (by omega) (gC_nums mi5) rfl hs11 dX10_line_42 ?_
        refine lv_topi (fun x5_12 ex5_12 => ?_)
        replace h := h x5_12 ex5_12
        refine lv_istore (lv' := [(5, .int x5_12), (4, .ref (q (29 + 2 * mi5))), (0, .ref (q 0)), (1, .int x1), (2, .int x2), (3, .int x3)]) C.1 C.2.1 dX10_line_43 hl (by decide) rfl (fun ls hl => ?_)
        refine lv_aload_n C.1 C.2.1 dX10_line_45 rfl (lv_at hl 2 rfl) ?_
        refine r_get C hW (ci := 10) (T := TX10) (n := 11) (ref := "BallMinder") (v := .ref (q 13)) (0) (by omega) rfl rfl 6 (by decide) inX10_line_X10 (by decide +kernel) (fun _ h9 => h9) rfl dX10_line_46 ?_
        refine k_v hW (va_runV (As := []) (rest := []) C (mtX1_clear l D q cI cJ cZ cP cS K n H.size  S2 L3 R4 _ h) (cwV 0 C.2.2.2.2 gX10_line_X1_clear rfl rfl rfl (by decide +kernel) ⟨Nat.le_of_ble_eq_true rfl, Nat.le_of_ble_eq_true rfl⟩) ⟨mP_blind cX_B, va_recv hW.1 hW.2.1 (ci := 1) (q0 := 13) rfl (wL_get (by omega)), fun U hU hV => ⟨rfl, hW.pre hU hV (hX.call hW hU hV)⟩⟩ rfl rfl hl.1 rfl (lv_room (Nat.le_of_ble_eq_true rfl)) dX10_line_49 ⟨Nat.zero_le _, Nat.zero_le _⟩) (fun u H locs h hW => ?_)
        obtain ⟨S13, L14, R15⟩ := u
        replace hW : hw D (tyC cI cJ cZ cP cS) q (29 + 2 * n) (gC q cI cJ cZ cP cS K n S13 L14 R15) A s H locs := hW
        refine c_stat C hW hX.2.1 (by decide +kernel) dX10_line_52 (fun t16 hT17 => ?_)
        refine lv_iload_n C.1 C.2.1 dX10_line_55 rfl (lv_at hl 4 rfl) ?_
        obtain ⟨hs18, h⟩ := h
        refine va_ti C.1 C.2.1 hT17 hW.2.2.2.1 hs18 rfl dX10_line_56 ?_
        refine lv_topi (fun x6_19 ex6_19 => ?_)
        replace h := h x6_19 ex6_19
        refine lv_istore (lv' := [(6, .int x6_19), (5, .int x5_12), (4, .ref (q (29 + 2 * mi5))), (0, .ref (q 0)), (1, .int x1), (2, .int x2), (3, .int x3)]) C.1 C.2.1 dX10_line_57 hl (by decide) rfl (fun ls hl => ?_)
        obtain ⟨n9, h⟩ := h
        exact sX10_line_59 C hr hlk hX Q n9 x2 x3 mi5 x5_12 x6_19 S13 L14 R15 _ _ _ h hW (lv_sub hl [3, 5, 6, 2, 1, 0] rfl)
      · replace h := h.2 c9
        refine lv_bipush (v := -2) C.1 C.2.1 dX10_line_33 (by decide) ?_
        exact t_i C hr hlk (u := (S2, L3, R4)) hW.2.2.2.1 hW.B h dX10_line_35
    · replace h := h.2 c7
      refine lv_iconst (v := -1) C.1 C.2.1 dX10_line_22 (by decide) ?_
      exact t_i C hr hlk (u := (S2, L3, R4)) hW.2.2.2.1 hW.B h dX10_line_23
set_option maxRecDepth 100000 in
set_option maxHeartbeats 4000000 in
theorem mtX10_line (l : Launch) (D : va_G) (q : Nat → Nat) (cI cJ cZ cP cS : ClassId) (K : Nat → Nat) (n : Nat) (sz : Nat) (x1 : Int32) (x2 : Int32) (x3 : Int32) (S : Nat → Nat → Int32) (L : Nat → Int64) (R : Nat → Option Nat) (Q : Int32 → (Nat → Nat → Int32) → (Nat → Int64) → (Nat → Option Nat) → Prop) (h : vX10_line K n x1 x2 x3 S L R Q) : Met l yX10_line wsX10_line rmX10_line (va_Pc [.ref (q 0), .int x1, .int x2, .int x3] (mP D (tyC cI cJ cZ cP cS) q (29 + 2 * n) (gC q cI cJ cZ cP cS K n S L R) sz (cX (aQ q (29 + 2 * n) sz)))) (QCi D q cI cJ cZ cP cS K n Q (aQ q (29 + 2 * n) sz)) 0 0 (aQ q (29 + 2 * n) sz) := by
  refine met_w (cc := cX10_line) (maxL := 7) (ret := (some .int)) (by decide) rfl (Nat.le_of_ble_eq_true rfl) ?_
  intro p e s m below meth c ls C hr hlk hW hX hnm hl
  exact sX10_line C hr hlk hX Q x1 x2 x3 S L R _ _ _ h hW hl
theorem inX10_better_X3 : ∀ w ∈ wsX30, w ∈ wsX10_better := fun _ h => List.mem_cons_of_mem _ (List.mem_append_left _ (List.mem_append_left _ (List.mem_append_left _ (List.mem_append_left _ (List.mem_append_right _ h)))))
theorem inX10_better_X4 : ∀ w ∈ wsX40, w ∈ wsX10_better := fun _ h => List.mem_cons_of_mem _ (List.mem_append_left _ (List.mem_append_left _ (List.mem_append_left _ (List.mem_append_right _ h))))
theorem inX10_better_X7 : ∀ w ∈ wsX70, w ∈ wsX10_better := fun _ h => List.mem_cons_of_mem _ (List.mem_append_left _ (List.mem_append_left _ (List.mem_append_right _ h)))
theorem inX10_better_X10 : ∀ w ∈ wsX100, w ∈ wsX10_better := fun _ h => List.mem_cons_of_mem _ (List.mem_append_left _ (List.mem_append_right _ h))
theorem inX10_better_X8 : ∀ w ∈ wsX80, w ∈ wsX10_better := fun _ h => List.mem_cons_of_mem _ (List.mem_append_right _ h)
abbrev rmX10_better : Room := { frames := 2, cells := 0, slots := 0, locals := 48 }
def vX10_better (K : Nat → Nat) (n : Nat) (x1 : Int32) (x2 : Int32) (S : Nat → Nat → Int32) (L : Nat → Int64) (R : Nat → Option Nat) (Q : Int32 → (Nat → Nat → Int32) → (Nat → Int64) → (Nat → Option Nat) → Prop) : Prop := vX10_millOf K n x1 S L R (fun o1 S2 L3 R4 => (o1 = none → Q (-1 : Int32) S2 L3 R4) ∧ (∀ mi5 : Nat, o1 = some mi5 → vX10_within x2 (0 : Int32) (6 : Int32) (fun r6 => (¬ r6 = 0 → mi5 < n ∧ (vp_in x2 9 ∧ (∀ x4_10 : Int32, x4_10 = S2 (30 + 2 * mi5) x2.toNatClampNeg → vp_in x2 9 ∧ ((x4_10 < (greatestV x2.toNatClampNeg) → vX10_marginOf K n mi5 S2 L3 R4 (fun r15 S16 L17 R18 => vp_in x2 9 ∧ (∀ S20 : Nat → Nat → Int32, S20 = va_up S16 (30 + 2 * mi5) (upd (S16 (30 + 2 * mi5)) x2.toNatClampNeg (x4_10 + (1 : Int32))) → vX10_marginOf K n mi5 S20 L17 R18 (fun r21 S22 L23 R24 => vp_in x2 9 ∧ (∀ S26 : Nat → Nat → Int32, S26 = va_up S22 (30 + 2 * mi5) (upd (S22 (30 + 2 * mi5)) x2.toNatClampNeg x4_10) → vJ13_compare_74951 r21 r15 (fun r27 => Q r27 S26 L23 R24)))))) ∧ (¬ (x4_10 < (greatestV x2.toNatClampNeg)) → Q (-3 : Int32) S2 L3 R4))))) ∧ (r6 = 0 → Q (-1 : Int32) S2 L3 R4))))
set_option maxRecDepth 100000 in
set_option maxHeartbeats 4000000 in
theorem sX10_better {p : Program} {l : Launch} {e : Env} {s : State} {m : MethodId} {args : Array Value} {below : List Frame} {meth : Method} {c : Code} {D : va_G} {q : Nat → Nat} {A : Nat → Prop} {cI cJ cZ cP cS : ClassId} {K : Nat → Nat} {n : Nat} (C : CallFix p m c cX10_better 9 s args wsX10_better RX10) (hr : meth.sig.returnType = (some .int)) (hlk : meth.locks = false) (hX : cX A s) (Q : Int32 → (Nat → Nat → Int32) → (Nat → Int64) → (Nat → Option Nat) → Prop) : ∀ (x1 : Int32) (x2 : Int32) (S : Nat → Nat → Int32) (L : Nat → Int64) (R : Nat → Option Nat) (H : Heap) (locs : List Loc) (ls : Array Slot), vX10_better K n x1 x2 S L R Q → hw D (tyC cI cJ cZ cP cS) q (29 + 2 * n) (gC q cI cJ cZ cP cS K n S L R) A s H locs → lv_has ls 9 [(0, .ref (q 0)), (1, .int x1), (2, .int x2)] → W p l e (headSpec wsX10_better rmX10_better).room s m args below meth c H locs 0 0 (MQ below (QCi D q cI cJ cZ cP cS K n Q A) args s 0 0 A) (F0 m 0 ls []) := by
  intro x1 x2 S L R H locs ls h hW hl
  unfold vX10_better at h
  refine lv_aload_n C.1 C.2.1 dX10_better_0 rfl (lv_at hl 0 rfl) ?_
  refine lv_iload_n C.1 C.2.1 dX10_better_1 rfl (lv_at hl 1 rfl) ?_
  refine k_q hW (va_runV (As := [.int x1]) (rest := []) C (mtX10_millOf l D q cI cJ cZ cP cS K n H.size x1 S L R _ h) (cwV 1 C.2.2.2.2 gX10_better_X10_millOf rfl rfl rfl (by decide +kernel) ⟨Nat.le_of_ble_eq_true rfl, Nat.le_of_ble_eq_true rfl⟩) ⟨mP_blind cX_B, va_recv hW.1 hW.2.1 (ci := 10) (q0 := 0) rfl (wL_get (by omega)), fun U hU hV => ⟨rfl, hW.pre hU hV (hX.call hW hU hV)⟩⟩ rfl rfl hl.1 rfl (lv_room (Nat.le_of_ble_eq_true rfl)) dX10_better_2 ⟨Nat.zero_le _, Nat.zero_le _⟩) (fun r9 u H locs h hW => ?_)
  obtain ⟨S2, L3, R4⟩ := u
  obtain ⟨o1, rfl, h⟩ := h
  replace hW : hw D (tyC cI cJ cZ cP cS) q (29 + 2 * n) (gC q cI cJ cZ cP cS K n S2 L3 R4) A s H locs := hW
  refine cv_astore_n (lv' := [(3, va_rf (Option.map (qM q) o1)), (0, .ref (q 0)), (1, .int x1), (2, .int x2)]) C.1 C.2.1 dX10_better_5 rfl hl (by decide) rfl (fun ls hl => ?_)
  refine cv_aload_n C.1 C.2.1 dX10_better_6 rfl (lv_at hl 0 rfl) ?_
  rcases o1 with _ | mi5
  · replace h := h.1 rfl
    replace hl : lv_has ls 9 [(3, .null), (0, .ref (q 0)), (1, .int x1), (2, .int x2)] := hl
    refine lv_ifnullN (tgt := 20) C.1 C.2.1 dX10_better_7 (by decide) ?_
    refine lv_iconst (v := -1) C.1 C.2.1 dX10_better_20 (by decide) ?_
    exact t_i C hr hlk (u := (S2, L3, R4)) hW.2.2.2.1 hW.B h dX10_better_21
  · replace h := h.2 mi5 rfl
    replace hl : lv_has ls 9 [(3, .ref (q (29 + 2 * mi5))), (0, .ref (q 0)), (1, .int x1), (2, .int x2)] := hl
    refine lv_ifnull C.1 C.2.1 dX10_better_7 ?_
    refine lv_iload_n C.1 C.2.1 dX10_better_10 rfl (lv_at hl 3 rfl) ?_
    refine lv_iconst (v := 0) C.1 C.2.1 dX10_better_11 (by decide) ?_
    refine lv_bipush (v := 6) C.1 C.2.1 dX10_better_12 (by decide) ?_
    refine k_pi hW (va_runS (As := [.int x2, .int (0 : Int32), .int (6 : Int32)]) (rest := []) C (mtX10_within l D q _ H.size x2 (0 : Int32) (6 : Int32) _ h) (va_cwS 3 C.2.2.2.2 gX10_better_X10_within rfl rfl rfl (by decide +kernel) ⟨Nat.le_of_ble_eq_true rfl, Nat.le_of_ble_eq_true rfl⟩) ⟨mP_blind tX_B, fun U hU hV => ⟨rfl, hW.pre0 hU hV trivial⟩⟩ rfl rfl hl.1 rfl (lv_room (Nat.le_of_ble_eq_true rfl)) dX10_better_14 ⟨Nat.zero_le _, Nat.zero_le _⟩) (fun r6 H locs h hW => ?_)
    refine lv_if_ne (tgt := 22) C.1 C.2.1 dX10_better_17 (by decide) (fun c7 => ?_) (fun c7 => ?_)
    · replace h := h.1 c7
      refine lv_aload_n C.1 C.2.1 dX10_better_22 rfl (lv_at hl 0 rfl) ?_
      obtain ⟨hb8, h⟩ := h
      refine c_nums C hW hb8 inX10_better_X3 inX10_better_X4 inX10_better_X7 (ref := "BallMinder$Plain") (by decide +kernel) (fun _ h9 => h9) dX10_better_23 ?_
      refine lv_iload_n C.1 C.2.1 dX10_better_26 rfl (lv_at hl 3 rfl) ?_
      obtain ⟨hs9, h⟩ := h
      refine r_iald C hW (cA := cI) (n := 9) (f := S2 (30 + 2 * mi5)) (30 + 2 * mi5) 0 (by omega) (gC_nums mi5) rfl hs9 dX10_better_27 ?_
      refine lv_topi (fun x4_10 ex4_10 => ?_)
      replace h := h x4_10 ex4_10
      refine lv_istore (lv' := [(4, .int x4_10), (3, .ref (q (29 + 2 * mi5))), (0, .ref (q 0)), (1, .int x1), (2, .int x2)]) C.1 C.2.1 dX10_better_28 hl (by decide) rfl (fun ls hl => ?_)
      refine lv_iload C.1 C.2.1 dX10_better_30 (lv_at hl 0 rfl) ?_
      refine c_stat C hW hX.2.2.1 (by decide +kernel) dX10_better_32 (fun t11 hT12 => ?_)
      refine lv_iload_n C.1 C.2.1 dX10_better_35 rfl (lv_at hl 4 rfl) ?_
      obtain ⟨hs13, h⟩ := h
      refine va_ti C.1 C.2.1 hT12 hW.2.2.2.1 hs13 rfl dX10_better_36 ?_
      refine lv_icmp_lt (tgt := 43) C.1 C.2.1 dX10_better_37 (by decide) (fun c14 => ?_) (fun c14 => ?_)
      · replace h := h.1 c14
        refine lv_aload_n C.1 C.2.1 dX10_better_43 rfl (lv_at hl 2 rfl) ?_
        refine lv_aload_n C.1 C.2.1 dX10_better_44 rfl (lv_at hl 1 rfl) ?_
        refine k_l hW (va_runV (As := [.ref (q (29 + 2 * mi5))]) (rest := []) C (mtX10_marginOf l D q cI cJ cZ cP cS K n H.size mi5 S2 L3 R4 _ h) (cwV 1 C.2.2.2.2 gX10_better_X10_marginOf rfl rfl rfl (by decide +kernel) ⟨Nat.le_of_ble_eq_true rfl, Nat.le_of_ble_eq_true rfl⟩) ⟨mP_blind cX_B, va_recv hW.1 hW.2.1 (ci := 10) (q0 := 0) rfl (wL_get (by omega)), fun U hU hV => ⟨rfl, hW.pre hU hV (hX.call hW hU hV)⟩⟩ rfl rfl hl.1 rfl (lv_room (Nat.le_of_ble_eq_true rfl)) dX10_better_45 ⟨Nat.zero_le _, Nat.zero_le _⟩) (fun r15 u H locs h hW => ?_)
        obtain ⟨S16, L17, R18⟩ := u
        replace hW : hw D (tyC cI cJ cZ cP cS) q (29 + 2 * n) (gC q cI cJ cZ cP cS K n S16 L17 R18) A s H locs := hW
        refine lv_lstore (lv' := [(5, .long r15), (4, .int x4_10), (3, .ref (q (29 + 2 * mi5))), (0, .ref (q 0)), (1, .int x1), (2, .int x2)]) C.1 C.2.1 dX10_better_48 hl (by decide) rfl (fun ls hl => ?_)
        refine lv_aload_n C.1 C.2.1 dX10_better_50 rfl (lv_at hl 2 rfl) ?_
        refine c_nums C hW hb8 inX10_better_X3 inX10_better_X4 inX10_better_X7 (ref := "BallMinder$Plain") (by decide +kernel) (fun _ h9 => h9) dX10_better_51 ?_
        refine lv_iload_n C.1 C.2.1 dX10_better_54 rfl (lv_at hl 5 rfl) ?_
        refine lv_iload C.1 C.2.1 dX10_better_55 (lv_at hl 1 rfl) ?_
        refine lv_iconst (v := 1) C.1 C.2.1 dX10_better_57 (by decide) ?_
        refine lv_iadd C.1 C.2.1 dX10_better_58 ?_
        obtain ⟨hs19, h⟩ := h
        refine r_iast C hW (cA := cI) (n := 9) (f := S16 (30 + 2 * mi5)) (30 + 2 * mi5) 0 (by omega) (gC_nums mi5) rfl hs19 dX10_better_59 (fun H locs hW => ?_)
        replace hW := gC_put (F := upd (S16 (30 + 2 * mi5)) x2.toNatClampNeg (x4_10 + (1 : Int32))) (by rw [gC_nums, va_up_self]) hW
        obtain ⟨S20, eS20⟩ : ∃ z : Nat → Nat → Int32, z = va_up S16 (30 + 2 * mi5) (upd (S16 (30 + 2 * mi5)) x2.toNatClampNeg (x4_10 + (1 : Int32))) := ⟨_, rfl⟩
        rw [← eS20] at hW
        replace h := h S20 eS20
        refine lv_aload_n C.1 C.2.1 dX10_better_60 rfl (lv_at hl 3 rfl) ?_
        refine lv_aload_n C.1 C.2.1 dX10_better_61 rfl (lv_at hl 2 rfl) ?_
        refine k_l hW (va_runV (As := [.ref (q (29 + 2 * mi5))]) (rest := []) C (mtX10_marginOf l D q cI cJ cZ cP cS K n H.size mi5 S20 L17 R18 _ h) (cwV 1 C.2.2.2.2 gX10_better_X10_marginOf rfl rfl rfl (by decide +kernel) ⟨Nat.le_of_ble_eq_true rfl, Nat.le_of_ble_eq_true rfl⟩) ⟨mP_blind cX_B, va_recv hW.1 hW.2.1 (ci := 10) (q0 := 0) rfl (wL_get (by omega)), fun U hU hV => ⟨rfl, hW.pre hU hV (hX.call hW hU hV)⟩⟩ rfl rfl hl.1 rfl (lv_room (Nat.le_of_ble_eq_true rfl)) dX10_better_62 ⟨Nat.zero_le _, Nat.zero_le _⟩) (fun r21 u H locs h hW => ?_)
        obtain ⟨S22, L23, R24⟩ := u
        replace hW : hw D (tyC cI cJ cZ cP cS) q (29 + 2 * n) (gC q cI cJ cZ cP cS K n S22 L23 R24) A s H locs := hW
        refine lv_lstore (lv' := [(7, .long r21), (5, .long r15), (4, .int x4_10), (3, .ref (q (29 + 2 * mi5))), (0, .ref (q 0)), (1, .int x1), (2, .int x2)]) C.1 C.2.1 dX10_better_65 hl (by decide) rfl (fun ls hl => ?_)
        refine lv_aload_n C.1 C.2.1 dX10_better_67 rfl (lv_at hl 3 rfl) ?_
        refine c_nums C hW hb8 inX10_better_X3 inX10_better_X4 inX10_better_X7 (ref := "BallMinder$Plain") (by decide +kernel) (fun _ h9 => h9) dX10_better_68 ?_
        refine lv_iload_n C.1 C.2.1 dX10_better_71 rfl (lv_at hl 6 rfl) ?_
        refine lv_iload C.1 C.2.1 dX10_better_72 (lv_at hl 2 rfl) ?_
        obtain ⟨hs25, h⟩ := h
        refine r_iast C hW (cA := cI) (n := 9) (f := S22 (30 + 2 * mi5)) (30 + 2 * mi5) 0 (by omega) (gC_nums mi5) rfl hs25 dX10_better_74 (fun H locs hW => ?_)
        replace hW := gC_put (F := upd (S22 (30 + 2 * mi5)) x2.toNatClampNeg x4_10) (by rw [gC_nums, va_up_self]) hW
        obtain ⟨S26, eS26⟩ : ∃ z : Nat → Nat → Int32, z = va_up S22 (30 + 2 * mi5) (upd (S22 (30 + 2 * mi5)) x2.toNatClampNeg x4_10) := ⟨_, rfl⟩
        rw [← eS26] at hW
        replace h := h S26 eS26
        refine lv_lload C.1 C.2.1 dX10_better_75 (lv_at hl 0 rfl) ?_
        refine lv_lload C.1 C.2.1 dX10_better_77 (lv_at hl 1 rfl) ?_
        refine k_pi hW (va_runS (As := [.long r21, .long r15]) (rest := []) C (mtJ13_compare_74951 l D q _ H.size r21 r15 _ h) (va_cwS 2 C.2.2.2.2 gX10_better_J13_compare_74951 rfl rfl rfl (by decide +kernel) ⟨Nat.le_of_ble_eq_true rfl, Nat.le_of_ble_eq_true rfl⟩) ⟨mP_blind tX_B, fun U hU hV => ⟨rfl, hW.pre0 hU hV trivial⟩⟩ rfl rfl hl.1 rfl (lv_room (Nat.le_of_ble_eq_true rfl)) dX10_better_79 ⟨Nat.zero_le _, Nat.zero_le _⟩) (fun r27 H locs h hW => ?_)
        exact t_i C hr hlk (u := (S26, L23, R24)) hW.2.2.2.1 hW.B h dX10_better_82
      · replace h := h.2 c14
        refine lv_bipush (v := -3) C.1 C.2.1 dX10_better_40 (by decide) ?_
        exact t_i C hr hlk (u := (S2, L3, R4)) hW.2.2.2.1 hW.B h dX10_better_42
    · replace h := h.2 c7
      refine lv_iconst (v := -1) C.1 C.2.1 dX10_better_20 (by decide) ?_
      exact t_i C hr hlk (u := (S2, L3, R4)) hW.2.2.2.1 hW.B h dX10_better_21
set_option maxRecDepth 100000 in
set_option maxHeartbeats 4000000 in
theorem mtX10_better (l : Launch) (D : va_G) (q : Nat → Nat) (cI cJ cZ cP cS : ClassId) (K : Nat → Nat) (n : Nat) (sz : Nat) (x1 : Int32) (x2 : Int32) (S : Nat → Nat → Int32) (L : Nat → Int64) (R : Nat → Option Nat) (Q : Int32 → (Nat → Nat → Int32) → (Nat → Int64) → (Nat → Option Nat) → Prop) (h : vX10_better K n x1 x2 S L R Q) : Met l yX10_better wsX10_better rmX10_better (va_Pc [.ref (q 0), .int x1, .int x2] (mP D (tyC cI cJ cZ cP cS) q (29 + 2 * n) (gC q cI cJ cZ cP cS K n S L R) sz (cX (aQ q (29 + 2 * n) sz)))) (QCi D q cI cJ cZ cP cS K n Q (aQ q (29 + 2 * n) sz)) 0 0 (aQ q (29 + 2 * n) sz) := by
  refine met_w (cc := cX10_better) (maxL := 9) (ret := (some .int)) (by decide) rfl (Nat.le_of_ble_eq_true rfl) ?_
  intro p e s m below meth c ls C hr hlk hW hX hnm hl
  exact sX10_better C hr hlk hX Q x1 x2 S L R _ _ _ h hW hl
