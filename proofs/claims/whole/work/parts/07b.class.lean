abbrev rmX10_within : Room := { frames := 0, cells := 0, slots := 0, locals := 0 }
def vX10_within (x0 : Int32) (x1 : Int32) (x2 : Int32) (Q : Int32 → Prop) : Prop := (x0 < x1 → Q (0 : Int32)) ∧ (¬ (x0 < x1) → (x2 < x0 → Q (0 : Int32)) ∧ (¬ (x2 < x0) → Q (1 : Int32)))
set_option maxRecDepth 100000 in
set_option maxHeartbeats 4000000 in
theorem sX10_within {p : Program} {l : Launch} {e : Env} {s : State} {m : MethodId} {args : Array Value} {below : List Frame} {meth : Method} {c : Code} {D : va_G} {q : Nat → Nat} {A : Nat → Prop} {tys : List (ClassId × FieldType)} {N : Nat} {g : Nat → va_E} (C : CallFix p m c cX10_within 3 s args wsX10_within RX10) (hr : meth.sig.returnType = (some .boolean)) (hlk : meth.locks = false) (Q : Int32 → Prop) : ∀ (x0 : Int32) (x1 : Int32) (x2 : Int32) (H : Heap) (locs : List Loc) (ls : Array Slot), vX10_within x0 x1 x2 Q → hw D tys q N g A s H locs → lv_has ls 3 [(0, .int x0), (1, .int x1), (2, .int x2)] → W p l e (headSpec wsX10_within rmX10_within).room s m args below meth c H locs 0 0 (MQ below (va_Qi (fun r (_ : Unit) => Q r) (fun _ _ => True) A) args s 0 0 A) (F0 m 0 ls []) := by
  intro x0 x1 x2 H locs ls h hW hl
  unfold vX10_within at h
  refine lv_iload_n C.1 C.2.1 dX10_within_0 rfl (lv_at hl 0 rfl) ?_
  refine lv_iload_n C.1 C.2.1 dX10_within_1 rfl (lv_at hl 1 rfl) ?_
  refine lv_icmp_lt (tgt := 14) C.1 C.2.1 dX10_within_2 (by decide) (fun c1 => ?_) (fun c1 => ?_)
  · replace h := h.1 c1
    refine lv_iconst (v := 0) C.1 C.2.1 dX10_within_14 (by decide) ?_
    exact t_z C hr hlk (u := ()) (Or.inl rfl) hW.2.2.2.1 (fun _ _ => trivial) h dX10_within_15
  · replace h := h.2 c1
    refine lv_iload_n C.1 C.2.1 dX10_within_5 rfl (lv_at hl 0 rfl) ?_
    refine lv_iload_n C.1 C.2.1 dX10_within_6 rfl (lv_at hl 2 rfl) ?_
    refine lv_icmp_gt (tgt := 14) C.1 C.2.1 dX10_within_7 (by decide) (fun c2 => ?_) (fun c2 => ?_)
    · replace h := h.1 c2
      refine lv_iconst (v := 0) C.1 C.2.1 dX10_within_14 (by decide) ?_
      exact t_z C hr hlk (u := ()) (Or.inl rfl) hW.2.2.2.1 (fun _ _ => trivial) h dX10_within_15
    · replace h := h.2 c2
      refine lv_iconst (v := 1) C.1 C.2.1 dX10_within_10 (by decide) ?_
      refine lv_goto (tgt := 15) C.1 C.2.1 dX10_within_11 (by decide) ?_
      exact t_z C hr hlk (u := ()) (Or.inr rfl) hW.2.2.2.1 (fun _ _ => trivial) h dX10_within_15
set_option maxRecDepth 100000 in
set_option maxHeartbeats 4000000 in
theorem mtX10_within (l : Launch) (D : va_G) (q : Nat → Nat) (g : Nat → va_E) (sz : Nat) (x0 : Int32) (x1 : Int32) (x2 : Int32) (Q : Int32 → Prop) (h : vX10_within x0 x1 x2 Q) : Met l yX10_within wsX10_within rmX10_within (va_Pc [.int x0, .int x1, .int x2] (mP D [] q 0 g sz tX)) (va_Qi (fun r (_ : Unit) => Q r) (fun _ _ => True) (aQ q 0 sz)) 0 0 (aQ q 0 sz) := by
  refine met_w (cc := cX10_within) (maxL := 3) (ret := (some .boolean)) (by decide) rfl (Nat.le_of_ble_eq_true rfl) ?_
  intro p e s m below meth c ls C hr hlk hW hX hnm hl
  exact sX10_within C hr hlk Q x0 x1 x2 _ _ _ h hW hl
theorem inX10_millOf_X10 : ∀ w ∈ wsX100, w ∈ wsX10_millOf := fun _ h => List.mem_cons_of_mem _ (List.mem_append_right _ h)
abbrev rmX10_millOf : Room := { frames := 1, cells := 0, slots := 0, locals := 22 }
def vX10_millOf (K : Nat → Nat) (n : Nat) (x1 : Int32) (S : Nat → Nat → Int32) (L : Nat → Int64) (R : Nat → Option Nat) (Q : Option Nat → (Nat → Nat → Int32) → (Nat → Int64) → (Nat → Option Nat) → Prop) : Prop := vX10_within x1 (0 : Int32) ((S 0 8) - (1 : Int32)) (fun r1 => (r1 = 0 → Q none S L R) ∧ (¬ (r1 = 0) → vp_in x1 8 ∧ (∀ o4 : Option Nat, o4 = (if x1.toNatClampNeg < n then some x1.toNatClampNeg else none) → Q o4 S L R)))
set_option maxRecDepth 100000 in
set_option maxHeartbeats 4000000 in
theorem sX10_millOf {p : Program} {l : Launch} {e : Env} {s : State} {m : MethodId} {args : Array Value} {below : List Frame} {meth : Method} {c : Code} {D : va_G} {q : Nat → Nat} {A : Nat → Prop} {cI cJ cZ cP cS : ClassId} {K : Nat → Nat} {n : Nat} (C : CallFix p m c cX10_millOf 2 s args wsX10_millOf RX10) (hr : meth.sig.returnType = (some (.object "BallMinder$Plain"))) (hlk : meth.locks = false) (hX : cX A s) (Q : Option Nat → (Nat → Nat → Int32) → (Nat → Int64) → (Nat → Option Nat) → Prop) : ∀ (x1 : Int32) (S : Nat → Nat → Int32) (L : Nat → Int64) (R : Nat → Option Nat) (H : Heap) (locs : List Loc) (ls : Array Slot), vX10_millOf K n x1 S L R Q → hw D (tyC cI cJ cZ cP cS) q (29 + 2 * n) (gC q cI cJ cZ cP cS K n S L R) A s H locs → lv_has ls 2 [(0, .ref (q 0)), (1, .int x1)] → W p l e (headSpec wsX10_millOf rmX10_millOf).room s m args below meth c H locs 0 0 (MQ below (QCm D q cI cJ cZ cP cS K n Q A) args s 0 0 A) (F0 m 0 ls []) := by
  intro x1 S L R H locs ls h hW hl
  unfold vX10_millOf at h
  refine lv_iload_n C.1 C.2.1 dX10_millOf_0 rfl (lv_at hl 1 rfl) ?_
  refine lv_iconst (v := 0) C.1 C.2.1 dX10_millOf_1 (by decide) ?_
  refine lv_aload_n C.1 C.2.1 dX10_millOf_2 rfl (lv_at hl 0 rfl) ?_
  refine r_get C hW (ci := 10) (T := TX10) (n := 11) (ref := "BallMinder") (v := .int (S 0 8)) (0) (by omega) rfl rfl 8 (by decide) inX10_millOf_X10 (by decide +kernel) (fun _ h9 => h9) rfl dX10_millOf_3 ?_
  refine lv_iconst (v := 1) C.1 C.2.1 dX10_millOf_6 (by decide) ?_
  refine lv_isub C.1 C.2.1 dX10_millOf_7 ?_
  refine k_pi hW (va_runS (As := [.int x1, .int (0 : Int32), .int ((S 0 8) - (1 : Int32))]) (rest := []) C (mtX10_within l D q _ H.size x1 (0 : Int32) ((S 0 8) - (1 : Int32)) _ h) (va_cwS 3 C.2.2.2.2 gX10_millOf_X10_within rfl rfl rfl (by decide +kernel) ⟨Nat.le_of_ble_eq_true rfl, Nat.le_of_ble_eq_true rfl⟩) ⟨mP_blind tX_B, fun U hU hV => ⟨rfl, hW.pre0 hU hV trivial⟩⟩ rfl rfl hl.1 rfl (lv_room (Nat.le_of_ble_eq_true rfl)) dX10_millOf_8 ⟨Nat.zero_le _, Nat.zero_le _⟩) (fun r1 H locs h hW => ?_)
  refine lv_if_eq (tgt := 23) C.1 C.2.1 dX10_millOf_11 (by decide) (fun c2 => ?_) (fun c2 => ?_)
  · replace h := h.1 c2
    refine lv_null C.1 C.2.1 dX10_millOf_23 ?_
    exact t_q C hr hlk (v := none) (u := (S, L, R)) hW.2.2.2.1 hW.B ⟨none, rfl, h⟩ dX10_millOf_24
  · replace h := h.2 c2
    refine lv_aload_n C.1 C.2.1 dX10_millOf_14 rfl (lv_at hl 0 rfl) ?_
    refine r_get C hW (ci := 10) (T := TX10) (n := 11) (ref := "BallMinder") (v := .ref (q 1)) (0) (by omega) rfl rfl 0 (by decide) inX10_millOf_X10 (by decide +kernel) (fun _ h9 => h9) rfl dX10_millOf_15 ?_
    refine lv_iload_n C.1 C.2.1 dX10_millOf_18 rfl (lv_at hl 1 rfl) ?_
    obtain ⟨hs3, h⟩ := h
    refine c_millAt C hW hs3 dX10_millOf_19 (fun o4 eo4 => ?_)
    replace h := h o4 eo4
    refine lv_goto (tgt := 24) C.1 C.2.1 dX10_millOf_20 (by decide) ?_
    exact t_q C hr hlk (v := Option.map (qM q) o4) (u := (S, L, R)) hW.2.2.2.1 hW.B ⟨o4, rfl, h⟩ dX10_millOf_24
set_option maxRecDepth 100000 in
set_option maxHeartbeats 4000000 in
theorem mtX10_millOf (l : Launch) (D : va_G) (q : Nat → Nat) (cI cJ cZ cP cS : ClassId) (K : Nat → Nat) (n : Nat) (sz : Nat) (x1 : Int32) (S : Nat → Nat → Int32) (L : Nat → Int64) (R : Nat → Option Nat) (Q : Option Nat → (Nat → Nat → Int32) → (Nat → Int64) → (Nat → Option Nat) → Prop) (h : vX10_millOf K n x1 S L R Q) : Met l yX10_millOf wsX10_millOf rmX10_millOf (va_Pc [.ref (q 0), .int x1] (mP D (tyC cI cJ cZ cP cS) q (29 + 2 * n) (gC q cI cJ cZ cP cS K n S L R) sz (cX (aQ q (29 + 2 * n) sz)))) (QCm D q cI cJ cZ cP cS K n Q (aQ q (29 + 2 * n) sz)) 0 0 (aQ q (29 + 2 * n) sz) := by
  refine met_w (cc := cX10_millOf) (maxL := 2) (ret := (some (.object "BallMinder$Plain"))) (by decide) rfl (Nat.le_of_ble_eq_true rfl) ?_
  intro p e s m below meth c ls C hr hlk hW hX hnm hl
  exact sX10_millOf C hr hlk hX Q x1 S L R _ _ _ h hW hl
theorem inX10_ofMill_X3 : ∀ w ∈ wsX30, w ∈ wsX10_ofMill := fun _ h => List.mem_cons_of_mem _ (List.mem_append_left _ (List.mem_append_left _ (List.mem_append_left _ (List.mem_append_right _ h))))
theorem inX10_ofMill_X4 : ∀ w ∈ wsX40, w ∈ wsX10_ofMill := fun _ h => List.mem_cons_of_mem _ (List.mem_append_left _ (List.mem_append_left _ (List.mem_append_right _ h)))
theorem inX10_ofMill_X7 : ∀ w ∈ wsX70, w ∈ wsX10_ofMill := fun _ h => List.mem_cons_of_mem _ (List.mem_append_left _ (List.mem_append_right _ h))
theorem inX10_ofMill_X10 : ∀ w ∈ wsX100, w ∈ wsX10_ofMill := fun _ h => List.mem_cons_of_mem _ (List.mem_append_right _ h)
abbrev rmX10_ofMill : Room := { frames := 2, cells := 0, slots := 0, locals := 43 }
def vX10_ofMill (K : Nat → Nat) (n : Nat) (x1 : Int32) (x2 : Int32) (S : Nat → Nat → Int32) (L : Nat → Int64) (R : Nat → Option Nat) (Q : Int32 → (Nat → Nat → Int32) → (Nat → Int64) → (Nat → Option Nat) → Prop) : Prop := vX10_millOf K n x1 S L R (fun o1 S2 L3 R4 => (o1 = none → Q (-1 : Int32) S2 L3 R4) ∧ (∀ mi5 : Nat, o1 = some mi5 → vX10_within x2 (0 : Int32) (9 : Int32) (fun r6 => (¬ r6 = 0 → (¬ x2 = (9 : Int32) → mi5 < n ∧ (vp_in x2 9 ∧ (Q (S2 (30 + 2 * mi5) x2.toNatClampNeg) S2 L3 R4))) ∧ (x2 = (9 : Int32) → mi5 < n ∧ ((K mi5 = 0 → vX4_kind K n mi5  S2 L3 R4 (fun r11 S12 L13 R14 => Q r11 S12 L13 R14)) ∧ (K mi5 = 1 → vX3_kind K n mi5  S2 L3 R4 (fun r11 S12 L13 R14 => Q r11 S12 L13 R14)) ∧ (¬ K mi5 = 0 → ¬ K mi5 = 1 → vX7_kind K n mi5  S2 L3 R4 (fun r11 S12 L13 R14 => Q r11 S12 L13 R14))))) ∧ (r6 = 0 → Q (-1 : Int32) S2 L3 R4))))
set_option maxRecDepth 100000 in
set_option maxHeartbeats 4000000 in
theorem sX10_ofMill {p : Program} {l : Launch} {e : Env} {s : State} {m : MethodId} {args : Array Value} {below : List Frame} {meth : Method} {c : Code} {D : va_G} {q : Nat → Nat} {A : Nat → Prop} {cI cJ cZ cP cS : ClassId} {K : Nat → Nat} {n : Nat} (C : CallFix p m c cX10_ofMill 4 s args wsX10_ofMill RX10) (hr : meth.sig.returnType = (some .int)) (hlk : meth.locks = false) (hX : cX A s) (Q : Int32 → (Nat → Nat → Int32) → (Nat → Int64) → (Nat → Option Nat) → Prop) : ∀ (x1 : Int32) (x2 : Int32) (S : Nat → Nat → Int32) (L : Nat → Int64) (R : Nat → Option Nat) (H : Heap) (locs : List Loc) (ls : Array Slot), vX10_ofMill K n x1 x2 S L R Q → hw D (tyC cI cJ cZ cP cS) q (29 + 2 * n) (gC q cI cJ cZ cP cS K n S L R) A s H locs → lv_has ls 4 [(0, .ref (q 0)), (1, .int x1), (2, .int x2)] → W p l e (headSpec wsX10_ofMill rmX10_ofMill).room s m args below meth c H locs 0 0 (MQ below (QCi D q cI cJ cZ cP cS K n Q A) args s 0 0 A) (F0 m 0 ls []) := by
  intro x1 x2 S L R H locs ls h hW hl
  unfold vX10_ofMill at h
  refine lv_aload_n C.1 C.2.1 dX10_ofMill_0 rfl (lv_at hl 0 rfl) ?_
  refine lv_iload_n C.1 C.2.1 dX10_ofMill_1 rfl (lv_at hl 1 rfl) ?_
  refine k_q hW (va_runV (As := [.int x1]) (rest := []) C (mtX10_millOf l D q cI cJ cZ cP cS K n H.size x1 S L R _ h) (cwV 1 C.2.2.2.2 gX10_ofMill_X10_millOf rfl rfl rfl (by decide +kernel) ⟨Nat.le_of_ble_eq_true rfl, Nat.le_of_ble_eq_true rfl⟩) ⟨mP_blind cX_B, va_recv hW.1 hW.2.1 (ci := 10) (q0 := 0) rfl (wL_get (by omega)), fun U hU hV => ⟨rfl, hW.pre hU hV (hX.call hW hU hV)⟩⟩ rfl rfl hl.1 rfl (lv_room (Nat.le_of_ble_eq_true rfl)) dX10_ofMill_2 ⟨Nat.zero_le _, Nat.zero_le _⟩) (fun r9 u H locs h hW => ?_)
  obtain ⟨S2, L3, R4⟩ := u
  obtain ⟨o1, rfl, h⟩ := h
  replace hW : hw D (tyC cI cJ cZ cP cS) q (29 + 2 * n) (gC q cI cJ cZ cP cS K n S2 L3 R4) A s H locs := hW
  refine cv_astore_n (lv' := [(3, va_rf (Option.map (qM q) o1)), (0, .ref (q 0)), (1, .int x1), (2, .int x2)]) C.1 C.2.1 dX10_ofMill_5 rfl hl (by decide) rfl (fun ls hl => ?_)
  refine cv_aload_n C.1 C.2.1 dX10_ofMill_6 rfl (lv_at hl 0 rfl) ?_
  rcases o1 with _ | mi5
  · replace h := h.1 rfl
    replace hl : lv_has ls 4 [(3, .null), (0, .ref (q 0)), (1, .int x1), (2, .int x2)] := hl
    refine lv_ifnullN (tgt := 20) C.1 C.2.1 dX10_ofMill_7 (by decide) ?_
    refine lv_iconst (v := -1) C.1 C.2.1 dX10_ofMill_20 (by decide) ?_
    exact t_i C hr hlk (u := (S2, L3, R4)) hW.2.2.2.1 hW.B h dX10_ofMill_21
  · replace h := h.2 mi5 rfl
    replace hl : lv_has ls 4 [(3, .ref (q (29 + 2 * mi5))), (0, .ref (q 0)), (1, .int x1), (2, .int x2)] := hl
    refine lv_ifnull C.1 C.2.1 dX10_ofMill_7 ?_
    refine lv_iload_n C.1 C.2.1 dX10_ofMill_10 rfl (lv_at hl 3 rfl) ?_
    refine lv_iconst (v := 0) C.1 C.2.1 dX10_ofMill_11 (by decide) ?_
    refine lv_bipush (v := 9) C.1 C.2.1 dX10_ofMill_12 (by decide) ?_
    refine k_pi hW (va_runS (As := [.int x2, .int (0 : Int32), .int (9 : Int32)]) (rest := []) C (mtX10_within l D q _ H.size x2 (0 : Int32) (9 : Int32) _ h) (va_cwS 3 C.2.2.2.2 gX10_ofMill_X10_within rfl rfl rfl (by decide +kernel) ⟨Nat.le_of_ble_eq_true rfl, Nat.le_of_ble_eq_true rfl⟩) ⟨mP_blind tX_B, fun U hU hV => ⟨rfl, hW.pre0 hU hV trivial⟩⟩ rfl rfl hl.1 rfl (lv_room (Nat.le_of_ble_eq_true rfl)) dX10_ofMill_14 ⟨Nat.zero_le _, Nat.zero_le _⟩) (fun r6 H locs h hW => ?_)
    refine lv_if_ne (tgt := 22) C.1 C.2.1 dX10_ofMill_17 (by decide) (fun c7 => ?_) (fun c7 => ?_)
    · replace h := h.1 c7
      refine lv_iload_n C.1 C.2.1 dX10_ofMill_22 rfl (lv_at hl 3 rfl) ?_
      refine lv_bipush (v := 9) C.1 C.2.1 dX10_ofMill_23 (by decide) ?_
      refine lv_icmp_ne (tgt := 35) C.1 C.2.1 dX10_ofMill_25 (by decide) (fun c8 => ?_) (fun c8 => ?_)
      · replace h := h.1 c8
        refine lv_aload_n C.1 C.2.1 dX10_ofMill_35 rfl (lv_at hl 0 rfl) ?_
        obtain ⟨hb9, h⟩ := h
        refine c_nums C hW hb9 inX10_ofMill_X3 inX10_ofMill_X4 inX10_ofMill_X7 (ref := "BallMinder$Plain") (by decide +kernel) (fun _ h9 => h9) dX10_ofMill_36 ?_
        refine lv_iload_n C.1 C.2.1 dX10_ofMill_39 rfl (lv_at hl 3 rfl) ?_
        obtain ⟨hs10, h⟩ := h
        refine r_iald C hW (cA := cI) (n := 9) (f := S2 (30 + 2 * mi5)) (30 + 2 * mi5) 0 (by omega) (gC_nums mi5) rfl hs10 dX10_ofMill_40 ?_
        exact t_i C hr hlk (u := (S2, L3, R4)) hW.2.2.2.1 hW.B h dX10_ofMill_41
      · replace h := h.2 c8
        refine lv_aload_n C.1 C.2.1 dX10_ofMill_28 rfl (lv_at hl 0 rfl) ?_
        obtain ⟨hb15, h⟩ := h
        refine k_i hW (by3 (k := K mi5) h (fun k0 h => va_runV (As := []) (rest := []) C (mtX4_kind l D q cI cJ cZ cP cS K n mi5 hb15 H.size  S2 L3 R4 _ h) (cwV 0 C.2.2.2.2 gX10_ofMill_X4_kind rfl rfl rfl (by decide +kernel) ⟨Nat.le_of_ble_eq_true rfl, Nat.le_of_ble_eq_true rfl⟩) ⟨mP_blind cX_B, c_rec0 hW hb15 k0, fun U hU hV => ⟨rfl, hW.pre hU hV (hX.call hW hU hV)⟩⟩ rfl rfl hl.1 rfl (lv_room (Nat.le_of_ble_eq_true rfl)) dX10_ofMill_29 ⟨Nat.zero_le _, Nat.zero_le _⟩) (fun k1 h => va_runU (As := []) (rest := []) C (mtX3_kind l D q cI cJ cZ cP cS K n mi5 hb15 H.size  S2 L3 R4 _ h) (va_cwO 0 C.2.2.2.2 gX10_ofMill_X3_kind_u101X3 rfl rfl rfl (show Cond.code yX4_kind cX4_kind 1 (some .int) ∈ wsX10_ofMill by decide +kernel) (by decide +kernel) ⟨Nat.le_of_ble_eq_true rfl, Nat.le_of_ble_eq_true rfl⟩) ⟨mP_blind cX_B, c_rec1 hW hb15 k1, fun U hU hV => ⟨rfl, hW.pre hU hV (hX.call hW hU hV)⟩⟩ rfl rfl hl.1 rfl (lv_room (Nat.le_of_ble_eq_true rfl)) dX10_ofMill_29 ⟨Nat.zero_le _, Nat.zero_le _⟩) (fun k0 k1 h => va_runU (As := []) (rest := []) C (mtX7_kind l D q cI cJ cZ cP cS K n mi5 hb15 k0 k1 H.size  S2 L3 R4 _ h) (va_cwO 0 C.2.2.2.2 gX10_ofMill_X7_kind_u101X7 rfl rfl rfl (show Cond.code yX4_kind cX4_kind 1 (some .int) ∈ wsX10_ofMill by decide +kernel) (by decide +kernel) ⟨Nat.le_of_ble_eq_true rfl, Nat.le_of_ble_eq_true rfl⟩) ⟨mP_blind cX_B, c_rec2 hW hb15 k0 k1, fun U hU hV => ⟨rfl, hW.pre hU hV (hX.call hW hU hV)⟩⟩ rfl rfl hl.1 rfl (lv_room (Nat.le_of_ble_eq_true rfl)) dX10_ofMill_29 ⟨Nat.zero_le _, Nat.zero_le _⟩)) (fun r11 u H locs h hW => ?_)
        obtain ⟨S12, L13, R14⟩ := u
        replace hW : hw D (tyC cI cJ cZ cP cS) q (29 + 2 * n) (gC q cI cJ cZ cP cS K n S12 L13 R14) A s H locs := hW
        refine lv_goto (tgt := 41) C.1 C.2.1 dX10_ofMill_32 (by decide) ?_
        exact t_i C hr hlk (u := (S12, L13, R14)) hW.2.2.2.1 hW.B h dX10_ofMill_41
    · replace h := h.2 c7
      refine lv_iconst (v := -1) C.1 C.2.1 dX10_ofMill_20 (by decide) ?_
      exact t_i C hr hlk (u := (S2, L3, R4)) hW.2.2.2.1 hW.B h dX10_ofMill_21
set_option maxRecDepth 100000 in
set_option maxHeartbeats 4000000 in
theorem mtX10_ofMill (l : Launch) (D : va_G) (q : Nat → Nat) (cI cJ cZ cP cS : ClassId) (K : Nat → Nat) (n : Nat) (sz : Nat) (x1 : Int32) (x2 : Int32) (S : Nat → Nat → Int32) (L : Nat → Int64) (R : Nat → Option Nat) (Q : Int32 → (Nat → Nat → Int32) → (Nat → Int64) → (Nat → Option Nat) → Prop) (h : vX10_ofMill K n x1 x2 S L R Q) : Met l yX10_ofMill wsX10_ofMill rmX10_ofMill (va_Pc [.ref (q 0), .int x1, .int x2] (mP D (tyC cI cJ cZ cP cS) q (29 + 2 * n) (gC q cI cJ cZ cP cS K n S L R) sz (cX (aQ q (29 + 2 * n) sz)))) (QCi D q cI cJ cZ cP cS K n Q (aQ q (29 + 2 * n) sz)) 0 0 (aQ q (29 + 2 * n) sz) := by
  refine met_w (cc := cX10_ofMill) (maxL := 4) (ret := (some .int)) (by decide) rfl (Nat.le_of_ble_eq_true rfl) ?_
  intro p e s m below meth c ls C hr hlk hW hX hnm hl
  exact sX10_ofMill C hr hlk hX Q x1 x2 S L R _ _ _ h hW hl
theorem inX10_turn_X3 : ∀ w ∈ wsX30, w ∈ wsX10_turn := fun _ h => List.mem_cons_of_mem _ (List.mem_append_left _ (List.mem_append_left _ (List.mem_append_left _ (List.mem_append_right _ h))))
theorem inX10_turn_X4 : ∀ w ∈ wsX40, w ∈ wsX10_turn := fun _ h => List.mem_cons_of_mem _ (List.mem_append_left _ (List.mem_append_left _ (List.mem_append_right _ h)))
theorem inX10_turn_X7 : ∀ w ∈ wsX70, w ∈ wsX10_turn := fun _ h => List.mem_cons_of_mem _ (List.mem_append_left _ (List.mem_append_right _ h))
theorem inX10_turn_X10 : ∀ w ∈ wsX100, w ∈ wsX10_turn := fun _ h => List.mem_cons_of_mem _ (List.mem_append_right _ h)
abbrev rmX10_turn : Room := { frames := 2, cells := 0, slots := 0, locals := 43 }
def vX10_turn (K : Nat → Nat) (n : Nat) (x1 : Int32) (x2 : Int32) (x3 : Int32) (S : Nat → Nat → Int32) (L : Nat → Int64) (R : Nat → Option Nat) (Q : Int32 → (Nat → Nat → Int32) → (Nat → Int64) → (Nat → Option Nat) → Prop) : Prop := vX10_millOf K n x1 S L R (fun o1 S2 L3 R4 => (o1 = none → Q (-1 : Int32) S2 L3 R4) ∧ (∀ mi5 : Nat, o1 = some mi5 → vX10_within x2 (0 : Int32) (8 : Int32) (fun r6 => (¬ r6 = 0 → vp_in x2 9 ∧ (vp_in x2 9 ∧ (vX10_within x3 (leastV x2.toNatClampNeg) (greatestV x2.toNatClampNeg) (fun r14 => (¬ r14 = 0 → mi5 < n ∧ (vp_in x2 9 ∧ (∀ x5_18 : Int32, x5_18 = S2 (30 + 2 * mi5) x2.toNatClampNeg → vp_in x2 9 ∧ (∀ S20 : Nat → Nat → Int32, S20 = va_up S2 (30 + 2 * mi5) (upd (S2 (30 + 2 * mi5)) x2.toNatClampNeg x3) → Q x5_18 S20 L3 R4)))) ∧ (r14 = 0 → Q (-2 : Int32) S2 L3 R4))))) ∧ (r6 = 0 → Q (-1 : Int32) S2 L3 R4))))
set_option maxRecDepth 100000 in
set_option maxHeartbeats 4000000 in
theorem sX10_turn {p : Program} {l : Launch} {e : Env} {s : State} {m : MethodId} {args : Array Value} {below : List Frame} {meth : Method} {c : Code} {D : va_G} {q : Nat → Nat} {A : Nat → Prop} {cI cJ cZ cP cS : ClassId} {K : Nat → Nat} {n : Nat} (C : CallFix p m c cX10_turn 6 s args wsX10_turn RX10) (hr : meth.sig.returnType = (some .int)) (hlk : meth.locks = false) (hX : cX A s) (Q : Int32 → (Nat → Nat → Int32) → (Nat → Int64) → (Nat → Option Nat) → Prop) : ∀ (x1 : Int32) (x2 : Int32) (x3 : Int32) (S : Nat → Nat → Int32) (L : Nat → Int64) (R : Nat → Option Nat) (H : Heap) (locs : List Loc) (ls : Array Slot), vX10_turn K n x1 x2 x3 S L R Q → hw D (tyC cI cJ cZ cP cS) q (29 + 2 * n) (gC q cI cJ cZ cP cS K n S L R) A s H locs → lv_has ls 6 [(0, .ref (q 0)), (1, .int x1), (2, .int x2), (3, .int x3)] → W p l e (headSpec wsX10_turn rmX10_turn).room s m args below meth c H locs 0 0 (MQ below (QCi D q cI cJ cZ cP cS K n Q A) args s 0 0 A) (F0 m 0 ls []) := by
  intro x1 x2 x3 S L R H locs ls h hW hl
  unfold vX10_turn at h
  refine lv_aload_n C.1 C.2.1 dX10_turn_0 rfl (lv_at hl 0 rfl) ?_
  refine lv_iload_n C.1 C.2.1 dX10_turn_1 rfl (lv_at hl 1 rfl) ?_
  refine k_q hW (va_runV (As := [.int x1]) (rest := []) C (mtX10_millOf l D q cI cJ cZ cP cS K n H.size x1 S L R _ h) (cwV 1 C.2.2.2.2 gX10_turn_X10_millOf rfl rfl rfl (by decide +kernel) ⟨Nat.le_of_ble_eq_true rfl, Nat.le_of_ble_eq_true rfl⟩) ⟨mP_blind cX_B, va_recv hW.1 hW.2.1 (ci := 10) (q0 := 0) rfl (wL_get (by omega)), fun U hU hV => ⟨rfl, hW.pre hU hV (hX.call hW hU hV)⟩⟩ rfl rfl hl.1 rfl (lv_room (Nat.le_of_ble_eq_true rfl)) dX10_turn_2 ⟨Nat.zero_le _, Nat.zero_le _⟩) (fun r9 u H locs h hW => ?_)
  obtain ⟨S2, L3, R4⟩ := u
  obtain ⟨o1, rfl, h⟩ := h
  replace hW : hw D (tyC cI cJ cZ cP cS) q (29 + 2 * n) (gC q cI cJ cZ cP cS K n S2 L3 R4) A s H locs := hW
  refine cv_astore (lv' := [(4, va_rf (Option.map (qM q) o1)), (0, .ref (q 0)), (1, .int x1), (2, .int x2), (3, .int x3)]) C.1 C.2.1 dX10_turn_5 hl (by decide) rfl (fun ls hl => ?_)
  refine cv_aload C.1 C.2.1 dX10_turn_7 (lv_at hl 0 rfl) ?_
  rcases o1 with _ | mi5
  · replace h := h.1 rfl
    replace hl : lv_has ls 6 [(4, .null), (0, .ref (q 0)), (1, .int x1), (2, .int x2), (3, .int x3)] := hl
    refine lv_ifnullN (tgt := 22) C.1 C.2.1 dX10_turn_9 (by decide) ?_
    refine lv_iconst (v := -1) C.1 C.2.1 dX10_turn_22 (by decide) ?_
    exact t_i C hr hlk (u := (S2, L3, R4)) hW.2.2.2.1 hW.B h dX10_turn_23
  · replace h := h.2 mi5 rfl
    replace hl : lv_has ls 6 [(4, .ref (q (29 + 2 * mi5))), (0, .ref (q 0)), (1, .int x1), (2, .int x2), (3, .int x3)] := hl
    refine lv_ifnull C.1 C.2.1 dX10_turn_9 ?_
    refine lv_iload_n C.1 C.2.1 dX10_turn_12 rfl (lv_at hl 3 rfl) ?_
    refine lv_iconst (v := 0) C.1 C.2.1 dX10_turn_13 (by decide) ?_
    refine lv_bipush (v := 8) C.1 C.2.1 dX10_turn_14 (by decide) ?_
    refine k_pi hW (va_runS (As := [.int x2, .int (0 : Int32), .int (8 : Int32)]) (rest := []) C (mtX10_within l D q _ H.size x2 (0 : Int32) (8 : Int32) _ h) (va_cwS 3 C.2.2.2.2 gX10_turn_X10_within rfl rfl rfl (by decide +kernel) ⟨Nat.le_of_ble_eq_true rfl, Nat.le_of_ble_eq_true rfl⟩) ⟨mP_blind tX_B, fun U hU hV => ⟨rfl, hW.pre0 hU hV trivial⟩⟩ rfl rfl hl.1 rfl (lv_room (Nat.le_of_ble_eq_true rfl)) dX10_turn_16 ⟨Nat.zero_le _, Nat.zero_le _⟩) (fun r6 H locs h hW => ?_)
    refine lv_if_ne (tgt := 24) C.1 C.2.1 dX10_turn_19 (by decide) (fun c7 => ?_) (fun c7 => ?_)
    · replace h := h.1 c7
      refine lv_iload_n C.1 C.2.1 dX10_turn_24 rfl (lv_at hl 4 rfl) ?_
      refine c_stat C hW hX.2.1 (by decide +kernel) dX10_turn_25 (fun t8 hT9 => ?_)
      refine lv_iload_n C.1 C.2.1 dX10_turn_28 rfl (lv_at hl 3 rfl) ?_
      obtain ⟨hs10, h⟩ := h
      refine va_ti C.1 C.2.1 hT9 hW.2.2.2.1 hs10 rfl dX10_turn_29 ?_
      refine c_stat C hW hX.2.2.1 (by decide +kernel) dX10_turn_30 (fun t11 hT12 => ?_)
      refine lv_iload_n C.1 C.2.1 dX10_turn_33 rfl (lv_at hl 3 rfl) ?_
      obtain ⟨hs13, h⟩ := h
      refine va_ti C.1 C.2.1 hT12 hW.2.2.2.1 hs13 rfl dX10_turn_34 ?_
      refine k_pi hW (va_runS (As := [.int x3, .int (leastV x2.toNatClampNeg), .int (greatestV x2.toNatClampNeg)]) (rest := []) C (mtX10_within l D q _ H.size x3 (leastV x2.toNatClampNeg) (greatestV x2.toNatClampNeg) _ h) (va_cwS 3 C.2.2.2.2 gX10_turn_X10_within rfl rfl rfl (by decide +kernel) ⟨Nat.le_of_ble_eq_true rfl, Nat.le_of_ble_eq_true rfl⟩) ⟨mP_blind tX_B, fun U hU hV => ⟨rfl, hW.pre0 hU hV trivial⟩⟩ rfl rfl hl.1 rfl (lv_room (Nat.le_of_ble_eq_true rfl)) dX10_turn_35 ⟨Nat.zero_le _, Nat.zero_le _⟩) (fun r14 H locs h hW => ?_)
      refine lv_if_ne (tgt := 44) C.1 C.2.1 dX10_turn_38 (by decide) (fun c15 => ?_) (fun c15 => ?_)
      · replace h := h.1 c15
        refine lv_aload C.1 C.2.1 dX10_turn_44 (lv_at hl 0 rfl) ?_
        obtain ⟨hb16, h⟩ := h
        refine c_nums C hW hb16 inX10_turn_X3 inX10_turn_X4 inX10_turn_X7 (ref := "BallMinder$Plain") (by decide +kernel) (fun _ h9 => h9) dX10_turn_46 ?_
        refine lv_iload_n C.1 C.2.1 dX10_turn_49 rfl (lv_at hl 3 rfl) ?_
        obtain ⟨hs17, h⟩ := h
        refine r_iald C hW (cA := cI) (n := 9) (f := S2 (30 + 2 * mi5)) (30 + 2 * mi5) 0 (by omega) (gC_nums mi5) rfl hs17 dX10_turn_50 ?_
        refine lv_topi (fun x5_18 ex5_18 => ?_)
        replace h := h x5_18 ex5_18
        refine lv_istore (lv' := [(5, .int x5_18), (4, .ref (q (29 + 2 * mi5))), (0, .ref (q 0)), (1, .int x1), (2, .int x2), (3, .int x3)]) C.1 C.2.1 dX10_turn_51 hl (by decide) rfl (fun ls hl => ?_)
        refine lv_aload C.1 C.2.1 dX10_turn_53 (lv_at hl 1 rfl) ?_
        refine c_nums C hW hb16 inX10_turn_X3 inX10_turn_X4 inX10_turn_X7 (ref := "BallMinder$Plain") (by decide +kernel) (fun _ h9 => h9) dX10_turn_55 ?_
        refine lv_iload_n C.1 C.2.1 dX10_turn_58 rfl (lv_at hl 4 rfl) ?_
        refine lv_iload_n C.1 C.2.1 dX10_turn_59 rfl (lv_at hl 5 rfl) ?_
        obtain ⟨hs19, h⟩ := h
        refine r_iast C hW (cA := cI) (n := 9) (f := S2 (30 + 2 * mi5)) (30 + 2 * mi5) 0 (by omega) (gC_nums mi5) rfl hs19 dX10_turn_60 (fun H locs hW => ?_)
        replace hW := gC_put (F := upd (S2 (30 + 2 * mi5)) x2.toNatClampNeg x3) (by rw [gC_nums, va_up_self]) hW
        obtain ⟨S20, eS20⟩ : ∃ z : Nat → Nat → Int32, z = va_up S2 (30 + 2 * mi5) (upd (S2 (30 + 2 * mi5)) x2.toNatClampNeg x3) := ⟨_, rfl⟩
        rw [← eS20] at hW
        replace h := h S20 eS20
        refine lv_iload C.1 C.2.1 dX10_turn_61 (lv_at hl 0 rfl) ?_
        exact t_i C hr hlk (u := (S20, L3, R4)) hW.2.2.2.1 hW.B h dX10_turn_63
      · replace h := h.2 c15
        refine lv_bipush (v := -2) C.1 C.2.1 dX10_turn_41 (by decide) ?_
        exact t_i C hr hlk (u := (S2, L3, R4)) hW.2.2.2.1 hW.B h dX10_turn_43
    · replace h := h.2 c7
      refine lv_iconst (v := -1) C.1 C.2.1 dX10_turn_22 (by decide) ?_
      exact t_i C hr hlk (u := (S2, L3, R4)) hW.2.2.2.1 hW.B h dX10_turn_23
set_option maxRecDepth 100000 in
set_option maxHeartbeats 4000000 in
theorem mtX10_turn (l : Launch) (D : va_G) (q : Nat → Nat) (cI cJ cZ cP cS : ClassId) (K : Nat → Nat) (n : Nat) (sz : Nat) (x1 : Int32) (x2 : Int32) (x3 : Int32) (S : Nat → Nat → Int32) (L : Nat → Int64) (R : Nat → Option Nat) (Q : Int32 → (Nat → Nat → Int32) → (Nat → Int64) → (Nat → Option Nat) → Prop) (h : vX10_turn K n x1 x2 x3 S L R Q) : Met l yX10_turn wsX10_turn rmX10_turn (va_Pc [.ref (q 0), .int x1, .int x2, .int x3] (mP D (tyC cI cJ cZ cP cS) q (29 + 2 * n) (gC q cI cJ cZ cP cS K n S L R) sz (cX (aQ q (29 + 2 * n) sz)))) (QCi D q cI cJ cZ cP cS K n Q (aQ q (29 + 2 * n) sz)) 0 0 (aQ q (29 + 2 * n) sz) := by
  refine met_w (cc := cX10_turn) (maxL := 6) (ret := (some .int)) (by decide) rfl (Nat.le_of_ble_eq_true rfl) ?_
  intro p e s m below meth c ls C hr hlk hW hX hnm hl
  exact sX10_turn C hr hlk hX Q x1 x2 x3 S L R _ _ _ h hW hl
theorem inX8_draw_X8 : ∀ w ∈ wsX80, w ∈ wsX8_draw := fun _ h => List.mem_cons_of_mem _ (List.mem_append_right _ h)
abbrev rmX8_draw : Room := { frames := 0, cells := 0, slots := 0, locals := 0 }
def vX8_draw_35 (K : Nat → Nat) (n : Nat) (Q : (Nat → Nat → Int32) → (Nat → Int64) → (Nat → Option Nat) → Prop) (x1 : Nat) (x2 : Int64) (x4 : Int64) (y0 : Int32) (S : Nat → Nat → Int32) (L : Nat → Int64) (R : Nat → Option Nat) : Prop := vp_in (4 : Int32) 5 ∧ (∀ L10 : Nat → Int64, L10 = vp_updL L (4 : Int32).toNatClampNeg (0 : Int64) → x1 < n ∧ (vp_in (6 : Int32) 9 ∧ (vp_in (0 : Int32) 5 ∧ (∀ L14 : Nat → Int64, L14 = vp_updL L10 (0 : Int32).toNatClampNeg ((S (30 + 2 * x1) (6 : Int32).toNatClampNeg).toInt64) → vp_in (4 : Int32) 9 ∧ (vp_in (5 : Int32) 9 ∧ (vp_in y0 5 ∧ (∀ L18 : Nat → Int64, L18 = vp_updL L14 y0.toNatClampNeg ((x4 * ((S (30 + 2 * x1) (4 : Int32).toNatClampNeg).toInt64)) + ((S (30 + 2 * x1) (5 : Int32).toNatClampNeg).toInt64)) → vp_in (4 : Int32) 9 ∧ (vp_in (3 : Int32) 9 ∧ (vp_in (y0 + (1 : Int32)) 5 ∧ (∀ L22 : Nat → Int64, L22 = vp_updL L18 (y0 + (1 : Int32)).toNatClampNeg ((x2 * ((S (30 + 2 * x1) (4 : Int32).toNatClampNeg).toInt64)) + (x4 * ((S (30 + 2 * x1) (3 : Int32).toNatClampNeg).toInt64))) → vp_in (3 : Int32) 9 ∧ (vp_in (2 : Int32) 9 ∧ (vp_in (y0 + (2 : Int32)) 5 ∧ (∀ L26 : Nat → Int64, L26 = vp_updL L22 (y0 + (2 : Int32)).toNatClampNeg ((x2 * ((S (30 + 2 * x1) (3 : Int32).toNatClampNeg).toInt64)) + (x4 * ((S (30 + 2 * x1) (2 : Int32).toNatClampNeg).toInt64))) → vp_in (2 : Int32) 9 ∧ (vp_in (y0 + (3 : Int32)) 5 ∧ (∀ L29 : Nat → Int64, L29 = vp_updL L26 (y0 + (3 : Int32)).toNatClampNeg (x2 * ((S (30 + 2 * x1) (2 : Int32).toNatClampNeg).toInt64)) → ∀ S30 : Nat → Nat → Int32, S30 = va_up S 7 (upd (S 7) 1 (y0 + (3 : Int32))) → Q S30 L29 R)))))))))))))))
def vX8_draw_23 (K : Nat → Nat) (n : Nat) (Q : (Nat → Nat → Int32) → (Nat → Int64) → (Nat → Option Nat) → Prop) (x1 : Nat) (x2 : Int64) (x4 : Int64) (y0 : Int32) (S : Nat → Nat → Int32) (L : Nat → Int64) (R : Nat → Option Nat) : Prop := (y0 = 0 → vX8_draw_35 K n Q x1 x2 x4 (0 : Int32) S L R) ∧ (¬ (y0 = 0) → vX8_draw_35 K n Q x1 x2 x4 (1 : Int32) S L R)
def vX8_draw (K : Nat → Nat) (n : Nat) (x1 : Nat) (S : Nat → Nat → Int32) (L : Nat → Int64) (R : Nat → Option Nat) (Q : (Nat → Nat → Int32) → (Nat → Int64) → (Nat → Option Nat) → Prop) : Prop := x1 < n ∧ (vp_in (0 : Int32) 9 ∧ (∀ x2_3 : Int64, x2_3 = (S (30 + 2 * x1) (0 : Int32).toNatClampNeg).toInt64 → vp_in (1 : Int32) 9 ∧ (∀ x4_5 : Int64, x4_5 = (S (30 + 2 * x1) (1 : Int32).toNatClampNeg).toInt64 → vp_in (6 : Int32) 9 ∧ (((S (30 + 2 * x1) (6 : Int32).toNatClampNeg) = 0 → vX8_draw_23 K n Q x1 x2_3 x4_5 (0 : Int32) S L R) ∧ (¬ ((S (30 + 2 * x1) (6 : Int32).toNatClampNeg) = 0) → vX8_draw_23 K n Q x1 x2_3 x4_5 (1 : Int32) S L R)))))
set_option maxRecDepth 100000 in
set_option maxHeartbeats 4000000 in
theorem sX8_draw_35 {p : Program} {l : Launch} {e : Env} {s : State} {m : MethodId} {args : Array Value} {below : List Frame} {meth : Method} {c : Code} {D : va_G} {q : Nat → Nat} {A : Nat → Prop} {cI cJ cZ cP cS : ClassId} {K : Nat → Nat} {n : Nat} (C : CallFix p m c cX8_draw 8 s args wsX8_draw RX8) (hr : meth.sig.returnType = none) (hlk : meth.locks = false) (hX : cX A s) (Q : (Nat → Nat → Int32) → (Nat → Int64) → (Nat → Option Nat) → Prop) : ∀ (x1 : Nat) (x2 : Int64) (x4 : Int64) (y0 : Int32) (S : Nat → Nat → Int32) (L : Nat → Int64) (R : Nat → Option Nat) (H : Heap) (locs : List Loc) (ls : Array Slot), vX8_draw_35 K n Q x1 x2 x4 y0 S L R → hw D (tyC cI cJ cZ cP cS) q (29 + 2 * n) (gC q cI cJ cZ cP cS K n S L R) A s H locs → lv_has ls 8 [(0, .ref (q 7)), (1, .ref (q (30 + 2 * x1))), (2, .long x2), (4, .long x4)] → W p l e (headSpec wsX8_draw rmX8_draw).room s m args below meth c H locs 0 0 (MQ below (QCv D q cI cJ cZ cP cS K n Q A) args s 0 0 A) (F0 m 35 ls [.int y0]) := by
  intro x1 x2 x4 y0 S L R H locs ls h hW hl
  unfold vX8_draw_35 at h
  refine lv_istore (lv' := [(7, .int y0), (0, .ref (q 7)), (1, .ref (q (30 + 2 * x1))), (2, .long x2), (4, .long x4)]) C.1 C.2.1 dX8_draw_35 hl (by decide) rfl (fun ls hl => ?_)
  refine lv_aload_n C.1 C.2.1 dX8_draw_37 rfl (lv_at hl 1 rfl) ?_
  refine r_get C hW (ci := 8) (T := TX8) (n := 2) (ref := "BallMinder$Sums") (v := .ref (q 8)) (7) (by omega) rfl rfl 0 (by decide) inX8_draw_X8 (by decide +kernel) (fun _ h9 => h9) rfl dX8_draw_38 ?_
  refine lv_iconst (v := 4) C.1 C.2.1 dX8_draw_41 (by decide) ?_
  refine lv_lconst (v := 0) C.1 C.2.1 dX8_draw_42 (by decide) ?_
  obtain ⟨hs9, h⟩ := h
  refine r_last C hW (cA := cJ) (n := 5) (f := L) 8 1 (by omega) rfl rfl hs9 dX8_draw_43 (fun H locs hW => ?_)
  replace hW := gC_putL hW
  obtain ⟨L10, eL10⟩ : ∃ z : Nat → Int64, z = vp_updL L (4 : Int32).toNatClampNeg (0 : Int64) := ⟨_, rfl⟩
  rw [← eL10] at hW
  replace h := h L10 eL10
  refine lv_aload_n C.1 C.2.1 dX8_draw_44 rfl (lv_at hl 1 rfl) ?_
  refine r_get C hW (ci := 8) (T := TX8) (n := 2) (ref := "BallMinder$Sums") (v := .ref (q 8)) (7) (by omega) rfl rfl 0 (by decide) inX8_draw_X8 (by decide +kernel) (fun _ h9 => h9) rfl dX8_draw_45 ?_
  refine lv_iconst (v := 0) C.1 C.2.1 dX8_draw_48 (by decide) ?_
  refine lv_aload_n C.1 C.2.1 dX8_draw_49 rfl (lv_at hl 2 rfl) ?_
  refine lv_bipush (v := 6) C.1 C.2.1 dX8_draw_50 (by decide) ?_
  obtain ⟨hb12, h⟩ := h
  obtain ⟨hs11, h⟩ := h
  refine r_iald C hW (cA := cI) (n := 9) (f := S (30 + 2 * x1)) (30 + 2 * x1) 0 (by omega) (gC_nums x1) rfl hs11 dX8_draw_52 ?_
  refine lv_i2l C.1 C.2.1 dX8_draw_53 rfl ?_
  obtain ⟨hs13, h⟩ := h
  refine r_last C hW (cA := cJ) (n := 5) (f := L10) 8 1 (by omega) rfl rfl hs13 dX8_draw_54 (fun H locs hW => ?_)
  replace hW := gC_putL hW
  obtain ⟨L14, eL14⟩ : ∃ z : Nat → Int64, z = vp_updL L10 (0 : Int32).toNatClampNeg ((S (30 + 2 * x1) (6 : Int32).toNatClampNeg).toInt64) := ⟨_, rfl⟩
  rw [← eL14] at hW
  replace h := h L14 eL14
  refine lv_aload_n C.1 C.2.1 dX8_draw_55 rfl (lv_at hl 1 rfl) ?_
  refine r_get C hW (ci := 8) (T := TX8) (n := 2) (ref := "BallMinder$Sums") (v := .ref (q 8)) (7) (by omega) rfl rfl 0 (by decide) inX8_draw_X8 (by decide +kernel) (fun _ h9 => h9) rfl dX8_draw_56 ?_
  refine lv_iload C.1 C.2.1 dX8_draw_59 (lv_at hl 0 rfl) ?_
  refine lv_lload C.1 C.2.1 dX8_draw_61 (lv_at hl 4 rfl) ?_
  refine lv_aload_n C.1 C.2.1 dX8_draw_63 rfl (lv_at hl 2 rfl) ?_
  refine lv_iconst (v := 4) C.1 C.2.1 dX8_draw_64 (by decide) ?_
  obtain ⟨hs15, h⟩ := h
  refine r_iald C hW (cA := cI) (n := 9) (f := S (30 + 2 * x1)) (30 + 2 * x1) 0 (by omega) (gC_nums x1) rfl hs15 dX8_draw_65 ?_
  refine lv_i2l C.1 C.2.1 dX8_draw_66 rfl ?_
  refine lv_lmul C.1 C.2.1 dX8_draw_67 ?_
  refine lv_aload_n C.1 C.2.1 dX8_draw_68 rfl (lv_at hl 2 rfl) ?_
  refine lv_iconst (v := 5) C.1 C.2.1 dX8_draw_69 (by decide) ?_
  obtain ⟨hs16, h⟩ := h
  refine r_iald C hW (cA := cI) (n := 9) (f := S (30 + 2 * x1)) (30 + 2 * x1) 0 (by omega) (gC_nums x1) rfl hs16 dX8_draw_70 ?_
  refine lv_i2l C.1 C.2.1 dX8_draw_71 rfl ?_
  refine lv_ladd C.1 C.2.1 dX8_draw_72 ?_
  obtain ⟨hs17, h⟩ := h
  refine r_last C hW (cA := cJ) (n := 5) (f := L14) 8 1 (by omega) rfl rfl hs17 dX8_draw_73 (fun H locs hW => ?_)
  replace hW := gC_putL hW
  obtain ⟨L18, eL18⟩ : ∃ z : Nat → Int64, z = vp_updL L14 y0.toNatClampNeg ((x4 * ((S (30 + 2 * x1) (4 : Int32).toNatClampNeg).toInt64)) + ((S (30 + 2 * x1) (5 : Int32).toNatClampNeg).toInt64)) := ⟨_, rfl⟩
  rw [← eL18] at hW
  replace h := h L18 eL18
  refine lv_aload_n C.1 C.2.1 dX8_draw_74 rfl (lv_at hl 1 rfl) ?_
  refine r_get C hW (ci := 8) (T := TX8) (n := 2) (ref := "BallMinder$Sums") (v := .ref (q 8)) (7) (by omega) rfl rfl 0 (by decide) inX8_draw_X8 (by decide +kernel) (fun _ h9 => h9) rfl dX8_draw_75 ?_
  refine lv_iload C.1 C.2.1 dX8_draw_78 (lv_at hl 0 rfl) ?_
  refine lv_iconst (v := 1) C.1 C.2.1 dX8_draw_80 (by decide) ?_
  refine lv_iadd C.1 C.2.1 dX8_draw_81 ?_
  refine lv_lload_n C.1 C.2.1 dX8_draw_82 rfl (lv_at hl 3 rfl) ?_
  refine lv_aload_n C.1 C.2.1 dX8_draw_83 rfl (lv_at hl 2 rfl) ?_
  refine lv_iconst (v := 4) C.1 C.2.1 dX8_draw_84 (by decide) ?_
  obtain ⟨hs19, h⟩ := h
  refine r_iald C hW (cA := cI) (n := 9) (f := S (30 + 2 * x1)) (30 + 2 * x1) 0 (by omega) (gC_nums x1) rfl hs19 dX8_draw_85 ?_
  refine lv_i2l C.1 C.2.1 dX8_draw_86 rfl ?_
  refine lv_lmul C.1 C.2.1 dX8_draw_87 ?_
  refine lv_lload C.1 C.2.1 dX8_draw_88 (lv_at hl 4 rfl) ?_
  refine lv_aload_n C.1 C.2.1 dX8_draw_90 rfl (lv_at hl 2 rfl) ?_
  refine lv_iconst (v := 3) C.1 C.2.1 dX8_draw_91 (by decide) ?_
  obtain ⟨hs20, h⟩ := h
  refine r_iald C hW (cA := cI) (n := 9) (f := S (30 + 2 * x1)) (30 + 2 * x1) 0 (by omega) (gC_nums x1) rfl hs20 dX8_draw_92 ?_
  refine lv_i2l C.1 C.2.1 dX8_draw_93 rfl ?_
  refine lv_lmul C.1 C.2.1 dX8_draw_94 ?_
  refine lv_ladd C.1 C.2.1 dX8_draw_95 ?_
  obtain ⟨hs21, h⟩ := h
  refine r_last C hW (cA := cJ) (n := 5) (f := L18) 8 1 (by omega) rfl rfl hs21 dX8_draw_96 (fun H locs hW => ?_)
  replace hW := gC_putL hW
  obtain ⟨L22, eL22⟩ : ∃ z : Nat → Int64, z = vp_updL L18 (y0 + (1 : Int32)).toNatClampNeg ((x2 * ((S (30 + 2 * x1) (4 : Int32).toNatClampNeg).toInt64)) + (x4 * ((S (30 + 2 * x1) (3 : Int32).toNatClampNeg).toInt64))) := ⟨_, rfl⟩
  rw [← eL22] at hW
  replace h := h L22 eL22
  refine lv_aload_n C.1 C.2.1 dX8_draw_97 rfl (lv_at hl 1 rfl) ?_
  refine r_get C hW (ci := 8) (T := TX8) (n := 2) (ref := "BallMinder$Sums") (v := .ref (q 8)) (7) (by omega) rfl rfl 0 (by decide) inX8_draw_X8 (by decide +kernel) (fun _ h9 => h9) rfl dX8_draw_98 ?_
  refine lv_iload C.1 C.2.1 dX8_draw_101 (lv_at hl 0 rfl) ?_
  refine lv_iconst (v := 2) C.1 C.2.1 dX8_draw_103 (by decide) ?_
  refine lv_iadd C.1 C.2.1 dX8_draw_104 ?_
  refine lv_lload_n C.1 C.2.1 dX8_draw_105 rfl (lv_at hl 3 rfl) ?_
  refine lv_aload_n C.1 C.2.1 dX8_draw_106 rfl (lv_at hl 2 rfl) ?_
  refine lv_iconst (v := 3) C.1 C.2.1 dX8_draw_107 (by decide) ?_
  obtain ⟨hs23, h⟩ := h
  refine r_iald C hW (cA := cI) (n := 9) (f := S (30 + 2 * x1)) (30 + 2 * x1) 0 (by omega) (gC_nums x1) rfl hs23 dX8_draw_108 ?_
  refine lv_i2l C.1 C.2.1 dX8_draw_109 rfl ?_
  refine lv_lmul C.1 C.2.1 dX8_draw_110 ?_
  refine lv_lload C.1 C.2.1 dX8_draw_111 (lv_at hl 4 rfl) ?_
  refine lv_aload_n C.1 C.2.1 dX8_draw_113 rfl (lv_at hl 2 rfl) ?_
  refine lv_iconst (v := 2) C.1 C.2.1 dX8_draw_114 (by decide) ?_
  obtain ⟨hs24, h⟩ := h
  refine r_iald C hW (cA := cI) (n := 9) (f := S (30 + 2 * x1)) (30 + 2 * x1) 0 (by omega) (gC_nums x1) rfl hs24 dX8_draw_115 ?_
  refine lv_i2l C.1 C.2.1 dX8_draw_116 rfl ?_
  refine lv_lmul C.1 C.2.1 dX8_draw_117 ?_
  refine lv_ladd C.1 C.2.1 dX8_draw_118 ?_
  obtain ⟨hs25, h⟩ := h
  refine r_last C hW (cA := cJ) (n := 5) (f := L22) 8 1 (by omega) rfl rfl hs25 dX8_draw_119 (fun H locs hW => ?_)
  replace hW := gC_putL hW
  obtain ⟨L26, eL26⟩ : ∃ z : Nat → Int64, z = vp_updL L22 (y0 + (2 : Int32)).toNatClampNeg ((x2 * ((S (30 + 2 * x1) (3 : Int32).toNatClampNeg).toInt64)) + (x4 * ((S (30 + 2 * x1) (2 : Int32).toNatClampNeg).toInt64))) := ⟨_, rfl⟩
  rw [← eL26] at hW
  replace h := h L26 eL26
  refine lv_aload_n C.1 C.2.1 dX8_draw_120 rfl (lv_at hl 1 rfl) ?_
  refine r_get C hW (ci := 8) (T := TX8) (n := 2) (ref := "BallMinder$Sums") (v := .ref (q 8)) (7) (by omega) rfl rfl 0 (by decide) inX8_draw_X8 (by decide +kernel) (fun _ h9 => h9) rfl dX8_draw_121 ?_
  refine lv_iload C.1 C.2.1 dX8_draw_124 (lv_at hl 0 rfl) ?_
  refine lv_iconst (v := 3) C.1 C.2.1 dX8_draw_126 (by decide) ?_
  refine lv_iadd C.1 C.2.1 dX8_draw_127 ?_
  refine lv_lload_n C.1 C.2.1 dX8_draw_128 rfl (lv_at hl 3 rfl) ?_
  refine lv_aload_n C.1 C.2.1 dX8_draw_129 rfl (lv_at hl 2 rfl) ?_
  refine lv_iconst (v := 2) C.1 C.2.1 dX8_draw_130 (by decide) ?_
  obtain ⟨hs27, h⟩ := h
  refine r_iald C hW (cA := cI) (n := 9) (f := S (30 + 2 * x1)) (30 + 2 * x1) 0 (by omega) (gC_nums x1) rfl hs27 dX8_draw_131 ?_
  refine lv_i2l C.1 C.2.1 dX8_draw_132 rfl ?_
  refine lv_lmul C.1 C.2.1 dX8_draw_133 ?_
  obtain ⟨hs28, h⟩ := h
  refine r_last C hW (cA := cJ) (n := 5) (f := L26) 8 1 (by omega) rfl rfl hs28 dX8_draw_134 (fun H locs hW => ?_)
  replace hW := gC_putL hW
  obtain ⟨L29, eL29⟩ : ∃ z : Nat → Int64, z = vp_updL L26 (y0 + (3 : Int32)).toNatClampNeg (x2 * ((S (30 + 2 * x1) (2 : Int32).toNatClampNeg).toInt64)) := ⟨_, rfl⟩
  rw [← eL29] at hW
  replace h := h L29 eL29
  refine lv_aload_n C.1 C.2.1 dX8_draw_135 rfl (lv_at hl 1 rfl) ?_
  refine lv_iload C.1 C.2.1 dX8_draw_136 (lv_at hl 0 rfl) ?_
  refine lv_iconst (v := 3) C.1 C.2.1 dX8_draw_138 (by decide) ?_
  refine lv_iadd C.1 C.2.1 dX8_draw_139 ?_
  refine r_put C hW (ci := 8) (T := TX8) (n := 2) (ref := "BallMinder$Sums") (7) (by omega) rfl rfl 1 (by decide) inX8_draw_X8 tyX8 tyX8_ok nmX8 (by decide +kernel) (fun _ h9 => h9) rfl rfl rfl (Nat.le_of_ble_eq_true rfl) dX8_draw_140 (fun H locs hW => ?_)
  replace hW := gC_put (F := upd (S 7) 1 (y0 + (3 : Int32))) rfl hW
  obtain ⟨S30, eS30⟩ : ∃ z : Nat → Nat → Int32, z = va_up S 7 (upd (S 7) 1 (y0 + (3 : Int32))) := ⟨_, rfl⟩
  rw [← eS30] at hW
  replace h := h S30 eS30
  exact t_v C hr hlk (u := (S30, L29, R)) hW.2.2.2.1 hW.B h dX8_draw_143
set_option maxRecDepth 100000 in
set_option maxHeartbeats 4000000 in
theorem sX8_draw_23 {p : Program} {l : Launch} {e : Env} {s : State} {m : MethodId} {args : Array Value} {below : List Frame} {meth : Method} {c : Code} {D : va_G} {q : Nat → Nat} {A : Nat → Prop} {cI cJ cZ cP cS : ClassId} {K : Nat → Nat} {n : Nat} (C : CallFix p m c cX8_draw 8 s args wsX8_draw RX8) (hr : meth.sig.returnType = none) (hlk : meth.locks = false) (hX : cX A s) (Q : (Nat → Nat → Int32) → (Nat → Int64) → (Nat → Option Nat) → Prop) : ∀ (x1 : Nat) (x2 : Int64) (x4 : Int64) (y0 : Int32) (S : Nat → Nat → Int32) (L : Nat → Int64) (R : Nat → Option Nat) (H : Heap) (locs : List Loc) (ls : Array Slot), vX8_draw_23 K n Q x1 x2 x4 y0 S L R → hw D (tyC cI cJ cZ cP cS) q (29 + 2 * n) (gC q cI cJ cZ cP cS K n S L R) A s H locs → lv_has ls 8 [(0, .ref (q 7)), (1, .ref (q (30 + 2 * x1))), (2, .long x2), (4, .long x4)] → W p l e (headSpec wsX8_draw rmX8_draw).room s m args below meth c H locs 0 0 (MQ below (QCv D q cI cJ cZ cP cS K n Q A) args s 0 0 A) (F0 m 23 ls [.int y0]) := by
  intro x1 x2 x4 y0 S L R H locs ls h hW hl
  unfold vX8_draw_23 at h
  refine lv_istore (lv' := [(6, .int y0), (0, .ref (q 7)), (1, .ref (q (30 + 2 * x1))), (2, .long x2), (4, .long x4)]) C.1 C.2.1 dX8_draw_23 hl (by decide) rfl (fun ls hl => ?_)
  refine lv_iload C.1 C.2.1 dX8_draw_25 (lv_at hl 0 rfl) ?_
  refine lv_if_eq (tgt := 34) C.1 C.2.1 dX8_draw_27 (by decide) (fun c8 => ?_) (fun c8 => ?_)
  · replace h := h.1 c8
    refine lv_iconst (v := 0) C.1 C.2.1 dX8_draw_34 (by decide) ?_
    exact sX8_draw_35 C hr hlk hX Q x1 x2 x4 (0 : Int32) S L R _ _ _ h hW (lv_sub hl [1, 2, 3, 4] rfl)
  · replace h := h.2 c8
    refine lv_iconst (v := 1) C.1 C.2.1 dX8_draw_30 (by decide) ?_
    refine lv_goto (tgt := 35) C.1 C.2.1 dX8_draw_31 (by decide) ?_
    exact sX8_draw_35 C hr hlk hX Q x1 x2 x4 (1 : Int32) S L R _ _ _ h hW (lv_sub hl [1, 2, 3, 4] rfl)
set_option maxRecDepth 100000 in
set_option maxHeartbeats 4000000 in
theorem sX8_draw {p : Program} {l : Launch} {e : Env} {s : State} {m : MethodId} {args : Array Value} {below : List Frame} {meth : Method} {c : Code} {D : va_G} {q : Nat → Nat} {A : Nat → Prop} {cI cJ cZ cP cS : ClassId} {K : Nat → Nat} {n : Nat} (C : CallFix p m c cX8_draw 8 s args wsX8_draw RX8) (hr : meth.sig.returnType = none) (hlk : meth.locks = false) (hX : cX A s) (Q : (Nat → Nat → Int32) → (Nat → Int64) → (Nat → Option Nat) → Prop) : ∀ (x1 : Nat) (S : Nat → Nat → Int32) (L : Nat → Int64) (R : Nat → Option Nat) (H : Heap) (locs : List Loc) (ls : Array Slot), vX8_draw K n x1 S L R Q → hw D (tyC cI cJ cZ cP cS) q (29 + 2 * n) (gC q cI cJ cZ cP cS K n S L R) A s H locs → lv_has ls 8 [(0, .ref (q 7)), (1, .ref (q (30 + 2 * x1)))] → W p l e (headSpec wsX8_draw rmX8_draw).room s m args below meth c H locs 0 0 (MQ below (QCv D q cI cJ cZ cP cS K n Q A) args s 0 0 A) (F0 m 0 ls []) := by
  intro x1 S L R H locs ls h hW hl
  unfold vX8_draw at h
  refine lv_aload_n C.1 C.2.1 dX8_draw_0 rfl (lv_at hl 1 rfl) ?_
  refine lv_iconst (v := 0) C.1 C.2.1 dX8_draw_1 (by decide) ?_
  obtain ⟨hb2, h⟩ := h
  obtain ⟨hs1, h⟩ := h
  refine r_iald C hW (cA := cI) (n := 9) (f := S (30 + 2 * x1)) (30 + 2 * x1) 0 (by omega) (gC_nums x1) rfl hs1 dX8_draw_2 ?_
  refine lv_i2l C.1 C.2.1 dX8_draw_3 rfl ?_
  refine lv_topl (fun x2_3 ex2_3 => ?_)
  replace h := h x2_3 ex2_3
  refine lv_lstore_n (lv' := [(2, .long x2_3), (0, .ref (q 7)), (1, .ref (q (30 + 2 * x1)))]) C.1 C.2.1 dX8_draw_4 rfl hl (by decide) rfl (fun ls hl => ?_)
  refine lv_aload_n C.1 C.2.1 dX8_draw_5 rfl (lv_at hl 2 rfl) ?_
  refine lv_iconst (v := 1) C.1 C.2.1 dX8_draw_6 (by decide) ?_
  obtain ⟨hs4, h⟩ := h
  refine r_iald C hW (cA := cI) (n := 9) (f := S (30 + 2 * x1)) (30 + 2 * x1) 0 (by omega) (gC_nums x1) rfl hs4 dX8_draw_7 ?_
  refine lv_i2l C.1 C.2.1 dX8_draw_8 rfl ?_
  refine lv_topl (fun x4_5 ex4_5 => ?_)
  replace h := h x4_5 ex4_5
  refine lv_lstore (lv' := [(4, .long x4_5), (2, .long x2_3), (0, .ref (q 7)), (1, .ref (q (30 + 2 * x1)))]) C.1 C.2.1 dX8_draw_9 hl (by decide) rfl (fun ls hl => ?_)
  refine lv_aload_n C.1 C.2.1 dX8_draw_11 rfl (lv_at hl 3 rfl) ?_
  refine lv_bipush (v := 6) C.1 C.2.1 dX8_draw_12 (by decide) ?_
  obtain ⟨hs6, h⟩ := h
  refine r_iald C hW (cA := cI) (n := 9) (f := S (30 + 2 * x1)) (30 + 2 * x1) 0 (by omega) (gC_nums x1) rfl hs6 dX8_draw_14 ?_
  refine lv_if_eq (tgt := 22) C.1 C.2.1 dX8_draw_15 (by decide) (fun c7 => ?_) (fun c7 => ?_)
  · replace h := h.1 c7
    refine lv_iconst (v := 0) C.1 C.2.1 dX8_draw_22 (by decide) ?_
    exact sX8_draw_23 C hr hlk hX Q x1 x2_3 x4_5 (0 : Int32) S L R _ _ _ h hW (lv_sub hl [2, 3, 1, 0] rfl)
  · replace h := h.2 c7
    refine lv_iconst (v := 1) C.1 C.2.1 dX8_draw_18 (by decide) ?_
    refine lv_goto (tgt := 23) C.1 C.2.1 dX8_draw_19 (by decide) ?_
    exact sX8_draw_23 C hr hlk hX Q x1 x2_3 x4_5 (1 : Int32) S L R _ _ _ h hW (lv_sub hl [2, 3, 1, 0] rfl)
set_option maxRecDepth 100000 in
set_option maxHeartbeats 4000000 in
theorem mtX8_draw (l : Launch) (D : va_G) (q : Nat → Nat) (cI cJ cZ cP cS : ClassId) (K : Nat → Nat) (n : Nat) (sz : Nat) (x1 : Nat) (S : Nat → Nat → Int32) (L : Nat → Int64) (R : Nat → Option Nat) (Q : (Nat → Nat → Int32) → (Nat → Int64) → (Nat → Option Nat) → Prop) (h : vX8_draw K n x1 S L R Q) : Met l yX8_draw wsX8_draw rmX8_draw (va_Pc [.ref (q 7), .ref (q (30 + 2 * x1))] (mP D (tyC cI cJ cZ cP cS) q (29 + 2 * n) (gC q cI cJ cZ cP cS K n S L R) sz (cX (aQ q (29 + 2 * n) sz)))) (QCv D q cI cJ cZ cP cS K n Q (aQ q (29 + 2 * n) sz)) 0 0 (aQ q (29 + 2 * n) sz) := by
  refine met_w (cc := cX8_draw) (maxL := 8) (ret := none) (by decide) rfl (Nat.le_of_ble_eq_true rfl) ?_
  intro p e s m below meth c ls C hr hlk hW hX hnm hl
  exact sX8_draw C hr hlk hX Q x1 S L R _ _ _ h hW hl
theorem inX10_row_X10 : ∀ w ∈ wsX100, w ∈ wsX10_row := fun _ h => List.mem_cons_of_mem _ (List.mem_append_left _ (List.mem_append_left _ (List.mem_append_left _ (List.mem_append_left _ (List.mem_append_right _ h)))))
theorem inX10_row_X3 : ∀ w ∈ wsX30, w ∈ wsX10_row := fun _ h => List.mem_cons_of_mem _ (List.mem_append_left _ (List.mem_append_left _ (List.mem_append_left _ (List.mem_append_right _ h))))
theorem inX10_row_X4 : ∀ w ∈ wsX40, w ∈ wsX10_row := fun _ h => List.mem_cons_of_mem _ (List.mem_append_left _ (List.mem_append_left _ (List.mem_append_right _ h)))
theorem inX10_row_X7 : ∀ w ∈ wsX70, w ∈ wsX10_row := fun _ h => List.mem_cons_of_mem _ (List.mem_append_left _ (List.mem_append_right _ h))
theorem inX10_row_X8 : ∀ w ∈ wsX80, w ∈ wsX10_row := fun _ h => List.mem_cons_of_mem _ (List.mem_append_right _ h)
abbrev rmX10_row : Room := { frames := 2, cells := 0, slots := 0, locals := 43 }
def vX10_row (K : Nat → Nat) (n : Nat) (x1 : Int32) (x2 : Int32) (S : Nat → Nat → Int32) (L : Nat → Int64) (R : Nat → Option Nat) (Q : Int64 → (Nat → Nat → Int32) → (Nat → Int64) → (Nat → Option Nat) → Prop) : Prop := vX10_millOf K n x1 S L R (fun o1 S2 L3 R4 => (o1 = none → Q (-9223372036854775808 : Int64) S2 L3 R4) ∧ (∀ mi5 : Nat, o1 = some mi5 → vX10_within x2 (0 : Int32) (4 : Int32) (fun r6 => (¬ r6 = 0 → mi5 < n ∧ (vX8_draw K n mi5 S2 L3 R4 (fun S9 L10 R11 => vp_in x2 5 ∧ (Q (L10 x2.toNatClampNeg) S9 L10 R11)))) ∧ (r6 = 0 → Q (-9223372036854775808 : Int64) S2 L3 R4))))
set_option maxRecDepth 100000 in
set_option maxHeartbeats 4000000 in
theorem sX10_row {p : Program} {l : Launch} {e : Env} {s : State} {m : MethodId} {args : Array Value} {below : List Frame} {meth : Method} {c : Code} {D : va_G} {q : Nat → Nat} {A : Nat → Prop} {cI cJ cZ cP cS : ClassId} {K : Nat → Nat} {n : Nat} (C : CallFix p m c cX10_row 4 s args wsX10_row RX10) (hr : meth.sig.returnType = (some .long)) (hlk : meth.locks = false) (hX : cX A s) (Q : Int64 → (Nat → Nat → Int32) → (Nat → Int64) → (Nat → Option Nat) → Prop) : ∀ (x1 : Int32) (x2 : Int32) (S : Nat → Nat → Int32) (L : Nat → Int64) (R : Nat → Option Nat) (H : Heap) (locs : List Loc) (ls : Array Slot), vX10_row K n x1 x2 S L R Q → hw D (tyC cI cJ cZ cP cS) q (29 + 2 * n) (gC q cI cJ cZ cP cS K n S L R) A s H locs → lv_has ls 4 [(0, .ref (q 0)), (1, .int x1), (2, .int x2)] → W p l e (headSpec wsX10_row rmX10_row).room s m args below meth c H locs 0 0 (MQ below (QCl D q cI cJ cZ cP cS K n Q A) args s 0 0 A) (F0 m 0 ls []) := by
  intro x1 x2 S L R H locs ls h hW hl
  unfold vX10_row at h
  refine lv_aload_n C.1 C.2.1 dX10_row_0 rfl (lv_at hl 0 rfl) ?_
  refine lv_iload_n C.1 C.2.1 dX10_row_1 rfl (lv_at hl 1 rfl) ?_
  refine k_q hW (va_runV (As := [.int x1]) (rest := []) C (mtX10_millOf l D q cI cJ cZ cP cS K n H.size x1 S L R _ h) (cwV 1 C.2.2.2.2 gX10_row_X10_millOf rfl rfl rfl (by decide +kernel) ⟨Nat.le_of_ble_eq_true rfl, Nat.le_of_ble_eq_true rfl⟩) ⟨mP_blind cX_B, va_recv hW.1 hW.2.1 (ci := 10) (q0 := 0) rfl (wL_get (by omega)), fun U hU hV => ⟨rfl, hW.pre hU hV (hX.call hW hU hV)⟩⟩ rfl rfl hl.1 rfl (lv_room (Nat.le_of_ble_eq_true rfl)) dX10_row_2 ⟨Nat.zero_le _, Nat.zero_le _⟩) (fun r9 u H locs h hW => ?_)
  obtain ⟨S2, L3, R4⟩ := u
  obtain ⟨o1, rfl, h⟩ := h
  replace hW : hw D (tyC cI cJ cZ cP cS) q (29 + 2 * n) (gC q cI cJ cZ cP cS K n S2 L3 R4) A s H locs := hW
  refine cv_astore_n (lv' := [(3, va_rf (Option.map (qM q) o1)), (0, .ref (q 0)), (1, .int x1), (2, .int x2)]) C.1 C.2.1 dX10_row_5 rfl hl (by decide) rfl (fun ls hl => ?_)
  refine cv_aload_n C.1 C.2.1 dX10_row_6 rfl (lv_at hl 0 rfl) ?_
  rcases o1 with _ | mi5
  · replace h := h.1 rfl
    replace hl : lv_has ls 4 [(3, .null), (0, .ref (q 0)), (1, .int x1), (2, .int x2)] := hl
    refine lv_ifnullN (tgt := 19) C.1 C.2.1 dX10_row_7 (by decide) ?_
    refine lv_ldc2 (v := (-9223372036854775808)) C.1 C.2.1 C.2.2.2.1 (C.2.2.2.2 (.constantLong RX10 112 (-9223372036854775808)) (by decide +kernel)) dX10_row_19 ?_
    exact t_l C hr hlk (u := (S2, L3, R4)) hW.2.2.2.1 hW.B h dX10_row_22
  · replace h := h.2 mi5 rfl
    replace hl : lv_has ls 4 [(3, .ref (q (29 + 2 * mi5))), (0, .ref (q 0)), (1, .int x1), (2, .int x2)] := hl
    refine lv_ifnull C.1 C.2.1 dX10_row_7 ?_
    refine lv_iload_n C.1 C.2.1 dX10_row_10 rfl (lv_at hl 3 rfl) ?_
    refine lv_iconst (v := 0) C.1 C.2.1 dX10_row_11 (by decide) ?_
    refine lv_iconst (v := 4) C.1 C.2.1 dX10_row_12 (by decide) ?_
    refine k_pi hW (va_runS (As := [.int x2, .int (0 : Int32), .int (4 : Int32)]) (rest := []) C (mtX10_within l D q _ H.size x2 (0 : Int32) (4 : Int32) _ h) (va_cwS 3 C.2.2.2.2 gX10_row_X10_within rfl rfl rfl (by decide +kernel) ⟨Nat.le_of_ble_eq_true rfl, Nat.le_of_ble_eq_true rfl⟩) ⟨mP_blind tX_B, fun U hU hV => ⟨rfl, hW.pre0 hU hV trivial⟩⟩ rfl rfl hl.1 rfl (lv_room (Nat.le_of_ble_eq_true rfl)) dX10_row_13 ⟨Nat.zero_le _, Nat.zero_le _⟩) (fun r6 H locs h hW => ?_)
    refine lv_if_ne (tgt := 23) C.1 C.2.1 dX10_row_16 (by decide) (fun c7 => ?_) (fun c7 => ?_)
    · replace h := h.1 c7
      refine lv_aload_n C.1 C.2.1 dX10_row_23 rfl (lv_at hl 1 rfl) ?_
      refine r_get C hW (ci := 10) (T := TX10) (n := 11) (ref := "BallMinder") (v := .ref (q 7)) (0) (by omega) rfl rfl 4 (by decide) inX10_row_X10 (by decide +kernel) (fun _ h9 => h9) rfl dX10_row_24 ?_
      refine lv_aload_n C.1 C.2.1 dX10_row_27 rfl (lv_at hl 0 rfl) ?_
      obtain ⟨hb8, h⟩ := h
      refine c_nums C hW hb8 inX10_row_X3 inX10_row_X4 inX10_row_X7 (ref := "BallMinder$Plain") (by decide +kernel) (fun _ h9 => h9) dX10_row_28 ?_
      refine k_v hW (va_runV (As := [.ref (q (30 + 2 * mi5))]) (rest := []) C (mtX8_draw l D q cI cJ cZ cP cS K n H.size mi5 S2 L3 R4 _ h) (cwV 1 C.2.2.2.2 gX10_row_X8_draw rfl rfl rfl (by decide +kernel) ⟨Nat.le_of_ble_eq_true rfl, Nat.le_of_ble_eq_true rfl⟩) ⟨mP_blind cX_B, va_recv hW.1 hW.2.1 (ci := 8) (q0 := 7) rfl (wL_get (by omega)), fun U hU hV => ⟨rfl, hW.pre hU hV (hX.call hW hU hV)⟩⟩ rfl rfl hl.1 rfl (lv_room (Nat.le_of_ble_eq_true rfl)) dX10_row_31 ⟨Nat.zero_le _, Nat.zero_le _⟩) (fun u H locs h hW => ?_)
      obtain ⟨S9, L10, R11⟩ := u
      replace hW : hw D (tyC cI cJ cZ cP cS) q (29 + 2 * n) (gC q cI cJ cZ cP cS K n S9 L10 R11) A s H locs := hW
      refine lv_aload_n C.1 C.2.1 dX10_row_34 rfl (lv_at hl 1 rfl) ?_
      refine r_get C hW (ci := 10) (T := TX10) (n := 11) (ref := "BallMinder") (v := .ref (q 7)) (0) (by omega) rfl rfl 4 (by decide) inX10_row_X10 (by decide +kernel) (fun _ h9 => h9) rfl dX10_row_35 ?_
      refine r_getN C hW (ci := 8) (T := TX8) (n := 2) (ref := "BallMinder$Sums") (host := "BallMinder") (v := .ref (q 8)) (7) (by omega) rfl rfl 0 (by decide) inX10_row_X8 (hX.1 _ (by decide +kernel)) (fun _ h9 => h9) rfl dX10_row_38 ?_
      refine lv_iload_n C.1 C.2.1 dX10_row_41 rfl (lv_at hl 3 rfl) ?_
      obtain ⟨hs12, h⟩ := h
      refine r_lald C hW (cA := cJ) (n := 5) (f := L10) (8) 1 (by omega) rfl rfl hs12 dX10_row_42 ?_
      exact t_l C hr hlk (u := (S9, L10, R11)) hW.2.2.2.1 hW.B h dX10_row_43
    · replace h := h.2 c7
      refine lv_ldc2 (v := (-9223372036854775808)) C.1 C.2.1 C.2.2.2.1 (C.2.2.2.2 (.constantLong RX10 112 (-9223372036854775808)) (by decide +kernel)) dX10_row_19 ?_
      exact t_l C hr hlk (u := (S2, L3, R4)) hW.2.2.2.1 hW.B h dX10_row_22
set_option maxRecDepth 100000 in
set_option maxHeartbeats 4000000 in
theorem mtX10_row (l : Launch) (D : va_G) (q : Nat → Nat) (cI cJ cZ cP cS : ClassId) (K : Nat → Nat) (n : Nat) (sz : Nat) (x1 : Int32) (x2 : Int32) (S : Nat → Nat → Int32) (L : Nat → Int64) (R : Nat → Option Nat) (Q : Int64 → (Nat → Nat → Int32) → (Nat → Int64) → (Nat → Option Nat) → Prop) (h : vX10_row K n x1 x2 S L R Q) : Met l yX10_row wsX10_row rmX10_row (va_Pc [.ref (q 0), .int x1, .int x2] (mP D (tyC cI cJ cZ cP cS) q (29 + 2 * n) (gC q cI cJ cZ cP cS K n S L R) sz (cX (aQ q (29 + 2 * n) sz)))) (QCl D q cI cJ cZ cP cS K n Q (aQ q (29 + 2 * n) sz)) 0 0 (aQ q (29 + 2 * n) sz) := by
  refine met_w (cc := cX10_row) (maxL := 4) (ret := (some .long)) (by decide) rfl (Nat.le_of_ble_eq_true rfl) ?_
  intro p e s m below meth c ls C hr hlk hW hX hnm hl
  exact sX10_row C hr hlk hX Q x1 x2 S L R _ _ _ h hW hl
theorem inX8_clearance_X8 : ∀ w ∈ wsX80, w ∈ wsX8_clearance := fun _ h => List.mem_cons_of_mem _ (List.mem_append_right _ h)
abbrev rmX8_clearance : Room := { frames := 0, cells := 0, slots := 0, locals := 0 }
def vX8_clearance (K : Nat → Nat) (n : Nat) (S : Nat → Nat → Int32) (L : Nat → Int64) (R : Nat → Option Nat) (Q : Int64 → (Nat → Nat → Int32) → (Nat → Int64) → (Nat → Option Nat) → Prop) : Prop := ((4 : Int32) ≤ (S 7 1) → vp_in (3 : Int32) 5 ∧ (vp_in (2 : Int32) 5 ∧ (vp_in (1 : Int32) 5 ∧ (vp_in (4 : Int32) 5 ∧ (vp_in (1 : Int32) 5 ∧ (vp_in (1 : Int32) 5 ∧ (vp_in (3 : Int32) 5 ∧ (vp_in (3 : Int32) 5 ∧ (vp_in (0 : Int32) 5 ∧ (Q (((((L (3 : Int32).toNatClampNeg) * (L (2 : Int32).toNatClampNeg)) * (L (1 : Int32).toNatClampNeg)) - (((L (4 : Int32).toNatClampNeg) * (L (1 : Int32).toNatClampNeg)) * (L (1 : Int32).toNatClampNeg))) - (((L (3 : Int32).toNatClampNeg) * (L (3 : Int32).toNatClampNeg)) * (L (0 : Int32).toNatClampNeg))) S L R)))))))))) ∧ (¬ ((4 : Int32) ≤ (S 7 1)) → vp_in (2 : Int32) 5 ∧ (vp_in (1 : Int32) 5 ∧ (vp_in (3 : Int32) 5 ∧ (vp_in (0 : Int32) 5 ∧ (Q (((L (2 : Int32).toNatClampNeg) * (L (1 : Int32).toNatClampNeg)) - ((L (3 : Int32).toNatClampNeg) * (L (0 : Int32).toNatClampNeg))) S L R)))))
set_option maxRecDepth 100000 in
set_option maxHeartbeats 4000000 in
theorem sX8_clearance {p : Program} {l : Launch} {e : Env} {s : State} {m : MethodId} {args : Array Value} {below : List Frame} {meth : Method} {c : Code} {D : va_G} {q : Nat → Nat} {A : Nat → Prop} {cI cJ cZ cP cS : ClassId} {K : Nat → Nat} {n : Nat} (C : CallFix p m c cX8_clearance 1 s args wsX8_clearance RX8) (hr : meth.sig.returnType = (some .long)) (hlk : meth.locks = false) (hX : cX A s) (Q : Int64 → (Nat → Nat → Int32) → (Nat → Int64) → (Nat → Option Nat) → Prop) : ∀ (S : Nat → Nat → Int32) (L : Nat → Int64) (R : Nat → Option Nat) (H : Heap) (locs : List Loc) (ls : Array Slot), vX8_clearance K n S L R Q → hw D (tyC cI cJ cZ cP cS) q (29 + 2 * n) (gC q cI cJ cZ cP cS K n S L R) A s H locs → lv_has ls 1 [(0, .ref (q 7))] → W p l e (headSpec wsX8_clearance rmX8_clearance).room s m args below meth c H locs 0 0 (MQ below (QCl D q cI cJ cZ cP cS K n Q A) args s 0 0 A) (F0 m 0 ls []) := by
  intro S L R H locs ls h hW hl
  unfold vX8_clearance at h
  refine lv_aload_n C.1 C.2.1 dX8_clearance_0 rfl (lv_at hl 0 rfl) ?_
  refine r_get C hW (ci := 8) (T := TX8) (n := 2) (ref := "BallMinder$Sums") (v := .int (S 7 1)) (7) (by omega) rfl rfl 1 (by decide) inX8_clearance_X8 (by decide +kernel) (fun _ h9 => h9) rfl dX8_clearance_1 ?_
  refine lv_iconst (v := 4) C.1 C.2.1 dX8_clearance_4 (by decide) ?_
  refine lv_icmp_ge (tgt := 36) C.1 C.2.1 dX8_clearance_5 (by decide) (fun c1 => ?_) (fun c1 => ?_)
  · replace h := h.1 c1
    refine lv_aload_n C.1 C.2.1 dX8_clearance_36 rfl (lv_at hl 0 rfl) ?_
    refine r_get C hW (ci := 8) (T := TX8) (n := 2) (ref := "BallMinder$Sums") (v := .ref (q 8)) (7) (by omega) rfl rfl 0 (by decide) inX8_clearance_X8 (by decide +kernel) (fun _ h9 => h9) rfl dX8_clearance_37 ?_
    refine lv_iconst (v := 3) C.1 C.2.1 dX8_clearance_40 (by decide) ?_
    obtain ⟨hs2, h⟩ := h
    refine r_lald C hW (cA := cJ) (n := 5) (f := L) (8) 1 (by omega) rfl rfl hs2 dX8_clearance_41 ?_
    refine lv_aload_n C.1 C.2.1 dX8_clearance_42 rfl (lv_at hl 0 rfl) ?_
    refine r_get C hW (ci := 8) (T := TX8) (n := 2) (ref := "BallMinder$Sums") (v := .ref (q 8)) (7) (by omega) rfl rfl 0 (by decide) inX8_clearance_X8 (by decide +kernel) (fun _ h9 => h9) rfl dX8_clearance_43 ?_
    refine lv_iconst (v := 2) C.1 C.2.1 dX8_clearance_46 (by decide) ?_
    obtain ⟨hs3, h⟩ := h
    refine r_lald C hW (cA := cJ) (n := 5) (f := L) (8) 1 (by omega) rfl rfl hs3 dX8_clearance_47 ?_
    refine lv_lmul C.1 C.2.1 dX8_clearance_48 ?_
    refine lv_aload_n C.1 C.2.1 dX8_clearance_49 rfl (lv_at hl 0 rfl) ?_
    refine r_get C hW (ci := 8) (T := TX8) (n := 2) (ref := "BallMinder$Sums") (v := .ref (q 8)) (7) (by omega) rfl rfl 0 (by decide) inX8_clearance_X8 (by decide +kernel) (fun _ h9 => h9) rfl dX8_clearance_50 ?_
    refine lv_iconst (v := 1) C.1 C.2.1 dX8_clearance_53 (by decide) ?_
    obtain ⟨hs4, h⟩ := h
    refine r_lald C hW (cA := cJ) (n := 5) (f := L) (8) 1 (by omega) rfl rfl hs4 dX8_clearance_54 ?_
    refine lv_lmul C.1 C.2.1 dX8_clearance_55 ?_
    refine lv_aload_n C.1 C.2.1 dX8_clearance_56 rfl (lv_at hl 0 rfl) ?_
    refine r_get C hW (ci := 8) (T := TX8) (n := 2) (ref := "BallMinder$Sums") (v := .ref (q 8)) (7) (by omega) rfl rfl 0 (by decide) inX8_clearance_X8 (by decide +kernel) (fun _ h9 => h9) rfl dX8_clearance_57 ?_
    refine lv_iconst (v := 4) C.1 C.2.1 dX8_clearance_60 (by decide) ?_
    obtain ⟨hs5, h⟩ := h
    refine r_lald C hW (cA := cJ) (n := 5) (f := L) (8) 1 (by omega) rfl rfl hs5 dX8_clearance_61 ?_
    refine lv_aload_n C.1 C.2.1 dX8_clearance_62 rfl (lv_at hl 0 rfl) ?_
    refine r_get C hW (ci := 8) (T := TX8) (n := 2) (ref := "BallMinder$Sums") (v := .ref (q 8)) (7) (by omega) rfl rfl 0 (by decide) inX8_clearance_X8 (by decide +kernel) (fun _ h9 => h9) rfl dX8_clearance_63 ?_
    refine lv_iconst (v := 1) C.1 C.2.1 dX8_clearance_66 (by decide) ?_
    obtain ⟨hs6, h⟩ := h
    refine r_lald C hW (cA := cJ) (n := 5) (f := L) (8) 1 (by omega) rfl rfl hs6 dX8_clearance_67 ?_
    refine lv_lmul C.1 C.2.1 dX8_clearance_68 ?_
    refine lv_aload_n C.1 C.2.1 dX8_clearance_69 rfl (lv_at hl 0 rfl) ?_
    refine r_get C hW (ci := 8) (T := TX8) (n := 2) (ref := "BallMinder$Sums") (v := .ref (q 8)) (7) (by omega) rfl rfl 0 (by decide) inX8_clearance_X8 (by decide +kernel) (fun _ h9 => h9) rfl dX8_clearance_70 ?_
    refine lv_iconst (v := 1) C.1 C.2.1 dX8_clearance_73 (by decide) ?_
    obtain ⟨hs7, h⟩ := h
    refine r_lald C hW (cA := cJ) (n := 5) (f := L) (8) 1 (by omega) rfl rfl hs7 dX8_clearance_74 ?_
    refine lv_lmul C.1 C.2.1 dX8_clearance_75 ?_
    refine lv_lsub C.1 C.2.1 dX8_clearance_76 ?_
    refine lv_aload_n C.1 C.2.1 dX8_clearance_77 rfl (lv_at hl 0 rfl) ?_
    refine r_get C hW (ci := 8) (T := TX8) (n := 2) (ref := "BallMinder$Sums") (v := .ref (q 8)) (7) (by omega) rfl rfl 0 (by decide) inX8_clearance_X8 (by decide +kernel) (fun _ h9 => h9) rfl dX8_clearance_78 ?_
    refine lv_iconst (v := 3) C.1 C.2.1 dX8_clearance_81 (by decide) ?_
    obtain ⟨hs8, h⟩ := h
    refine r_lald C hW (cA := cJ) (n := 5) (f := L) (8) 1 (by omega) rfl rfl hs8 dX8_clearance_82 ?_
    refine lv_aload_n C.1 C.2.1 dX8_clearance_83 rfl (lv_at hl 0 rfl) ?_
    refine r_get C hW (ci := 8) (T := TX8) (n := 2) (ref := "BallMinder$Sums") (v := .ref (q 8)) (7) (by omega) rfl rfl 0 (by decide) inX8_clearance_X8 (by decide +kernel) (fun _ h9 => h9) rfl dX8_clearance_84 ?_
    refine lv_iconst (v := 3) C.1 C.2.1 dX8_clearance_87 (by decide) ?_
    obtain ⟨hs9, h⟩ := h
    refine r_lald C hW (cA := cJ) (n := 5) (f := L) (8) 1 (by omega) rfl rfl hs9 dX8_clearance_88 ?_
    refine lv_lmul C.1 C.2.1 dX8_clearance_89 ?_
    refine lv_aload_n C.1 C.2.1 dX8_clearance_90 rfl (lv_at hl 0 rfl) ?_
    refine r_get C hW (ci := 8) (T := TX8) (n := 2) (ref := "BallMinder$Sums") (v := .ref (q 8)) (7) (by omega) rfl rfl 0 (by decide) inX8_clearance_X8 (by decide +kernel) (fun _ h9 => h9) rfl dX8_clearance_91 ?_
    refine lv_iconst (v := 0) C.1 C.2.1 dX8_clearance_94 (by decide) ?_
    obtain ⟨hs10, h⟩ := h
    refine r_lald C hW (cA := cJ) (n := 5) (f := L) (8) 1 (by omega) rfl rfl hs10 dX8_clearance_95 ?_
    refine lv_lmul C.1 C.2.1 dX8_clearance_96 ?_
    refine lv_lsub C.1 C.2.1 dX8_clearance_97 ?_
    exact t_l C hr hlk (u := (S, L, R)) hW.2.2.2.1 hW.B h dX8_clearance_98
  · replace h := h.2 c1
    refine lv_aload_n C.1 C.2.1 dX8_clearance_8 rfl (lv_at hl 0 rfl) ?_
    refine r_get C hW (ci := 8) (T := TX8) (n := 2) (ref := "BallMinder$Sums") (v := .ref (q 8)) (7) (by omega) rfl rfl 0 (by decide) inX8_clearance_X8 (by decide +kernel) (fun _ h9 => h9) rfl dX8_clearance_9 ?_
    refine lv_iconst (v := 2) C.1 C.2.1 dX8_clearance_12 (by decide) ?_
    obtain ⟨hs11, h⟩ := h
    refine r_lald C hW (cA := cJ) (n := 5) (f := L) (8) 1 (by omega) rfl rfl hs11 dX8_clearance_13 ?_
    refine lv_aload_n C.1 C.2.1 dX8_clearance_14 rfl (lv_at hl 0 rfl) ?_
    refine r_get C hW (ci := 8) (T := TX8) (n := 2) (ref := "BallMinder$Sums") (v := .ref (q 8)) (7) (by omega) rfl rfl 0 (by decide) inX8_clearance_X8 (by decide +kernel) (fun _ h9 => h9) rfl dX8_clearance_15 ?_
    refine lv_iconst (v := 1) C.1 C.2.1 dX8_clearance_18 (by decide) ?_
    obtain ⟨hs12, h⟩ := h
    refine r_lald C hW (cA := cJ) (n := 5) (f := L) (8) 1 (by omega) rfl rfl hs12 dX8_clearance_19 ?_
    refine lv_lmul C.1 C.2.1 dX8_clearance_20 ?_
    refine lv_aload_n C.1 C.2.1 dX8_clearance_21 rfl (lv_at hl 0 rfl) ?_
    refine r_get C hW (ci := 8) (T := TX8) (n := 2) (ref := "BallMinder$Sums") (v := .ref (q 8)) (7) (by omega) rfl rfl 0 (by decide) inX8_clearance_X8 (by decide +kernel) (fun _ h9 => h9) rfl dX8_clearance_22 ?_
    refine lv_iconst (v := 3) C.1 C.2.1 dX8_clearance_25 (by decide) ?_
    obtain ⟨hs13, h⟩ := h
    refine r_lald C hW (cA := cJ) (n := 5) (f := L) (8) 1 (by omega) rfl rfl hs13 dX8_clearance_26 ?_
    refine lv_aload_n C.1 C.2.1 dX8_clearance_27 rfl (lv_at hl 0 rfl) ?_
    refine r_get C hW (ci := 8) (T := TX8) (n := 2) (ref := "BallMinder$Sums") (v := .ref (q 8)) (7) (by omega) rfl rfl 0 (by decide) inX8_clearance_X8 (by decide +kernel) (fun _ h9 => h9) rfl dX8_clearance_28 ?_
    refine lv_iconst (v := 0) C.1 C.2.1 dX8_clearance_31 (by decide) ?_
    obtain ⟨hs14, h⟩ := h
    refine r_lald C hW (cA := cJ) (n := 5) (f := L) (8) 1 (by omega) rfl rfl hs14 dX8_clearance_32 ?_
    refine lv_lmul C.1 C.2.1 dX8_clearance_33 ?_
    refine lv_lsub C.1 C.2.1 dX8_clearance_34 ?_
    exact t_l C hr hlk (u := (S, L, R)) hW.2.2.2.1 hW.B h dX8_clearance_35
set_option maxRecDepth 100000 in
set_option maxHeartbeats 4000000 in
theorem mtX8_clearance (l : Launch) (D : va_G) (q : Nat → Nat) (cI cJ cZ cP cS : ClassId) (K : Nat → Nat) (n : Nat) (sz : Nat) (S : Nat → Nat → Int32) (L : Nat → Int64) (R : Nat → Option Nat) (Q : Int64 → (Nat → Nat → Int32) → (Nat → Int64) → (Nat → Option Nat) → Prop) (h : vX8_clearance K n S L R Q) : Met l yX8_clearance wsX8_clearance rmX8_clearance (va_Pc [.ref (q 7)] (mP D (tyC cI cJ cZ cP cS) q (29 + 2 * n) (gC q cI cJ cZ cP cS K n S L R) sz (cX (aQ q (29 + 2 * n) sz)))) (QCl D q cI cJ cZ cP cS K n Q (aQ q (29 + 2 * n) sz)) 0 0 (aQ q (29 + 2 * n) sz) := by
  refine met_w (cc := cX8_clearance) (maxL := 1) (ret := (some .long)) (by decide) rfl (Nat.le_of_ble_eq_true rfl) ?_
  intro p e s m below meth c ls C hr hlk hW hX hnm hl
  exact sX8_clearance C hr hlk hX Q S L R _ _ _ h hW hl
