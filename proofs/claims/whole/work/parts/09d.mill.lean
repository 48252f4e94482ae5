/-! mill -/
abbrev QCmill (D : va_G) (cI cJ cZ cP cS : ClassId) (b0 : Nat) (Q : Int32 → (Nat → Nat) → Nat → (Nat → Nat → Int32) → (Nat → Int64) → (Nat → Option Nat) → Prop) (A : Nat → Prop) : Array Value → State → Outcome → State → Prop := va_Qi (fun r (u : (Nat → Nat) × (Nat → Nat) × Nat × (Nat → Nat → Int32) × (Nat → Int64) × (Nat → Option Nat)) => Q r u.2.1 u.2.2.1 u.2.2.2.1 u.2.2.2.2.1 u.2.2.2.2.2) (fun u t => va_P D vwCl (wL u.1 (29 + 2 * u.2.2.1) (gC u.1 cI cJ cZ cP cS u.2.1 u.2.2.1 u.2.2.2.1 u.2.2.2.2.1 u.2.2.2.2.2)) t.heap ∧ va_D A (wL u.1 (29 + 2 * u.2.2.1) (gC u.1 cI cJ cZ cP cS u.2.1 u.2.2.1 u.2.2.2.1 u.2.2.2.2.1 u.2.2.2.2.2)) ∧ u.1 0 = b0) A
theorem inX10_mill_X10 : ∀ w ∈ wsX100, w ∈ wsX10_mill := fun _ h => List.mem_cons_of_mem _ (List.mem_append_left _ (List.mem_append_left _ (List.mem_append_left _ (List.mem_append_left _ (List.mem_append_left _ (List.mem_append_right _ h))))))
theorem inX10_mill_X0 : ∀ w ∈ wsX00, w ∈ wsX10_mill := fun _ h => List.mem_cons_of_mem _ (List.mem_append_left _ (List.mem_append_left _ (List.mem_append_left _ (List.mem_append_left _ (List.mem_append_right _ h)))))
theorem inX10_mill_X6 : ∀ w ∈ wsX60, w ∈ wsX10_mill := fun _ h => List.mem_cons_of_mem _ (List.mem_append_left _ (List.mem_append_left _ (List.mem_append_left _ (List.mem_append_right _ h))))
theorem inX10_mill_X7 : ∀ w ∈ wsX70, w ∈ wsX10_mill := fun _ h => List.mem_cons_of_mem _ (List.mem_append_left _ (List.mem_append_left _ (List.mem_append_right _ h)))
theorem inX10_mill_X3 : ∀ w ∈ wsX30, w ∈ wsX10_mill := fun _ h => List.mem_cons_of_mem _ (List.mem_append_left _ (List.mem_append_right _ h))
theorem inX10_mill_X4 : ∀ w ∈ wsX40, w ∈ wsX10_mill := fun _ h => List.mem_cons_of_mem _ (List.mem_append_right _ h)
abbrev rmX10_mill : Room := { frames := 6, cells := 2, slots := 11, locals := 137 }
def vX10_mill_127 (K : Nat → Nat) (n : Nat) (Q : Int32 → (Nat → Nat) → Nat → (Nat → Nat → Int32) → (Nat → Int64) → (Nat → Option Nat) → Prop) (S : Nat → Nat → Int32) (L : Nat → Int64) (R : Nat → Option Nat) : Prop := ∀ S23 : Nat → Nat → Int32, S23 = va_up S 0 (upd (S 0) 8 ((S 0 8) + (1 : Int32))) → Q ((S23 0 8) - (1 : Int32)) K n S23 L R
def vX10_mill (K : Nat → Nat) (n : Nat) (x1 : Int32) (x2 : Int32) (x3 : Int32) (x4 : Int32) (x5 : Int32) (S : Nat → Nat → Int32) (L : Nat → Int64) (R : Nat → Option Nat) (Q : Int32 → (Nat → Nat) → Nat → (Nat → Nat → Int32) → (Nat → Int64) → (Nat → Option Nat) → Prop) : Prop := ∀ S1 : Nat → Nat → Int32, S1 = va_up S 0 (upd (S 0) 10 (0 : Int32)) → vX10_sheetOf K n x2 S1 L R (fun o2 S3 L4 R5 => (o2 = none → Q (-1 : Int32) K n S3 L4 R5) ∧ (∀ mi6 : Nat, o2 = some mi6 → vX10_within x1 (0 : Int32) (2 : Int32) (fun r7 => (r7 = 0 → Q (-2 : Int32) K n S3 L4 R5) ∧ (¬ (r7 = 0) → vX10_within x3 (0 : Int32) (2 : Int32) (fun r9 => (¬ r9 = 0 → mi6 < 4 ∧ (vX6_faultOfTaking K n mi6 x3 x4 x5 S3 L4 R5 (fun r11 S12 L13 R14 => (r11 = 0 → vX0_read K n mi6 x4 x5 S12 L13 R14 (fun r17 S18 L19 R20 => (r17 = (-1 : Int32) → ((S18 0 8) < (8 : Int32) → n < 8 ∧ RO n R20 ∧ S18 0 8 = nI n ∧ vX10_mill_127 (va_up K n (kN x1)) (n + 1) Q (va_up S18 (30 + 2 * n) (S18 5)) L19 R20) ∧ (¬ ((S18 0 8) < (8 : Int32)) → Q (-4 : Int32) K n S18 L19 R20)) ∧ (¬ (r17 = (-1 : Int32)) → Q ((-100 : Int32) - r17) K n S18 L19 R20))) ∧ (¬ (r11 = 0) → vX10_faulted K n r11 S12 L13 R14 (fun r24 S25 L26 R27 => Q r24 K n S25 L26 R27))))) ∧ (r9 = 0 → Q (-2 : Int32) K n S3 L4 R5))))))
set_option maxRecDepth 100000 in
set_option maxHeartbeats 4000000 in
theorem sX10_mill_127 {p : Program} {l : Launch} {e : Env} {s : State} {m : MethodId} {args : Array Value} {below : List Frame} {meth : Method} {c : Code} {D : va_G} {q : Nat → Nat} {A : Nat → Prop} {cI cJ cZ cP cS : ClassId} {K : Nat → Nat} {n : Nat} (C : CallFix p m c cX10_mill 9 s args wsX10_mill RX10) (hr : meth.sig.returnType = (some .int)) (hlk : meth.locks = false) (hX : cX A s) (b0 : Nat) (hb0 : q 0 = b0) (Q : Int32 → (Nat → Nat) → Nat → (Nat → Nat → Int32) → (Nat → Int64) → (Nat → Option Nat) → Prop) : ∀ (S : Nat → Nat → Int32) (L : Nat → Int64) (R : Nat → Option Nat) (H : Heap) (locs : List Loc) (ls : Array Slot), vX10_mill_127 K n Q S L R → hw D (tyC cI cJ cZ cP cS) q (29 + 2 * n) (gC q cI cJ cZ cP cS K n S L R) A s H locs → lv_has ls 9 [(0, .ref (q 0))] → W p l e (headSpec wsX10_mill rmX10_mill).room s m args below meth c H locs 2 11 (MQ below (QCmill D cI cJ cZ cP cS b0 Q A) args s 2 11 A) (F0 m 127 ls []) := by
  intro S L R H locs ls h hW hl
  unfold vX10_mill_127 at h
  refine lv_aload_n C.1 C.2.1 dX10_mill_127 rfl (lv_at hl 0 rfl) ?_
  refine lv_dup C.1 C.2.1 dX10_mill_128 rfl ?_
  refine r_get C hW (ci := 10) (T := TX10) (n := 11) (ref := "BallMinder") (v := .int (S 0 8)) (0) (by omega) rfl rfl 8 (by decide) inX10_mill_X10 (by decide +kernel) (fun _ h9 => h9) rfl dX10_mill_129 ?_
  refine lv_iconst (v := 1) C.1 C.2.1 dX10_mill_132 (by decide) ?_
  refine lv_iadd C.1 C.2.1 dX10_mill_133 ?_
  refine r_put C hW (ci := 10) (T := TX10) (n := 11) (ref := "BallMinder") (0) (by omega) rfl rfl 8 (by decide) inX10_mill_X10 tyX10 tyX10_ok nmX10 (by decide +kernel) (fun _ h9 => h9) rfl rfl rfl (Nat.le_of_ble_eq_true rfl) dX10_mill_134 (fun H locs hW => ?_)
  replace hW := gC_put (F := upd (S 0) 8 ((S 0 8) + (1 : Int32))) rfl hW
  obtain ⟨S23, eS23⟩ : ∃ z : Nat → Nat → Int32, z = va_up S 0 (upd (S 0) 8 ((S 0 8) + (1 : Int32))) := ⟨_, rfl⟩
  rw [← eS23] at hW
  replace h := h S23 eS23
  refine lv_aload_n C.1 C.2.1 dX10_mill_137 rfl (lv_at hl 0 rfl) ?_
  refine r_get C hW (ci := 10) (T := TX10) (n := 11) (ref := "BallMinder") (v := .int (S23 0 8)) (0) (by omega) rfl rfl 8 (by decide) inX10_mill_X10 (by decide +kernel) (fun _ h9 => h9) rfl dX10_mill_138 ?_
  refine lv_iconst (v := 1) C.1 C.2.1 dX10_mill_141 (by decide) ?_
  refine lv_isub C.1 C.2.1 dX10_mill_142 ?_
  exact t_i C hr hlk (u := (q, K, n, S23, L, R)) hW.2.2.2.1 (fun t ht => ⟨by rw [ht]; exact hW.2.1, hW.2.2.1, hb0⟩) h dX10_mill_143
set_option maxRecDepth 100000 in
set_option maxHeartbeats 4000000 in
theorem sX10_mill {p : Program} {l : Launch} {e : Env} {s : State} {m : MethodId} {args : Array Value} {below : List Frame} {meth : Method} {c : Code} {D : va_G} {q : Nat → Nat} {A : Nat → Prop} {cI cJ cZ cP cS : ClassId} {K : Nat → Nat} {n : Nat} (C : CallFix p m c cX10_mill 9 s args wsX10_mill RX10) (hr : meth.sig.returnType = (some .int)) (hlk : meth.locks = false) (hX : cX A s) (b0 : Nat) (hb0 : q 0 = b0) (Q : Int32 → (Nat → Nat) → Nat → (Nat → Nat → Int32) → (Nat → Int64) → (Nat → Option Nat) → Prop) : ∀ (x1 : Int32) (x2 : Int32) (x3 : Int32) (x4 : Int32) (x5 : Int32) (S : Nat → Nat → Int32) (L : Nat → Int64) (R : Nat → Option Nat) (H : Heap) (locs : List Loc) (ls : Array Slot), vX10_mill K n x1 x2 x3 x4 x5 S L R Q → hw D (tyC cI cJ cZ cP cS) q (29 + 2 * n) (gC q cI cJ cZ cP cS K n S L R) A s H locs → lv_has ls 9 [(0, .ref (q 0)), (1, .int x1), (2, .int x2), (3, .int x3), (4, .int x4), (5, .int x5)] → W p l e (headSpec wsX10_mill rmX10_mill).room s m args below meth c H locs 0 0 (MQ below (QCmill D cI cJ cZ cP cS b0 Q A) args s 2 11 A) (F0 m 0 ls []) := by
  intro x1 x2 x3 x4 x5 S L R H locs ls h hW hl
  unfold vX10_mill at h
  refine lv_aload_n C.1 C.2.1 dX10_mill_0 rfl (lv_at hl 0 rfl) ?_
  refine lv_iconst (v := 0) C.1 C.2.1 dX10_mill_1 (by decide) ?_
  refine r_put C hW (ci := 10) (T := TX10) (n := 11) (ref := "BallMinder") (0) (by omega) rfl rfl 10 (by decide) inX10_mill_X10 tyX10 tyX10_ok nmX10 (by decide +kernel) (fun _ h9 => h9) rfl rfl rfl (Nat.le_of_ble_eq_true rfl) dX10_mill_2 (fun H locs hW => ?_)
  replace hW := gC_put (F := upd (S 0) 10 (0 : Int32)) rfl hW
  obtain ⟨S1, eS1⟩ : ∃ z : Nat → Nat → Int32, z = va_up S 0 (upd (S 0) 10 (0 : Int32)) := ⟨_, rfl⟩
  rw [← eS1] at hW
  replace h := h S1 eS1
  refine lv_aload_n C.1 C.2.1 dX10_mill_5 rfl (lv_at hl 0 rfl) ?_
  refine lv_iload_n C.1 C.2.1 dX10_mill_6 rfl (lv_at hl 2 rfl) ?_
  refine k_q hW (va_runV (As := [.int x2]) (rest := []) C (mtX10_sheetOf l D q cI cJ cZ cP cS K n H.size x2 S1 L R _ h) (cwV 1 C.2.2.2.2 gX10_mill_X10_sheetOf rfl rfl rfl (by decide +kernel) ⟨Nat.le_of_ble_eq_true rfl, Nat.le_of_ble_eq_true rfl⟩) ⟨mP_blind cX_B, va_recv hW.1 hW.2.1 (ci := 10) (q0 := 0) rfl (wL_get (by omega)), fun U hU hV => ⟨rfl, hW.pre hU hV (hX.call hW hU hV)⟩⟩ rfl rfl hl.1 rfl (lv_room (Nat.le_of_ble_eq_true rfl)) dX10_mill_7 ⟨Nat.zero_le _, Nat.zero_le _⟩) (fun r9 u H locs h hW => ?_)
  obtain ⟨S3, L4, R5⟩ := u
  obtain ⟨o2, rfl, h⟩ := h
  replace hW : hw D (tyC cI cJ cZ cP cS) q (29 + 2 * n) (gC q cI cJ cZ cP cS K n S3 L4 R5) A s H locs := hW
  refine cv_astore (lv' := [(6, va_rf (Option.map (qS q) o2)), (0, .ref (q 0)), (1, .int x1), (2, .int x2), (3, .int x3), (4, .int x4), (5, .int x5)]) C.1 C.2.1 dX10_mill_10 hl (by decide) rfl (fun ls hl => ?_)
  refine cv_aload C.1 C.2.1 dX10_mill_12 (lv_at hl 0 rfl) ?_
  rcases o2 with _ | mi6
  · replace h := h.1 rfl
    replace hl : lv_has ls 9 [(6, .null), (0, .ref (q 0)), (1, .int x1), (2, .int x2), (3, .int x3), (4, .int x4), (5, .int x5)] := hl
    refine lv_ifnonnullN C.1 C.2.1 dX10_mill_14 ?_
    refine lv_iconst (v := -1) C.1 C.2.1 dX10_mill_17 (by decide) ?_
    refine W.widen (k := 2) (n := 11) (by omega) (by omega) ?_
    exact t_i C hr hlk (u := (q, K, n, S3, L4, R5)) hW.2.2.2.1 (fun t ht => ⟨by rw [ht]; exact hW.2.1, hW.2.2.1, hb0⟩) h dX10_mill_18
  · replace h := h.2 mi6 rfl
    replace hl : lv_has ls 9 [(6, .ref (q (21 + 2 * mi6))), (0, .ref (q 0)), (1, .int x1), (2, .int x2), (3, .int x3), (4, .int x4), (5, .int x5)] := hl
    refine lv_ifnonnull (tgt := 19) C.1 C.2.1 dX10_mill_14 (by decide) ?_
    refine lv_iload_n C.1 C.2.1 dX10_mill_19 rfl (lv_at hl 2 rfl) ?_
    refine lv_iconst (v := 0) C.1 C.2.1 dX10_mill_20 (by decide) ?_
    refine lv_iconst (v := 2) C.1 C.2.1 dX10_mill_21 (by decide) ?_
    refine k_pi hW (va_runS (As := [.int x1, .int (0 : Int32), .int (2 : Int32)]) (rest := []) C (mtX10_within l D q _ H.size x1 (0 : Int32) (2 : Int32) _ h) (va_cwS 3 C.2.2.2.2 gX10_mill_X10_within rfl rfl rfl (by decide +kernel) ⟨Nat.le_of_ble_eq_true rfl, Nat.le_of_ble_eq_true rfl⟩) ⟨mP_blind tX_B, fun U hU hV => ⟨rfl, hW.pre0 hU hV trivial⟩⟩ rfl rfl hl.1 rfl (lv_room (Nat.le_of_ble_eq_true rfl)) dX10_mill_22 ⟨Nat.zero_le _, Nat.zero_le _⟩) (fun r7 H locs h hW => ?_)
    refine lv_if_eq (tgt := 37) C.1 C.2.1 dX10_mill_25 (by decide) (fun c8 => ?_) (fun c8 => ?_)
    · replace h := h.1 c8
      refine lv_bipush (v := -2) C.1 C.2.1 dX10_mill_37 (by decide) ?_
      refine W.widen (k := 2) (n := 11) (by omega) (by omega) ?_
      exact t_i C hr hlk (u := (q, K, n, S3, L4, R5)) hW.2.2.2.1 (fun t ht => ⟨by rw [ht]; exact hW.2.1, hW.2.2.1, hb0⟩) h dX10_mill_39
    · replace h := h.2 c8
      refine lv_iload_n C.1 C.2.1 dX10_mill_28 rfl (lv_at hl 4 rfl) ?_
      refine lv_iconst (v := 0) C.1 C.2.1 dX10_mill_29 (by decide) ?_
      refine lv_iconst (v := 2) C.1 C.2.1 dX10_mill_30 (by decide) ?_
      refine k_pi hW (va_runS (As := [.int x3, .int (0 : Int32), .int (2 : Int32)]) (rest := []) C (mtX10_within l D q _ H.size x3 (0 : Int32) (2 : Int32) _ h) (va_cwS 3 C.2.2.2.2 gX10_mill_X10_within rfl rfl rfl (by decide +kernel) ⟨Nat.le_of_ble_eq_true rfl, Nat.le_of_ble_eq_true rfl⟩) ⟨mP_blind tX_B, fun U hU hV => ⟨rfl, hW.pre0 hU hV trivial⟩⟩ rfl rfl hl.1 rfl (lv_room (Nat.le_of_ble_eq_true rfl)) dX10_mill_31 ⟨Nat.zero_le _, Nat.zero_le _⟩) (fun r9 H locs h hW => ?_)
      refine lv_if_ne (tgt := 40) C.1 C.2.1 dX10_mill_34 (by decide) (fun c10 => ?_) (fun c10 => ?_)
      · replace h := h.1 c10
        refine lv_aload C.1 C.2.1 dX10_mill_40 (lv_at hl 0 rfl) ?_
        refine lv_iload_n C.1 C.2.1 dX10_mill_42 rfl (lv_at hl 4 rfl) ?_
        refine lv_iload C.1 C.2.1 dX10_mill_43 (lv_at hl 5 rfl) ?_
        refine lv_iload C.1 C.2.1 dX10_mill_45 (lv_at hl 6 rfl) ?_
        obtain ⟨hb15, h⟩ := h
        refine k_i hW (va_runV (As := [.int x3, .int x4, .int x5]) (rest := []) C (mtX6_faultOfTaking l D q cI cJ cZ cP cS K n mi6 hb15 H.size x3 x4 x5 S3 L4 R5 _ h) (cwV 3 C.2.2.2.2 gX10_mill_X6_faultOfTaking rfl rfl rfl (by decide +kernel) ⟨Nat.le_of_ble_eq_true rfl, Nat.le_of_ble_eq_true rfl⟩) ⟨mP_blind cX_B, va_recv hW.1 hW.2.1 (ci := 6) (q0 := 21 + 2 * mi6) rfl (by rw [wL_get (by omega), gC_sheet hb15]), fun U hU hV => ⟨rfl, hW.pre hU hV (hX.call hW hU hV)⟩⟩ rfl rfl hl.1 rfl (lv_room (Nat.le_of_ble_eq_true rfl)) dX10_mill_47 ⟨Nat.zero_le _, Nat.zero_le _⟩) (fun r11 u H locs h hW => ?_)
        obtain ⟨S12, L13, R14⟩ := u
        replace hW : hw D (tyC cI cJ cZ cP cS) q (29 + 2 * n) (gC q cI cJ cZ cP cS K n S12 L13 R14) A s H locs := hW
        refine lv_istore (lv' := [(7, .int r11), (6, .ref (q (21 + 2 * mi6))), (0, .ref (q 0)), (1, .int x1), (2, .int x2), (3, .int x3), (4, .int x4), (5, .int x5)]) C.1 C.2.1 dX10_mill_50 hl (by decide) rfl (fun ls hl => ?_)
        refine lv_iload C.1 C.2.1 dX10_mill_52 (lv_at hl 0 rfl) ?_
        refine lv_if_eq (tgt := 64) C.1 C.2.1 dX10_mill_54 (by decide) (fun c16 => ?_) (fun c16 => ?_)
        · replace h := h.1 c16
          refine lv_aload_n C.1 C.2.1 dX10_mill_64 rfl (lv_at hl 2 rfl) ?_
          refine r_get C hW (ci := 10) (T := TX10) (n := 11) (ref := "BallMinder") (v := .ref (q 4)) (0) (by omega) rfl rfl 3 (by decide) inX10_mill_X10 (by decide +kernel) (fun _ h9 => h9) rfl dX10_mill_65 ?_
          refine lv_aload C.1 C.2.1 dX10_mill_68 (lv_at hl 1 rfl) ?_
          refine lv_iload C.1 C.2.1 dX10_mill_70 (lv_at hl 6 rfl) ?_
          refine lv_iload C.1 C.2.1 dX10_mill_72 (lv_at hl 7 rfl) ?_
          refine k_i hW (va_runV (As := [.ref (q (21 + 2 * mi6)), .int x4, .int x5]) (rest := []) C (mtX0_read l D q cI cJ cZ cP cS K n H.size mi6 x4 x5 S12 L13 R14 _ h) (cwV 3 C.2.2.2.2 gX10_mill_X0_read rfl rfl rfl (by decide +kernel) ⟨Nat.le_of_ble_eq_true rfl, Nat.le_of_ble_eq_true rfl⟩) ⟨mP_blind cX_B, va_recv hW.1 hW.2.1 (ci := 0) (q0 := 4) rfl (wL_get (by omega)), fun U hU hV => ⟨rfl, hW.pre hU hV (hX.call hW hU hV)⟩⟩ rfl rfl hl.1 rfl (lv_room (Nat.le_of_ble_eq_true rfl)) dX10_mill_74 ⟨Nat.zero_le _, Nat.zero_le _⟩) (fun r17 u H locs h hW => ?_)
          obtain ⟨S18, L19, R20⟩ := u
          replace hW : hw D (tyC cI cJ cZ cP cS) q (29 + 2 * n) (gC q cI cJ cZ cP cS K n S18 L19 R20) A s H locs := hW
          refine lv_istore (lv' := [(8, .int r17), (7, .int r11), (6, .ref (q (21 + 2 * mi6))), (0, .ref (q 0)), (1, .int x1), (2, .int x2), (3, .int x3), (4, .int x4), (5, .int x5)]) C.1 C.2.1 dX10_mill_77 hl (by decide) rfl (fun ls hl => ?_)
          refine lv_iload C.1 C.2.1 dX10_mill_79 (lv_at hl 0 rfl) ?_
          refine lv_iconst (v := -1) C.1 C.2.1 dX10_mill_81 (by decide) ?_
          refine lv_icmp_eq (tgt := 91) C.1 C.2.1 dX10_mill_82 (by decide) (fun c21 => ?_) (fun c21 => ?_)
          · replace h := h.1 c21
            refine lv_aload_n C.1 C.2.1 dX10_mill_91 rfl (lv_at hl 3 rfl) ?_
            refine r_get C hW (ci := 10) (T := TX10) (n := 11) (ref := "BallMinder") (v := .int (S18 0 8)) (0) (by omega) rfl rfl 8 (by decide) inX10_mill_X10 (by decide +kernel) (fun _ h9 => h9) rfl dX10_mill_92 ?_
            refine lv_bipush (v := 8) C.1 C.2.1 dX10_mill_95 (by decide) ?_
            refine lv_icmp_lt (tgt := 103) C.1 C.2.1 dX10_mill_97 (by decide) (fun c22 => ?_) (fun c22 => ?_)
            · replace h := h.1 c22
              refine lv_aload_n C.1 C.2.1 dX10_mill_103 rfl (lv_at hl 3 rfl) ?_
              refine r_get C hW (ci := 10) (T := TX10) (n := 11) (ref := "BallMinder") (v := .ref (q 1)) (0) (by omega) rfl rfl 0 (by decide) inX10_mill_X10 (by decide +kernel) (fun _ h9 => h9) rfl dX10_mill_104 ?_
              refine lv_aload_n C.1 C.2.1 dX10_mill_107 rfl (lv_at hl 3 rfl) ?_
              refine r_get C hW (ci := 10) (T := TX10) (n := 11) (ref := "BallMinder") (v := .int (S18 0 8)) (0) (by omega) rfl rfl 8 (by decide) inX10_mill_X10 (by decide +kernel) (fun _ h9 => h9) rfl dX10_mill_108 ?_
              refine lv_iload_n C.1 C.2.1 dX10_mill_111 rfl (lv_at hl 4 rfl) ?_
              refine lv_aload_n C.1 C.2.1 dX10_mill_112 rfl (lv_at hl 3 rfl) ?_
              refine r_get C hW (ci := 10) (T := TX10) (n := 11) (ref := "BallMinder") (v := .int (S18 0 8)) (0) (by omega) rfl rfl 8 (by decide) inX10_mill_X10 (by decide +kernel) (fun _ h9 => h9) rfl dX10_mill_113 ?_
              refine lv_aload_n C.1 C.2.1 dX10_mill_116 rfl (lv_at hl 3 rfl) ?_
              refine r_get C hW (ci := 10) (T := TX10) (n := 11) (ref := "BallMinder") (v := .ref (q 4)) (0) (by omega) rfl rfl 3 (by decide) inX10_mill_X10 (by decide +kernel) (fun _ h9 => h9) rfl dX10_mill_117 ?_
              refine r_getN C hW (ci := 0) (T := TX0) (n := 5) (ref := "BallMinder$Drawing") (host := "BallMinder") (v := .ref (q 5)) (4) (by omega) rfl rfl 0 (by decide) inX10_mill_X0 (hX.1 _ (by decide +kernel)) (fun _ h9 => h9) rfl dX10_mill_120 ?_
              obtain ⟨hn8, hRO, en8, h⟩ := h
              replace en8 : S18 0 8 = nI n := en8
              rw [en8]
              refine c_make C hX hW hn8 hRO gX10_mill_X10_madeMill ⟨Nat.le_of_ble_eq_true rfl, Nat.le_of_ble_eq_true rfl⟩ hl.1 ⟨Nat.le_of_ble_eq_true rfl, Nat.le_of_ble_eq_true rfl⟩ dX10_mill_123 dX10_mill_126 (fun q1 H locs hq hW => ?_)
              exact sX10_mill_127 C hr hlk hX b0 (hq.trans hb0) Q _ _ _ _ _ _ h hW (by rw [hq]; exact lv_sub hl [3] rfl)
            · replace h := h.2 c22
              refine lv_bipush (v := -4) C.1 C.2.1 dX10_mill_100 (by decide) ?_
              refine W.widen (k := 2) (n := 11) (by omega) (by omega) ?_
              exact t_i C hr hlk (u := (q, K, n, S18, L19, R20)) hW.2.2.2.1 (fun t ht => ⟨by rw [ht]; exact hW.2.1, hW.2.2.1, hb0⟩) h dX10_mill_102
          · replace h := h.2 c21
            refine lv_bipush (v := -100) C.1 C.2.1 dX10_mill_85 (by decide) ?_
            refine lv_iload C.1 C.2.1 dX10_mill_87 (lv_at hl 0 rfl) ?_
            refine lv_isub C.1 C.2.1 dX10_mill_89 ?_
            refine W.widen (k := 2) (n := 11) (by omega) (by omega) ?_
            exact t_i C hr hlk (u := (q, K, n, S18, L19, R20)) hW.2.2.2.1 (fun t ht => ⟨by rw [ht]; exact hW.2.1, hW.2.2.1, hb0⟩) h dX10_mill_90
        · replace h := h.2 c16
          refine lv_aload_n C.1 C.2.1 dX10_mill_57 rfl (lv_at hl 2 rfl) ?_
          refine lv_iload C.1 C.2.1 dX10_mill_58 (lv_at hl 0 rfl) ?_
          refine k_i hW (va_runV (As := [.int r11]) (rest := []) C (mtX10_faulted l D q cI cJ cZ cP cS K n H.size r11 S12 L13 R14 _ h) (cwV 1 C.2.2.2.2 gX10_mill_X10_faulted rfl rfl rfl (by decide +kernel) ⟨Nat.le_of_ble_eq_true rfl, Nat.le_of_ble_eq_true rfl⟩) ⟨mP_blind cX_B, va_recv hW.1 hW.2.1 (ci := 10) (q0 := 0) rfl (wL_get (by omega)), fun U hU hV => ⟨rfl, hW.pre hU hV (hX.call hW hU hV)⟩⟩ rfl rfl hl.1 rfl (lv_room (Nat.le_of_ble_eq_true rfl)) dX10_mill_60 ⟨Nat.zero_le _, Nat.zero_le _⟩) (fun r24 u H locs h hW => ?_)
          obtain ⟨S25, L26, R27⟩ := u
          replace hW : hw D (tyC cI cJ cZ cP cS) q (29 + 2 * n) (gC q cI cJ cZ cP cS K n S25 L26 R27) A s H locs := hW
          refine W.widen (k := 2) (n := 11) (by omega) (by omega) ?_
          exact t_i C hr hlk (u := (q, K, n, S25, L26, R27)) hW.2.2.2.1 (fun t ht => ⟨by rw [ht]; exact hW.2.1, hW.2.2.1, hb0⟩) h dX10_mill_63
      · replace h := h.2 c10
        refine lv_bipush (v := -2) C.1 C.2.1 dX10_mill_37 (by decide) ?_
        refine W.widen (k := 2) (n := 11) (by omega) (by omega) ?_
        exact t_i C hr hlk (u := (q, K, n, S3, L4, R5)) hW.2.2.2.1 (fun t ht => ⟨by rw [ht]; exact hW.2.1, hW.2.2.1, hb0⟩) h dX10_mill_39
set_option maxRecDepth 100000 in
set_option maxHeartbeats 4000000 in
theorem mtX10_mill (l : Launch) (D : va_G) (q : Nat → Nat) (cI cJ cZ cP cS : ClassId) (K : Nat → Nat) (n : Nat) (sz : Nat) (x1 : Int32) (x2 : Int32) (x3 : Int32) (x4 : Int32) (x5 : Int32) (S : Nat → Nat → Int32) (L : Nat → Int64) (R : Nat → Option Nat) (Q : Int32 → (Nat → Nat) → Nat → (Nat → Nat → Int32) → (Nat → Int64) → (Nat → Option Nat) → Prop) (h : vX10_mill K n x1 x2 x3 x4 x5 S L R Q) : Met l yX10_mill wsX10_mill rmX10_mill (va_Pc [.ref (q 0), .int x1, .int x2, .int x3, .int x4, .int x5] (mP D (tyC cI cJ cZ cP cS) q (29 + 2 * n) (gC q cI cJ cZ cP cS K n S L R) sz (cX (aQ q (29 + 2 * n) sz)))) (QCmill D cI cJ cZ cP cS (q 0) Q (aQ q (29 + 2 * n) sz)) 2 11 (aQ q (29 + 2 * n) sz) := by
  refine met_w (cc := cX10_mill) (maxL := 9) (ret := (some .int)) (by decide) rfl (Nat.le_of_ble_eq_true rfl) ?_
  intro p e s m below meth c ls C hr hlk hW hX hnm hl
  exact sX10_mill C hr hlk hX (q 0) rfl Q x1 x2 x3 x4 x5 S L R _ _ _ h hW hl
