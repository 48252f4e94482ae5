theorem inX5_begin_X5 : ∀ w ∈ wsX50, w ∈ wsX5_begin := fun _ h => List.mem_cons_of_mem _ (List.mem_append_left _ (List.mem_append_left _ (List.mem_append_left _ (List.mem_append_left _ (List.mem_append_right _ h)))))
theorem inX5_begin_X2 : ∀ w ∈ wsX20, w ∈ wsX5_begin := fun _ h => List.mem_cons_of_mem _ (List.mem_append_left _ (List.mem_append_left _ (List.mem_append_left _ (List.mem_append_right _ h))))
theorem inX5_begin_X3 : ∀ w ∈ wsX30, w ∈ wsX5_begin := fun _ h => List.mem_cons_of_mem _ (List.mem_append_left _ (List.mem_append_left _ (List.mem_append_right _ h)))
theorem inX5_begin_X4 : ∀ w ∈ wsX40, w ∈ wsX5_begin := fun _ h => List.mem_cons_of_mem _ (List.mem_append_left _ (List.mem_append_right _ h))
theorem inX5_begin_X7 : ∀ w ∈ wsX70, w ∈ wsX5_begin := fun _ h => List.mem_cons_of_mem _ (List.mem_append_right _ h)
abbrev rmX5_begin : Room := { frames := 1, cells := 0, slots := 0, locals := 22 }
def vX5_begin_96 (K : Nat → Nat) (n : Nat) (Q : (Nat → Nat → Int32) → (Nat → Int64) → (Nat → Option Nat) → Prop) : Nat → Int32 → Int32 → (Nat → Nat → Int32) → (Nat → Int64) → (Nat → Option Nat) → Prop
  | 0, _, _, _, _, _ => False
  | fu+1, x3, x6, S, L, R => ((3 : Int32) < x6 → Q S L R) ∧ (¬ ((3 : Int32) < x6) → vp_in x6 304 ∧ (∀ S37 : Nat → Nat → Int32, S37 = va_up S 10 (upd (S 10) x6.toNatClampNeg x3) → ∀ x6_38 : Int32, x6_38 = x6 + (1 : Int32) → vX5_begin_96 K n Q fu x3 x6_38 S37 L R))
def vX5_begin (K : Nat → Nat) (n : Nat) (x1 : Option Nat) (x2 : Option Nat) (x3 : Int32) (x4 : Int32) (x5 : Int32) (S : Nat → Nat → Int32) (L : Nat → Int64) (R : Nat → Option Nat) (Q : (Nat → Nat → Int32) → (Nat → Int64) → (Nat → Option Nat) → Prop) : Prop := vX2_begin K n 0 x1 x4 S L R (fun S1 L2 R3 => vX2_begin K n 1 x2 x4 S1 L2 R3 (fun S4 L5 R6 => ∀ S7 : Nat → Nat → Int32, S7 = va_up S4 9 (upd (S4 9) 5 x5) → vX2_number K n 0 (7 : Int32) S7 L5 R6 (fun r8 S9 L10 R11 => vX2_number K n 1 (7 : Int32) S9 L10 R11 (fun r12 S13 L14 R15 => ∀ S16 : Nat → Nat → Int32, S16 = va_up S13 9 (upd (S13 9) 6 (if r8 < r12 then r12 else r8)) → vX2_number K n 0 (1 : Int32) S16 L14 R15 (fun r17 S18 L19 R20 => vX2_number K n 1 (1 : Int32) S18 L19 R20 (fun r21 S22 L23 R24 => ∀ S25 : Nat → Nat → Int32, S25 = va_up S22 9 (upd (S22 9) 7 (r17 + r21)) → vX2_number K n 0 (0 : Int32) S25 L23 R24 (fun r26 S27 L28 R29 => vX2_number K n 1 (0 : Int32) S27 L28 R29 (fun r30 S31 L32 R33 => ∀ S34 : Nat → Nat → Int32, S34 = va_up S31 9 (upd (S31 9) 8 (r26 + r30)) → ∃ n96, vX5_begin_96 K n Q n96 x3 (0 : Int32) S34 L32 R33))))))))
set_option maxRecDepth 100000 in
set_option maxHeartbeats 4000000 in
theorem sX5_begin_96 {p : Program} {l : Launch} {e : Env} {s : State} {m : MethodId} {args : Array Value} {below : List Frame} {meth : Method} {c : Code} {D : va_G} {q : Nat → Nat} {A : Nat → Prop} {cI cJ cZ cP cS : ClassId} {K : Nat → Nat} {n : Nat} (C : CallFix p m c cX5_begin 7 s args wsX5_begin RX5) (hr : meth.sig.returnType = none) (hlk : meth.locks = false) (hX : cX A s) (Q : (Nat → Nat → Int32) → (Nat → Int64) → (Nat → Option Nat) → Prop) : ∀ (fu : Nat) (x3 : Int32) (x6 : Int32) (S : Nat → Nat → Int32) (L : Nat → Int64) (R : Nat → Option Nat) (H : Heap) (locs : List Loc) (ls : Array Slot), vX5_begin_96 K n Q fu x3 x6 S L R → hw D (tyC cI cJ cZ cP cS) q (29 + 2 * n) (gC q cI cJ cZ cP cS K n S L R) A s H locs → lv_has ls 7 [(0, .ref (q 9)), (3, .int x3), (6, .int x6)] → W p l e (headSpec wsX5_begin rmX5_begin).room s m args below meth c H locs 0 0 (MQ below (QCv D q cI cJ cZ cP cS K n Q A) args s 0 0 A) (F0 m 96 ls []) := by
  intro fu
  induction fu with
  | zero =>
    intro x3 x6 S L R H locs ls h
    exact h.elim
  | succ fu ih =>
    intro x3 x6 S L R H locs ls h hW hl
    refine lv_iload C.1 C.2.1 dX5_begin_96 (lv_at hl 2 rfl) ?_
    refine lv_iconst (v := 3) C.1 C.2.1 dX5_begin_98 (by decide) ?_
    refine lv_icmp_gt (tgt := 116) C.1 C.2.1 dX5_begin_99 (by decide) (fun c35 => ?_) (fun c35 => ?_)
    · replace h := h.1 c35
      exact t_v C hr hlk (u := (S, L, R)) hW.2.2.2.1 hW.B h dX5_begin_116
    · replace h := h.2 c35
      refine lv_aload_n C.1 C.2.1 dX5_begin_102 rfl (lv_at hl 0 rfl) ?_
      refine r_get C hW (ci := 5) (T := TX5) (n := 13) (ref := "BallMinder$Shaft") (v := .ref (q 10)) (9) (by omega) rfl rfl 0 (by decide) inX5_begin_X5 (by decide +kernel) (fun _ h9 => h9) rfl dX5_begin_103 ?_
      refine lv_iload C.1 C.2.1 dX5_begin_106 (lv_at hl 2 rfl) ?_
      refine lv_iload_n C.1 C.2.1 dX5_begin_108 rfl (lv_at hl 1 rfl) ?_
      obtain ⟨hs36, h⟩ := h
      refine r_iast C hW (cA := cI) (n := 304) (f := S 10) (10) 0 (by omega) rfl rfl hs36 dX5_begin_109 (fun H locs hW => ?_)
      replace hW := gC_put (F := upd (S 10) x6.toNatClampNeg x3) rfl hW
      obtain ⟨S37, eS37⟩ : ∃ z : Nat → Nat → Int32, z = va_up S 10 (upd (S 10) x6.toNatClampNeg x3) := ⟨_, rfl⟩
      rw [← eS37] at hW
      replace h := h S37 eS37
      obtain ⟨x6_38, ex6_38⟩ : ∃ z : Int32, z = x6 + (1 : Int32) := ⟨_, rfl⟩
      replace h := h x6_38 ex6_38
      refine lv_iinc (v := x6_38) (lv' := [(6, .int x6_38), (0, .ref (q 9)), (3, .int x3)]) C.1 C.2.1 dX5_begin_110 hl (k := 2) rfl (by rw [ex6_38]; rfl) (by decide) rfl (fun ls hl => ?_)
      refine lv_goto (tgt := 96) C.1 C.2.1 dX5_begin_113 (by decide) ?_
      exact ih x3 x6_38 S37 L R _ _ _ h hW (lv_sub hl [1, 2, 0] rfl)
set_option maxRecDepth 100000 in
set_option maxHeartbeats 4000000 in
theorem sX5_begin {p : Program} {l : Launch} {e : Env} {s : State} {m : MethodId} {args : Array Value} {below : List Frame} {meth : Method} {c : Code} {D : va_G} {q : Nat → Nat} {A : Nat → Prop} {cI cJ cZ cP cS : ClassId} {K : Nat → Nat} {n : Nat} (C : CallFix p m c cX5_begin 7 s args wsX5_begin RX5) (hr : meth.sig.returnType = none) (hlk : meth.locks = false) (hX : cX A s) (Q : (Nat → Nat → Int32) → (Nat → Int64) → (Nat → Option Nat) → Prop) : ∀ (x1 : Option Nat) (x2 : Option Nat) (x3 : Int32) (x4 : Int32) (x5 : Int32) (S : Nat → Nat → Int32) (L : Nat → Int64) (R : Nat → Option Nat) (H : Heap) (locs : List Loc) (ls : Array Slot), vX5_begin K n x1 x2 x3 x4 x5 S L R Q → hw D (tyC cI cJ cZ cP cS) q (29 + 2 * n) (gC q cI cJ cZ cP cS K n S L R) A s H locs → lv_has ls 7 [(0, .ref (q 9)), (1, va_rf (Option.map (qM q) x1)), (2, va_rf (Option.map (qM q) x2)), (3, .int x3), (4, .int x4), (5, .int x5)] → W p l e (headSpec wsX5_begin rmX5_begin).room s m args below meth c H locs 0 0 (MQ below (QCv D q cI cJ cZ cP cS K n Q A) args s 0 0 A) (F0 m 0 ls []) := by
  intro x1 x2 x3 x4 x5 S L R H locs ls h hW hl
  unfold vX5_begin at h
  refine lv_aload_n C.1 C.2.1 dX5_begin_0 rfl (lv_at hl 0 rfl) ?_
  refine r_get C hW (ci := 5) (T := TX5) (n := 13) (ref := "BallMinder$Shaft") (v := .ref (q (15 + 3 * 0))) (9) (by omega) rfl rfl 1 (by decide) inX5_begin_X5 (by decide +kernel) (fun _ h9 => h9) rfl dX5_begin_1 ?_
  refine cv_aload_n C.1 C.2.1 dX5_begin_4 rfl (lv_at hl 1 rfl) ?_
  refine lv_iload C.1 C.2.1 dX5_begin_5 (lv_at hl 4 rfl) ?_
  refine k_v hW (va_runV (As := [va_rf (Option.map (qM q) x1), .int x4]) (rest := []) C (mtX2_begin l D q cI cJ cZ cP cS K n 0 (by decide) H.size x1 x4 S L R _ h) (cwV 2 C.2.2.2.2 gX5_begin_X2_begin rfl rfl rfl (by decide +kernel) ⟨Nat.le_of_ble_eq_true rfl, Nat.le_of_ble_eq_true rfl⟩) ⟨mP_blind cX_B, va_recv hW.1 hW.2.1 (ci := 2) (q0 := 15 + 3 * 0) rfl (by rw [wL_get (by omega), gC_gate (by decide)]), fun U hU hV => ⟨rfl, hW.pre hU hV (hX.call hW hU hV)⟩⟩ rfl rfl hl.1 rfl (lv_room (Nat.le_of_ble_eq_true rfl)) dX5_begin_7 ⟨Nat.zero_le _, Nat.zero_le _⟩) (fun u H locs h hW => ?_)
  obtain ⟨S1, L2, R3⟩ := u
  replace hW : hw D (tyC cI cJ cZ cP cS) q (29 + 2 * n) (gC q cI cJ cZ cP cS K n S1 L2 R3) A s H locs := hW
  refine lv_aload_n C.1 C.2.1 dX5_begin_10 rfl (lv_at hl 0 rfl) ?_
  refine r_get C hW (ci := 5) (T := TX5) (n := 13) (ref := "BallMinder$Shaft") (v := .ref (q (15 + 3 * 1))) (9) (by omega) rfl rfl 2 (by decide) inX5_begin_X5 (by decide +kernel) (fun _ h9 => h9) rfl dX5_begin_11 ?_
  refine cv_aload_n C.1 C.2.1 dX5_begin_14 rfl (lv_at hl 2 rfl) ?_
  refine lv_iload C.1 C.2.1 dX5_begin_15 (lv_at hl 4 rfl) ?_
  refine k_v hW (va_runV (As := [va_rf (Option.map (qM q) x2), .int x4]) (rest := []) C (mtX2_begin l D q cI cJ cZ cP cS K n 1 (by decide) H.size x2 x4 S1 L2 R3 _ h) (cwV 2 C.2.2.2.2 gX5_begin_X2_begin rfl rfl rfl (by decide +kernel) ⟨Nat.le_of_ble_eq_true rfl, Nat.le_of_ble_eq_true rfl⟩) ⟨mP_blind cX_B, va_recv hW.1 hW.2.1 (ci := 2) (q0 := 15 + 3 * 1) rfl (by rw [wL_get (by omega), gC_gate (by decide)]), fun U hU hV => ⟨rfl, hW.pre hU hV (hX.call hW hU hV)⟩⟩ rfl rfl hl.1 rfl (lv_room (Nat.le_of_ble_eq_true rfl)) dX5_begin_17 ⟨Nat.zero_le _, Nat.zero_le _⟩) (fun u H locs h hW => ?_)
  obtain ⟨S4, L5, R6⟩ := u
  replace hW : hw D (tyC cI cJ cZ cP cS) q (29 + 2 * n) (gC q cI cJ cZ cP cS K n S4 L5 R6) A s H locs := hW
  refine lv_aload_n C.1 C.2.1 dX5_begin_20 rfl (lv_at hl 0 rfl) ?_
  refine lv_iload C.1 C.2.1 dX5_begin_21 (lv_at hl 5 rfl) ?_
  refine r_put C hW (ci := 5) (T := TX5) (n := 13) (ref := "BallMinder$Shaft") (9) (by omega) rfl rfl 5 (by decide) inX5_begin_X5 tyX5 tyX5_ok nmX5 (by decide +kernel) (fun _ h9 => h9) rfl rfl rfl (Nat.le_of_ble_eq_true rfl) dX5_begin_23 (fun H locs hW => ?_)
  replace hW := gC_put (F := upd (S4 9) 5 x5) rfl hW
  obtain ⟨S7, eS7⟩ : ∃ z : Nat → Nat → Int32, z = va_up S4 9 (upd (S4 9) 5 x5) := ⟨_, rfl⟩
  rw [← eS7] at hW
  replace h := h S7 eS7
  refine lv_aload_n C.1 C.2.1 dX5_begin_26 rfl (lv_at hl 0 rfl) ?_
  refine lv_aload_n C.1 C.2.1 dX5_begin_27 rfl (lv_at hl 0 rfl) ?_
  refine r_get C hW (ci := 5) (T := TX5) (n := 13) (ref := "BallMinder$Shaft") (v := .ref (q (15 + 3 * 0))) (9) (by omega) rfl rfl 1 (by decide) inX5_begin_X5 (by decide +kernel) (fun _ h9 => h9) rfl dX5_begin_28 ?_
  refine lv_bipush (v := 7) C.1 C.2.1 dX5_begin_31 (by decide) ?_
  refine k_i hW (va_runV (As := [.int (7 : Int32)]) (rest := [.ref (q 9)]) C (mtX2_number l D q cI cJ cZ cP cS K n 0 (by decide) H.size (7 : Int32) S7 L5 R6 _ h) (cwV 1 C.2.2.2.2 gX5_begin_X2_number rfl rfl rfl (by decide +kernel) ⟨Nat.le_of_ble_eq_true rfl, Nat.le_of_ble_eq_true rfl⟩) ⟨mP_blind cX_B, va_recv hW.1 hW.2.1 (ci := 2) (q0 := 15 + 3 * 0) rfl (by rw [wL_get (by omega), gC_gate (by decide)]), fun U hU hV => ⟨rfl, hW.pre hU hV (hX.call hW hU hV)⟩⟩ rfl rfl hl.1 rfl (lv_room (Nat.le_of_ble_eq_true rfl)) dX5_begin_33 ⟨Nat.zero_le _, Nat.zero_le _⟩) (fun r8 u H locs h hW => ?_)
  obtain ⟨S9, L10, R11⟩ := u
  replace hW : hw D (tyC cI cJ cZ cP cS) q (29 + 2 * n) (gC q cI cJ cZ cP cS K n S9 L10 R11) A s H locs := hW
  refine lv_aload_n C.1 C.2.1 dX5_begin_36 rfl (lv_at hl 0 rfl) ?_
  refine r_get C hW (ci := 5) (T := TX5) (n := 13) (ref := "BallMinder$Shaft") (v := .ref (q (15 + 3 * 1))) (9) (by omega) rfl rfl 2 (by decide) inX5_begin_X5 (by decide +kernel) (fun _ h9 => h9) rfl dX5_begin_37 ?_
  refine lv_bipush (v := 7) C.1 C.2.1 dX5_begin_40 (by decide) ?_
  refine k_i hW (va_runV (As := [.int (7 : Int32)]) (rest := [.int r8, .ref (q 9)]) C (mtX2_number l D q cI cJ cZ cP cS K n 1 (by decide) H.size (7 : Int32) S9 L10 R11 _ h) (cwV 1 C.2.2.2.2 gX5_begin_X2_number rfl rfl rfl (by decide +kernel) ⟨Nat.le_of_ble_eq_true rfl, Nat.le_of_ble_eq_true rfl⟩) ⟨mP_blind cX_B, va_recv hW.1 hW.2.1 (ci := 2) (q0 := 15 + 3 * 1) rfl (by rw [wL_get (by omega), gC_gate (by decide)]), fun U hU hV => ⟨rfl, hW.pre hU hV (hX.call hW hU hV)⟩⟩ rfl rfl hl.1 rfl (lv_room (Nat.le_of_ble_eq_true rfl)) dX5_begin_42 ⟨Nat.zero_le _, Nat.zero_le _⟩) (fun r12 u H locs h hW => ?_)
  obtain ⟨S13, L14, R15⟩ := u
  replace hW : hw D (tyC cI cJ cZ cP cS) q (29 + 2 * n) (gC q cI cJ cZ cP cS K n S13 L14 R15) A s H locs := hW
  refine va_mmax C.1 C.2.1 (by rw [C.2.2.1, hl.1]) C.2.2.2.1 (C.2.2.2.2 (.methodLink RX5 43 Lib.Math.max.name) (by decide +kernel)) (C.2.2.2.2 (.static Lib.Math.max.name) (by decide +kernel)) (C.2.2.2.2 (.initialized "java/lang/Math") (by decide +kernel)) (C.2.2.2.2 (.code Lib.Math.max.name Lib.Math.max.code 2 (some .int)) (by decide +kernel)) (Nat.le_of_ble_eq_true rfl) (Nat.le_of_ble_eq_true rfl) (Nat.zero_le _) (Nat.zero_le _) dX5_begin_45 ?_
  refine r_put C hW (ci := 5) (T := TX5) (n := 13) (ref := "BallMinder$Shaft") (9) (by omega) rfl rfl 6 (by decide) inX5_begin_X5 tyX5 tyX5_ok nmX5 (by decide +kernel) (fun _ h9 => h9) rfl rfl rfl (Nat.le_of_ble_eq_true rfl) dX5_begin_48 (fun H locs hW => ?_)
  replace hW := gC_put (F := upd (S13 9) 6 (if r8 < r12 then r12 else r8)) rfl hW
  obtain ⟨S16, eS16⟩ : ∃ z : Nat → Nat → Int32, z = va_up S13 9 (upd (S13 9) 6 (if r8 < r12 then r12 else r8)) := ⟨_, rfl⟩
  rw [← eS16] at hW
  replace h := h S16 eS16
  refine lv_aload_n C.1 C.2.1 dX5_begin_51 rfl (lv_at hl 0 rfl) ?_
  refine lv_aload_n C.1 C.2.1 dX5_begin_52 rfl (lv_at hl 0 rfl) ?_
  refine r_get C hW (ci := 5) (T := TX5) (n := 13) (ref := "BallMinder$Shaft") (v := .ref (q (15 + 3 * 0))) (9) (by omega) rfl rfl 1 (by decide) inX5_begin_X5 (by decide +kernel) (fun _ h9 => h9) rfl dX5_begin_53 ?_
  refine lv_iconst (v := 1) C.1 C.2.1 dX5_begin_56 (by decide) ?_
  refine k_i hW (va_runV (As := [.int (1 : Int32)]) (rest := [.ref (q 9)]) C (mtX2_number l D q cI cJ cZ cP cS K n 0 (by decide) H.size (1 : Int32) S16 L14 R15 _ h) (cwV 1 C.2.2.2.2 gX5_begin_X2_number rfl rfl rfl (by decide +kernel) ⟨Nat.le_of_ble_eq_true rfl, Nat.le_of_ble_eq_true rfl⟩) ⟨mP_blind cX_B, va_recv hW.1 hW.2.1 (ci := 2) (q0 := 15 + 3 * 0) rfl (by rw [wL_get (by omega), gC_gate (by decide)]), fun U hU hV => ⟨rfl, hW.pre hU hV (hX.call hW hU hV)⟩⟩ rfl rfl hl.1 rfl (lv_room (Nat.le_of_ble_eq_true rfl)) dX5_begin_57 ⟨Nat.zero_le _, Nat.zero_le _⟩) (fun r17 u H locs h hW => ?_)
  obtain ⟨S18, L19, R20⟩ := u
  replace hW : hw D (tyC cI cJ cZ cP cS) q (29 + 2 * n) (gC q cI cJ cZ cP cS K n S18 L19 R20) A s H locs := hW
  refine lv_aload_n C.1 C.2.1 dX5_begin_60 rfl (lv_at hl 0 rfl) ?_
  refine r_get C hW (ci := 5) (T := TX5) (n := 13) (ref := "BallMinder$Shaft") (v := .ref (q (15 + 3 * 1))) (9) (by omega) rfl rfl 2 (by decide) inX5_begin_X5 (by decide +kernel) (fun _ h9 => h9) rfl dX5_begin_61 ?_
  refine lv_iconst (v := 1) C.1 C.2.1 dX5_begin_64 (by decide) ?_
  refine k_i hW (va_runV (As := [.int (1 : Int32)]) (rest := [.int r17, .ref (q 9)]) C (mtX2_number l D q cI cJ cZ cP cS K n 1 (by decide) H.size (1 : Int32) S18 L19 R20 _ h) (cwV 1 C.2.2.2.2 gX5_begin_X2_number rfl rfl rfl (by decide +kernel) ⟨Nat.le_of_ble_eq_true rfl, Nat.le_of_ble_eq_true rfl⟩) ⟨mP_blind cX_B, va_recv hW.1 hW.2.1 (ci := 2) (q0 := 15 + 3 * 1) rfl (by rw [wL_get (by omega), gC_gate (by decide)]), fun U hU hV => ⟨rfl, hW.pre hU hV (hX.call hW hU hV)⟩⟩ rfl rfl hl.1 rfl (lv_room (Nat.le_of_ble_eq_true rfl)) dX5_begin_65 ⟨Nat.zero_le _, Nat.zero_le _⟩) (fun r21 u H locs h hW => ?_)
  obtain ⟨S22, L23, R24⟩ := u
  replace hW : hw D (tyC cI cJ cZ cP cS) q (29 + 2 * n) (gC q cI cJ cZ cP cS K n S22 L23 R24) A s H locs := hW
  refine lv_iadd C.1 C.2.1 dX5_begin_68 ?_
  refine r_put C hW (ci := 5) (T := TX5) (n := 13) (ref := "BallMinder$Shaft") (9) (by omega) rfl rfl 7 (by decide) inX5_begin_X5 tyX5 tyX5_ok nmX5 (by decide +kernel) (fun _ h9 => h9) rfl rfl rfl (Nat.le_of_ble_eq_true rfl) dX5_begin_69 (fun H locs hW => ?_)
  replace hW := gC_put (F := upd (S22 9) 7 (r17 + r21)) rfl hW
  obtain ⟨S25, eS25⟩ : ∃ z : Nat → Nat → Int32, z = va_up S22 9 (upd (S22 9) 7 (r17 + r21)) := ⟨_, rfl⟩
  rw [← eS25] at hW
  replace h := h S25 eS25
  refine lv_aload_n C.1 C.2.1 dX5_begin_72 rfl (lv_at hl 0 rfl) ?_
  refine lv_aload_n C.1 C.2.1 dX5_begin_73 rfl (lv_at hl 0 rfl) ?_
  refine r_get C hW (ci := 5) (T := TX5) (n := 13) (ref := "BallMinder$Shaft") (v := .ref (q (15 + 3 * 0))) (9) (by omega) rfl rfl 1 (by decide) inX5_begin_X5 (by decide +kernel) (fun _ h9 => h9) rfl dX5_begin_74 ?_
  refine lv_iconst (v := 0) C.1 C.2.1 dX5_begin_77 (by decide) ?_
  refine k_i hW (va_runV (As := [.int (0 : Int32)]) (rest := [.ref (q 9)]) C (mtX2_number l D q cI cJ cZ cP cS K n 0 (by decide) H.size (0 : Int32) S25 L23 R24 _ h) (cwV 1 C.2.2.2.2 gX5_begin_X2_number rfl rfl rfl (by decide +kernel) ⟨Nat.le_of_ble_eq_true rfl, Nat.le_of_ble_eq_true rfl⟩) ⟨mP_blind cX_B, va_recv hW.1 hW.2.1 (ci := 2) (q0 := 15 + 3 * 0) rfl (by rw [wL_get (by omega), gC_gate (by decide)]), fun U hU hV => ⟨rfl, hW.pre hU hV (hX.call hW hU hV)⟩⟩ rfl rfl hl.1 rfl (lv_room (Nat.le_of_ble_eq_true rfl)) dX5_begin_78 ⟨Nat.zero_le _, Nat.zero_le _⟩) (fun r26 u H locs h hW => ?_)
  obtain ⟨S27, L28, R29⟩ := u
  replace hW : hw D (tyC cI cJ cZ cP cS) q (29 + 2 * n) (gC q cI cJ cZ cP cS K n S27 L28 R29) A s H locs := hW
  refine lv_aload_n C.1 C.2.1 dX5_begin_81 rfl (lv_at hl 0 rfl) ?_
  refine r_get C hW (ci := 5) (T := TX5) (n := 13) (ref := "BallMinder$Shaft") (v := .ref (q (15 + 3 * 1))) (9) (by omega) rfl rfl 2 (by decide) inX5_begin_X5 (by decide +kernel) (fun _ h9 => h9) rfl dX5_begin_82 ?_
  refine lv_iconst (v := 0) C.1 C.2.1 dX5_begin_85 (by decide) ?_
  refine k_i hW (va_runV (As := [.int (0 : Int32)]) (rest := [.int r26, .ref (q 9)]) C (mtX2_number l D q cI cJ cZ cP cS K n 1 (by decide) H.size (0 : Int32) S27 L28 R29 _ h) (cwV 1 C.2.2.2.2 gX5_begin_X2_number rfl rfl rfl (by decide +kernel) ⟨Nat.le_of_ble_eq_true rfl, Nat.le_of_ble_eq_true rfl⟩) ⟨mP_blind cX_B, va_recv hW.1 hW.2.1 (ci := 2) (q0 := 15 + 3 * 1) rfl (by rw [wL_get (by omega), gC_gate (by decide)]), fun U hU hV => ⟨rfl, hW.pre hU hV (hX.call hW hU hV)⟩⟩ rfl rfl hl.1 rfl (lv_room (Nat.le_of_ble_eq_true rfl)) dX5_begin_86 ⟨Nat.zero_le _, Nat.zero_le _⟩) (fun r30 u H locs h hW => ?_)
  obtain ⟨S31, L32, R33⟩ := u
  replace hW : hw D (tyC cI cJ cZ cP cS) q (29 + 2 * n) (gC q cI cJ cZ cP cS K n S31 L32 R33) A s H locs := hW
  refine lv_iadd C.1 C.2.1 dX5_begin_89 ?_
  refine r_put C hW (ci := 5) (T := TX5) (n := 13) (ref := "BallMinder$Shaft") (9) (by omega) rfl rfl 8 (by decide) inX5_begin_X5 tyX5 tyX5_ok nmX5 (by decide +kernel) (fun _ h9 => h9) rfl rfl rfl (Nat.le_of_ble_eq_true rfl) dX5_begin_90 (fun H locs hW => ?_)
  replace hW := gC_put (F := upd (S31 9) 8 (r26 + r30)) rfl hW
  obtain ⟨S34, eS34⟩ : ∃ z : Nat → Nat → Int32, z = va_up S31 9 (upd (S31 9) 8 (r26 + r30)) := ⟨_, rfl⟩
  rw [← eS34] at hW
  replace h := h S34 eS34
  refine lv_iconst (v := 0) C.1 C.2.1 dX5_begin_93 (by decide) ?_
  refine lv_istore (lv' := [(6, .int (0 : Int32)), (0, .ref (q 9)), (1, va_rf (Option.map (qM q) x1)), (2, va_rf (Option.map (qM q) x2)), (3, .int x3), (4, .int x4), (5, .int x5)]) C.1 C.2.1 dX5_begin_94 hl (by decide) rfl (fun ls hl => ?_)
  obtain ⟨n9, h⟩ := h
  exact sX5_begin_96 C hr hlk hX Q n9 x3 (0 : Int32) S34 L32 R33 _ _ _ h hW (lv_sub hl [1, 4, 0] rfl)
set_option maxRecDepth 100000 in
set_option maxHeartbeats 4000000 in
theorem mtX5_begin (l : Launch) (D : va_G) (q : Nat → Nat) (cI cJ cZ cP cS : ClassId) (K : Nat → Nat) (n : Nat) (sz : Nat) (x1 : Option Nat) (x2 : Option Nat) (x3 : Int32) (x4 : Int32) (x5 : Int32) (S : Nat → Nat → Int32) (L : Nat → Int64) (R : Nat → Option Nat) (Q : (Nat → Nat → Int32) → (Nat → Int64) → (Nat → Option Nat) → Prop) (h : vX5_begin K n x1 x2 x3 x4 x5 S L R Q) : Met l yX5_begin wsX5_begin rmX5_begin (va_Pc [.ref (q 9), va_rf (Option.map (qM q) x1), va_rf (Option.map (qM q) x2), .int x3, .int x4, .int x5] (mP D (tyC cI cJ cZ cP cS) q (29 + 2 * n) (gC q cI cJ cZ cP cS K n S L R) sz (cX (aQ q (29 + 2 * n) sz)))) (QCv D q cI cJ cZ cP cS K n Q (aQ q (29 + 2 * n) sz)) 0 0 (aQ q (29 + 2 * n) sz) := by
  refine met_w (cc := cX5_begin) (maxL := 7) (ret := none) (by decide) rfl (by rcases x1 with _ | _ <;> rcases x2 with _ | _ <;> exact Nat.le_of_ble_eq_true rfl) ?_
  intro p e s m below meth c ls C hr hlk hW hX hnm hl
  replace hl : lv_has ls 7 [(0, .ref (q 9)), (1, va_rf (Option.map (qM q) x1)), (2, va_rf (Option.map (qM q) x2)), (3, .int x3), (4, .int x4), (5, .int x5)] := by rcases x1 with _ | _ <;> rcases x2 with _ | _ <;> exact hl
  exact sX5_begin C hr hlk hX Q x1 x2 x3 x4 x5 S L R _ _ _ h hW hl
theorem inX5_beatAt_X5 : ∀ w ∈ wsX50, w ∈ wsX5_beatAt := fun _ h => List.mem_cons_of_mem _ (List.mem_append_right _ h)
abbrev rmX5_beatAt : Room := { frames := 0, cells := 0, slots := 0, locals := 0 }
def vX5_beatAt (K : Nat → Nat) (n : Nat) (x1 : Int32) (S : Nat → Nat → Int32) (L : Nat → Int64) (R : Nat → Option Nat) (Q : Int32 → (Nat → Nat → Int32) → (Nat → Int64) → (Nat → Option Nat) → Prop) : Prop := vp_in ((3 : Int32) + x1) 304 ∧ (Q (S 10 ((3 : Int32) + x1).toNatClampNeg) S L R)
set_option maxRecDepth 100000 in
set_option maxHeartbeats 4000000 in
theorem sX5_beatAt {p : Program} {l : Launch} {e : Env} {s : State} {m : MethodId} {args : Array Value} {below : List Frame} {meth : Method} {c : Code} {D : va_G} {q : Nat → Nat} {A : Nat → Prop} {cI cJ cZ cP cS : ClassId} {K : Nat → Nat} {n : Nat} (C : CallFix p m c cX5_beatAt 2 s args wsX5_beatAt RX5) (hr : meth.sig.returnType = (some .int)) (hlk : meth.locks = false) (hX : cX A s) (Q : Int32 → (Nat → Nat → Int32) → (Nat → Int64) → (Nat → Option Nat) → Prop) : ∀ (x1 : Int32) (S : Nat → Nat → Int32) (L : Nat → Int64) (R : Nat → Option Nat) (H : Heap) (locs : List Loc) (ls : Array Slot), vX5_beatAt K n x1 S L R Q → hw D (tyC cI cJ cZ cP cS) q (29 + 2 * n) (gC q cI cJ cZ cP cS K n S L R) A s H locs → lv_has ls 2 [(0, .ref (q 9)), (1, .int x1)] → W p l e (headSpec wsX5_beatAt rmX5_beatAt).room s m args below meth c H locs 0 0 (MQ below (QCi D q cI cJ cZ cP cS K n Q A) args s 0 0 A) (F0 m 0 ls []) := by
  intro x1 S L R H locs ls h hW hl
  unfold vX5_beatAt at h
  refine lv_aload_n C.1 C.2.1 dX5_beatAt_0 rfl (lv_at hl 0 rfl) ?_
  refine r_get C hW (ci := 5) (T := TX5) (n := 13) (ref := "BallMinder$Shaft") (v := .ref (q 10)) (9) (by omega) rfl rfl 0 (by decide) inX5_beatAt_X5 (by decide +kernel) (fun _ h9 => h9) rfl dX5_beatAt_1 ?_
  refine lv_iconst (v := 3) C.1 C.2.1 dX5_beatAt_4 (by decide) ?_
  refine lv_iload_n C.1 C.2.1 dX5_beatAt_5 rfl (lv_at hl 1 rfl) ?_
  refine lv_iadd C.1 C.2.1 dX5_beatAt_6 ?_
  obtain ⟨hs1, h⟩ := h
  refine r_iald C hW (cA := cI) (n := 304) (f := S 10) (10) 0 (by omega) rfl rfl hs1 dX5_beatAt_7 ?_
  exact t_i C hr hlk (u := (S, L, R)) hW.2.2.2.1 hW.B h dX5_beatAt_8
set_option maxRecDepth 100000 in
set_option maxHeartbeats 4000000 in
theorem mtX5_beatAt (l : Launch) (D : va_G) (q : Nat → Nat) (cI cJ cZ cP cS : ClassId) (K : Nat → Nat) (n : Nat) (sz : Nat) (x1 : Int32) (S : Nat → Nat → Int32) (L : Nat → Int64) (R : Nat → Option Nat) (Q : Int32 → (Nat → Nat → Int32) → (Nat → Int64) → (Nat → Option Nat) → Prop) (h : vX5_beatAt K n x1 S L R Q) : Met l yX5_beatAt wsX5_beatAt rmX5_beatAt (va_Pc [.ref (q 9), .int x1] (mP D (tyC cI cJ cZ cP cS) q (29 + 2 * n) (gC q cI cJ cZ cP cS K n S L R) sz (cX (aQ q (29 + 2 * n) sz)))) (QCi D q cI cJ cZ cP cS K n Q (aQ q (29 + 2 * n) sz)) 0 0 (aQ q (29 + 2 * n) sz) := by
  refine met_w (cc := cX5_beatAt) (maxL := 2) (ret := (some .int)) (by decide) rfl (Nat.le_of_ble_eq_true rfl) ?_
  intro p e s m below meth c ls C hr hlk hW hX hnm hl
  exact sX5_beatAt C hr hlk hX Q x1 S L R _ _ _ h hW hl
theorem inX5_bucketOf_X5 : ∀ w ∈ wsX50, w ∈ wsX5_bucketOf := fun _ h => List.mem_cons_of_mem _ (List.mem_append_left _ (List.mem_append_right _ h))
theorem inX5_bucketOf_X2 : ∀ w ∈ wsX20, w ∈ wsX5_bucketOf := fun _ h => List.mem_cons_of_mem _ (List.mem_append_right _ h)
abbrev rmX5_bucketOf : Room := { frames := 1, cells := 0, slots := 0, locals := 21 }
def vX5_bucketOf (K : Nat → Nat) (n : Nat) (x1 : Int32) (S : Nat → Nat → Int32) (L : Nat → Int64) (R : Nat → Option Nat) (Q : Int32 → (Nat → Nat → Int32) → (Nat → Int64) → (Nat → Option Nat) → Prop) : Prop := vX5_beatAt K n x1 S L R (fun r1 S2 L3 R4 => vp_in x1 301 ∧ (vp_in x1 301 ∧ (∀ x2_7 : Int32, x2_7 = (((31 : Int32) * r1) + ((17 : Int32) * (S2 (16 + 3 * 0) x1.toNatClampNeg))) + ((7 : Int32) * (S2 (16 + 3 * 1) x1.toNatClampNeg)) → vp_in x1 301 ∧ (vp_in x1 301 ∧ (Q (((x2_7 + (S2 (17 + 3 * 0) x1.toNatClampNeg)) + ((3 : Int32) * (S2 (17 + 3 * 1) x1.toNatClampNeg))) &&& (255 : Int32)) S2 L3 R4)))))
set_option maxRecDepth 100000 in
set_option maxHeartbeats 4000000 in
theorem sX5_bucketOf {p : Program} {l : Launch} {e : Env} {s : State} {m : MethodId} {args : Array Value} {below : List Frame} {meth : Method} {c : Code} {D : va_G} {q : Nat → Nat} {A : Nat → Prop} {cI cJ cZ cP cS : ClassId} {K : Nat → Nat} {n : Nat} (C : CallFix p m c cX5_bucketOf 3 s args wsX5_bucketOf RX5) (hr : meth.sig.returnType = (some .int)) (hlk : meth.locks = false) (hX : cX A s) (Q : Int32 → (Nat → Nat → Int32) → (Nat → Int64) → (Nat → Option Nat) → Prop) : ∀ (x1 : Int32) (S : Nat → Nat → Int32) (L : Nat → Int64) (R : Nat → Option Nat) (H : Heap) (locs : List Loc) (ls : Array Slot), vX5_bucketOf K n x1 S L R Q → hw D (tyC cI cJ cZ cP cS) q (29 + 2 * n) (gC q cI cJ cZ cP cS K n S L R) A s H locs → lv_has ls 3 [(0, .ref (q 9)), (1, .int x1)] → W p l e (headSpec wsX5_bucketOf rmX5_bucketOf).room s m args below meth c H locs 0 0 (MQ below (QCi D q cI cJ cZ cP cS K n Q A) args s 0 0 A) (F0 m 0 ls []) := by
  intro x1 S L R H locs ls h hW hl
  unfold vX5_bucketOf at h
  refine lv_bipush (v := 31) C.1 C.2.1 dX5_bucketOf_0 (by decide) ?_
  refine lv_aload_n C.1 C.2.1 dX5_bucketOf_2 rfl (lv_at hl 0 rfl) ?_
  refine lv_iload_n C.1 C.2.1 dX5_bucketOf_3 rfl (lv_at hl 1 rfl) ?_
  refine k_i hW (va_runV (As := [.int x1]) (rest := [.int (31 : Int32)]) C (mtX5_beatAt l D q cI cJ cZ cP cS K n H.size x1 S L R _ h) (cwV 1 C.2.2.2.2 gX5_bucketOf_X5_beatAt rfl rfl rfl (by decide +kernel) ⟨Nat.le_of_ble_eq_true rfl, Nat.le_of_ble_eq_true rfl⟩) ⟨mP_blind cX_B, va_recv hW.1 hW.2.1 (ci := 5) (q0 := 9) rfl (wL_get (by omega)), fun U hU hV => ⟨rfl, hW.pre hU hV (hX.call hW hU hV)⟩⟩ rfl rfl hl.1 rfl (lv_room (Nat.le_of_ble_eq_true rfl)) dX5_bucketOf_4 ⟨Nat.zero_le _, Nat.zero_le _⟩) (fun r1 u H locs h hW => ?_)
  obtain ⟨S2, L3, R4⟩ := u
  replace hW : hw D (tyC cI cJ cZ cP cS) q (29 + 2 * n) (gC q cI cJ cZ cP cS K n S2 L3 R4) A s H locs := hW
  refine lv_imul C.1 C.2.1 dX5_bucketOf_7 ?_
  refine lv_bipush (v := 17) C.1 C.2.1 dX5_bucketOf_8 (by decide) ?_
  refine lv_aload_n C.1 C.2.1 dX5_bucketOf_10 rfl (lv_at hl 0 rfl) ?_
  refine r_get C hW (ci := 5) (T := TX5) (n := 13) (ref := "BallMinder$Shaft") (v := .ref (q (15 + 3 * 0))) (9) (by omega) rfl rfl 1 (by decide) inX5_bucketOf_X5 (by decide +kernel) (fun _ h9 => h9) rfl dX5_bucketOf_11 ?_
  refine r_getN C hW (ci := 2) (T := TX2) (n := 3) (ref := "BallMinder$Gate") (host := "BallMinder") (v := .ref (q (16 + 3 * 0))) (15 + 3 * 0) (by omega) (gC_gate (by decide)) rfl 0 (by decide) inX5_bucketOf_X2 (hX.1 _ (by decide +kernel)) (fun _ h9 => h9) rfl dX5_bucketOf_14 ?_
  refine lv_iload_n C.1 C.2.1 dX5_bucketOf_17 rfl (lv_at hl 1 rfl) ?_
  obtain ⟨hs5, h⟩ := h
  refine r_iald C hW (cA := cI) (n := 301) (f := S2 (16 + 3 * 0)) (16 + 3 * 0) 0 (by omega) (gC_valves (by decide)) rfl hs5 dX5_bucketOf_18 ?_
  refine lv_imul C.1 C.2.1 dX5_bucketOf_19 ?_
  refine lv_iadd C.1 C.2.1 dX5_bucketOf_20 ?_
  refine lv_bipush (v := 7) C.1 C.2.1 dX5_bucketOf_21 (by decide) ?_
  refine lv_aload_n C.1 C.2.1 dX5_bucketOf_23 rfl (lv_at hl 0 rfl) ?_
  refine r_get C hW (ci := 5) (T := TX5) (n := 13) (ref := "BallMinder$Shaft") (v := .ref (q (15 + 3 * 1))) (9) (by omega) rfl rfl 2 (by decide) inX5_bucketOf_X5 (by decide +kernel) (fun _ h9 => h9) rfl dX5_bucketOf_24 ?_
  refine r_getN C hW (ci := 2) (T := TX2) (n := 3) (ref := "BallMinder$Gate") (host := "BallMinder") (v := .ref (q (16 + 3 * 1))) (15 + 3 * 1) (by omega) (gC_gate (by decide)) rfl 0 (by decide) inX5_bucketOf_X2 (hX.1 _ (by decide +kernel)) (fun _ h9 => h9) rfl dX5_bucketOf_27 ?_
  refine lv_iload_n C.1 C.2.1 dX5_bucketOf_30 rfl (lv_at hl 1 rfl) ?_
  obtain ⟨hs6, h⟩ := h
  refine r_iald C hW (cA := cI) (n := 301) (f := S2 (16 + 3 * 1)) (16 + 3 * 1) 0 (by omega) (gC_valves (by decide)) rfl hs6 dX5_bucketOf_31 ?_
  refine lv_imul C.1 C.2.1 dX5_bucketOf_32 ?_
  refine lv_iadd C.1 C.2.1 dX5_bucketOf_33 ?_
  refine lv_topi (fun x2_7 ex2_7 => ?_)
  replace h := h x2_7 ex2_7
  refine lv_istore_n (lv' := [(2, .int x2_7), (0, .ref (q 9)), (1, .int x1)]) C.1 C.2.1 dX5_bucketOf_34 rfl hl (by decide) rfl (fun ls hl => ?_)
  refine lv_iload_n C.1 C.2.1 dX5_bucketOf_35 rfl (lv_at hl 0 rfl) ?_
  refine lv_aload_n C.1 C.2.1 dX5_bucketOf_36 rfl (lv_at hl 1 rfl) ?_
  refine r_get C hW (ci := 5) (T := TX5) (n := 13) (ref := "BallMinder$Shaft") (v := .ref (q (15 + 3 * 0))) (9) (by omega) rfl rfl 1 (by decide) inX5_bucketOf_X5 (by decide +kernel) (fun _ h9 => h9) rfl dX5_bucketOf_37 ?_
  refine r_getN C hW (ci := 2) (T := TX2) (n := 3) (ref := "BallMinder$Gate") (host := "BallMinder") (v := .ref (q (17 + 3 * 0))) (15 + 3 * 0) (by omega) (gC_gate (by decide)) rfl 1 (by decide) inX5_bucketOf_X2 (hX.1 _ (by decide +kernel)) (fun _ h9 => h9) rfl dX5_bucketOf_40 ?_
  refine lv_iload_n C.1 C.2.1 dX5_bucketOf_43 rfl (lv_at hl 2 rfl) ?_
  obtain ⟨hs8, h⟩ := h
  refine r_iald C hW (cA := cI) (n := 301) (f := S2 (17 + 3 * 0)) (17 + 3 * 0) 0 (by omega) (gC_missed (by decide)) rfl hs8 dX5_bucketOf_44 ?_
  refine lv_iadd C.1 C.2.1 dX5_bucketOf_45 ?_
  refine lv_iconst (v := 3) C.1 C.2.1 dX5_bucketOf_46 (by decide) ?_
  refine lv_aload_n C.1 C.2.1 dX5_bucketOf_47 rfl (lv_at hl 1 rfl) ?_
  refine r_get C hW (ci := 5) (T := TX5) (n := 13) (ref := "BallMinder$Shaft") (v := .ref (q (15 + 3 * 1))) (9) (by omega) rfl rfl 2 (by decide) inX5_bucketOf_X5 (by decide +kernel) (fun _ h9 => h9) rfl dX5_bucketOf_48 ?_
  refine r_getN C hW (ci := 2) (T := TX2) (n := 3) (ref := "BallMinder$Gate") (host := "BallMinder") (v := .ref (q (17 + 3 * 1))) (15 + 3 * 1) (by omega) (gC_gate (by decide)) rfl 1 (by decide) inX5_bucketOf_X2 (hX.1 _ (by decide +kernel)) (fun _ h9 => h9) rfl dX5_bucketOf_51 ?_
  refine lv_iload_n C.1 C.2.1 dX5_bucketOf_54 rfl (lv_at hl 2 rfl) ?_
  obtain ⟨hs9, h⟩ := h
  refine r_iald C hW (cA := cI) (n := 301) (f := S2 (17 + 3 * 1)) (17 + 3 * 1) 0 (by omega) (gC_missed (by decide)) rfl hs9 dX5_bucketOf_55 ?_
  refine lv_imul C.1 C.2.1 dX5_bucketOf_56 ?_
  refine lv_iadd C.1 C.2.1 dX5_bucketOf_57 ?_
  refine lv_sipush (v := 255) C.1 C.2.1 dX5_bucketOf_58 (by decide) ?_
  refine lv_iand C.1 C.2.1 dX5_bucketOf_61 ?_
  exact t_i C hr hlk (u := (S2, L3, R4)) hW.2.2.2.1 hW.B h dX5_bucketOf_62
set_option maxRecDepth 100000 in
set_option maxHeartbeats 4000000 in
theorem mtX5_bucketOf (l : Launch) (D : va_G) (q : Nat → Nat) (cI cJ cZ cP cS : ClassId) (K : Nat → Nat) (n : Nat) (sz : Nat) (x1 : Int32) (S : Nat → Nat → Int32) (L : Nat → Int64) (R : Nat → Option Nat) (Q : Int32 → (Nat → Nat → Int32) → (Nat → Int64) → (Nat → Option Nat) → Prop) (h : vX5_bucketOf K n x1 S L R Q) : Met l yX5_bucketOf wsX5_bucketOf rmX5_bucketOf (va_Pc [.ref (q 9), .int x1] (mP D (tyC cI cJ cZ cP cS) q (29 + 2 * n) (gC q cI cJ cZ cP cS K n S L R) sz (cX (aQ q (29 + 2 * n) sz)))) (QCi D q cI cJ cZ cP cS K n Q (aQ q (29 + 2 * n) sz)) 0 0 (aQ q (29 + 2 * n) sz) := by
  refine met_w (cc := cX5_bucketOf) (maxL := 3) (ret := (some .int)) (by decide) rfl (Nat.le_of_ble_eq_true rfl) ?_
  intro p e s m below meth c ls C hr hlk hW hX hnm hl
  exact sX5_bucketOf C hr hlk hX Q x1 S L R _ _ _ h hW hl
theorem inX5_remember_X5 : ∀ w ∈ wsX50, w ∈ wsX5_remember := fun _ h => List.mem_cons_of_mem _ (List.mem_append_left _ (List.mem_append_right _ h))
theorem inX5_remember_X2 : ∀ w ∈ wsX20, w ∈ wsX5_remember := fun _ h => List.mem_cons_of_mem _ (List.mem_append_right _ h)
abbrev rmX5_remember : Room := { frames := 2, cells := 0, slots := 0, locals := 43 }
def vX5_remember (K : Nat → Nat) (n : Nat) (x1 : Int32) (S : Nat → Nat → Int32) (L : Nat → Int64) (R : Nat → Option Nat) (Q : (Nat → Nat → Int32) → (Nat → Int64) → (Nat → Option Nat) → Prop) : Prop := vX5_bucketOf K n x1 S L R (fun r1 S2 L3 R4 => vp_in r1 256 ∧ (vp_in x1 301 ∧ (∀ S7 : Nat → Nat → Int32, S7 = va_up S2 12 (upd (S2 12) x1.toNatClampNeg (S2 11 r1.toNatClampNeg)) → vp_in r1 256 ∧ (∀ S9 : Nat → Nat → Int32, S9 = va_up S7 11 (upd (S7 11) r1.toNatClampNeg x1) → Q S9 L3 R4))))
set_option maxRecDepth 100000 in
set_option maxHeartbeats 4000000 in
theorem sX5_remember {p : Program} {l : Launch} {e : Env} {s : State} {m : MethodId} {args : Array Value} {below : List Frame} {meth : Method} {c : Code} {D : va_G} {q : Nat → Nat} {A : Nat → Prop} {cI cJ cZ cP cS : ClassId} {K : Nat → Nat} {n : Nat} (C : CallFix p m c cX5_remember 3 s args wsX5_remember RX5) (hr : meth.sig.returnType = none) (hlk : meth.locks = false) (hX : cX A s) (Q : (Nat → Nat → Int32) → (Nat → Int64) → (Nat → Option Nat) → Prop) : ∀ (x1 : Int32) (S : Nat → Nat → Int32) (L : Nat → Int64) (R : Nat → Option Nat) (H : Heap) (locs : List Loc) (ls : Array Slot), vX5_remember K n x1 S L R Q → hw D (tyC cI cJ cZ cP cS) q (29 + 2 * n) (gC q cI cJ cZ cP cS K n S L R) A s H locs → lv_has ls 3 [(0, .ref (q 9)), (1, .int x1)] → W p l e (headSpec wsX5_remember rmX5_remember).room s m args below meth c H locs 0 0 (MQ below (QCv D q cI cJ cZ cP cS K n Q A) args s 0 0 A) (F0 m 0 ls []) := by
  intro x1 S L R H locs ls h hW hl
  unfold vX5_remember at h
  refine lv_aload_n C.1 C.2.1 dX5_remember_0 rfl (lv_at hl 0 rfl) ?_
  refine lv_iload_n C.1 C.2.1 dX5_remember_1 rfl (lv_at hl 1 rfl) ?_
  refine k_i hW (va_runV (As := [.int x1]) (rest := []) C (mtX5_bucketOf l D q cI cJ cZ cP cS K n H.size x1 S L R _ h) (cwV 1 C.2.2.2.2 gX5_remember_X5_bucketOf rfl rfl rfl (by decide +kernel) ⟨Nat.le_of_ble_eq_true rfl, Nat.le_of_ble_eq_true rfl⟩) ⟨mP_blind cX_B, va_recv hW.1 hW.2.1 (ci := 5) (q0 := 9) rfl (wL_get (by omega)), fun U hU hV => ⟨rfl, hW.pre hU hV (hX.call hW hU hV)⟩⟩ rfl rfl hl.1 rfl (lv_room (Nat.le_of_ble_eq_true rfl)) dX5_remember_2 ⟨Nat.zero_le _, Nat.zero_le _⟩) (fun r1 u H locs h hW => ?_)
  obtain ⟨S2, L3, R4⟩ := u
  replace hW : hw D (tyC cI cJ cZ cP cS) q (29 + 2 * n) (gC q cI cJ cZ cP cS K n S2 L3 R4) A s H locs := hW
  refine lv_istore_n (lv' := [(2, .int r1), (0, .ref (q 9)), (1, .int x1)]) C.1 C.2.1 dX5_remember_5 rfl hl (by decide) rfl (fun ls hl => ?_)
  refine lv_aload_n C.1 C.2.1 dX5_remember_6 rfl (lv_at hl 1 rfl) ?_
  refine r_get C hW (ci := 5) (T := TX5) (n := 13) (ref := "BallMinder$Shaft") (v := .ref (q 12)) (9) (by omega) rfl rfl 4 (by decide) inX5_remember_X5 (by decide +kernel) (fun _ h9 => h9) rfl dX5_remember_7 ?_
  refine lv_iload_n C.1 C.2.1 dX5_remember_10 rfl (lv_at hl 2 rfl) ?_
  refine lv_aload_n C.1 C.2.1 dX5_remember_11 rfl (lv_at hl 1 rfl) ?_
  refine r_get C hW (ci := 5) (T := TX5) (n := 13) (ref := "BallMinder$Shaft") (v := .ref (q 11)) (9) (by omega) rfl rfl 3 (by decide) inX5_remember_X5 (by decide +kernel) (fun _ h9 => h9) rfl dX5_remember_12 ?_
  refine lv_iload_n C.1 C.2.1 dX5_remember_15 rfl (lv_at hl 0 rfl) ?_
  obtain ⟨hs5, h⟩ := h
  refine r_iald C hW (cA := cI) (n := 256) (f := S2 11) (11) 0 (by omega) rfl rfl hs5 dX5_remember_16 ?_
  obtain ⟨hs6, h⟩ := h
  refine r_iast C hW (cA := cI) (n := 301) (f := S2 12) (12) 0 (by omega) rfl rfl hs6 dX5_remember_17 (fun H locs hW => ?_)
  replace hW := gC_put (F := upd (S2 12) x1.toNatClampNeg (S2 11 r1.toNatClampNeg)) rfl hW
  obtain ⟨S7, eS7⟩ : ∃ z : Nat → Nat → Int32, z = va_up S2 12 (upd (S2 12) x1.toNatClampNeg (S2 11 r1.toNatClampNeg)) := ⟨_, rfl⟩
  rw [← eS7] at hW
  replace h := h S7 eS7
  refine lv_aload_n C.1 C.2.1 dX5_remember_18 rfl (lv_at hl 1 rfl) ?_
  refine r_get C hW (ci := 5) (T := TX5) (n := 13) (ref := "BallMinder$Shaft") (v := .ref (q 11)) (9) (by omega) rfl rfl 3 (by decide) inX5_remember_X5 (by decide +kernel) (fun _ h9 => h9) rfl dX5_remember_19 ?_
  refine lv_iload_n C.1 C.2.1 dX5_remember_22 rfl (lv_at hl 0 rfl) ?_
  refine lv_iload_n C.1 C.2.1 dX5_remember_23 rfl (lv_at hl 2 rfl) ?_
  obtain ⟨hs8, h⟩ := h
  refine r_iast C hW (cA := cI) (n := 256) (f := S7 11) (11) 0 (by omega) rfl rfl hs8 dX5_remember_24 (fun H locs hW => ?_)
  replace hW := gC_put (F := upd (S7 11) r1.toNatClampNeg x1) rfl hW
  obtain ⟨S9, eS9⟩ : ∃ z : Nat → Nat → Int32, z = va_up S7 11 (upd (S7 11) r1.toNatClampNeg x1) := ⟨_, rfl⟩
  rw [← eS9] at hW
  replace h := h S9 eS9
  exact t_v C hr hlk (u := (S9, L3, R4)) hW.2.2.2.1 hW.B h dX5_remember_25
set_option maxRecDepth 100000 in
set_option maxHeartbeats 4000000 in
theorem mtX5_remember (l : Launch) (D : va_G) (q : Nat → Nat) (cI cJ cZ cP cS : ClassId) (K : Nat → Nat) (n : Nat) (sz : Nat) (x1 : Int32) (S : Nat → Nat → Int32) (L : Nat → Int64) (R : Nat → Option Nat) (Q : (Nat → Nat → Int32) → (Nat → Int64) → (Nat → Option Nat) → Prop) (h : vX5_remember K n x1 S L R Q) : Met l yX5_remember wsX5_remember rmX5_remember (va_Pc [.ref (q 9), .int x1] (mP D (tyC cI cJ cZ cP cS) q (29 + 2 * n) (gC q cI cJ cZ cP cS K n S L R) sz (cX (aQ q (29 + 2 * n) sz)))) (QCv D q cI cJ cZ cP cS K n Q (aQ q (29 + 2 * n) sz)) 0 0 (aQ q (29 + 2 * n) sz) := by
  refine met_w (cc := cX5_remember) (maxL := 3) (ret := none) (by decide) rfl (Nat.le_of_ble_eq_true rfl) ?_
  intro p e s m below meth c ls C hr hlk hW hX hnm hl
  exact sX5_remember C hr hlk hX Q x1 S L R _ _ _ h hW hl
theorem inX2_tick_X2 : ∀ w ∈ wsX20, w ∈ wsX2_tick := fun _ h => List.mem_cons_of_mem _ (List.mem_append_left _ (List.mem_append_left _ (List.mem_append_left _ (List.mem_append_right _ h))))
theorem inX2_tick_X3 : ∀ w ∈ wsX30, w ∈ wsX2_tick := fun _ h => List.mem_cons_of_mem _ (List.mem_append_left _ (List.mem_append_left _ (List.mem_append_right _ h)))
theorem inX2_tick_X4 : ∀ w ∈ wsX40, w ∈ wsX2_tick := fun _ h => List.mem_cons_of_mem _ (List.mem_append_left _ (List.mem_append_right _ h))
theorem inX2_tick_X7 : ∀ w ∈ wsX70, w ∈ wsX2_tick := fun _ h => List.mem_cons_of_mem _ (List.mem_append_right _ h)
abbrev rmX2_tick : Room := { frames := 3, cells := 0, slots := 0, locals := 67 }
def vX2_tick (K : Nat → Nat) (n : Nat) (g : Nat) (x1 : Int32) (x2 : Int32) (S : Nat → Nat → Int32) (L : Nat → Int64) (R : Nat → Option Nat) (Q : (Nat → Nat → Int32) → (Nat → Int64) → (Nat → Option Nat) → Prop) : Prop := ∀ o1 : Option Nat, o1 = R (15 + 3 * g) → (o1 = none → vp_in (x1 + (1 : Int32)) 301 ∧ (∀ S4 : Nat → Nat → Int32, S4 = va_up S (16 + 3 * g) (upd (S (16 + 3 * g)) (x1 + (1 : Int32)).toNatClampNeg (0 : Int32)) → vp_in (x1 + (1 : Int32)) 301 ∧ (∀ S6 : Nat → Nat → Int32, S6 = va_up S4 (17 + 3 * g) (upd (S4 (17 + 3 * g)) (x1 + (1 : Int32)).toNatClampNeg (0 : Int32)) → Q S6 L R))) ∧ (∀ mi2 : Nat, o1 = some mi2 → ∀ o7 : Option Nat, o7 = R (15 + 3 * g) → vp_in x1 301 ∧ (∀ o9 : Option Nat, o9 = R (15 + 3 * g) → vp_in x1 301 ∧ (∃ mi11 : Nat, o9 = some mi11 ∧ (mi11 < n ∧ (vX4_wanted K n mi11 x2 (S (17 + 3 * g) x1.toNatClampNeg) S L R (fun r12 S13 L14 R15 => ∃ mi17 : Nat, o7 = some mi17 ∧ (mi17 < n ∧ ((K mi17 = 0 → vX4_valveBehind K n mi17 (S (16 + 3 * g) x1.toNatClampNeg) r12 S13 L14 R15 (fun r18 S19 L20 R21 => vp_in (x1 + (1 : Int32)) 301 ∧ (∀ S24 : Nat → Nat → Int32, S24 = va_up S19 (16 + 3 * g) (upd (S19 (16 + 3 * g)) (x1 + (1 : Int32)).toNatClampNeg r18) → ∀ o25 : Option Nat, o25 = R21 (15 + 3 * g) → vp_in x1 301 ∧ (∃ mi27 : Nat, o25 = some mi27 ∧ (mi27 < n ∧ (vX4_missedBehind K n mi27 x2 (S24 (17 + 3 * g) x1.toNatClampNeg) S24 L20 R21 (fun r28 S29 L30 R31 => vp_in (x1 + (1 : Int32)) 301 ∧ (∀ S34 : Nat → Nat → Int32, S34 = va_up S29 (17 + 3 * g) (upd (S29 (17 + 3 * g)) (x1 + (1 : Int32)).toNatClampNeg r28) → Q S34 L30 R31)))))))) ∧ (K mi17 = 1 → vX3_valveBehind K n mi17 (S (16 + 3 * g) x1.toNatClampNeg) r12 S13 L14 R15 (fun r18 S19 L20 R21 => vp_in (x1 + (1 : Int32)) 301 ∧ (∀ S24 : Nat → Nat → Int32, S24 = va_up S19 (16 + 3 * g) (upd (S19 (16 + 3 * g)) (x1 + (1 : Int32)).toNatClampNeg r18) → ∀ o25 : Option Nat, o25 = R21 (15 + 3 * g) → vp_in x1 301 ∧ (∃ mi27 : Nat, o25 = some mi27 ∧ (mi27 < n ∧ (vX4_missedBehind K n mi27 x2 (S24 (17 + 3 * g) x1.toNatClampNeg) S24 L20 R21 (fun r28 S29 L30 R31 => vp_in (x1 + (1 : Int32)) 301 ∧ (∀ S34 : Nat → Nat → Int32, S34 = va_up S29 (17 + 3 * g) (upd (S29 (17 + 3 * g)) (x1 + (1 : Int32)).toNatClampNeg r28) → Q S34 L30 R31)))))))) ∧ (¬ K mi17 = 0 → ¬ K mi17 = 1 → vX7_valveBehind K n mi17 (S (16 + 3 * g) x1.toNatClampNeg) r12 S13 L14 R15 (fun r18 S19 L20 R21 => vp_in (x1 + (1 : Int32)) 301 ∧ (∀ S24 : Nat → Nat → Int32, S24 = va_up S19 (16 + 3 * g) (upd (S19 (16 + 3 * g)) (x1 + (1 : Int32)).toNatClampNeg r18) → ∀ o25 : Option Nat, o25 = R21 (15 + 3 * g) → vp_in x1 301 ∧ (∃ mi27 : Nat, o25 = some mi27 ∧ (mi27 < n ∧ (vX4_missedBehind K n mi27 x2 (S24 (17 + 3 * g) x1.toNatClampNeg) S24 L20 R21 (fun r28 S29 L30 R31 => vp_in (x1 + (1 : Int32)) 301 ∧ (∀ S34 : Nat → Nat → Int32, S34 = va_up S29 (17 + 3 * g) (upd (S29 (17 + 3 * g)) (x1 + (1 : Int32)).toNatClampNeg r28) → Q S34 L30 R31))))))))))))))))
set_option maxRecDepth 100000 in
set_option maxHeartbeats 4000000 in
theorem sX2_tick {p : Program} {l : Launch} {e : Env} {s : State} {m : MethodId} {args : Array Value} {below : List Frame} {meth : Method} {c : Code} {D : va_G} {q : Nat → Nat} {A : Nat → Prop} {cI cJ cZ cP cS : ClassId} {K : Nat → Nat} {n : Nat} (C : CallFix p m c cX2_tick 3 s args wsX2_tick RX2) (hr : meth.sig.returnType = none) (hlk : meth.locks = false) (hX : cX A s) (g : Nat) (hg : g < 2) (Q : (Nat → Nat → Int32) → (Nat → Int64) → (Nat → Option Nat) → Prop) : ∀ (x1 : Int32) (x2 : Int32) (S : Nat → Nat → Int32) (L : Nat → Int64) (R : Nat → Option Nat) (H : Heap) (locs : List Loc) (ls : Array Slot), vX2_tick K n g x1 x2 S L R Q → hw D (tyC cI cJ cZ cP cS) q (29 + 2 * n) (gC q cI cJ cZ cP cS K n S L R) A s H locs → lv_has ls 3 [(0, .ref (q (15 + 3 * g))), (1, .int x1), (2, .int x2)] → W p l e (headSpec wsX2_tick rmX2_tick).room s m args below meth c H locs 0 0 (MQ below (QCv D q cI cJ cZ cP cS K n Q A) args s 0 0 A) (F0 m 0 ls []) := by
  intro x1 x2 S L R H locs ls h hW hl
  unfold vX2_tick at h
  refine lv_aload_n C.1 C.2.1 dX2_tick_0 rfl (lv_at hl 0 rfl) ?_
  refine r_get C hW (ci := 2) (T := TX2) (n := 3) (ref := "BallMinder$Gate") (v := va_rf (Option.map (qM q) (R (15 + 3 * g)))) (15 + 3 * g) (by omega) (gC_gate hg) rfl 2 (by decide) inX2_tick_X2 (by decide +kernel) (fun _ h9 => h9) rfl dX2_tick_1 ?_
  obtain ⟨o1, eo1⟩ : ∃ z : Option Nat, z = R (15 + 3 * g) := ⟨_, rfl⟩
  rw [← eo1]
  replace h := h o1 eo1
  rcases o1 with _ | mi2
  · replace h := h.1 rfl
    replace hl : lv_has ls 3 [(0, .ref (q (15 + 3 * g))), (1, .int x1), (2, .int x2)] := hl
    refine lv_ifnonnullN C.1 C.2.1 dX2_tick_4 ?_
    refine lv_aload_n C.1 C.2.1 dX2_tick_7 rfl (lv_at hl 0 rfl) ?_
    refine r_get C hW (ci := 2) (T := TX2) (n := 3) (ref := "BallMinder$Gate") (v := .ref (q (16 + 3 * g))) (15 + 3 * g) (by omega) (gC_gate hg) rfl 0 (by decide) inX2_tick_X2 (by decide +kernel) (fun _ h9 => h9) rfl dX2_tick_8 ?_
    refine lv_iload_n C.1 C.2.1 dX2_tick_11 rfl (lv_at hl 1 rfl) ?_
    refine lv_iconst (v := 1) C.1 C.2.1 dX2_tick_12 (by decide) ?_
    refine lv_iadd C.1 C.2.1 dX2_tick_13 ?_
    refine lv_iconst (v := 0) C.1 C.2.1 dX2_tick_14 (by decide) ?_
    obtain ⟨hs3, h⟩ := h
    refine r_iast C hW (cA := cI) (n := 301) (f := S (16 + 3 * g)) (16 + 3 * g) 0 (by omega) (gC_valves hg) rfl hs3 dX2_tick_15 (fun H locs hW => ?_)
    replace hW := gC_put (F := upd (S (16 + 3 * g)) (x1 + (1 : Int32)).toNatClampNeg (0 : Int32)) (by rw [gC_valves hg, va_up_self]) hW
    obtain ⟨S4, eS4⟩ : ∃ z : Nat → Nat → Int32, z = va_up S (16 + 3 * g) (upd (S (16 + 3 * g)) (x1 + (1 : Int32)).toNatClampNeg (0 : Int32)) := ⟨_, rfl⟩
    rw [← eS4] at hW
    replace h := h S4 eS4
    refine lv_aload_n C.1 C.2.1 dX2_tick_16 rfl (lv_at hl 0 rfl) ?_
    refine r_get C hW (ci := 2) (T := TX2) (n := 3) (ref := "BallMinder$Gate") (v := .ref (q (17 + 3 * g))) (15 + 3 * g) (by omega) (gC_gate hg) rfl 1 (by decide) inX2_tick_X2 (by decide +kernel) (fun _ h9 => h9) rfl dX2_tick_17 ?_
    refine lv_iload_n C.1 C.2.1 dX2_tick_20 rfl (lv_at hl 1 rfl) ?_
    refine lv_iconst (v := 1) C.1 C.2.1 dX2_tick_21 (by decide) ?_
    refine lv_iadd C.1 C.2.1 dX2_tick_22 ?_
    refine lv_iconst (v := 0) C.1 C.2.1 dX2_tick_23 (by decide) ?_
    obtain ⟨hs5, h⟩ := h
    refine r_iast C hW (cA := cI) (n := 301) (f := S4 (17 + 3 * g)) (17 + 3 * g) 0 (by omega) (gC_missed hg) rfl hs5 dX2_tick_24 (fun H locs hW => ?_)
    replace hW := gC_put (F := upd (S4 (17 + 3 * g)) (x1 + (1 : Int32)).toNatClampNeg (0 : Int32)) (by rw [gC_missed hg, va_up_self]) hW
    obtain ⟨S6, eS6⟩ : ∃ z : Nat → Nat → Int32, z = va_up S4 (17 + 3 * g) (upd (S4 (17 + 3 * g)) (x1 + (1 : Int32)).toNatClampNeg (0 : Int32)) := ⟨_, rfl⟩
    rw [← eS6] at hW
    replace h := h S6 eS6
    exact t_v C hr hlk (u := (S6, L, R)) hW.2.2.2.1 hW.B h dX2_tick_25
  · replace h := h.2 mi2 rfl
    replace hl : lv_has ls 3 [(0, .ref (q (15 + 3 * g))), (1, .int x1), (2, .int x2)] := hl
    refine lv_ifnonnull (tgt := 26) C.1 C.2.1 dX2_tick_4 (by decide) ?_
    refine lv_aload_n C.1 C.2.1 dX2_tick_26 rfl (lv_at hl 0 rfl) ?_
    refine r_get C hW (ci := 2) (T := TX2) (n := 3) (ref := "BallMinder$Gate") (v := .ref (q (16 + 3 * g))) (15 + 3 * g) (by omega) (gC_gate hg) rfl 0 (by decide) inX2_tick_X2 (by decide +kernel) (fun _ h9 => h9) rfl dX2_tick_27 ?_
    refine lv_iload_n C.1 C.2.1 dX2_tick_30 rfl (lv_at hl 1 rfl) ?_
    refine lv_iconst (v := 1) C.1 C.2.1 dX2_tick_31 (by decide) ?_
    refine lv_iadd C.1 C.2.1 dX2_tick_32 ?_
    refine lv_aload_n C.1 C.2.1 dX2_tick_33 rfl (lv_at hl 0 rfl) ?_
    refine r_get C hW (ci := 2) (T := TX2) (n := 3) (ref := "BallMinder$Gate") (v := va_rf (Option.map (qM q) (R (15 + 3 * g)))) (15 + 3 * g) (by omega) (gC_gate hg) rfl 2 (by decide) inX2_tick_X2 (by decide +kernel) (fun _ h9 => h9) rfl dX2_tick_34 ?_
    obtain ⟨o7, eo7⟩ : ∃ z : Option Nat, z = R (15 + 3 * g) := ⟨_, rfl⟩
    rw [← eo7]
    replace h := h o7 eo7
    refine lv_aload_n C.1 C.2.1 dX2_tick_37 rfl (lv_at hl 0 rfl) ?_
    refine r_get C hW (ci := 2) (T := TX2) (n := 3) (ref := "BallMinder$Gate") (v := .ref (q (16 + 3 * g))) (15 + 3 * g) (by omega) (gC_gate hg) rfl 0 (by decide) inX2_tick_X2 (by decide +kernel) (fun _ h9 => h9) rfl dX2_tick_38 ?_
    refine lv_iload_n C.1 C.2.1 dX2_tick_41 rfl (lv_at hl 1 rfl) ?_
    obtain ⟨hs8, h⟩ := h
    refine r_iald C hW (cA := cI) (n := 301) (f := S (16 + 3 * g)) (16 + 3 * g) 0 (by omega) (gC_valves hg) rfl hs8 dX2_tick_42 ?_
    refine lv_aload_n C.1 C.2.1 dX2_tick_43 rfl (lv_at hl 0 rfl) ?_
    refine r_get C hW (ci := 2) (T := TX2) (n := 3) (ref := "BallMinder$Gate") (v := va_rf (Option.map (qM q) (R (15 + 3 * g)))) (15 + 3 * g) (by omega) (gC_gate hg) rfl 2 (by decide) inX2_tick_X2 (by decide +kernel) (fun _ h9 => h9) rfl dX2_tick_44 ?_
    obtain ⟨o9, eo9⟩ : ∃ z : Option Nat, z = R (15 + 3 * g) := ⟨_, rfl⟩
    rw [← eo9]
    replace h := h o9 eo9
    refine lv_iload_n C.1 C.2.1 dX2_tick_47 rfl (lv_at hl 2 rfl) ?_
    refine lv_aload_n C.1 C.2.1 dX2_tick_48 rfl (lv_at hl 0 rfl) ?_
    refine r_get C hW (ci := 2) (T := TX2) (n := 3) (ref := "BallMinder$Gate") (v := .ref (q (17 + 3 * g))) (15 + 3 * g) (by omega) (gC_gate hg) rfl 1 (by decide) inX2_tick_X2 (by decide +kernel) (fun _ h9 => h9) rfl dX2_tick_49 ?_
    refine lv_iload_n C.1 C.2.1 dX2_tick_52 rfl (lv_at hl 1 rfl) ?_
    obtain ⟨hs10, h⟩ := h
    refine r_iald C hW (cA := cI) (n := 301) (f := S (17 + 3 * g)) (17 + 3 * g) 0 (by omega) (gC_missed hg) rfl hs10 dX2_tick_53 ?_
    obtain ⟨mi11, zmi11, hmi11⟩ := h
    subst zmi11
    replace h := hmi11
    clear hmi11
    replace hl : lv_has ls 3 [(0, .ref (q (15 + 3 * g))), (1, .int x1), (2, .int x2)] := hl
    obtain ⟨hb16, h⟩ := h
    refine k_i hW (by1 (k := K mi11) h (fun k0 h => va_runV (As := [.int x2, .int (S (17 + 3 * g) x1.toNatClampNeg)]) (rest := [.int (S (16 + 3 * g) x1.toNatClampNeg), va_rf (Option.map (qM q) o7), .int (x1 + (1 : Int32)), .ref (q (16 + 3 * g))]) C (mtX4_wanted l D q cI cJ cZ cP cS K n mi11 hb16 H.size x2 (S (17 + 3 * g) x1.toNatClampNeg) S L R _ h) (cwV 2 C.2.2.2.2 gX2_tick_X4_wanted rfl rfl rfl (by decide +kernel) ⟨Nat.le_of_ble_eq_true rfl, Nat.le_of_ble_eq_true rfl⟩) ⟨mP_blind cX_B, c_rec0 hW hb16 k0, fun U hU hV => ⟨rfl, hW.pre hU hV (hX.call hW hU hV)⟩⟩ rfl rfl hl.1 rfl (lv_room (by simp only [List.map_cons, List.map_nil, cat_o]; exact Nat.le_of_ble_eq_true rfl)) dX2_tick_54 ⟨Nat.zero_le _, Nat.zero_le _⟩) (fun k1 h => va_runU (As := [.int x2, .int (S (17 + 3 * g) x1.toNatClampNeg)]) (rest := [.int (S (16 + 3 * g) x1.toNatClampNeg), va_rf (Option.map (qM q) o7), .int (x1 + (1 : Int32)), .ref (q (16 + 3 * g))]) C (mtX4_wanted l D q cI cJ cZ cP cS K n mi11 hb16 H.size x2 (S (17 + 3 * g) x1.toNatClampNeg) S L R _ h) (va_cwU 2 C.2.2.2.2 gX2_tick_X4_wanted_u27X3 rfl rfl rfl rfl (by decide +kernel) ⟨Nat.le_of_ble_eq_true rfl, Nat.le_of_ble_eq_true rfl⟩) ⟨mP_blind cX_B, c_rec1 hW hb16 k1, fun U hU hV => ⟨rfl, hW.pre hU hV (hX.call hW hU hV)⟩⟩ rfl rfl hl.1 rfl (lv_room (by simp only [List.map_cons, List.map_nil, cat_o]; exact Nat.le_of_ble_eq_true rfl)) dX2_tick_54 ⟨Nat.zero_le _, Nat.zero_le _⟩) (fun k0 k1 h => va_runU (As := [.int x2, .int (S (17 + 3 * g) x1.toNatClampNeg)]) (rest := [.int (S (16 + 3 * g) x1.toNatClampNeg), va_rf (Option.map (qM q) o7), .int (x1 + (1 : Int32)), .ref (q (16 + 3 * g))]) C (mtX4_wanted l D q cI cJ cZ cP cS K n mi11 hb16 H.size x2 (S (17 + 3 * g) x1.toNatClampNeg) S L R _ h) (va_cwU 2 C.2.2.2.2 gX2_tick_X4_wanted_u27X7 rfl rfl rfl rfl (by decide +kernel) ⟨Nat.le_of_ble_eq_true rfl, Nat.le_of_ble_eq_true rfl⟩) ⟨mP_blind cX_B, c_rec2 hW hb16 k0 k1, fun U hU hV => ⟨rfl, hW.pre hU hV (hX.call hW hU hV)⟩⟩ rfl rfl hl.1 rfl (lv_room (by simp only [List.map_cons, List.map_nil, cat_o]; exact Nat.le_of_ble_eq_true rfl)) dX2_tick_54 ⟨Nat.zero_le _, Nat.zero_le _⟩)) (fun r12 u H locs h hW => ?_)
    obtain ⟨S13, L14, R15⟩ := u
    replace hW : hw D (tyC cI cJ cZ cP cS) q (29 + 2 * n) (gC q cI cJ cZ cP cS K n S13 L14 R15) A s H locs := hW
    obtain ⟨mi17, zmi17, hmi17⟩ := h
    subst zmi17
    replace h := hmi17
    clear hmi17
    replace hl : lv_has ls 3 [(0, .ref (q (15 + 3 * g))), (1, .int x1), (2, .int x2)] := hl
    obtain ⟨hb22, h⟩ := h
    refine k_i hW (by3 (k := K mi17) h (fun k0 h => va_runV (As := [.int (S (16 + 3 * g) x1.toNatClampNeg), .int r12]) (rest := [.int (x1 + (1 : Int32)), .ref (q (16 + 3 * g))]) C (mtX4_valveBehind l D q cI cJ cZ cP cS K n mi17 hb22 H.size (S (16 + 3 * g) x1.toNatClampNeg) r12 S13 L14 R15 _ h) (cwV 2 C.2.2.2.2 gX2_tick_X4_valveBehind rfl rfl rfl (by decide +kernel) ⟨Nat.le_of_ble_eq_true rfl, Nat.le_of_ble_eq_true rfl⟩) ⟨mP_blind cX_B, c_rec0 hW hb22 k0, fun U hU hV => ⟨rfl, hW.pre hU hV (hX.call hW hU hV)⟩⟩ rfl rfl hl.1 rfl (lv_room (Nat.le_of_ble_eq_true rfl)) dX2_tick_57 ⟨Nat.zero_le _, Nat.zero_le _⟩) (fun k1 h => va_runU (As := [.int (S (16 + 3 * g) x1.toNatClampNeg), .int r12]) (rest := [.int (x1 + (1 : Int32)), .ref (q (16 + 3 * g))]) C (mtX3_valveBehind l D q cI cJ cZ cP cS K n mi17 hb22 H.size (S (16 + 3 * g) x1.toNatClampNeg) r12 S13 L14 R15 _ h) (va_cwO 2 C.2.2.2.2 gX2_tick_X3_valveBehind_u31X3 rfl rfl rfl (show Cond.code yX4_valveBehind cX4_valveBehind 3 (some .int) ∈ wsX2_tick by decide +kernel) (by decide +kernel) ⟨Nat.le_of_ble_eq_true rfl, Nat.le_of_ble_eq_true rfl⟩) ⟨mP_blind cX_B, c_rec1 hW hb22 k1, fun U hU hV => ⟨rfl, hW.pre hU hV (hX.call hW hU hV)⟩⟩ rfl rfl hl.1 rfl (lv_room (Nat.le_of_ble_eq_true rfl)) dX2_tick_57 ⟨Nat.zero_le _, Nat.zero_le _⟩) (fun k0 k1 h => va_runU (As := [.int (S (16 + 3 * g) x1.toNatClampNeg), .int r12]) (rest := [.int (x1 + (1 : Int32)), .ref (q (16 + 3 * g))]) C (mtX7_valveBehind l D q cI cJ cZ cP cS K n mi17 hb22 k0 k1 H.size (S (16 + 3 * g) x1.toNatClampNeg) r12 S13 L14 R15 _ h) (va_cwO 2 C.2.2.2.2 gX2_tick_X7_valveBehind_u31X7 rfl rfl rfl (show Cond.code yX4_valveBehind cX4_valveBehind 3 (some .int) ∈ wsX2_tick by decide +kernel) (by decide +kernel) ⟨Nat.le_of_ble_eq_true rfl, Nat.le_of_ble_eq_true rfl⟩) ⟨mP_blind cX_B, c_rec2 hW hb22 k0 k1, fun U hU hV => ⟨rfl, hW.pre hU hV (hX.call hW hU hV)⟩⟩ rfl rfl hl.1 rfl (lv_room (Nat.le_of_ble_eq_true rfl)) dX2_tick_57 ⟨Nat.zero_le _, Nat.zero_le _⟩)) (fun r18 u H locs h hW => ?_)
    obtain ⟨S19, L20, R21⟩ := u
    replace hW : hw D (tyC cI cJ cZ cP cS) q (29 + 2 * n) (gC q cI cJ cZ cP cS K n S19 L20 R21) A s H locs := hW
    obtain ⟨hs23, h⟩ := h
    refine r_iast C hW (cA := cI) (n := 301) (f := S19 (16 + 3 * g)) (16 + 3 * g) 0 (by omega) (gC_valves hg) rfl hs23 dX2_tick_60 (fun H locs hW => ?_)
    replace hW := gC_put (F := upd (S19 (16 + 3 * g)) (x1 + (1 : Int32)).toNatClampNeg r18) (by rw [gC_valves hg, va_up_self]) hW
    obtain ⟨S24, eS24⟩ : ∃ z : Nat → Nat → Int32, z = va_up S19 (16 + 3 * g) (upd (S19 (16 + 3 * g)) (x1 + (1 : Int32)).toNatClampNeg r18) := ⟨_, rfl⟩
    rw [← eS24] at hW
    replace h := h S24 eS24
    refine lv_aload_n C.1 C.2.1 dX2_tick_61 rfl (lv_at hl 0 rfl) ?_
    refine r_get C hW (ci := 2) (T := TX2) (n := 3) (ref := "BallMinder$Gate") (v := .ref (q (17 + 3 * g))) (15 + 3 * g) (by omega) (gC_gate hg) rfl 1 (by decide) inX2_tick_X2 (by decide +kernel) (fun _ h9 => h9) rfl dX2_tick_62 ?_
    refine lv_iload_n C.1 C.2.1 dX2_tick_65 rfl (lv_at hl 1 rfl) ?_
    refine lv_iconst (v := 1) C.1 C.2.1 dX2_tick_66 (by decide) ?_
    refine lv_iadd C.1 C.2.1 dX2_tick_67 ?_
    refine lv_aload_n C.1 C.2.1 dX2_tick_68 rfl (lv_at hl 0 rfl) ?_
    refine r_get C hW (ci := 2) (T := TX2) (n := 3) (ref := "BallMinder$Gate") (v := va_rf (Option.map (qM q) (R21 (15 + 3 * g)))) (15 + 3 * g) (by omega) (gC_gate hg) rfl 2 (by decide) inX2_tick_X2 (by decide +kernel) (fun _ h9 => h9) rfl dX2_tick_69 ?_
    obtain ⟨o25, eo25⟩ : ∃ z : Option Nat, z = R21 (15 + 3 * g) := ⟨_, rfl⟩
    rw [← eo25]
    replace h := h o25 eo25
    refine lv_iload_n C.1 C.2.1 dX2_tick_72 rfl (lv_at hl 2 rfl) ?_
    refine lv_aload_n C.1 C.2.1 dX2_tick_73 rfl (lv_at hl 0 rfl) ?_
    refine r_get C hW (ci := 2) (T := TX2) (n := 3) (ref := "BallMinder$Gate") (v := .ref (q (17 + 3 * g))) (15 + 3 * g) (by omega) (gC_gate hg) rfl 1 (by decide) inX2_tick_X2 (by decide +kernel) (fun _ h9 => h9) rfl dX2_tick_74 ?_
    refine lv_iload_n C.1 C.2.1 dX2_tick_77 rfl (lv_at hl 1 rfl) ?_
    obtain ⟨hs26, h⟩ := h
    refine r_iald C hW (cA := cI) (n := 301) (f := S24 (17 + 3 * g)) (17 + 3 * g) 0 (by omega) (gC_missed hg) rfl hs26 dX2_tick_78 ?_
    obtain ⟨mi27, zmi27, hmi27⟩ := h
    subst zmi27
    replace h := hmi27
    clear hmi27
    replace hl : lv_has ls 3 [(0, .ref (q (15 + 3 * g))), (1, .int x1), (2, .int x2)] := hl
    obtain ⟨hb32, h⟩ := h
    refine k_i hW (by1 (k := K mi27) h (fun k0 h => va_runV (As := [.int x2, .int (S24 (17 + 3 * g) x1.toNatClampNeg)]) (rest := [.int (x1 + (1 : Int32)), .ref (q (17 + 3 * g))]) C (mtX4_missedBehind l D q cI cJ cZ cP cS K n mi27 hb32 H.size x2 (S24 (17 + 3 * g) x1.toNatClampNeg) S24 L20 R21 _ h) (cwV 2 C.2.2.2.2 gX2_tick_X4_missedBehind rfl rfl rfl (by decide +kernel) ⟨Nat.le_of_ble_eq_true rfl, Nat.le_of_ble_eq_true rfl⟩) ⟨mP_blind cX_B, c_rec0 hW hb32 k0, fun U hU hV => ⟨rfl, hW.pre hU hV (hX.call hW hU hV)⟩⟩ rfl rfl hl.1 rfl (lv_room (Nat.le_of_ble_eq_true rfl)) dX2_tick_79 ⟨Nat.zero_le _, Nat.zero_le _⟩) (fun k1 h => va_runU (As := [.int x2, .int (S24 (17 + 3 * g) x1.toNatClampNeg)]) (rest := [.int (x1 + (1 : Int32)), .ref (q (17 + 3 * g))]) C (mtX4_missedBehind l D q cI cJ cZ cP cS K n mi27 hb32 H.size x2 (S24 (17 + 3 * g) x1.toNatClampNeg) S24 L20 R21 _ h) (va_cwU 2 C.2.2.2.2 gX2_tick_X4_missedBehind_u34X3 rfl rfl rfl rfl (by decide +kernel) ⟨Nat.le_of_ble_eq_true rfl, Nat.le_of_ble_eq_true rfl⟩) ⟨mP_blind cX_B, c_rec1 hW hb32 k1, fun U hU hV => ⟨rfl, hW.pre hU hV (hX.call hW hU hV)⟩⟩ rfl rfl hl.1 rfl (lv_room (Nat.le_of_ble_eq_true rfl)) dX2_tick_79 ⟨Nat.zero_le _, Nat.zero_le _⟩) (fun k0 k1 h => va_runU (As := [.int x2, .int (S24 (17 + 3 * g) x1.toNatClampNeg)]) (rest := [.int (x1 + (1 : Int32)), .ref (q (17 + 3 * g))]) C (mtX4_missedBehind l D q cI cJ cZ cP cS K n mi27 hb32 H.size x2 (S24 (17 + 3 * g) x1.toNatClampNeg) S24 L20 R21 _ h) (va_cwU 2 C.2.2.2.2 gX2_tick_X4_missedBehind_u34X7 rfl rfl rfl rfl (by decide +kernel) ⟨Nat.le_of_ble_eq_true rfl, Nat.le_of_ble_eq_true rfl⟩) ⟨mP_blind cX_B, c_rec2 hW hb32 k0 k1, fun U hU hV => ⟨rfl, hW.pre hU hV (hX.call hW hU hV)⟩⟩ rfl rfl hl.1 rfl (lv_room (Nat.le_of_ble_eq_true rfl)) dX2_tick_79 ⟨Nat.zero_le _, Nat.zero_le _⟩)) (fun r28 u H locs h hW => ?_)
    obtain ⟨S29, L30, R31⟩ := u
    replace hW : hw D (tyC cI cJ cZ cP cS) q (29 + 2 * n) (gC q cI cJ cZ cP cS K n S29 L30 R31) A s H locs := hW
    obtain ⟨hs33, h⟩ := h
    refine r_iast C hW (cA := cI) (n := 301) (f := S29 (17 + 3 * g)) (17 + 3 * g) 0 (by omega) (gC_missed hg) rfl hs33 dX2_tick_82 (fun H locs hW => ?_)
    replace hW := gC_put (F := upd (S29 (17 + 3 * g)) (x1 + (1 : Int32)).toNatClampNeg r28) (by rw [gC_missed hg, va_up_self]) hW
    obtain ⟨S34, eS34⟩ : ∃ z : Nat → Nat → Int32, z = va_up S29 (17 + 3 * g) (upd (S29 (17 + 3 * g)) (x1 + (1 : Int32)).toNatClampNeg r28) := ⟨_, rfl⟩
    rw [← eS34] at hW
    replace h := h S34 eS34
    exact t_v C hr hlk (u := (S34, L30, R31)) hW.2.2.2.1 hW.B h dX2_tick_83
set_option maxRecDepth 100000 in
set_option maxHeartbeats 4000000 in
theorem mtX2_tick (l : Launch) (D : va_G) (q : Nat → Nat) (cI cJ cZ cP cS : ClassId) (K : Nat → Nat) (n : Nat) (g : Nat) (hg : g < 2) (sz : Nat) (x1 : Int32) (x2 : Int32) (S : Nat → Nat → Int32) (L : Nat → Int64) (R : Nat → Option Nat) (Q : (Nat → Nat → Int32) → (Nat → Int64) → (Nat → Option Nat) → Prop) (h : vX2_tick K n g x1 x2 S L R Q) : Met l yX2_tick wsX2_tick rmX2_tick (va_Pc [.ref (q (15 + 3 * g)), .int x1, .int x2] (mP D (tyC cI cJ cZ cP cS) q (29 + 2 * n) (gC q cI cJ cZ cP cS K n S L R) sz (cX (aQ q (29 + 2 * n) sz)))) (QCv D q cI cJ cZ cP cS K n Q (aQ q (29 + 2 * n) sz)) 0 0 (aQ q (29 + 2 * n) sz) := by
  refine met_w (cc := cX2_tick) (maxL := 3) (ret := none) (by decide) rfl (Nat.le_of_ble_eq_true rfl) ?_
  intro p e s m below meth c ls C hr hlk hW hX hnm hl
  exact sX2_tick C hr hlk hX g hg Q x1 x2 S L R _ _ _ h hW hl
theorem inX5_tick_X5 : ∀ w ∈ wsX50, w ∈ wsX5_tick := fun _ h => List.mem_cons_of_mem _ (List.mem_append_left _ (List.mem_append_left _ (List.mem_append_left _ (List.mem_append_left _ (List.mem_append_right _ h)))))
theorem inX5_tick_X2 : ∀ w ∈ wsX20, w ∈ wsX5_tick := fun _ h => List.mem_cons_of_mem _ (List.mem_append_left _ (List.mem_append_left _ (List.mem_append_left _ (List.mem_append_right _ h))))
theorem inX5_tick_X3 : ∀ w ∈ wsX30, w ∈ wsX5_tick := fun _ h => List.mem_cons_of_mem _ (List.mem_append_left _ (List.mem_append_left _ (List.mem_append_right _ h)))
theorem inX5_tick_X4 : ∀ w ∈ wsX40, w ∈ wsX5_tick := fun _ h => List.mem_cons_of_mem _ (List.mem_append_left _ (List.mem_append_right _ h))
theorem inX5_tick_X7 : ∀ w ∈ wsX70, w ∈ wsX5_tick := fun _ h => List.mem_cons_of_mem _ (List.mem_append_right _ h)
abbrev rmX5_tick : Room := { frames := 4, cells := 0, slots := 0, locals := 89 }
def vX5_tick (K : Nat → Nat) (n : Nat) (x1 : Int32) (S : Nat → Nat → Int32) (L : Nat → Int64) (R : Nat → Option Nat) (Q : (Nat → Nat → Int32) → (Nat → Int64) → (Nat → Option Nat) → Prop) : Prop := vX10_within x1 (0 : Int32) (299 : Int32) (fun r1 => (¬ r1 = 0 → vX2_number K n 0 (7 : Int32) S L R (fun r3 S4 L5 R6 => vX5_beatAt K n (x1 - r3) S4 L5 R6 (fun r7 S8 L9 R10 => vX2_tick K n 0 x1 r7 S8 L9 R10 (fun S11 L12 R13 => vX2_number K n 1 (7 : Int32) S11 L12 R13 (fun r14 S15 L16 R17 => vX5_beatAt K n (x1 - r14) S15 L16 R17 (fun r18 S19 L20 R21 => vX2_tick K n 1 x1 r18 S19 L20 R21 (fun S22 L23 R24 => vX5_beatAt K n x1 S22 L23 R24 (fun r25 S26 L27 R28 => vp_in (x1 + (1 : Int32)) 301 ∧ (vp_in (x1 + (1 : Int32)) 301 ∧ (∀ x3_31 : Int32, x3_31 = (S26 (16 + 3 * 0) (x1 + (1 : Int32)).toNatClampNeg) + (S26 (16 + 3 * 1) (x1 + (1 : Int32)).toNatClampNeg) → ∀ x4_32 : Int32, x4_32 = (((10 : Int32) * x3_31) - ((10 : Int32) * (S26 9 5))) - ((S26 9 7) * (r25 - (100 : Int32))) → vX10_quotient x4_32 (S26 9 8) (fun r33 => vX10_bounded (r25 + r33) (0 : Int32) (999 : Int32) (fun r34 => vp_in (((3 : Int32) + x1) + (1 : Int32)) 304 ∧ (∀ S36 : Nat → Nat → Int32, S36 = va_up S26 10 (upd (S26 10) (((3 : Int32) + x1) + (1 : Int32)).toNatClampNeg r34) → Q S36 L27 R28))))))))))))) ∧ (r1 = 0 → Q S L R))
set_option maxRecDepth 100000 in
set_option maxHeartbeats 4000000 in
theorem sX5_tick {p : Program} {l : Launch} {e : Env} {s : State} {m : MethodId} {args : Array Value} {below : List Frame} {meth : Method} {c : Code} {D : va_G} {q : Nat → Nat} {A : Nat → Prop} {cI cJ cZ cP cS : ClassId} {K : Nat → Nat} {n : Nat} (C : CallFix p m c cX5_tick 5 s args wsX5_tick RX5) (hr : meth.sig.returnType = none) (hlk : meth.locks = false) (hX : cX A s) (Q : (Nat → Nat → Int32) → (Nat → Int64) → (Nat → Option Nat) → Prop) : ∀ (x1 : Int32) (S : Nat → Nat → Int32) (L : Nat → Int64) (R : Nat → Option Nat) (H : Heap) (locs : List Loc) (ls : Array Slot), vX5_tick K n x1 S L R Q → hw D (tyC cI cJ cZ cP cS) q (29 + 2 * n) (gC q cI cJ cZ cP cS K n S L R) A s H locs → lv_has ls 5 [(0, .ref (q 9)), (1, .int x1)] → W p l e (headSpec wsX5_tick rmX5_tick).room s m args below meth c H locs 0 0 (MQ below (QCv D q cI cJ cZ cP cS K n Q A) args s 0 0 A) (F0 m 0 ls []) := by
  intro x1 S L R H locs ls h hW hl
  unfold vX5_tick at h
  refine lv_iload_n C.1 C.2.1 dX5_tick_0 rfl (lv_at hl 1 rfl) ?_
  refine lv_iconst (v := 0) C.1 C.2.1 dX5_tick_1 (by decide) ?_
  refine lv_sipush (v := 299) C.1 C.2.1 dX5_tick_2 (by decide) ?_
  refine k_pi hW (va_runSN (As := [.int x1, .int (0 : Int32), .int (299 : Int32)]) (rest := []) C (mtX10_within l D q _ H.size x1 (0 : Int32) (299 : Int32) _ h) ⟨va_cnB 3 C.2.2.2.2 gX5_tick_X10_within_n58 rfl rfl rfl (hX.1 (.methodLinkNest RX5 58 yX10_within "BallMinder") (by decide +kernel)) (C.2.2.2.2 (.initialized RX10) (by decide +kernel)) (by decide +kernel) ⟨Nat.le_of_ble_eq_true rfl, Nat.le_of_ble_eq_true rfl⟩, (C.2.2.2.2 (.static yX10_within) (by decide +kernel)), trivial⟩ ⟨mP_blind tX_B, fun U hU hV => ⟨rfl, hW.pre0 hU hV trivial⟩⟩ rfl rfl hl.1 rfl (lv_room (Nat.le_of_ble_eq_true rfl)) dX5_tick_5 ⟨Nat.zero_le _, Nat.zero_le _⟩) (fun r1 H locs h hW => ?_)
  refine lv_if_ne (tgt := 12) C.1 C.2.1 dX5_tick_8 (by decide) (fun c2 => ?_) (fun c2 => ?_)
  · replace h := h.1 c2
    refine lv_aload_n C.1 C.2.1 dX5_tick_12 rfl (lv_at hl 0 rfl) ?_
    refine r_get C hW (ci := 5) (T := TX5) (n := 13) (ref := "BallMinder$Shaft") (v := .ref (q (15 + 3 * 0))) (9) (by omega) rfl rfl 1 (by decide) inX5_tick_X5 (by decide +kernel) (fun _ h9 => h9) rfl dX5_tick_13 ?_
    refine lv_iload_n C.1 C.2.1 dX5_tick_16 rfl (lv_at hl 1 rfl) ?_
    refine lv_aload_n C.1 C.2.1 dX5_tick_17 rfl (lv_at hl 0 rfl) ?_
    refine lv_iload_n C.1 C.2.1 dX5_tick_18 rfl (lv_at hl 1 rfl) ?_
    refine lv_aload_n C.1 C.2.1 dX5_tick_19 rfl (lv_at hl 0 rfl) ?_
    refine r_get C hW (ci := 5) (T := TX5) (n := 13) (ref := "BallMinder$Shaft") (v := .ref (q (15 + 3 * 0))) (9) (by omega) rfl rfl 1 (by decide) inX5_tick_X5 (by decide +kernel) (fun _ h9 => h9) rfl dX5_tick_20 ?_
    refine lv_bipush (v := 7) C.1 C.2.1 dX5_tick_23 (by decide) ?_
    refine k_i hW (va_runV (As := [.int (7 : Int32)]) (rest := [.int x1, .ref (q 9), .int x1, .ref (q (15 + 3 * 0))]) C (mtX2_number l D q cI cJ cZ cP cS K n 0 (by decide) H.size (7 : Int32) S L R _ h) (cwV 1 C.2.2.2.2 gX5_tick_X2_number rfl rfl rfl (by decide +kernel) ⟨Nat.le_of_ble_eq_true rfl, Nat.le_of_ble_eq_true rfl⟩) ⟨mP_blind cX_B, va_recv hW.1 hW.2.1 (ci := 2) (q0 := 15 + 3 * 0) rfl (by rw [wL_get (by omega), gC_gate (by decide)]), fun U hU hV => ⟨rfl, hW.pre hU hV (hX.call hW hU hV)⟩⟩ rfl rfl hl.1 rfl (lv_room (Nat.le_of_ble_eq_true rfl)) dX5_tick_25 ⟨Nat.zero_le _, Nat.zero_le _⟩) (fun r3 u H locs h hW => ?_)
    obtain ⟨S4, L5, R6⟩ := u
    replace hW : hw D (tyC cI cJ cZ cP cS) q (29 + 2 * n) (gC q cI cJ cZ cP cS K n S4 L5 R6) A s H locs := hW
    refine lv_isub C.1 C.2.1 dX5_tick_28 ?_
    refine k_i hW (va_runV (As := [.int (x1 - r3)]) (rest := [.int x1, .ref (q (15 + 3 * 0))]) C (mtX5_beatAt l D q cI cJ cZ cP cS K n H.size (x1 - r3) S4 L5 R6 _ h) (cwV 1 C.2.2.2.2 gX5_tick_X5_beatAt rfl rfl rfl (by decide +kernel) ⟨Nat.le_of_ble_eq_true rfl, Nat.le_of_ble_eq_true rfl⟩) ⟨mP_blind cX_B, va_recv hW.1 hW.2.1 (ci := 5) (q0 := 9) rfl (wL_get (by omega)), fun U hU hV => ⟨rfl, hW.pre hU hV (hX.call hW hU hV)⟩⟩ rfl rfl hl.1 rfl (lv_room (Nat.le_of_ble_eq_true rfl)) dX5_tick_29 ⟨Nat.zero_le _, Nat.zero_le _⟩) (fun r7 u H locs h hW => ?_)
    obtain ⟨S8, L9, R10⟩ := u
    replace hW : hw D (tyC cI cJ cZ cP cS) q (29 + 2 * n) (gC q cI cJ cZ cP cS K n S8 L9 R10) A s H locs := hW
    refine k_v hW (va_runV (As := [.int x1, .int r7]) (rest := []) C (mtX2_tick l D q cI cJ cZ cP cS K n 0 (by decide) H.size x1 r7 S8 L9 R10 _ h) (cwV 2 C.2.2.2.2 gX5_tick_X2_tick rfl rfl rfl (by decide +kernel) ⟨Nat.le_of_ble_eq_true rfl, Nat.le_of_ble_eq_true rfl⟩) ⟨mP_blind cX_B, va_recv hW.1 hW.2.1 (ci := 2) (q0 := 15 + 3 * 0) rfl (by rw [wL_get (by omega), gC_gate (by decide)]), fun U hU hV => ⟨rfl, hW.pre hU hV (hX.call hW hU hV)⟩⟩ rfl rfl hl.1 rfl (lv_room (Nat.le_of_ble_eq_true rfl)) dX5_tick_32 ⟨Nat.zero_le _, Nat.zero_le _⟩) (fun u H locs h hW => ?_)
    obtain ⟨S11, L12, R13⟩ := u
    replace hW : hw D (tyC cI cJ cZ cP cS) q (29 + 2 * n) (gC q cI cJ cZ cP cS K n S11 L12 R13) A s H locs := hW
    refine lv_aload_n C.1 C.2.1 dX5_tick_35 rfl (lv_at hl 0 rfl) ?_
    refine r_get C hW (ci := 5) (T := TX5) (n := 13) (ref := "BallMinder$Shaft") (v := .ref (q (15 + 3 * 1))) (9) (by omega) rfl rfl 2 (by decide) inX5_tick_X5 (by decide +kernel) (fun _ h9 => h9) rfl dX5_tick_36 ?_
    refine lv_iload_n C.1 C.2.1 dX5_tick_39 rfl (lv_at hl 1 rfl) ?_
    refine lv_aload_n C.1 C.2.1 dX5_tick_40 rfl (lv_at hl 0 rfl) ?_
    refine lv_iload_n C.1 C.2.1 dX5_tick_41 rfl (lv_at hl 1 rfl) ?_
    refine lv_aload_n C.1 C.2.1 dX5_tick_42 rfl (lv_at hl 0 rfl) ?_
    refine r_get C hW (ci := 5) (T := TX5) (n := 13) (ref := "BallMinder$Shaft") (v := .ref (q (15 + 3 * 1))) (9) (by omega) rfl rfl 2 (by decide) inX5_tick_X5 (by decide +kernel) (fun _ h9 => h9) rfl dX5_tick_43 ?_
    refine lv_bipush (v := 7) C.1 C.2.1 dX5_tick_46 (by decide) ?_
    refine k_i hW (va_runV (As := [.int (7 : Int32)]) (rest := [.int x1, .ref (q 9), .int x1, .ref (q (15 + 3 * 1))]) C (mtX2_number l D q cI cJ cZ cP cS K n 1 (by decide) H.size (7 : Int32) S11 L12 R13 _ h) (cwV 1 C.2.2.2.2 gX5_tick_X2_number rfl rfl rfl (by decide +kernel) ⟨Nat.le_of_ble_eq_true rfl, Nat.le_of_ble_eq_true rfl⟩) ⟨mP_blind cX_B, va_recv hW.1 hW.2.1 (ci := 2) (q0 := 15 + 3 * 1) rfl (by rw [wL_get (by omega), gC_gate (by decide)]), fun U hU hV => ⟨rfl, hW.pre hU hV (hX.call hW hU hV)⟩⟩ rfl rfl hl.1 rfl (lv_room (Nat.le_of_ble_eq_true rfl)) dX5_tick_48 ⟨Nat.zero_le _, Nat.zero_le _⟩) (fun r14 u H locs h hW => ?_)
    obtain ⟨S15, L16, R17⟩ := u
    replace hW : hw D (tyC cI cJ cZ cP cS) q (29 + 2 * n) (gC q cI cJ cZ cP cS K n S15 L16 R17) A s H locs := hW
    refine lv_isub C.1 C.2.1 dX5_tick_51 ?_
    refine k_i hW (va_runV (As := [.int (x1 - r14)]) (rest := [.int x1, .ref (q (15 + 3 * 1))]) C (mtX5_beatAt l D q cI cJ cZ cP cS K n H.size (x1 - r14) S15 L16 R17 _ h) (cwV 1 C.2.2.2.2 gX5_tick_X5_beatAt rfl rfl rfl (by decide +kernel) ⟨Nat.le_of_ble_eq_true rfl, Nat.le_of_ble_eq_true rfl⟩) ⟨mP_blind cX_B, va_recv hW.1 hW.2.1 (ci := 5) (q0 := 9) rfl (wL_get (by omega)), fun U hU hV => ⟨rfl, hW.pre hU hV (hX.call hW hU hV)⟩⟩ rfl rfl hl.1 rfl (lv_room (Nat.le_of_ble_eq_true rfl)) dX5_tick_52 ⟨Nat.zero_le _, Nat.zero_le _⟩) (fun r18 u H locs h hW => ?_)
    obtain ⟨S19, L20, R21⟩ := u
    replace hW : hw D (tyC cI cJ cZ cP cS) q (29 + 2 * n) (gC q cI cJ cZ cP cS K n S19 L20 R21) A s H locs := hW
    refine k_v hW (va_runV (As := [.int x1, .int r18]) (rest := []) C (mtX2_tick l D q cI cJ cZ cP cS K n 1 (by decide) H.size x1 r18 S19 L20 R21 _ h) (cwV 2 C.2.2.2.2 gX5_tick_X2_tick rfl rfl rfl (by decide +kernel) ⟨Nat.le_of_ble_eq_true rfl, Nat.le_of_ble_eq_true rfl⟩) ⟨mP_blind cX_B, va_recv hW.1 hW.2.1 (ci := 2) (q0 := 15 + 3 * 1) rfl (by rw [wL_get (by omega), gC_gate (by decide)]), fun U hU hV => ⟨rfl, hW.pre hU hV (hX.call hW hU hV)⟩⟩ rfl rfl hl.1 rfl (lv_room (Nat.le_of_ble_eq_true rfl)) dX5_tick_55 ⟨Nat.zero_le _, Nat.zero_le _⟩) (fun u H locs h hW => ?_)
    obtain ⟨S22, L23, R24⟩ := u
    replace hW : hw D (tyC cI cJ cZ cP cS) q (29 + 2 * n) (gC q cI cJ cZ cP cS K n S22 L23 R24) A s H locs := hW
    refine lv_aload_n C.1 C.2.1 dX5_tick_58 rfl (lv_at hl 0 rfl) ?_
    refine lv_iload_n C.1 C.2.1 dX5_tick_59 rfl (lv_at hl 1 rfl) ?_
    refine k_i hW (va_runV (As := [.int x1]) (rest := []) C (mtX5_beatAt l D q cI cJ cZ cP cS K n H.size x1 S22 L23 R24 _ h) (cwV 1 C.2.2.2.2 gX5_tick_X5_beatAt rfl rfl rfl (by decide +kernel) ⟨Nat.le_of_ble_eq_true rfl, Nat.le_of_ble_eq_true rfl⟩) ⟨mP_blind cX_B, va_recv hW.1 hW.2.1 (ci := 5) (q0 := 9) rfl (wL_get (by omega)), fun U hU hV => ⟨rfl, hW.pre hU hV (hX.call hW hU hV)⟩⟩ rfl rfl hl.1 rfl (lv_room (Nat.le_of_ble_eq_true rfl)) dX5_tick_60 ⟨Nat.zero_le _, Nat.zero_le _⟩) (fun r25 u H locs h hW => ?_)
    obtain ⟨S26, L27, R28⟩ := u
    replace hW : hw D (tyC cI cJ cZ cP cS) q (29 + 2 * n) (gC q cI cJ cZ cP cS K n S26 L27 R28) A s H locs := hW
    refine lv_istore_n (lv' := [(2, .int r25), (0, .ref (q 9)), (1, .int x1)]) C.1 C.2.1 dX5_tick_63 rfl hl (by decide) rfl (fun ls hl => ?_)
    refine lv_aload_n C.1 C.2.1 dX5_tick_64 rfl (lv_at hl 1 rfl) ?_
    refine r_get C hW (ci := 5) (T := TX5) (n := 13) (ref := "BallMinder$Shaft") (v := .ref (q (15 + 3 * 0))) (9) (by omega) rfl rfl 1 (by decide) inX5_tick_X5 (by decide +kernel) (fun _ h9 => h9) rfl dX5_tick_65 ?_
    refine r_getN C hW (ci := 2) (T := TX2) (n := 3) (ref := "BallMinder$Gate") (host := "BallMinder") (v := .ref (q (16 + 3 * 0))) (15 + 3 * 0) (by omega) (gC_gate (by decide)) rfl 0 (by decide) inX5_tick_X2 (hX.1 _ (by decide +kernel)) (fun _ h9 => h9) rfl dX5_tick_68 ?_
    refine lv_iload_n C.1 C.2.1 dX5_tick_71 rfl (lv_at hl 2 rfl) ?_
    refine lv_iconst (v := 1) C.1 C.2.1 dX5_tick_72 (by decide) ?_
    refine lv_iadd C.1 C.2.1 dX5_tick_73 ?_
    obtain ⟨hs29, h⟩ := h
    refine r_iald C hW (cA := cI) (n := 301) (f := S26 (16 + 3 * 0)) (16 + 3 * 0) 0 (by omega) (gC_valves (by decide)) rfl hs29 dX5_tick_74 ?_
    refine lv_aload_n C.1 C.2.1 dX5_tick_75 rfl (lv_at hl 1 rfl) ?_
    refine r_get C hW (ci := 5) (T := TX5) (n := 13) (ref := "BallMinder$Shaft") (v := .ref (q (15 + 3 * 1))) (9) (by omega) rfl rfl 2 (by decide) inX5_tick_X5 (by decide +kernel) (fun _ h9 => h9) rfl dX5_tick_76 ?_
    refine r_getN C hW (ci := 2) (T := TX2) (n := 3) (ref := "BallMinder$Gate") (host := "BallMinder") (v := .ref (q (16 + 3 * 1))) (15 + 3 * 1) (by omega) (gC_gate (by decide)) rfl 0 (by decide) inX5_tick_X2 (hX.1 _ (by decide +kernel)) (fun _ h9 => h9) rfl dX5_tick_79 ?_
    refine lv_iload_n C.1 C.2.1 dX5_tick_82 rfl (lv_at hl 2 rfl) ?_
    refine lv_iconst (v := 1) C.1 C.2.1 dX5_tick_83 (by decide) ?_
    refine lv_iadd C.1 C.2.1 dX5_tick_84 ?_
    obtain ⟨hs30, h⟩ := h
    refine r_iald C hW (cA := cI) (n := 301) (f := S26 (16 + 3 * 1)) (16 + 3 * 1) 0 (by omega) (gC_valves (by decide)) rfl hs30 dX5_tick_85 ?_
    refine lv_iadd C.1 C.2.1 dX5_tick_86 ?_
    refine lv_topi (fun x3_31 ex3_31 => ?_)
    replace h := h x3_31 ex3_31
    refine lv_istore_n (lv' := [(3, .int x3_31), (2, .int r25), (0, .ref (q 9)), (1, .int x1)]) C.1 C.2.1 dX5_tick_87 rfl hl (by decide) rfl (fun ls hl => ?_)
    refine lv_bipush (v := 10) C.1 C.2.1 dX5_tick_88 (by decide) ?_
    refine lv_iload_n C.1 C.2.1 dX5_tick_90 rfl (lv_at hl 0 rfl) ?_
    refine lv_imul C.1 C.2.1 dX5_tick_91 ?_
    refine lv_bipush (v := 10) C.1 C.2.1 dX5_tick_92 (by decide) ?_
    refine lv_aload_n C.1 C.2.1 dX5_tick_94 rfl (lv_at hl 2 rfl) ?_
    refine r_get C hW (ci := 5) (T := TX5) (n := 13) (ref := "BallMinder$Shaft") (v := .int (S26 9 5)) (9) (by omega) rfl rfl 5 (by decide) inX5_tick_X5 (by decide +kernel) (fun _ h9 => h9) rfl dX5_tick_95 ?_
    refine lv_imul C.1 C.2.1 dX5_tick_98 ?_
    refine lv_isub C.1 C.2.1 dX5_tick_99 ?_
    refine lv_aload_n C.1 C.2.1 dX5_tick_100 rfl (lv_at hl 2 rfl) ?_
    refine r_get C hW (ci := 5) (T := TX5) (n := 13) (ref := "BallMinder$Shaft") (v := .int (S26 9 7)) (9) (by omega) rfl rfl 7 (by decide) inX5_tick_X5 (by decide +kernel) (fun _ h9 => h9) rfl dX5_tick_101 ?_
    refine lv_iload_n C.1 C.2.1 dX5_tick_104 rfl (lv_at hl 1 rfl) ?_
    refine lv_bipush (v := 100) C.1 C.2.1 dX5_tick_105 (by decide) ?_
    refine lv_isub C.1 C.2.1 dX5_tick_107 ?_
    refine lv_imul C.1 C.2.1 dX5_tick_108 ?_
    refine lv_isub C.1 C.2.1 dX5_tick_109 ?_
    refine lv_topi (fun x4_32 ex4_32 => ?_)
    replace h := h x4_32 ex4_32
    refine lv_istore (lv' := [(4, .int x4_32), (3, .int x3_31), (2, .int r25), (0, .ref (q 9)), (1, .int x1)]) C.1 C.2.1 dX5_tick_110 hl (by decide) rfl (fun ls hl => ?_)
    refine lv_aload_n C.1 C.2.1 dX5_tick_112 rfl (lv_at hl 3 rfl) ?_
    refine r_get C hW (ci := 5) (T := TX5) (n := 13) (ref := "BallMinder$Shaft") (v := .ref (q 10)) (9) (by omega) rfl rfl 0 (by decide) inX5_tick_X5 (by decide +kernel) (fun _ h9 => h9) rfl dX5_tick_113 ?_
    refine lv_iconst (v := 3) C.1 C.2.1 dX5_tick_116 (by decide) ?_
    refine lv_iload_n C.1 C.2.1 dX5_tick_117 rfl (lv_at hl 4 rfl) ?_
    refine lv_iadd C.1 C.2.1 dX5_tick_118 ?_
    refine lv_iconst (v := 1) C.1 C.2.1 dX5_tick_119 (by decide) ?_
    refine lv_iadd C.1 C.2.1 dX5_tick_120 ?_
    refine lv_iload_n C.1 C.2.1 dX5_tick_121 rfl (lv_at hl 2 rfl) ?_
    refine lv_iload C.1 C.2.1 dX5_tick_122 (lv_at hl 0 rfl) ?_
    refine lv_aload_n C.1 C.2.1 dX5_tick_124 rfl (lv_at hl 3 rfl) ?_
    refine r_get C hW (ci := 5) (T := TX5) (n := 13) (ref := "BallMinder$Shaft") (v := .int (S26 9 8)) (9) (by omega) rfl rfl 8 (by decide) inX5_tick_X5 (by decide +kernel) (fun _ h9 => h9) rfl dX5_tick_125 ?_
    refine k_pi hW (va_runSN (As := [.int x4_32, .int (S26 9 8)]) (rest := [.int r25, .int (((3 : Int32) + x1) + (1 : Int32)), .ref (q 10)]) C (mtX10_quotient l D q _ H.size x4_32 (S26 9 8) _ h) ⟨va_cnB 2 C.2.2.2.2 gX5_tick_X10_quotient_n72 rfl rfl rfl (hX.1 (.methodLinkNest RX5 72 yX10_quotient "BallMinder") (by decide +kernel)) (C.2.2.2.2 (.initialized RX10) (by decide +kernel)) (by decide +kernel) ⟨Nat.le_of_ble_eq_true rfl, Nat.le_of_ble_eq_true rfl⟩, (C.2.2.2.2 (.static yX10_quotient) (by decide +kernel)), trivial⟩ ⟨mP_blind tX_B, fun U hU hV => ⟨rfl, hW.pre0 hU hV trivial⟩⟩ rfl rfl hl.1 rfl (lv_room (Nat.le_of_ble_eq_true rfl)) dX5_tick_128 ⟨Nat.zero_le _, Nat.zero_le _⟩) (fun r33 H locs h hW => ?_)
    refine lv_iadd C.1 C.2.1 dX5_tick_131 ?_
    refine lv_iconst (v := 0) C.1 C.2.1 dX5_tick_132 (by decide) ?_
    refine lv_sipush (v := 999) C.1 C.2.1 dX5_tick_133 (by decide) ?_
    refine k_pi hW (va_runSN (As := [.int (r25 + r33), .int (0 : Int32), .int (999 : Int32)]) (rest := [.int (((3 : Int32) + x1) + (1 : Int32)), .ref (q 10)]) C (mtX10_bounded l D q _ H.size (r25 + r33) (0 : Int32) (999 : Int32) _ h) ⟨va_cnB 3 C.2.2.2.2 gX5_tick_X10_bounded_n75 rfl rfl rfl (hX.1 (.methodLinkNest RX5 75 yX10_bounded "BallMinder") (by decide +kernel)) (C.2.2.2.2 (.initialized RX10) (by decide +kernel)) (by decide +kernel) ⟨Nat.le_of_ble_eq_true rfl, Nat.le_of_ble_eq_true rfl⟩, (C.2.2.2.2 (.static yX10_bounded) (by decide +kernel)), trivial⟩ ⟨mP_blind tX_B, fun U hU hV => ⟨rfl, hW.pre0 hU hV trivial⟩⟩ rfl rfl hl.1 rfl (lv_room (Nat.le_of_ble_eq_true rfl)) dX5_tick_136 ⟨Nat.zero_le _, Nat.zero_le _⟩) (fun r34 H locs h hW => ?_)
    obtain ⟨hs35, h⟩ := h
    refine r_iast C hW (cA := cI) (n := 304) (f := S26 10) (10) 0 (by omega) rfl rfl hs35 dX5_tick_139 (fun H locs hW => ?_)
    replace hW := gC_put (F := upd (S26 10) (((3 : Int32) + x1) + (1 : Int32)).toNatClampNeg r34) rfl hW
    obtain ⟨S36, eS36⟩ : ∃ z : Nat → Nat → Int32, z = va_up S26 10 (upd (S26 10) (((3 : Int32) + x1) + (1 : Int32)).toNatClampNeg r34) := ⟨_, rfl⟩
    rw [← eS36] at hW
    replace h := h S36 eS36
    exact t_v C hr hlk (u := (S36, L27, R28)) hW.2.2.2.1 hW.B h dX5_tick_140
  · replace h := h.2 c2
    exact t_v C hr hlk (u := (S, L, R)) hW.2.2.2.1 hW.B h dX5_tick_11
set_option maxRecDepth 100000 in
set_option maxHeartbeats 4000000 in
theorem mtX5_tick (l : Launch) (D : va_G) (q : Nat → Nat) (cI cJ cZ cP cS : ClassId) (K : Nat → Nat) (n : Nat) (sz : Nat) (x1 : Int32) (S : Nat → Nat → Int32) (L : Nat → Int64) (R : Nat → Option Nat) (Q : (Nat → Nat → Int32) → (Nat → Int64) → (Nat → Option Nat) → Prop) (h : vX5_tick K n x1 S L R Q) : Met l yX5_tick wsX5_tick rmX5_tick (va_Pc [.ref (q 9), .int x1] (mP D (tyC cI cJ cZ cP cS) q (29 + 2 * n) (gC q cI cJ cZ cP cS K n S L R) sz (cX (aQ q (29 + 2 * n) sz)))) (QCv D q cI cJ cZ cP cS K n Q (aQ q (29 + 2 * n) sz)) 0 0 (aQ q (29 + 2 * n) sz) := by
  refine met_w (cc := cX5_tick) (maxL := 5) (ret := none) (by decide) rfl (Nat.le_of_ble_eq_true rfl) ?_
  intro p e s m below meth c ls C hr hlk hW hX hnm hl
  exact sX5_tick C hr hlk hX Q x1 S L R _ _ _ h hW hl
