theorem inX10_runsAsWatched_X10 : ∀ w ∈ wsX100, w ∈ wsX10_runsAsWatched := fun _ h => List.mem_cons_of_mem _ (List.mem_append_left _ (List.mem_append_left _ (List.mem_append_left _ (List.mem_append_left _ (List.mem_append_left _ (List.mem_append_right _ h))))))
theorem inX10_runsAsWatched_X5 : ∀ w ∈ wsX50, w ∈ wsX10_runsAsWatched := fun _ h => List.mem_cons_of_mem _ (List.mem_append_left _ (List.mem_append_left _ (List.mem_append_left _ (List.mem_append_left _ (List.mem_append_right _ h)))))
theorem inX10_runsAsWatched_X2 : ∀ w ∈ wsX20, w ∈ wsX10_runsAsWatched := fun _ h => List.mem_cons_of_mem _ (List.mem_append_left _ (List.mem_append_left _ (List.mem_append_left _ (List.mem_append_right _ h))))
theorem inX10_runsAsWatched_X3 : ∀ w ∈ wsX30, w ∈ wsX10_runsAsWatched := fun _ h => List.mem_cons_of_mem _ (List.mem_append_left _ (List.mem_append_left _ (List.mem_append_right _ h)))
theorem inX10_runsAsWatched_X4 : ∀ w ∈ wsX40, w ∈ wsX10_runsAsWatched := fun _ h => List.mem_cons_of_mem _ (List.mem_append_left _ (List.mem_append_right _ h))
theorem inX10_runsAsWatched_X7 : ∀ w ∈ wsX70, w ∈ wsX10_runsAsWatched := fun _ h => List.mem_cons_of_mem _ (List.mem_append_right _ h)
abbrev rmX10_runsAsWatched : Room := { frames := 5, cells := 0, slots := 0, locals := 113 }
def vX10_runsAsWatched_20 (K : Nat → Nat) (n : Nat) (Q : Int32 → (Nat → Nat → Int32) → (Nat → Int64) → (Nat → Option Nat) → Prop) : Nat → Int32 → (Nat → Nat → Int32) → (Nat → Int64) → (Nat → Option Nat) → Prop
  | 0, _, _, _, _ => False
  | fu+1, x3, S, L, R => ((S 0 9) ≤ x3 → Q (1 : Int32) S L R) ∧ (¬ ((S 0 9) ≤ x3) → vX5_tick K n (x3 - (1 : Int32)) S L R (fun S6 L7 R8 => vX5_beatAt K n x3 S6 L7 R8 (fun r9 S10 L11 R12 => vp_in x3 30 ∧ ((r9 = (S10 3 x3.toNatClampNeg) → ∀ x3_15 : Int32, x3_15 = x3 + (1 : Int32) → vX10_runsAsWatched_20 K n Q fu x3_15 S10 L11 R12) ∧ (¬ (r9 = (S10 3 x3.toNatClampNeg)) → Q (0 : Int32) S10 L11 R12)))))
def vX10_runsAsWatched (K : Nat → Nat) (n : Nat) (x1 : Nat) (x2 : Int32) (S : Nat → Nat → Int32) (L : Nat → Int64) (R : Nat → Option Nat) (Q : Int32 → (Nat → Nat → Int32) → (Nat → Int64) → (Nat → Option Nat) → Prop) : Prop := vp_in (0 : Int32) 30 ∧ (vX5_begin K n (some x1) none (S 3 (0 : Int32).toNatClampNeg) (50 : Int32) x2 S L R (fun S2 L3 R4 => ∃ n20, vX10_runsAsWatched_20 K n Q n20 (1 : Int32) S2 L3 R4))
set_option maxRecDepth 100000 in
set_option maxHeartbeats 4000000 in
theorem sX10_runsAsWatched_20 {p : Program} {l : Launch} {e : Env} {s : State} {m : MethodId} {args : Array Value} {below : List Frame} {meth : Method} {c : Code} {D : va_G} {q : Nat → Nat} {A : Nat → Prop} {cI cJ cZ cP cS : ClassId} {K : Nat → Nat} {n : Nat} (C : CallFix p m c cX10_runsAsWatched 4 s args wsX10_runsAsWatched RX10) (hr : meth.sig.returnType = (some .boolean)) (hlk : meth.locks = false) (hX : cX A s) (Q : Int32 → (Nat → Nat → Int32) → (Nat → Int64) → (Nat → Option Nat) → Prop) : ∀ (fu : Nat) (x3 : Int32) (S : Nat → Nat → Int32) (L : Nat → Int64) (R : Nat → Option Nat) (H : Heap) (locs : List Loc) (ls : Array Slot), vX10_runsAsWatched_20 K n Q fu x3 S L R → hw D (tyC cI cJ cZ cP cS) q (29 + 2 * n) (gC q cI cJ cZ cP cS K n S L R) A s H locs → lv_has ls 4 [(0, .ref (q 0)), (3, .int x3)] → W p l e (headSpec wsX10_runsAsWatched rmX10_runsAsWatched).room s m args below meth c H locs 0 0 (MQ below (QCi D q cI cJ cZ cP cS K n Q A) args s 0 0 A) (F0 m 20 ls []) := by
  intro fu
  induction fu with
  | zero =>
    intro x3 S L R H locs ls h
    exact h.elim
  | succ fu ih =>
    intro x3 S L R H locs ls h hW hl
    refine lv_iload_n C.1 C.2.1 dX10_runsAsWatched_20 rfl (lv_at hl 1 rfl) ?_
    refine lv_aload_n C.1 C.2.1 dX10_runsAsWatched_21 rfl (lv_at hl 0 rfl) ?_
    refine r_get C hW (ci := 10) (T := TX10) (n := 11) (ref := "BallMinder") (v := .int (S 0 9)) (0) (by omega) rfl rfl 9 (by decide) inX10_runsAsWatched_X10 (by decide +kernel) (fun _ h9 => h9) rfl dX10_runsAsWatched_22 ?_
    refine lv_icmp_ge (tgt := 63) C.1 C.2.1 dX10_runsAsWatched_25 (by decide) (fun c5 => ?_) (fun c5 => ?_)
    · replace h := h.1 c5
      refine lv_iconst (v := 1) C.1 C.2.1 dX10_runsAsWatched_63 (by decide) ?_
      exact t_z C hr hlk (u := (S, L, R)) (Or.inr rfl) hW.2.2.2.1 hW.B h dX10_runsAsWatched_64
    · replace h := h.2 c5
      refine lv_aload_n C.1 C.2.1 dX10_runsAsWatched_28 rfl (lv_at hl 0 rfl) ?_
      refine r_get C hW (ci := 10) (T := TX10) (n := 11) (ref := "BallMinder") (v := .ref (q 9)) (0) (by omega) rfl rfl 5 (by decide) inX10_runsAsWatched_X10 (by decide +kernel) (fun _ h9 => h9) rfl dX10_runsAsWatched_29 ?_
      refine lv_iload_n C.1 C.2.1 dX10_runsAsWatched_32 rfl (lv_at hl 1 rfl) ?_
      refine lv_iconst (v := 1) C.1 C.2.1 dX10_runsAsWatched_33 (by decide) ?_
      refine lv_isub C.1 C.2.1 dX10_runsAsWatched_34 ?_
      refine k_v hW (va_runV (As := [.int (x3 - (1 : Int32))]) (rest := []) C (mtX5_tick l D q cI cJ cZ cP cS K n H.size (x3 - (1 : Int32)) S L R _ h) (cwV 1 C.2.2.2.2 gX10_runsAsWatched_X5_tick rfl rfl rfl (by decide +kernel) ⟨Nat.le_of_ble_eq_true rfl, Nat.le_of_ble_eq_true rfl⟩) ⟨mP_blind cX_B, va_recv hW.1 hW.2.1 (ci := 5) (q0 := 9) rfl (wL_get (by omega)), fun U hU hV => ⟨rfl, hW.pre hU hV (hX.call hW hU hV)⟩⟩ rfl rfl hl.1 rfl (lv_room (Nat.le_of_ble_eq_true rfl)) dX10_runsAsWatched_35 ⟨Nat.zero_le _, Nat.zero_le _⟩) (fun u H locs h hW => ?_)
      obtain ⟨S6, L7, R8⟩ := u
      replace hW : hw D (tyC cI cJ cZ cP cS) q (29 + 2 * n) (gC q cI cJ cZ cP cS K n S6 L7 R8) A s H locs := hW
      refine lv_aload_n C.1 C.2.1 dX10_runsAsWatched_38 rfl (lv_at hl 0 rfl) ?_
      refine r_get C hW (ci := 10) (T := TX10) (n := 11) (ref := "BallMinder") (v := .ref (q 9)) (0) (by omega) rfl rfl 5 (by decide) inX10_runsAsWatched_X10 (by decide +kernel) (fun _ h9 => h9) rfl dX10_runsAsWatched_39 ?_
      refine lv_iload_n C.1 C.2.1 dX10_runsAsWatched_42 rfl (lv_at hl 1 rfl) ?_
      refine k_i hW (va_runV (As := [.int x3]) (rest := []) C (mtX5_beatAt l D q cI cJ cZ cP cS K n H.size x3 S6 L7 R8 _ h) (cwV 1 C.2.2.2.2 gX10_runsAsWatched_X5_beatAt rfl rfl rfl (by decide +kernel) ⟨Nat.le_of_ble_eq_true rfl, Nat.le_of_ble_eq_true rfl⟩) ⟨mP_blind cX_B, va_recv hW.1 hW.2.1 (ci := 5) (q0 := 9) rfl (wL_get (by omega)), fun U hU hV => ⟨rfl, hW.pre hU hV (hX.call hW hU hV)⟩⟩ rfl rfl hl.1 rfl (lv_room (Nat.le_of_ble_eq_true rfl)) dX10_runsAsWatched_43 ⟨Nat.zero_le _, Nat.zero_le _⟩) (fun r9 u H locs h hW => ?_)
      obtain ⟨S10, L11, R12⟩ := u
      replace hW : hw D (tyC cI cJ cZ cP cS) q (29 + 2 * n) (gC q cI cJ cZ cP cS K n S10 L11 R12) A s H locs := hW
      refine lv_aload_n C.1 C.2.1 dX10_runsAsWatched_46 rfl (lv_at hl 0 rfl) ?_
      refine r_get C hW (ci := 10) (T := TX10) (n := 11) (ref := "BallMinder") (v := .ref (q 3)) (0) (by omega) rfl rfl 2 (by decide) inX10_runsAsWatched_X10 (by decide +kernel) (fun _ h9 => h9) rfl dX10_runsAsWatched_47 ?_
      refine lv_iload_n C.1 C.2.1 dX10_runsAsWatched_50 rfl (lv_at hl 1 rfl) ?_
      obtain ⟨hs13, h⟩ := h
      refine r_iald C hW (cA := cI) (n := 30) (f := S10 3) (3) 0 (by omega) rfl rfl hs13 dX10_runsAsWatched_51 ?_
      refine lv_icmp_eq (tgt := 57) C.1 C.2.1 dX10_runsAsWatched_52 (by decide) (fun c14 => ?_) (fun c14 => ?_)
      · replace h := h.1 c14
        obtain ⟨x3_15, ex3_15⟩ : ∃ z : Int32, z = x3 + (1 : Int32) := ⟨_, rfl⟩
        replace h := h x3_15 ex3_15
        refine lv_iinc (v := x3_15) (lv' := [(3, .int x3_15), (0, .ref (q 0))]) C.1 C.2.1 dX10_runsAsWatched_57 hl (k := 1) rfl (by rw [ex3_15]; rfl) (by decide) rfl (fun ls hl => ?_)
        refine lv_goto (tgt := 20) C.1 C.2.1 dX10_runsAsWatched_60 (by decide) ?_
        exact ih x3_15 S10 L11 R12 _ _ _ h hW (lv_sub hl [1, 0] rfl)
      · replace h := h.2 c14
        refine lv_iconst (v := 0) C.1 C.2.1 dX10_runsAsWatched_55 (by decide) ?_
        exact t_z C hr hlk (u := (S10, L11, R12)) (Or.inl rfl) hW.2.2.2.1 hW.B h dX10_runsAsWatched_56
set_option maxRecDepth 100000 in
set_option maxHeartbeats 4000000 in
theorem sX10_runsAsWatched {p : Program} {l : Launch} {e : Env} {s : State} {m : MethodId} {args : Array Value} {below : List Frame} {meth : Method} {c : Code} {D : va_G} {q : Nat → Nat} {A : Nat → Prop} {cI cJ cZ cP cS : ClassId} {K : Nat → Nat} {n : Nat} (C : CallFix p m c cX10_runsAsWatched 4 s args wsX10_runsAsWatched RX10) (hr : meth.sig.returnType = (some .boolean)) (hlk : meth.locks = false) (hX : cX A s) (Q : Int32 → (Nat → Nat → Int32) → (Nat → Int64) → (Nat → Option Nat) → Prop) : ∀ (x1 : Nat) (x2 : Int32) (S : Nat → Nat → Int32) (L : Nat → Int64) (R : Nat → Option Nat) (H : Heap) (locs : List Loc) (ls : Array Slot), vX10_runsAsWatched K n x1 x2 S L R Q → hw D (tyC cI cJ cZ cP cS) q (29 + 2 * n) (gC q cI cJ cZ cP cS K n S L R) A s H locs → lv_has ls 4 [(0, .ref (q 0)), (1, .ref (q (29 + 2 * x1))), (2, .int x2)] → W p l e (headSpec wsX10_runsAsWatched rmX10_runsAsWatched).room s m args below meth c H locs 0 0 (MQ below (QCi D q cI cJ cZ cP cS K n Q A) args s 0 0 A) (F0 m 0 ls []) := by
  intro x1 x2 S L R H locs ls h hW hl
  unfold vX10_runsAsWatched at h
  refine lv_aload_n C.1 C.2.1 dX10_runsAsWatched_0 rfl (lv_at hl 0 rfl) ?_
  refine r_get C hW (ci := 10) (T := TX10) (n := 11) (ref := "BallMinder") (v := .ref (q 9)) (0) (by omega) rfl rfl 5 (by decide) inX10_runsAsWatched_X10 (by decide +kernel) (fun _ h9 => h9) rfl dX10_runsAsWatched_1 ?_
  refine lv_aload_n C.1 C.2.1 dX10_runsAsWatched_4 rfl (lv_at hl 1 rfl) ?_
  refine lv_null C.1 C.2.1 dX10_runsAsWatched_5 ?_
  refine lv_aload_n C.1 C.2.1 dX10_runsAsWatched_6 rfl (lv_at hl 0 rfl) ?_
  refine r_get C hW (ci := 10) (T := TX10) (n := 11) (ref := "BallMinder") (v := .ref (q 3)) (0) (by omega) rfl rfl 2 (by decide) inX10_runsAsWatched_X10 (by decide +kernel) (fun _ h9 => h9) rfl dX10_runsAsWatched_7 ?_
  refine lv_iconst (v := 0) C.1 C.2.1 dX10_runsAsWatched_10 (by decide) ?_
  obtain ⟨hs1, h⟩ := h
  refine r_iald C hW (cA := cI) (n := 30) (f := S 3) (3) 0 (by omega) rfl rfl hs1 dX10_runsAsWatched_11 ?_
  refine lv_bipush (v := 50) C.1 C.2.1 dX10_runsAsWatched_12 (by decide) ?_
  refine lv_iload_n C.1 C.2.1 dX10_runsAsWatched_14 rfl (lv_at hl 2 rfl) ?_
  refine k_v hW (va_runV (As := [.ref (q (29 + 2 * x1)), .null, .int (S 3 (0 : Int32).toNatClampNeg), .int (50 : Int32), .int x2]) (rest := []) C (mtX5_begin l D q cI cJ cZ cP cS K n H.size (some x1) none (S 3 (0 : Int32).toNatClampNeg) (50 : Int32) x2 S L R _ h) (cwV 5 C.2.2.2.2 gX10_runsAsWatched_X5_begin rfl rfl rfl (by decide +kernel) ⟨Nat.le_of_ble_eq_true rfl, Nat.le_of_ble_eq_true rfl⟩) ⟨mP_blind cX_B, va_recv hW.1 hW.2.1 (ci := 5) (q0 := 9) rfl (wL_get (by omega)), fun U hU hV => ⟨rfl, hW.pre hU hV (hX.call hW hU hV)⟩⟩ rfl rfl hl.1 rfl (lv_room (Nat.le_of_ble_eq_true rfl)) dX10_runsAsWatched_15 ⟨Nat.zero_le _, Nat.zero_le _⟩) (fun u H locs h hW => ?_)
  obtain ⟨S2, L3, R4⟩ := u
  replace hW : hw D (tyC cI cJ cZ cP cS) q (29 + 2 * n) (gC q cI cJ cZ cP cS K n S2 L3 R4) A s H locs := hW
  refine lv_iconst (v := 1) C.1 C.2.1 dX10_runsAsWatched_18 (by decide) ?_
  refine lv_istore_n (lv' := [(3, .int (1 : Int32)), (0, .ref (q 0)), (1, .ref (q (29 + 2 * x1))), (2, .int x2)]) C.1 C.2.1 dX10_runsAsWatched_19 rfl hl (by decide) rfl (fun ls hl => ?_)
  obtain ⟨n9, h⟩ := h
  exact sX10_runsAsWatched_20 C hr hlk hX Q n9 (1 : Int32) S2 L3 R4 _ _ _ h hW (lv_sub hl [1, 0] rfl)
set_option maxRecDepth 100000 in
set_option maxHeartbeats 4000000 in
theorem mtX10_runsAsWatched (l : Launch) (D : va_G) (q : Nat → Nat) (cI cJ cZ cP cS : ClassId) (K : Nat → Nat) (n : Nat) (sz : Nat) (x1 : Nat) (x2 : Int32) (S : Nat → Nat → Int32) (L : Nat → Int64) (R : Nat → Option Nat) (Q : Int32 → (Nat → Nat → Int32) → (Nat → Int64) → (Nat → Option Nat) → Prop) (h : vX10_runsAsWatched K n x1 x2 S L R Q) : Met l yX10_runsAsWatched wsX10_runsAsWatched rmX10_runsAsWatched (va_Pc [.ref (q 0), .ref (q (29 + 2 * x1)), .int x2] (mP D (tyC cI cJ cZ cP cS) q (29 + 2 * n) (gC q cI cJ cZ cP cS K n S L R) sz (cX (aQ q (29 + 2 * n) sz)))) (QCi D q cI cJ cZ cP cS K n Q (aQ q (29 + 2 * n) sz)) 0 0 (aQ q (29 + 2 * n) sz) := by
  refine met_w (cc := cX10_runsAsWatched) (maxL := 4) (ret := (some .boolean)) (by decide) rfl (Nat.le_of_ble_eq_true rfl) ?_
  intro p e s m below meth c ls C hr hlk hW hX hnm hl
  exact sX10_runsAsWatched C hr hlk hX Q x1 x2 S L R _ _ _ h hW hl
theorem inX10_fits_X10 : ∀ w ∈ wsX100, w ∈ wsX10_fits := fun _ h => List.mem_cons_of_mem _ (List.mem_append_left _ (List.mem_append_left _ (List.mem_append_left _ (List.mem_append_left _ (List.mem_append_left _ (List.mem_append_left _ (List.mem_append_right _ h)))))))
theorem inX10_fits_X3 : ∀ w ∈ wsX30, w ∈ wsX10_fits := fun _ h => List.mem_cons_of_mem _ (List.mem_append_left _ (List.mem_append_left _ (List.mem_append_left _ (List.mem_append_left _ (List.mem_append_left _ (List.mem_append_right _ h))))))
theorem inX10_fits_X4 : ∀ w ∈ wsX40, w ∈ wsX10_fits := fun _ h => List.mem_cons_of_mem _ (List.mem_append_left _ (List.mem_append_left _ (List.mem_append_left _ (List.mem_append_left _ (List.mem_append_right _ h)))))
theorem inX10_fits_X7 : ∀ w ∈ wsX70, w ∈ wsX10_fits := fun _ h => List.mem_cons_of_mem _ (List.mem_append_left _ (List.mem_append_left _ (List.mem_append_left _ (List.mem_append_right _ h))))
theorem inX10_fits_X1 : ∀ w ∈ wsX10, w ∈ wsX10_fits := fun _ h => List.mem_cons_of_mem _ (List.mem_append_left _ (List.mem_append_left _ (List.mem_append_right _ h)))
theorem inX10_fits_X5 : ∀ w ∈ wsX50, w ∈ wsX10_fits := fun _ h => List.mem_cons_of_mem _ (List.mem_append_left _ (List.mem_append_right _ h))
theorem inX10_fits_X2 : ∀ w ∈ wsX20, w ∈ wsX10_fits := fun _ h => List.mem_cons_of_mem _ (List.mem_append_right _ h)
abbrev rmX10_fits : Room := { frames := 6, cells := 0, slots := 0, locals := 136 }
def vX10_fits_118 (K : Nat → Nat) (n : Nat) (K80 : Int32 → Int32 → Int32 → Nat → Int32 → Int32 → (Nat → Nat → Int32) → (Nat → Int64) → (Nat → Option Nat) → Prop) (Q : Int32 → (Nat → Nat → Int32) → (Nat → Int64) → (Nat → Option Nat) → Prop) (x2 : Int32) (x3 : Int32) (x4 : Int32) (x5 : Nat) (x6 : Int32) (x7 : Int32) (S : Nat → Nat → Int32) (L : Nat → Int64) (R : Nat → Option Nat) : Prop := ∀ x7_42 : Int32, x7_42 = x7 + (1 : Int32) → K80 x2 x3 x4 x5 x6 x7_42 S L R
def vX10_fits_80 (K : Nat → Nat) (n : Nat) (Q : Int32 → (Nat → Nat → Int32) → (Nat → Int64) → (Nat → Option Nat) → Prop) : Nat → Int32 → Int32 → Int32 → Nat → Int32 → Int32 → (Nat → Nat → Int32) → (Nat → Int64) → (Nat → Option Nat) → Prop
  | 0, _, _, _, _, _, _, _, _, _ => False
  | fu+1, x2, x3, x4, x5, x6, x7, S, L, R => vp_in x2 9 ∧ (((greatestV x2.toNatClampNeg) < x7 → x5 < n ∧ (vp_in x2 9 ∧ (∀ S29 : Nat → Nat → Int32, S29 = va_up S (30 + 2 * x5) (upd (S (30 + 2 * x5)) x2.toNatClampNeg x6) → vX1_told K n x4 S29 L R (fun r30 S31 L32 R33 => Q r30 S31 L32 R33)))) ∧ (¬ ((greatestV x2.toNatClampNeg) < x7) → x5 < n ∧ (vp_in x2 9 ∧ (∀ S36 : Nat → Nat → Int32, S36 = va_up S (30 + 2 * x5) (upd (S (30 + 2 * x5)) x2.toNatClampNeg x7) → vX10_runsAsWatched K n x5 x3 S36 L R (fun r37 S38 L39 R40 => (r37 = 0 → vX10_fits_118 K n (vX10_fits_80 K n Q fu) Q x2 x3 x4 x5 x6 x7 S38 L39 R40) ∧ (¬ (r37 = 0) → vX1_take K n x7 S38 L39 R40 (fun S43 L44 R45 => vX10_fits_118 K n (vX10_fits_80 K n Q fu) Q x2 x3 x4 x5 x6 x7 S43 L44 R45)))))))
def vX10_fits (K : Nat → Nat) (n : Nat) (x1 : Int32) (x2 : Int32) (x3 : Int32) (x4 : Int32) (S : Nat → Nat → Int32) (L : Nat → Int64) (R : Nat → Option Nat) (Q : Int32 → (Nat → Nat → Int32) → (Nat → Int64) → (Nat → Option Nat) → Prop) : Prop := vX10_millOf K n x1 S L R (fun o1 S2 L3 R4 => (o1 = none → Q (-1 : Int32) S2 L3 R4) ∧ (∀ mi5 : Nat, o1 = some mi5 → vX10_within x2 (0 : Int32) (8 : Int32) (fun r6 => (¬ r6 = 0 → vX10_within x3 (0 : Int32) (100 : Int32) (fun r8 => (r8 = 0 → Q (-2 : Int32) S2 L3 R4) ∧ (¬ (r8 = 0) → vX10_within x4 (0 : Int32) (2 : Int32) (fun r10 => (¬ r10 = 0 → (¬ (S2 0 9) = 0 → mi5 < n ∧ (vp_in x2 9 ∧ (∀ x6_15 : Int32, x6_15 = S2 (30 + 2 * mi5) x2.toNatClampNeg → vX1_clear K n  S2 L3 R4 (fun S16 L17 R18 => vp_in x2 9 ∧ (∀ x7_22 : Int32, x7_22 = leastV x2.toNatClampNeg → ∃ n80, vX10_fits_80 K n Q n80 x2 x3 x4 mi5 x6_15 x7_22 S16 L17 R18))))) ∧ ((S2 0 9) = 0 → Q (-3 : Int32) S2 L3 R4)) ∧ (r10 = 0 → Q (-2 : Int32) S2 L3 R4))))) ∧ (r6 = 0 → Q (-1 : Int32) S2 L3 R4))))
set_option maxRecDepth 100000 in
set_option maxHeartbeats 4000000 in
theorem sX10_fits_118 {p : Program} {l : Launch} {e : Env} {s : State} {m : MethodId} {args : Array Value} {below : List Frame} {meth : Method} {c : Code} {D : va_G} {q : Nat → Nat} {A : Nat → Prop} {cI cJ cZ cP cS : ClassId} {K : Nat → Nat} {n : Nat} (C : CallFix p m c cX10_fits 8 s args wsX10_fits RX10) (hr : meth.sig.returnType = (some .int)) (hlk : meth.locks = false) (hX : cX A s) (Q : Int32 → (Nat → Nat → Int32) → (Nat → Int64) → (Nat → Option Nat) → Prop) (K80 : Int32 → Int32 → Int32 → Nat → Int32 → Int32 → (Nat → Nat → Int32) → (Nat → Int64) → (Nat → Option Nat) → Prop) (hK80 : ∀ (x2 : Int32) (x3 : Int32) (x4 : Int32) (x5 : Nat) (x6 : Int32) (x7 : Int32) (S : Nat → Nat → Int32) (L : Nat → Int64) (R : Nat → Option Nat) (H : Heap) (locs : List Loc) (ls : Array Slot), K80 x2 x3 x4 x5 x6 x7 S L R → hw D (tyC cI cJ cZ cP cS) q (29 + 2 * n) (gC q cI cJ cZ cP cS K n S L R) A s H locs → lv_has ls 8 [(0, .ref (q 0)), (2, .int x2), (3, .int x3), (4, .int x4), (5, .ref (q (29 + 2 * x5))), (6, .int x6), (7, .int x7)] → W p l e (headSpec wsX10_fits rmX10_fits).room s m args below meth c H locs 0 0 (MQ below (QCi D q cI cJ cZ cP cS K n Q A) args s 0 0 A) (F0 m 80 ls [])) : ∀ (x2 : Int32) (x3 : Int32) (x4 : Int32) (x5 : Nat) (x6 : Int32) (x7 : Int32) (S : Nat → Nat → Int32) (L : Nat → Int64) (R : Nat → Option Nat) (H : Heap) (locs : List Loc) (ls : Array Slot), vX10_fits_118 K n K80 Q x2 x3 x4 x5 x6 x7 S L R → hw D (tyC cI cJ cZ cP cS) q (29 + 2 * n) (gC q cI cJ cZ cP cS K n S L R) A s H locs → lv_has ls 8 [(0, .ref (q 0)), (2, .int x2), (3, .int x3), (4, .int x4), (5, .ref (q (29 + 2 * x5))), (6, .int x6), (7, .int x7)] → W p l e (headSpec wsX10_fits rmX10_fits).room s m args below meth c H locs 0 0 (MQ below (QCi D q cI cJ cZ cP cS K n Q A) args s 0 0 A) (F0 m 118 ls []) := by
  intro x2 x3 x4 x5 x6 x7 S L R H locs ls h hW hl
  unfold vX10_fits_118 at h
  obtain ⟨x7_42, ex7_42⟩ : ∃ z : Int32, z = x7 + (1 : Int32) := ⟨_, rfl⟩
  replace h := h x7_42 ex7_42
  refine lv_iinc (v := x7_42) (lv' := [(7, .int x7_42), (0, .ref (q 0)), (2, .int x2), (3, .int x3), (4, .int x4), (5, .ref (q (29 + 2 * x5))), (6, .int x6)]) C.1 C.2.1 dX10_fits_118 hl (k := 6) rfl (by rw [ex7_42]; rfl) (by decide) rfl (fun ls hl => ?_)
  refine lv_goto (tgt := 80) C.1 C.2.1 dX10_fits_121 (by decide) ?_
  exact hK80 x2 x3 x4 x5 x6 x7_42 S L R _ _ _ h hW (lv_sub hl [1, 2, 3, 4, 5, 6, 0] rfl)
set_option maxRecDepth 100000 in
set_option maxHeartbeats 4000000 in
theorem sX10_fits_80 {p : Program} {l : Launch} {e : Env} {s : State} {m : MethodId} {args : Array Value} {below : List Frame} {meth : Method} {c : Code} {D : va_G} {q : Nat → Nat} {A : Nat → Prop} {cI cJ cZ cP cS : ClassId} {K : Nat → Nat} {n : Nat} (C : CallFix p m c cX10_fits 8 s args wsX10_fits RX10) (hr : meth.sig.returnType = (some .int)) (hlk : meth.locks = false) (hX : cX A s) (Q : Int32 → (Nat → Nat → Int32) → (Nat → Int64) → (Nat → Option Nat) → Prop) : ∀ (fu : Nat) (x2 : Int32) (x3 : Int32) (x4 : Int32) (x5 : Nat) (x6 : Int32) (x7 : Int32) (S : Nat → Nat → Int32) (L : Nat → Int64) (R : Nat → Option Nat) (H : Heap) (locs : List Loc) (ls : Array Slot), vX10_fits_80 K n Q fu x2 x3 x4 x5 x6 x7 S L R → hw D (tyC cI cJ cZ cP cS) q (29 + 2 * n) (gC q cI cJ cZ cP cS K n S L R) A s H locs → lv_has ls 8 [(0, .ref (q 0)), (2, .int x2), (3, .int x3), (4, .int x4), (5, .ref (q (29 + 2 * x5))), (6, .int x6), (7, .int x7)] → W p l e (headSpec wsX10_fits rmX10_fits).room s m args below meth c H locs 0 0 (MQ below (QCi D q cI cJ cZ cP cS K n Q A) args s 0 0 A) (F0 m 80 ls []) := by
  intro fu
  induction fu with
  | zero =>
    intro x2 x3 x4 x5 x6 x7 S L R H locs ls h
    exact h.elim
  | succ fu ih =>
    intro x2 x3 x4 x5 x6 x7 S L R H locs ls h hW hl
    refine lv_iload C.1 C.2.1 dX10_fits_80 (lv_at hl 6 rfl) ?_
    refine c_stat C hW hX.2.2.1 (by decide +kernel) dX10_fits_82 (fun t23 hT24 => ?_)
    refine lv_iload_n C.1 C.2.1 dX10_fits_85 rfl (lv_at hl 1 rfl) ?_
    obtain ⟨hs25, h⟩ := h
    refine va_ti C.1 C.2.1 hT24 hW.2.2.2.1 hs25 rfl dX10_fits_86 ?_
    refine lv_icmp_gt (tgt := 124) C.1 C.2.1 dX10_fits_87 (by decide) (fun c26 => ?_) (fun c26 => ?_)
    · replace h := h.1 c26
      refine lv_aload C.1 C.2.1 dX10_fits_124 (lv_at hl 4 rfl) ?_
      obtain ⟨hb27, h⟩ := h
      refine c_nums C hW hb27 inX10_fits_X3 inX10_fits_X4 inX10_fits_X7 (ref := "BallMinder$Plain") (by decide +kernel) (fun _ h9 => h9) dX10_fits_126 ?_
      refine lv_iload_n C.1 C.2.1 dX10_fits_129 rfl (lv_at hl 1 rfl) ?_
      refine lv_iload C.1 C.2.1 dX10_fits_130 (lv_at hl 5 rfl) ?_
      obtain ⟨hs28, h⟩ := h
      refine r_iast C hW (cA := cI) (n := 9) (f := S (30 + 2 * x5)) (30 + 2 * x5) 0 (by omega) (gC_nums x5) rfl hs28 dX10_fits_132 (fun H locs hW => ?_)
      replace hW := gC_put (F := upd (S (30 + 2 * x5)) x2.toNatClampNeg x6) (by rw [gC_nums, va_up_self]) hW
      obtain ⟨S29, eS29⟩ : ∃ z : Nat → Nat → Int32, z = va_up S (30 + 2 * x5) (upd (S (30 + 2 * x5)) x2.toNatClampNeg x6) := ⟨_, rfl⟩
      rw [← eS29] at hW
      replace h := h S29 eS29
      refine lv_aload_n C.1 C.2.1 dX10_fits_133 rfl (lv_at hl 0 rfl) ?_
      refine r_get C hW (ci := 10) (T := TX10) (n := 11) (ref := "BallMinder") (v := .ref (q 13)) (0) (by omega) rfl rfl 6 (by decide) inX10_fits_X10 (by decide +kernel) (fun _ h9 => h9) rfl dX10_fits_134 ?_
      refine lv_iload C.1 C.2.1 dX10_fits_137 (lv_at hl 3 rfl) ?_
      refine k_i hW (va_runV (As := [.int x4]) (rest := []) C (mtX1_told l D q cI cJ cZ cP cS K n H.size x4 S29 L R _ h) (cwV 1 C.2.2.2.2 gX10_fits_X1_told rfl rfl rfl (by decide +kernel) ⟨Nat.le_of_ble_eq_true rfl, Nat.le_of_ble_eq_true rfl⟩) ⟨mP_blind cX_B, va_recv hW.1 hW.2.1 (ci := 1) (q0 := 13) rfl (wL_get (by omega)), fun U hU hV => ⟨rfl, hW.pre hU hV (hX.call hW hU hV)⟩⟩ rfl rfl hl.1 rfl (lv_room (Nat.le_of_ble_eq_true rfl)) dX10_fits_139 ⟨Nat.zero_le _, Nat.zero_le _⟩) (fun r30 u H locs h hW => ?_)
      obtain ⟨S31, L32, R33⟩ := u
      replace hW : hw D (tyC cI cJ cZ cP cS) q (29 + 2 * n) (gC q cI cJ cZ cP cS K n S31 L32 R33) A s H locs := hW
      exact t_i C hr hlk (u := (S31, L32, R33)) hW.2.2.2.1 hW.B h dX10_fits_142
    · replace h := h.2 c26
      refine lv_aload C.1 C.2.1 dX10_fits_90 (lv_at hl 4 rfl) ?_
      obtain ⟨hb34, h⟩ := h
      refine c_nums C hW hb34 inX10_fits_X3 inX10_fits_X4 inX10_fits_X7 (ref := "BallMinder$Plain") (by decide +kernel) (fun _ h9 => h9) dX10_fits_92 ?_
      refine lv_iload_n C.1 C.2.1 dX10_fits_95 rfl (lv_at hl 1 rfl) ?_
      refine lv_iload C.1 C.2.1 dX10_fits_96 (lv_at hl 6 rfl) ?_
      obtain ⟨hs35, h⟩ := h
      refine r_iast C hW (cA := cI) (n := 9) (f := S (30 + 2 * x5)) (30 + 2 * x5) 0 (by omega) (gC_nums x5) rfl hs35 dX10_fits_98 (fun H locs hW => ?_)
      replace hW := gC_put (F := upd (S (30 + 2 * x5)) x2.toNatClampNeg x7) (by rw [gC_nums, va_up_self]) hW
      obtain ⟨S36, eS36⟩ : ∃ z : Nat → Nat → Int32, z = va_up S (30 + 2 * x5) (upd (S (30 + 2 * x5)) x2.toNatClampNeg x7) := ⟨_, rfl⟩
      rw [← eS36] at hW
      replace h := h S36 eS36
      refine lv_aload_n C.1 C.2.1 dX10_fits_99 rfl (lv_at hl 0 rfl) ?_
      refine lv_aload C.1 C.2.1 dX10_fits_100 (lv_at hl 4 rfl) ?_
      refine lv_iload_n C.1 C.2.1 dX10_fits_102 rfl (lv_at hl 2 rfl) ?_
      refine k_i hW (va_runV (As := [.ref (q (29 + 2 * x5)), .int x3]) (rest := []) C (mtX10_runsAsWatched l D q cI cJ cZ cP cS K n H.size x5 x3 S36 L R _ h) (cwV 2 C.2.2.2.2 gX10_fits_X10_runsAsWatched rfl rfl rfl (by decide +kernel) ⟨Nat.le_of_ble_eq_true rfl, Nat.le_of_ble_eq_true rfl⟩) ⟨mP_blind cX_B, va_recv hW.1 hW.2.1 (ci := 10) (q0 := 0) rfl (wL_get (by omega)), fun U hU hV => ⟨rfl, hW.pre hU hV (hX.call hW hU hV)⟩⟩ rfl rfl hl.1 rfl (lv_room (Nat.le_of_ble_eq_true rfl)) dX10_fits_103 ⟨Nat.zero_le _, Nat.zero_le _⟩) (fun r37 u H locs h hW => ?_)
      obtain ⟨S38, L39, R40⟩ := u
      replace hW : hw D (tyC cI cJ cZ cP cS) q (29 + 2 * n) (gC q cI cJ cZ cP cS K n S38 L39 R40) A s H locs := hW
      refine lv_if_eq (tgt := 118) C.1 C.2.1 dX10_fits_106 (by decide) (fun c41 => ?_) (fun c41 => ?_)
      · replace h := h.1 c41
        exact sX10_fits_118 C hr hlk hX Q _ ih x2 x3 x4 x5 x6 x7 S38 L39 R40 _ _ _ h hW (lv_sub hl [0, 1, 2, 3, 4, 5, 6] rfl)
      · replace h := h.2 c41
        refine lv_aload_n C.1 C.2.1 dX10_fits_109 rfl (lv_at hl 0 rfl) ?_
        refine r_get C hW (ci := 10) (T := TX10) (n := 11) (ref := "BallMinder") (v := .ref (q 13)) (0) (by omega) rfl rfl 6 (by decide) inX10_fits_X10 (by decide +kernel) (fun _ h9 => h9) rfl dX10_fits_110 ?_
        refine lv_iload C.1 C.2.1 dX10_fits_113 (lv_at hl 6 rfl) ?_
        refine k_v hW (va_runV (As := [.int x7]) (rest := []) C (mtX1_take l D q cI cJ cZ cP cS K n H.size x7 S38 L39 R40 _ h) (cwV 1 C.2.2.2.2 gX10_fits_X1_take rfl rfl rfl (by decide +kernel) ⟨Nat.le_of_ble_eq_true rfl, Nat.le_of_ble_eq_true rfl⟩) ⟨mP_blind cX_B, va_recv hW.1 hW.2.1 (ci := 1) (q0 := 13) rfl (wL_get (by omega)), fun U hU hV => ⟨rfl, hW.pre hU hV (hX.call hW hU hV)⟩⟩ rfl rfl hl.1 rfl (lv_room (Nat.le_of_ble_eq_true rfl)) dX10_fits_115 ⟨Nat.zero_le _, Nat.zero_le _⟩) (fun u H locs h hW => ?_)
        obtain ⟨S43, L44, R45⟩ := u
        replace hW : hw D (tyC cI cJ cZ cP cS) q (29 + 2 * n) (gC q cI cJ cZ cP cS K n S43 L44 R45) A s H locs := hW
        exact sX10_fits_118 C hr hlk hX Q _ ih x2 x3 x4 x5 x6 x7 S43 L44 R45 _ _ _ h hW (lv_sub hl [0, 1, 2, 3, 4, 5, 6] rfl)
set_option maxRecDepth 100000 in
set_option maxHeartbeats 4000000 in
theorem sX10_fits {p : Program} {l : Launch} {e : Env} {s : State} {m : MethodId} {args : Array Value} {below : List Frame} {meth : Method} {c : Code} {D : va_G} {q : Nat → Nat} {A : Nat → Prop} {cI cJ cZ cP cS : ClassId} {K : Nat → Nat} {n : Nat} (C : CallFix p m c cX10_fits 8 s args wsX10_fits RX10) (hr : meth.sig.returnType = (some .int)) (hlk : meth.locks = false) (hX : cX A s) (Q : Int32 → (Nat → Nat → Int32) → (Nat → Int64) → (Nat → Option Nat) → Prop) : ∀ (x1 : Int32) (x2 : Int32) (x3 : Int32) (x4 : Int32) (S : Nat → Nat → Int32) (L : Nat → Int64) (R : Nat → Option Nat) (H : Heap) (locs : List Loc) (ls : Array Slot), vX10_fits K n x1 x2 x3 x4 S L R Q → hw D (tyC cI cJ cZ cP cS) q (29 + 2 * n) (gC q cI cJ cZ cP cS K n S L R) A s H locs → lv_has ls 8 [(0, .ref (q 0)), (1, .int x1), (2, .int x2), (3, .int x3), (4, .int x4)] → W p l e (headSpec wsX10_fits rmX10_fits).room s m args below meth c H locs 0 0 (MQ below (QCi D q cI cJ cZ cP cS K n Q A) args s 0 0 A) (F0 m 0 ls []) := by
  intro x1 x2 x3 x4 S L R H locs ls h hW hl
  unfold vX10_fits at h
  refine lv_aload_n C.1 C.2.1 dX10_fits_0 rfl (lv_at hl 0 rfl) ?_
  refine lv_iload_n C.1 C.2.1 dX10_fits_1 rfl (lv_at hl 1 rfl) ?_
  refine k_q hW (va_runV (As := [.int x1]) (rest := []) C (mtX10_millOf l D q cI cJ cZ cP cS K n H.size x1 S L R _ h) (cwV 1 C.2.2.2.2 gX10_fits_X10_millOf rfl rfl rfl (by decide +kernel) ⟨Nat.le_of_ble_eq_true rfl, Nat.le_of_ble_eq_true rfl⟩) ⟨mP_blind cX_B, va_recv hW.1 hW.2.1 (ci := 10) (q0 := 0) rfl (wL_get (by omega)), fun U hU hV => ⟨rfl, hW.pre hU hV (hX.call hW hU hV)⟩⟩ rfl rfl hl.1 rfl (lv_room (Nat.le_of_ble_eq_true rfl)) dX10_fits_2 ⟨Nat.zero_le _, Nat.zero_le _⟩) (fun r9 u H locs h hW => ?_)
  obtain ⟨S2, L3, R4⟩ := u
  obtain ⟨o1, rfl, h⟩ := h
  replace hW : hw D (tyC cI cJ cZ cP cS) q (29 + 2 * n) (gC q cI cJ cZ cP cS K n S2 L3 R4) A s H locs := hW
  refine cv_astore (lv' := [(5, va_rf (Option.map (qM q) o1)), (0, .ref (q 0)), (1, .int x1), (2, .int x2), (3, .int x3), (4, .int x4)]) C.1 C.2.1 dX10_fits_5 hl (by decide) rfl (fun ls hl => ?_)
  refine cv_aload C.1 C.2.1 dX10_fits_7 (lv_at hl 0 rfl) ?_
  rcases o1 with _ | mi5
  · replace h := h.1 rfl
    replace hl : lv_has ls 8 [(5, .null), (0, .ref (q 0)), (1, .int x1), (2, .int x2), (3, .int x3), (4, .int x4)] := hl
    refine lv_ifnullN (tgt := 22) C.1 C.2.1 dX10_fits_9 (by decide) ?_
    refine lv_iconst (v := -1) C.1 C.2.1 dX10_fits_22 (by decide) ?_
    exact t_i C hr hlk (u := (S2, L3, R4)) hW.2.2.2.1 hW.B h dX10_fits_23
  · replace h := h.2 mi5 rfl
    replace hl : lv_has ls 8 [(5, .ref (q (29 + 2 * mi5))), (0, .ref (q 0)), (1, .int x1), (2, .int x2), (3, .int x3), (4, .int x4)] := hl
    refine lv_ifnull C.1 C.2.1 dX10_fits_9 ?_
    refine lv_iload_n C.1 C.2.1 dX10_fits_12 rfl (lv_at hl 3 rfl) ?_
    refine lv_iconst (v := 0) C.1 C.2.1 dX10_fits_13 (by decide) ?_
    refine lv_bipush (v := 8) C.1 C.2.1 dX10_fits_14 (by decide) ?_
    refine k_pi hW (va_runS (As := [.int x2, .int (0 : Int32), .int (8 : Int32)]) (rest := []) C (mtX10_within l D q _ H.size x2 (0 : Int32) (8 : Int32) _ h) (va_cwS 3 C.2.2.2.2 gX10_fits_X10_within rfl rfl rfl (by decide +kernel) ⟨Nat.le_of_ble_eq_true rfl, Nat.le_of_ble_eq_true rfl⟩) ⟨mP_blind tX_B, fun U hU hV => ⟨rfl, hW.pre0 hU hV trivial⟩⟩ rfl rfl hl.1 rfl (lv_room (Nat.le_of_ble_eq_true rfl)) dX10_fits_16 ⟨Nat.zero_le _, Nat.zero_le _⟩) (fun r6 H locs h hW => ?_)
    refine lv_if_ne (tgt := 24) C.1 C.2.1 dX10_fits_19 (by decide) (fun c7 => ?_) (fun c7 => ?_)
    · replace h := h.1 c7
      refine lv_iload_n C.1 C.2.1 dX10_fits_24 rfl (lv_at hl 4 rfl) ?_
      refine lv_iconst (v := 0) C.1 C.2.1 dX10_fits_25 (by decide) ?_
      refine lv_bipush (v := 100) C.1 C.2.1 dX10_fits_26 (by decide) ?_
      refine k_pi hW (va_runS (As := [.int x3, .int (0 : Int32), .int (100 : Int32)]) (rest := []) C (mtX10_within l D q _ H.size x3 (0 : Int32) (100 : Int32) _ h) (va_cwS 3 C.2.2.2.2 gX10_fits_X10_within rfl rfl rfl (by decide +kernel) ⟨Nat.le_of_ble_eq_true rfl, Nat.le_of_ble_eq_true rfl⟩) ⟨mP_blind tX_B, fun U hU hV => ⟨rfl, hW.pre0 hU hV trivial⟩⟩ rfl rfl hl.1 rfl (lv_room (Nat.le_of_ble_eq_true rfl)) dX10_fits_28 ⟨Nat.zero_le _, Nat.zero_le _⟩) (fun r8 H locs h hW => ?_)
      refine lv_if_eq (tgt := 44) C.1 C.2.1 dX10_fits_31 (by decide) (fun c9 => ?_) (fun c9 => ?_)
      · replace h := h.1 c9
        refine lv_bipush (v := -2) C.1 C.2.1 dX10_fits_44 (by decide) ?_
        exact t_i C hr hlk (u := (S2, L3, R4)) hW.2.2.2.1 hW.B h dX10_fits_46
      · replace h := h.2 c9
        refine lv_iload C.1 C.2.1 dX10_fits_34 (lv_at hl 5 rfl) ?_
        refine lv_iconst (v := 0) C.1 C.2.1 dX10_fits_36 (by decide) ?_
        refine lv_iconst (v := 2) C.1 C.2.1 dX10_fits_37 (by decide) ?_
        refine k_pi hW (va_runS (As := [.int x4, .int (0 : Int32), .int (2 : Int32)]) (rest := []) C (mtX10_within l D q _ H.size x4 (0 : Int32) (2 : Int32) _ h) (va_cwS 3 C.2.2.2.2 gX10_fits_X10_within rfl rfl rfl (by decide +kernel) ⟨Nat.le_of_ble_eq_true rfl, Nat.le_of_ble_eq_true rfl⟩) ⟨mP_blind tX_B, fun U hU hV => ⟨rfl, hW.pre0 hU hV trivial⟩⟩ rfl rfl hl.1 rfl (lv_room (Nat.le_of_ble_eq_true rfl)) dX10_fits_38 ⟨Nat.zero_le _, Nat.zero_le _⟩) (fun r10 H locs h hW => ?_)
        refine lv_if_ne (tgt := 47) C.1 C.2.1 dX10_fits_41 (by decide) (fun c11 => ?_) (fun c11 => ?_)
        · replace h := h.1 c11
          refine lv_aload_n C.1 C.2.1 dX10_fits_47 rfl (lv_at hl 1 rfl) ?_
          refine r_get C hW (ci := 10) (T := TX10) (n := 11) (ref := "BallMinder") (v := .int (S2 0 9)) (0) (by omega) rfl rfl 9 (by decide) inX10_fits_X10 (by decide +kernel) (fun _ h9 => h9) rfl dX10_fits_48 ?_
          refine lv_if_ne (tgt := 57) C.1 C.2.1 dX10_fits_51 (by decide) (fun c12 => ?_) (fun c12 => ?_)
          · replace h := h.1 c12
            refine lv_aload C.1 C.2.1 dX10_fits_57 (lv_at hl 0 rfl) ?_
            obtain ⟨hb13, h⟩ := h
            refine c_nums C hW hb13 inX10_fits_X3 inX10_fits_X4 inX10_fits_X7 (ref := "BallMinder$Plain") (by decide +kernel) (fun _ h9 => h9) dX10_fits_59 ?_
            refine lv_iload_n C.1 C.2.1 dX10_fits_62 rfl (lv_at hl 3 rfl) ?_
            obtain ⟨hs14, h⟩ := h
            refine r_iald C hW (cA := cI) (n := 9) (f := S2 (30 + 2 * mi5)) (30 + 2 * mi5) 0 (by omega) (gC_nums mi5) rfl hs14 dX10_fits_63 ?_
            refine lv_topi (fun x6_15 ex6_15 => ?_)
            replace h := h x6_15 ex6_15
            refine lv_istore (lv' := [(6, .int x6_15), (5, .ref (q (29 + 2 * mi5))), (0, .ref (q 0)), (1, .int x1), (2, .int x2), (3, .int x3), (4, .int x4)]) C.1 C.2.1 dX10_fits_64 hl (by decide) rfl (fun ls hl => ?_)
            refine lv_aload_n C.1 C.2.1 dX10_fits_66 rfl (lv_at hl 2 rfl) ?_
            refine r_get C hW (ci := 10) (T := TX10) (n := 11) (ref := "BallMinder") (v := .ref (q 13)) (0) (by omega) rfl rfl 6 (by decide) inX10_fits_X10 (by decide +kernel) (fun _ h9 => h9) rfl dX10_fits_67 ?_
            refine k_v hW (va_runV (As := []) (rest := []) C (mtX1_clear l D q cI cJ cZ cP cS K n H.size  S2 L3 R4 _ h) (cwV 0 C.2.2.2.2 gX10_fits_X1_clear rfl rfl rfl (by decide +kernel) ⟨Nat.le_of_ble_eq_true rfl, Nat.le_of_ble_eq_true rfl⟩) ⟨mP_blind cX_B, va_recv hW.1 hW.2.1 (ci := 1) (q0 := 13) rfl (wL_get (by omega)), fun U hU hV => ⟨rfl, hW.pre hU hV (hX.call hW hU hV)⟩⟩ rfl rfl hl.1 rfl (lv_room (Nat.le_of_ble_eq_true rfl)) dX10_fits_70 ⟨Nat.zero_le _, Nat.zero_le _⟩) (fun u H locs h hW => ?_)
            obtain ⟨S16, L17, R18⟩ := u
            replace hW : hw D (tyC cI cJ cZ cP cS) q (29 + 2 * n) (gC q cI cJ cZ cP cS K n S16 L17 R18) A s H locs := hW
            refine c_stat C hW hX.2.1 (by decide +kernel) dX10_fits_73 (fun t19 hT20 => ?_)
            refine lv_iload_n C.1 C.2.1 dX10_fits_76 rfl (lv_at hl 4 rfl) ?_
            obtain ⟨hs21, h⟩ := h
            refine va_ti C.1 C.2.1 hT20 hW.2.2.2.1 hs21 rfl dX10_fits_77 ?_
            refine lv_topi (fun x7_22 ex7_22 => ?_)
            replace h := h x7_22 ex7_22
            refine lv_istore (lv' := [(7, .int x7_22), (6, .int x6_15), (5, .ref (q (29 + 2 * mi5))), (0, .ref (q 0)), (1, .int x1), (2, .int x2), (3, .int x3), (4, .int x4)]) C.1 C.2.1 dX10_fits_78 hl (by decide) rfl (fun ls hl => ?_)
            obtain ⟨n9, h⟩ := h
            exact sX10_fits_80 C hr hlk hX Q n9 x2 x3 x4 mi5 x6_15 x7_22 S16 L17 R18 _ _ _ h hW (lv_sub hl [3, 5, 6, 7, 2, 1, 0] rfl)
          · replace h := h.2 c12
            refine lv_bipush (v := -3) C.1 C.2.1 dX10_fits_54 (by decide) ?_
            exact t_i C hr hlk (u := (S2, L3, R4)) hW.2.2.2.1 hW.B h dX10_fits_56
        · replace h := h.2 c11
          refine lv_bipush (v := -2) C.1 C.2.1 dX10_fits_44 (by decide) ?_
          exact t_i C hr hlk (u := (S2, L3, R4)) hW.2.2.2.1 hW.B h dX10_fits_46
    · replace h := h.2 c7
      refine lv_iconst (v := -1) C.1 C.2.1 dX10_fits_22 (by decide) ?_
      exact t_i C hr hlk (u := (S2, L3, R4)) hW.2.2.2.1 hW.B h dX10_fits_23
set_option maxRecDepth 100000 in
set_option maxHeartbeats 4000000 in
theorem mtX10_fits (l : Launch) (D : va_G) (q : Nat → Nat) (cI cJ cZ cP cS : ClassId) (K : Nat → Nat) (n : Nat) (sz : Nat) (x1 : Int32) (x2 : Int32) (x3 : Int32) (x4 : Int32) (S : Nat → Nat → Int32) (L : Nat → Int64) (R : Nat → Option Nat) (Q : Int32 → (Nat → Nat → Int32) → (Nat → Int64) → (Nat → Option Nat) → Prop) (h : vX10_fits K n x1 x2 x3 x4 S L R Q) : Met l yX10_fits wsX10_fits rmX10_fits (va_Pc [.ref (q 0), .int x1, .int x2, .int x3, .int x4] (mP D (tyC cI cJ cZ cP cS) q (29 + 2 * n) (gC q cI cJ cZ cP cS K n S L R) sz (cX (aQ q (29 + 2 * n) sz)))) (QCi D q cI cJ cZ cP cS K n Q (aQ q (29 + 2 * n) sz)) 0 0 (aQ q (29 + 2 * n) sz) := by
  refine met_w (cc := cX10_fits) (maxL := 8) (ret := (some .int)) (by decide) rfl (Nat.le_of_ble_eq_true rfl) ?_
  intro p e s m below meth c ls C hr hlk hW hX hnm hl
  exact sX10_fits C hr hlk hX Q x1 x2 x3 x4 S L R _ _ _ h hW hl
theorem inX6_renew_X6 : ∀ w ∈ wsX60, w ∈ wsX6_renew := fun _ h => List.mem_cons_of_mem _ (List.mem_append_right _ h)
abbrev rmX6_renew : Room := { frames := 1, cells := 0, slots := 0, locals := 23 }
def vX6_renew (K : Nat → Nat) (n : Nat) (k : Nat) (x1 : Int32) (x2 : Int32) (S : Nat → Nat → Int32) (L : Nat → Int64) (R : Nat → Option Nat) (Q : (Nat → Nat → Int32) → (Nat → Int64) → (Nat → Option Nat) → Prop) : Prop := ∀ S1 : Nat → Nat → Int32, S1 = va_up S (21 + 2 * k) (upd (S (21 + 2 * k)) 1 (1 : Int32)) → ∀ S2 : Nat → Nat → Int32, S2 = va_up S1 (21 + 2 * k) (upd (S1 (21 + 2 * k)) 2 x1) → ∀ S3 : Nat → Nat → Int32, S3 = va_up S2 (21 + 2 * k) (upd (S2 (21 + 2 * k)) 3 x2) → ∀ S4 : Nat → Nat → Int32, S4 = va_up S3 (22 + 2 * k) (fillF (S3 (22 + 2 * k)) 60 (0 : Int32)) → Q S4 L R
set_option maxRecDepth 100000 in
set_option maxHeartbeats 4000000 in
theorem sX6_renew {p : Program} {l : Launch} {e : Env} {s : State} {m : MethodId} {args : Array Value} {below : List Frame} {meth : Method} {c : Code} {D : va_G} {q : Nat → Nat} {A : Nat → Prop} {cI cJ cZ cP cS : ClassId} {K : Nat → Nat} {n : Nat} (C : CallFix p m c cX6_renew 3 s args wsX6_renew RX6) (hr : meth.sig.returnType = none) (hlk : meth.locks = false) (hX : cX A s) (k : Nat) (hk : k < 4) (Q : (Nat → Nat → Int32) → (Nat → Int64) → (Nat → Option Nat) → Prop) : ∀ (x1 : Int32) (x2 : Int32) (S : Nat → Nat → Int32) (L : Nat → Int64) (R : Nat → Option Nat) (H : Heap) (locs : List Loc) (ls : Array Slot), vX6_renew K n k x1 x2 S L R Q → hw D (tyC cI cJ cZ cP cS) q (29 + 2 * n) (gC q cI cJ cZ cP cS K n S L R) A s H locs → lv_has ls 3 [(0, .ref (q (21 + 2 * k))), (1, .int x1), (2, .int x2)] → W p l e (headSpec wsX6_renew rmX6_renew).room s m args below meth c H locs 0 0 (MQ below (QCv D q cI cJ cZ cP cS K n Q A) args s 0 0 A) (F0 m 0 ls []) := by
  intro x1 x2 S L R H locs ls h hW hl
  unfold vX6_renew at h
  refine lv_aload_n C.1 C.2.1 dX6_renew_0 rfl (lv_at hl 0 rfl) ?_
  refine lv_iconst (v := 1) C.1 C.2.1 dX6_renew_1 (by decide) ?_
  refine r_put C hW (ci := 6) (T := TX6) (n := 4) (ref := "BallMinder$Sheet") (21 + 2 * k) (by omega) (gC_sheet hk) rfl 1 (by decide) inX6_renew_X6 tyX6 tyX6_ok nmX6 (by decide +kernel) (fun _ h9 => h9) rfl rfl rfl (Nat.le_of_ble_eq_true rfl) dX6_renew_2 (fun H locs hW => ?_)
  replace hW := gC_put (F := upd (S (21 + 2 * k)) 1 (1 : Int32)) (by rw [gC_sheet hk, va_up_self]; rfl) hW
  obtain ⟨S1, eS1⟩ : ∃ z : Nat → Nat → Int32, z = va_up S (21 + 2 * k) (upd (S (21 + 2 * k)) 1 (1 : Int32)) := ⟨_, rfl⟩
  rw [← eS1] at hW
  replace h := h S1 eS1
  refine lv_aload_n C.1 C.2.1 dX6_renew_5 rfl (lv_at hl 0 rfl) ?_
  refine lv_iload_n C.1 C.2.1 dX6_renew_6 rfl (lv_at hl 1 rfl) ?_
  refine r_put C hW (ci := 6) (T := TX6) (n := 4) (ref := "BallMinder$Sheet") (21 + 2 * k) (by omega) (gC_sheet hk) rfl 2 (by decide) inX6_renew_X6 tyX6 tyX6_ok nmX6 (by decide +kernel) (fun _ h9 => h9) rfl rfl rfl (Nat.le_of_ble_eq_true rfl) dX6_renew_7 (fun H locs hW => ?_)
  replace hW := gC_put (F := upd (S1 (21 + 2 * k)) 2 x1) (by rw [gC_sheet hk, va_up_self]; rfl) hW
  obtain ⟨S2, eS2⟩ : ∃ z : Nat → Nat → Int32, z = va_up S1 (21 + 2 * k) (upd (S1 (21 + 2 * k)) 2 x1) := ⟨_, rfl⟩
  rw [← eS2] at hW
  replace h := h S2 eS2
  refine lv_aload_n C.1 C.2.1 dX6_renew_10 rfl (lv_at hl 0 rfl) ?_
  refine lv_iload_n C.1 C.2.1 dX6_renew_11 rfl (lv_at hl 2 rfl) ?_
  refine r_put C hW (ci := 6) (T := TX6) (n := 4) (ref := "BallMinder$Sheet") (21 + 2 * k) (by omega) (gC_sheet hk) rfl 3 (by decide) inX6_renew_X6 tyX6 tyX6_ok nmX6 (by decide +kernel) (fun _ h9 => h9) rfl rfl rfl (Nat.le_of_ble_eq_true rfl) dX6_renew_12 (fun H locs hW => ?_)
  replace hW := gC_put (F := upd (S2 (21 + 2 * k)) 3 x2) (by rw [gC_sheet hk, va_up_self]; rfl) hW
  obtain ⟨S3, eS3⟩ : ∃ z : Nat → Nat → Int32, z = va_up S2 (21 + 2 * k) (upd (S2 (21 + 2 * k)) 3 x2) := ⟨_, rfl⟩
  rw [← eS3] at hW
  replace h := h S3 eS3
  refine lv_aload_n C.1 C.2.1 dX6_renew_15 rfl (lv_at hl 0 rfl) ?_
  refine r_get C hW (ci := 6) (T := TX6) (n := 4) (ref := "BallMinder$Sheet") (v := .ref (q (22 + 2 * k))) (21 + 2 * k) (by omega) (gC_sheet hk) rfl 0 (by decide) inX6_renew_X6 (by decide +kernel) (fun _ h9 => h9) rfl dX6_renew_16 ?_
  refine lv_iconst (v := 0) C.1 C.2.1 dX6_renew_19 (by decide) ?_
  refine c_fill C hW (i := 22 + 2 * k) (mm := 60) (v := (0 : Int32)) (by omega) (fun _ => gC_cells hk) (by decide) gX6_renew_J7_fill_53178 ⟨Nat.le_of_ble_eq_true rfl, Nat.le_of_ble_eq_true rfl⟩ hl.1 (lv_room (Nat.le_of_ble_eq_true rfl)) dX6_renew_20 (fun H locs hW => ?_)
  obtain ⟨S4, eS4⟩ : ∃ z : Nat → Nat → Int32, z = va_up S3 (22 + 2 * k) (fillF (S3 (22 + 2 * k)) 60 (0 : Int32)) := ⟨_, rfl⟩
  rw [← eS4] at hW
  replace h := h S4 eS4
  exact t_v C hr hlk (u := (S4, L, R)) hW.2.2.2.1 hW.B h dX6_renew_23
set_option maxRecDepth 100000 in
set_option maxHeartbeats 4000000 in
theorem mtX6_renew (l : Launch) (D : va_G) (q : Nat → Nat) (cI cJ cZ cP cS : ClassId) (K : Nat → Nat) (n : Nat) (k : Nat) (hk : k < 4) (sz : Nat) (x1 : Int32) (x2 : Int32) (S : Nat → Nat → Int32) (L : Nat → Int64) (R : Nat → Option Nat) (Q : (Nat → Nat → Int32) → (Nat → Int64) → (Nat → Option Nat) → Prop) (h : vX6_renew K n k x1 x2 S L R Q) : Met l yX6_renew wsX6_renew rmX6_renew (va_Pc [.ref (q (21 + 2 * k)), .int x1, .int x2] (mP D (tyC cI cJ cZ cP cS) q (29 + 2 * n) (gC q cI cJ cZ cP cS K n S L R) sz (cX (aQ q (29 + 2 * n) sz)))) (QCv D q cI cJ cZ cP cS K n Q (aQ q (29 + 2 * n) sz)) 0 0 (aQ q (29 + 2 * n) sz) := by
  refine met_w (cc := cX6_renew) (maxL := 3) (ret := none) (by decide) rfl (Nat.le_of_ble_eq_true rfl) ?_
  intro p e s m below meth c ls C hr hlk hW hX hnm hl
  exact sX6_renew C hr hlk hX k hk Q x1 x2 S L R _ _ _ h hW hl
theorem inX10_sheet_X10 : ∀ w ∈ wsX100, w ∈ wsX10_sheet := fun _ h => List.mem_cons_of_mem _ (List.mem_append_left _ (List.mem_append_right _ h))
theorem inX10_sheet_X6 : ∀ w ∈ wsX60, w ∈ wsX10_sheet := fun _ h => List.mem_cons_of_mem _ (List.mem_append_right _ h)
abbrev rmX10_sheet : Room := { frames := 2, cells := 0, slots := 0, locals := 45 }
def vX10_sheet (K : Nat → Nat) (n : Nat) (x1 : Int32) (x2 : Int32) (x3 : Int32) (S : Nat → Nat → Int32) (L : Nat → Int64) (R : Nat → Option Nat) (Q : Int32 → (Nat → Nat → Int32) → (Nat → Int64) → (Nat → Option Nat) → Prop) : Prop := ∀ S1 : Nat → Nat → Int32, S1 = va_up S 0 (upd (S 0) 10 (0 : Int32)) → vX10_sheetOf K n x1 S1 L R (fun o2 S3 L4 R5 => (o2 = none → Q (-1 : Int32) S3 L4 R5) ∧ (∀ mi6 : Nat, o2 = some mi6 → vX10_within x2 (0 : Int32) (2 : Int32) (fun r7 => (r7 = 0 → Q (-2 : Int32) S3 L4 R5) ∧ (¬ (r7 = 0) → (x3 ≤ (60 : Int32) → (0 ≤ x3 → mi6 < 4 ∧ (vX6_renew K n mi6 x2 x3 S3 L4 R5 (fun S11 L12 R13 => Q (1 : Int32) S11 L12 R13))) ∧ (¬ (0 ≤ x3) → vX10_faulted K n (4 : Int32) S3 L4 R5 (fun r15 S16 L17 R18 => Q r15 S16 L17 R18))) ∧ (¬ (x3 ≤ (60 : Int32)) → Q (-2 : Int32) S3 L4 R5)))))
set_option maxRecDepth 100000 in
set_option maxHeartbeats 4000000 in
theorem sX10_sheet {p : Program} {l : Launch} {e : Env} {s : State} {m : MethodId} {args : Array Value} {below : List Frame} {meth : Method} {c : Code} {D : va_G} {q : Nat → Nat} {A : Nat → Prop} {cI cJ cZ cP cS : ClassId} {K : Nat → Nat} {n : Nat} (C : CallFix p m c cX10_sheet 5 s args wsX10_sheet RX10) (hr : meth.sig.returnType = (some .int)) (hlk : meth.locks = false) (hX : cX A s) (Q : Int32 → (Nat → Nat → Int32) → (Nat → Int64) → (Nat → Option Nat) → Prop) : ∀ (x1 : Int32) (x2 : Int32) (x3 : Int32) (S : Nat → Nat → Int32) (L : Nat → Int64) (R : Nat → Option Nat) (H : Heap) (locs : List Loc) (ls : Array Slot), vX10_sheet K n x1 x2 x3 S L R Q → hw D (tyC cI cJ cZ cP cS) q (29 + 2 * n) (gC q cI cJ cZ cP cS K n S L R) A s H locs → lv_has ls 5 [(0, .ref (q 0)), (1, .int x1), (2, .int x2), (3, .int x3)] → W p l e (headSpec wsX10_sheet rmX10_sheet).room s m args below meth c H locs 0 0 (MQ below (QCi D q cI cJ cZ cP cS K n Q A) args s 0 0 A) (F0 m 0 ls []) := by
  intro x1 x2 x3 S L R H locs ls h hW hl
  unfold vX10_sheet at h
  refine lv_aload_n C.1 C.2.1 dX10_sheet_0 rfl (lv_at hl 0 rfl) ?_
  refine lv_iconst (v := 0) C.1 C.2.1 dX10_sheet_1 (by decide) ?_
  refine r_put C hW (ci := 10) (T := TX10) (n := 11) (ref := "BallMinder") (0) (by omega) rfl rfl 10 (by decide) inX10_sheet_X10 tyX10 tyX10_ok nmX10 (by decide +kernel) (fun _ h9 => h9) rfl rfl rfl (Nat.le_of_ble_eq_true rfl) dX10_sheet_2 (fun H locs hW => ?_)
  replace hW := gC_put (F := upd (S 0) 10 (0 : Int32)) rfl hW
  obtain ⟨S1, eS1⟩ : ∃ z : Nat → Nat → Int32, z = va_up S 0 (upd (S 0) 10 (0 : Int32)) := ⟨_, rfl⟩
  rw [← eS1] at hW
  replace h := h S1 eS1
  refine lv_aload_n C.1 C.2.1 dX10_sheet_5 rfl (lv_at hl 0 rfl) ?_
  refine lv_iload_n C.1 C.2.1 dX10_sheet_6 rfl (lv_at hl 1 rfl) ?_
  refine k_q hW (va_runV (As := [.int x1]) (rest := []) C (mtX10_sheetOf l D q cI cJ cZ cP cS K n H.size x1 S1 L R _ h) (cwV 1 C.2.2.2.2 gX10_sheet_X10_sheetOf rfl rfl rfl (by decide +kernel) ⟨Nat.le_of_ble_eq_true rfl, Nat.le_of_ble_eq_true rfl⟩) ⟨mP_blind cX_B, va_recv hW.1 hW.2.1 (ci := 10) (q0 := 0) rfl (wL_get (by omega)), fun U hU hV => ⟨rfl, hW.pre hU hV (hX.call hW hU hV)⟩⟩ rfl rfl hl.1 rfl (lv_room (Nat.le_of_ble_eq_true rfl)) dX10_sheet_7 ⟨Nat.zero_le _, Nat.zero_le _⟩) (fun r9 u H locs h hW => ?_)
  obtain ⟨S3, L4, R5⟩ := u
  obtain ⟨o2, rfl, h⟩ := h
  replace hW : hw D (tyC cI cJ cZ cP cS) q (29 + 2 * n) (gC q cI cJ cZ cP cS K n S3 L4 R5) A s H locs := hW
  refine cv_astore (lv' := [(4, va_rf (Option.map (qS q) o2)), (0, .ref (q 0)), (1, .int x1), (2, .int x2), (3, .int x3)]) C.1 C.2.1 dX10_sheet_10 hl (by decide) rfl (fun ls hl => ?_)
  refine cv_aload C.1 C.2.1 dX10_sheet_12 (lv_at hl 0 rfl) ?_
  rcases o2 with _ | mi6
  · replace h := h.1 rfl
    replace hl : lv_has ls 5 [(4, .null), (0, .ref (q 0)), (1, .int x1), (2, .int x2), (3, .int x3)] := hl
    refine lv_ifnonnullN C.1 C.2.1 dX10_sheet_14 ?_
    refine lv_iconst (v := -1) C.1 C.2.1 dX10_sheet_17 (by decide) ?_
    exact t_i C hr hlk (u := (S3, L4, R5)) hW.2.2.2.1 hW.B h dX10_sheet_18
  · replace h := h.2 mi6 rfl
    replace hl : lv_has ls 5 [(4, .ref (q (21 + 2 * mi6))), (0, .ref (q 0)), (1, .int x1), (2, .int x2), (3, .int x3)] := hl
    refine lv_ifnonnull (tgt := 19) C.1 C.2.1 dX10_sheet_14 (by decide) ?_
    refine lv_iload_n C.1 C.2.1 dX10_sheet_19 rfl (lv_at hl 3 rfl) ?_
    refine lv_iconst (v := 0) C.1 C.2.1 dX10_sheet_20 (by decide) ?_
    refine lv_iconst (v := 2) C.1 C.2.1 dX10_sheet_21 (by decide) ?_
    refine k_pi hW (va_runS (As := [.int x2, .int (0 : Int32), .int (2 : Int32)]) (rest := []) C (mtX10_within l D q _ H.size x2 (0 : Int32) (2 : Int32) _ h) (va_cwS 3 C.2.2.2.2 gX10_sheet_X10_within rfl rfl rfl (by decide +kernel) ⟨Nat.le_of_ble_eq_true rfl, Nat.le_of_ble_eq_true rfl⟩) ⟨mP_blind tX_B, fun U hU hV => ⟨rfl, hW.pre0 hU hV trivial⟩⟩ rfl rfl hl.1 rfl (lv_room (Nat.le_of_ble_eq_true rfl)) dX10_sheet_22 ⟨Nat.zero_le _, Nat.zero_le _⟩) (fun r7 H locs h hW => ?_)
    refine lv_if_eq (tgt := 34) C.1 C.2.1 dX10_sheet_25 (by decide) (fun c8 => ?_) (fun c8 => ?_)
    · replace h := h.1 c8
      refine lv_bipush (v := -2) C.1 C.2.1 dX10_sheet_34 (by decide) ?_
      exact t_i C hr hlk (u := (S3, L4, R5)) hW.2.2.2.1 hW.B h dX10_sheet_36
    · replace h := h.2 c8
      refine lv_iload_n C.1 C.2.1 dX10_sheet_28 rfl (lv_at hl 4 rfl) ?_
      refine lv_bipush (v := 60) C.1 C.2.1 dX10_sheet_29 (by decide) ?_
      refine lv_icmp_le (tgt := 37) C.1 C.2.1 dX10_sheet_31 (by decide) (fun c9 => ?_) (fun c9 => ?_)
      · replace h := h.1 c9
        refine lv_iload_n C.1 C.2.1 dX10_sheet_37 rfl (lv_at hl 4 rfl) ?_
        refine lv_if_ge (tgt := 47) C.1 C.2.1 dX10_sheet_38 (by decide) (fun c10 => ?_) (fun c10 => ?_)
        · replace h := h.1 c10
          refine lv_aload C.1 C.2.1 dX10_sheet_47 (lv_at hl 0 rfl) ?_
          refine lv_iload_n C.1 C.2.1 dX10_sheet_49 rfl (lv_at hl 3 rfl) ?_
          refine lv_iload_n C.1 C.2.1 dX10_sheet_50 rfl (lv_at hl 4 rfl) ?_
          obtain ⟨hb14, h⟩ := h
          refine k_v hW (va_runV (As := [.int x2, .int x3]) (rest := []) C (mtX6_renew l D q cI cJ cZ cP cS K n mi6 hb14 H.size x2 x3 S3 L4 R5 _ h) (cwV 2 C.2.2.2.2 gX10_sheet_X6_renew rfl rfl rfl (by decide +kernel) ⟨Nat.le_of_ble_eq_true rfl, Nat.le_of_ble_eq_true rfl⟩) ⟨mP_blind cX_B, va_recv hW.1 hW.2.1 (ci := 6) (q0 := 21 + 2 * mi6) rfl (by rw [wL_get (by omega), gC_sheet hb14]), fun U hU hV => ⟨rfl, hW.pre hU hV (hX.call hW hU hV)⟩⟩ rfl rfl hl.1 rfl (lv_room (Nat.le_of_ble_eq_true rfl)) dX10_sheet_51 ⟨Nat.zero_le _, Nat.zero_le _⟩) (fun u H locs h hW => ?_)
          obtain ⟨S11, L12, R13⟩ := u
          replace hW : hw D (tyC cI cJ cZ cP cS) q (29 + 2 * n) (gC q cI cJ cZ cP cS K n S11 L12 R13) A s H locs := hW
          refine lv_iconst (v := 1) C.1 C.2.1 dX10_sheet_54 (by decide) ?_
          exact t_i C hr hlk (u := (S11, L12, R13)) hW.2.2.2.1 hW.B h dX10_sheet_55
        · replace h := h.2 c10
          refine lv_aload_n C.1 C.2.1 dX10_sheet_41 rfl (lv_at hl 1 rfl) ?_
          refine lv_iconst (v := 4) C.1 C.2.1 dX10_sheet_42 (by decide) ?_
          refine k_i hW (va_runV (As := [.int (4 : Int32)]) (rest := []) C (mtX10_faulted l D q cI cJ cZ cP cS K n H.size (4 : Int32) S3 L4 R5 _ h) (cwV 1 C.2.2.2.2 gX10_sheet_X10_faulted rfl rfl rfl (by decide +kernel) ⟨Nat.le_of_ble_eq_true rfl, Nat.le_of_ble_eq_true rfl⟩) ⟨mP_blind cX_B, va_recv hW.1 hW.2.1 (ci := 10) (q0 := 0) rfl (wL_get (by omega)), fun U hU hV => ⟨rfl, hW.pre hU hV (hX.call hW hU hV)⟩⟩ rfl rfl hl.1 rfl (lv_room (Nat.le_of_ble_eq_true rfl)) dX10_sheet_43 ⟨Nat.zero_le _, Nat.zero_le _⟩) (fun r15 u H locs h hW => ?_)
          obtain ⟨S16, L17, R18⟩ := u
          replace hW : hw D (tyC cI cJ cZ cP cS) q (29 + 2 * n) (gC q cI cJ cZ cP cS K n S16 L17 R18) A s H locs := hW
          exact t_i C hr hlk (u := (S16, L17, R18)) hW.2.2.2.1 hW.B h dX10_sheet_46
      · replace h := h.2 c9
        refine lv_bipush (v := -2) C.1 C.2.1 dX10_sheet_34 (by decide) ?_
        exact t_i C hr hlk (u := (S3, L4, R5)) hW.2.2.2.1 hW.B h dX10_sheet_36
set_option maxRecDepth 100000 in
set_option maxHeartbeats 4000000 in
theorem mtX10_sheet (l : Launch) (D : va_G) (q : Nat → Nat) (cI cJ cZ cP cS : ClassId) (K : Nat → Nat) (n : Nat) (sz : Nat) (x1 : Int32) (x2 : Int32) (x3 : Int32) (S : Nat → Nat → Int32) (L : Nat → Int64) (R : Nat → Option Nat) (Q : Int32 → (Nat → Nat → Int32) → (Nat → Int64) → (Nat → Option Nat) → Prop) (h : vX10_sheet K n x1 x2 x3 S L R Q) : Met l yX10_sheet wsX10_sheet rmX10_sheet (va_Pc [.ref (q 0), .int x1, .int x2, .int x3] (mP D (tyC cI cJ cZ cP cS) q (29 + 2 * n) (gC q cI cJ cZ cP cS K n S L R) sz (cX (aQ q (29 + 2 * n) sz)))) (QCi D q cI cJ cZ cP cS K n Q (aQ q (29 + 2 * n) sz)) 0 0 (aQ q (29 + 2 * n) sz) := by
  refine met_w (cc := cX10_sheet) (maxL := 5) (ret := (some .int)) (by decide) rfl (Nat.le_of_ble_eq_true rfl) ?_
  intro p e s m below meth c ls C hr hlk hW hX hnm hl
  exact sX10_sheet C hr hlk hX Q x1 x2 x3 S L R _ _ _ h hW hl
theorem inX10_lose_X6 : ∀ w ∈ wsX60, w ∈ wsX10_lose := fun _ h => List.mem_cons_of_mem _ (List.mem_append_left _ (List.mem_append_right _ h))
theorem inX10_lose_X10 : ∀ w ∈ wsX100, w ∈ wsX10_lose := fun _ h => List.mem_cons_of_mem _ (List.mem_append_right _ h)
abbrev rmX10_lose : Room := { frames := 2, cells := 0, slots := 0, locals := 43 }
def vX10_lose (K : Nat → Nat) (n : Nat) (x1 : Int32) (S : Nat → Nat → Int32) (L : Nat → Int64) (R : Nat → Option Nat) (Q : Int32 → (Nat → Nat → Int32) → (Nat → Int64) → (Nat → Option Nat) → Prop) : Prop := vX10_sheetOf K n x1 S L R (fun o1 S2 L3 R4 => (o1 = none → Q (-1 : Int32) S2 L3 R4) ∧ (∀ mi5 : Nat, o1 = some mi5 → mi5 < 4 ∧ (∀ x3_7 : Int32, x3_7 = S2 (21 + 2 * mi5) 1 → ∀ S8 : Nat → Nat → Int32, S8 = va_up S2 (21 + 2 * mi5) (upd (S2 (21 + 2 * mi5)) 1 (0 : Int32)) → (x3_7 = 0 → Q (0 : Int32) S8 L3 R4) ∧ (¬ (x3_7 = 0) → Q (1 : Int32) S8 L3 R4))))
set_option maxRecDepth 100000 in
set_option maxHeartbeats 4000000 in
theorem sX10_lose {p : Program} {l : Launch} {e : Env} {s : State} {m : MethodId} {args : Array Value} {below : List Frame} {meth : Method} {c : Code} {D : va_G} {q : Nat → Nat} {A : Nat → Prop} {cI cJ cZ cP cS : ClassId} {K : Nat → Nat} {n : Nat} (C : CallFix p m c cX10_lose 4 s args wsX10_lose RX10) (hr : meth.sig.returnType = (some .int)) (hlk : meth.locks = false) (hX : cX A s) (Q : Int32 → (Nat → Nat → Int32) → (Nat → Int64) → (Nat → Option Nat) → Prop) : ∀ (x1 : Int32) (S : Nat → Nat → Int32) (L : Nat → Int64) (R : Nat → Option Nat) (H : Heap) (locs : List Loc) (ls : Array Slot), vX10_lose K n x1 S L R Q → hw D (tyC cI cJ cZ cP cS) q (29 + 2 * n) (gC q cI cJ cZ cP cS K n S L R) A s H locs → lv_has ls 4 [(0, .ref (q 0)), (1, .int x1)] → W p l e (headSpec wsX10_lose rmX10_lose).room s m args below meth c H locs 0 0 (MQ below (QCi D q cI cJ cZ cP cS K n Q A) args s 0 0 A) (F0 m 0 ls []) := by
  intro x1 S L R H locs ls h hW hl
  unfold vX10_lose at h
  refine lv_aload_n C.1 C.2.1 dX10_lose_0 rfl (lv_at hl 0 rfl) ?_
  refine lv_iload_n C.1 C.2.1 dX10_lose_1 rfl (lv_at hl 1 rfl) ?_
  refine k_q hW (va_runV (As := [.int x1]) (rest := []) C (mtX10_sheetOf l D q cI cJ cZ cP cS K n H.size x1 S L R _ h) (cwV 1 C.2.2.2.2 gX10_lose_X10_sheetOf rfl rfl rfl (by decide +kernel) ⟨Nat.le_of_ble_eq_true rfl, Nat.le_of_ble_eq_true rfl⟩) ⟨mP_blind cX_B, va_recv hW.1 hW.2.1 (ci := 10) (q0 := 0) rfl (wL_get (by omega)), fun U hU hV => ⟨rfl, hW.pre hU hV (hX.call hW hU hV)⟩⟩ rfl rfl hl.1 rfl (lv_room (Nat.le_of_ble_eq_true rfl)) dX10_lose_2 ⟨Nat.zero_le _, Nat.zero_le _⟩) (fun r9 u H locs h hW => ?_)
  obtain ⟨S2, L3, R4⟩ := u
  obtain ⟨o1, rfl, h⟩ := h
  replace hW : hw D (tyC cI cJ cZ cP cS) q (29 + 2 * n) (gC q cI cJ cZ cP cS K n S2 L3 R4) A s H locs := hW
  refine cv_astore_n (lv' := [(2, va_rf (Option.map (qS q) o1)), (0, .ref (q 0)), (1, .int x1)]) C.1 C.2.1 dX10_lose_5 rfl hl (by decide) rfl (fun ls hl => ?_)
  refine cv_aload_n C.1 C.2.1 dX10_lose_6 rfl (lv_at hl 0 rfl) ?_
  rcases o1 with _ | mi5
  · replace h := h.1 rfl
    replace hl : lv_has ls 4 [(2, .null), (0, .ref (q 0)), (1, .int x1)] := hl
    refine lv_ifnonnullN C.1 C.2.1 dX10_lose_7 ?_
    refine lv_iconst (v := -1) C.1 C.2.1 dX10_lose_10 (by decide) ?_
    exact t_i C hr hlk (u := (S2, L3, R4)) hW.2.2.2.1 hW.B h dX10_lose_11
  · replace h := h.2 mi5 rfl
    replace hl : lv_has ls 4 [(2, .ref (q (21 + 2 * mi5))), (0, .ref (q 0)), (1, .int x1)] := hl
    refine lv_ifnonnull (tgt := 12) C.1 C.2.1 dX10_lose_7 (by decide) ?_
    refine lv_aload_n C.1 C.2.1 dX10_lose_12 rfl (lv_at hl 0 rfl) ?_
    obtain ⟨hb6, h⟩ := h
    refine r_getN C hW (ci := 6) (T := TX6) (n := 4) (ref := "BallMinder$Sheet") (host := "BallMinder") (v := .int (S2 (21 + 2 * mi5) 1)) (21 + 2 * mi5) (by omega) (gC_sheet hb6) rfl 1 (by decide) inX10_lose_X6 (hX.1 _ (by decide +kernel)) (fun _ h9 => h9) rfl dX10_lose_13 ?_
    refine lv_topi (fun x3_7 ex3_7 => ?_)
    replace h := h x3_7 ex3_7
    refine lv_istore_n (lv' := [(3, .int x3_7), (2, .ref (q (21 + 2 * mi5))), (0, .ref (q 0)), (1, .int x1)]) C.1 C.2.1 dX10_lose_16 rfl hl (by decide) rfl (fun ls hl => ?_)
    refine lv_aload_n C.1 C.2.1 dX10_lose_17 rfl (lv_at hl 1 rfl) ?_
    refine lv_iconst (v := 0) C.1 C.2.1 dX10_lose_18 (by decide) ?_
    refine r_putN C hW (ci := 6) (T := TX6) (n := 4) (ref := "BallMinder$Sheet") (host := "BallMinder") (21 + 2 * mi5) (by omega) (gC_sheet hb6) rfl 1 (by decide) inX10_lose_X6 tyX6 tyX6_ok nmX6 (hX.1 _ (by decide +kernel)) (fun _ h9 => h9) rfl rfl rfl (Nat.le_of_ble_eq_true rfl) dX10_lose_19 (fun H locs hW => ?_)
    replace hW := gC_put (F := upd (S2 (21 + 2 * mi5)) 1 (0 : Int32)) (by rw [gC_sheet hb6, va_up_self]; rfl) hW
    obtain ⟨S8, eS8⟩ : ∃ z : Nat → Nat → Int32, z = va_up S2 (21 + 2 * mi5) (upd (S2 (21 + 2 * mi5)) 1 (0 : Int32)) := ⟨_, rfl⟩
    rw [← eS8] at hW
    replace h := h S8 eS8
    refine lv_iload_n C.1 C.2.1 dX10_lose_22 rfl (lv_at hl 0 rfl) ?_
    refine lv_if_eq (tgt := 30) C.1 C.2.1 dX10_lose_23 (by decide) (fun c9 => ?_) (fun c9 => ?_)
    · replace h := h.1 c9
      refine lv_iconst (v := 0) C.1 C.2.1 dX10_lose_30 (by decide) ?_
      exact t_i C hr hlk (u := (S8, L3, R4)) hW.2.2.2.1 hW.B h dX10_lose_31
    · replace h := h.2 c9
      refine lv_iconst (v := 1) C.1 C.2.1 dX10_lose_26 (by decide) ?_
      refine lv_goto (tgt := 31) C.1 C.2.1 dX10_lose_27 (by decide) ?_
      exact t_i C hr hlk (u := (S8, L3, R4)) hW.2.2.2.1 hW.B h dX10_lose_31
set_option maxRecDepth 100000 in
set_option maxHeartbeats 4000000 in
theorem mtX10_lose (l : Launch) (D : va_G) (q : Nat → Nat) (cI cJ cZ cP cS : ClassId) (K : Nat → Nat) (n : Nat) (sz : Nat) (x1 : Int32) (S : Nat → Nat → Int32) (L : Nat → Int64) (R : Nat → Option Nat) (Q : Int32 → (Nat → Nat → Int32) → (Nat → Int64) → (Nat → Option Nat) → Prop) (h : vX10_lose K n x1 S L R Q) : Met l yX10_lose wsX10_lose rmX10_lose (va_Pc [.ref (q 0), .int x1] (mP D (tyC cI cJ cZ cP cS) q (29 + 2 * n) (gC q cI cJ cZ cP cS K n S L R) sz (cX (aQ q (29 + 2 * n) sz)))) (QCi D q cI cJ cZ cP cS K n Q (aQ q (29 + 2 * n) sz)) 0 0 (aQ q (29 + 2 * n) sz) := by
  refine met_w (cc := cX10_lose) (maxL := 4) (ret := (some .int)) (by decide) rfl (Nat.le_of_ble_eq_true rfl) ?_
  intro p e s m below meth c ls C hr hlk hW hX hnm hl
  exact sX10_lose C hr hlk hX Q x1 S L R _ _ _ h hW hl
theorem inX6_cut_X6 : ∀ w ∈ wsX60, w ∈ wsX6_cut := fun _ h => List.mem_cons_of_mem _ (List.mem_append_right _ h)
abbrev rmX6_cut : Room := { frames := 0, cells := 0, slots := 0, locals := 0 }
def vX6_cut (K : Nat → Nat) (n : Nat) (k : Nat) (x1 : Int32) (S : Nat → Nat → Int32) (L : Nat → Int64) (R : Nat → Option Nat) (Q : Int32 → (Nat → Nat → Int32) → (Nat → Int64) → (Nat → Option Nat) → Prop) : Prop := (¬ (S (21 + 2 * k) 2) = 0 → (¬ (S (21 + 2 * k) 2) = (1 : Int32) → Q x1 S L R) ∧ ((S (21 + 2 * k) 2) = (1 : Int32) → Q x1.toInt16.toInt32 S L R)) ∧ ((S (21 + 2 * k) 2) = 0 → Q x1.toInt8.toInt32 S L R)
set_option maxRecDepth 100000 in
set_option maxHeartbeats 4000000 in
theorem sX6_cut {p : Program} {l : Launch} {e : Env} {s : State} {m : MethodId} {args : Array Value} {below : List Frame} {meth : Method} {c : Code} {D : va_G} {q : Nat → Nat} {A : Nat → Prop} {cI cJ cZ cP cS : ClassId} {K : Nat → Nat} {n : Nat} (C : CallFix p m c cX6_cut 2 s args wsX6_cut RX6) (hr : meth.sig.returnType = (some .int)) (hlk : meth.locks = false) (hX : cX A s) (k : Nat) (hk : k < 4) (Q : Int32 → (Nat → Nat → Int32) → (Nat → Int64) → (Nat → Option Nat) → Prop) : ∀ (x1 : Int32) (S : Nat → Nat → Int32) (L : Nat → Int64) (R : Nat → Option Nat) (H : Heap) (locs : List Loc) (ls : Array Slot), vX6_cut K n k x1 S L R Q → hw D (tyC cI cJ cZ cP cS) q (29 + 2 * n) (gC q cI cJ cZ cP cS K n S L R) A s H locs → lv_has ls 2 [(0, .ref (q (21 + 2 * k))), (1, .int x1)] → W p l e (headSpec wsX6_cut rmX6_cut).room s m args below meth c H locs 0 0 (MQ below (QCi D q cI cJ cZ cP cS K n Q A) args s 0 0 A) (F0 m 0 ls []) := by
  intro x1 S L R H locs ls h hW hl
  unfold vX6_cut at h
  refine lv_aload_n C.1 C.2.1 dX6_cut_0 rfl (lv_at hl 0 rfl) ?_
  refine r_get C hW (ci := 6) (T := TX6) (n := 4) (ref := "BallMinder$Sheet") (v := .int (S (21 + 2 * k) 2)) (21 + 2 * k) (by omega) (gC_sheet hk) rfl 2 (by decide) inX6_cut_X6 (by decide +kernel) (fun _ h9 => h9) rfl dX6_cut_1 ?_
  refine lv_if_ne (tgt := 10) C.1 C.2.1 dX6_cut_4 (by decide) (fun c1 => ?_) (fun c1 => ?_)
  · replace h := h.1 c1
    refine lv_aload_n C.1 C.2.1 dX6_cut_10 rfl (lv_at hl 0 rfl) ?_
    refine r_get C hW (ci := 6) (T := TX6) (n := 4) (ref := "BallMinder$Sheet") (v := .int (S (21 + 2 * k) 2)) (21 + 2 * k) (by omega) (gC_sheet hk) rfl 2 (by decide) inX6_cut_X6 (by decide +kernel) (fun _ h9 => h9) rfl dX6_cut_11 ?_
    refine lv_iconst (v := 1) C.1 C.2.1 dX6_cut_14 (by decide) ?_
    refine lv_icmp_ne (tgt := 23) C.1 C.2.1 dX6_cut_15 (by decide) (fun c2 => ?_) (fun c2 => ?_)
    · replace h := h.1 c2
      refine lv_iload_n C.1 C.2.1 dX6_cut_23 rfl (lv_at hl 1 rfl) ?_
      exact t_i C hr hlk (u := (S, L, R)) hW.2.2.2.1 hW.B h dX6_cut_24
    · replace h := h.2 c2
      refine lv_iload_n C.1 C.2.1 dX6_cut_18 rfl (lv_at hl 1 rfl) ?_
      refine lv_i2s C.1 C.2.1 dX6_cut_19 rfl ?_
      refine lv_goto (tgt := 24) C.1 C.2.1 dX6_cut_20 (by decide) ?_
      exact t_i C hr hlk (u := (S, L, R)) hW.2.2.2.1 hW.B h dX6_cut_24
  · replace h := h.2 c1
    refine lv_iload_n C.1 C.2.1 dX6_cut_7 rfl (lv_at hl 1 rfl) ?_
    refine lv_i2b C.1 C.2.1 dX6_cut_8 rfl ?_
    exact t_i C hr hlk (u := (S, L, R)) hW.2.2.2.1 hW.B h dX6_cut_9
set_option maxRecDepth 100000 in
set_option maxHeartbeats 4000000 in
theorem mtX6_cut (l : Launch) (D : va_G) (q : Nat → Nat) (cI cJ cZ cP cS : ClassId) (K : Nat → Nat) (n : Nat) (k : Nat) (hk : k < 4) (sz : Nat) (x1 : Int32) (S : Nat → Nat → Int32) (L : Nat → Int64) (R : Nat → Option Nat) (Q : Int32 → (Nat → Nat → Int32) → (Nat → Int64) → (Nat → Option Nat) → Prop) (h : vX6_cut K n k x1 S L R Q) : Met l yX6_cut wsX6_cut rmX6_cut (va_Pc [.ref (q (21 + 2 * k)), .int x1] (mP D (tyC cI cJ cZ cP cS) q (29 + 2 * n) (gC q cI cJ cZ cP cS K n S L R) sz (cX (aQ q (29 + 2 * n) sz)))) (QCi D q cI cJ cZ cP cS K n Q (aQ q (29 + 2 * n) sz)) 0 0 (aQ q (29 + 2 * n) sz) := by
  refine met_w (cc := cX6_cut) (maxL := 2) (ret := (some .int)) (by decide) rfl (Nat.le_of_ble_eq_true rfl) ?_
  intro p e s m below meth c ls C hr hlk hW hX hnm hl
  exact sX6_cut C hr hlk hX k hk Q x1 S L R _ _ _ h hW hl
theorem inX6_set_X6 : ∀ w ∈ wsX60, w ∈ wsX6_set := fun _ h => List.mem_cons_of_mem _ (List.mem_append_right _ h)
abbrev rmX6_set : Room := { frames := 2, cells := 0, slots := 0, locals := 43 }
def vX6_set (K : Nat → Nat) (n : Nat) (k : Nat) (x1 : Int32) (x2 : Int32) (S : Nat → Nat → Int32) (L : Nat → Int64) (R : Nat → Option Nat) (Q : (Nat → Nat → Int32) → (Nat → Int64) → (Nat → Option Nat) → Prop) : Prop := vX6_hasCell K n k x1 S L R (fun r1 S2 L3 R4 => (r1 = 0 → Q S2 L3 R4) ∧ (¬ (r1 = 0) → vX6_cut K n k x2 S2 L3 R4 (fun r6 S7 L8 R9 => vp_in x1 60 ∧ (∀ S11 : Nat → Nat → Int32, S11 = va_up S7 (22 + 2 * k) (upd (S7 (22 + 2 * k)) x1.toNatClampNeg r6) → Q S11 L8 R9))))
set_option maxRecDepth 100000 in
set_option maxHeartbeats 4000000 in
theorem sX6_set {p : Program} {l : Launch} {e : Env} {s : State} {m : MethodId} {args : Array Value} {below : List Frame} {meth : Method} {c : Code} {D : va_G} {q : Nat → Nat} {A : Nat → Prop} {cI cJ cZ cP cS : ClassId} {K : Nat → Nat} {n : Nat} (C : CallFix p m c cX6_set 3 s args wsX6_set RX6) (hr : meth.sig.returnType = none) (hlk : meth.locks = false) (hX : cX A s) (k : Nat) (hk : k < 4) (Q : (Nat → Nat → Int32) → (Nat → Int64) → (Nat → Option Nat) → Prop) : ∀ (x1 : Int32) (x2 : Int32) (S : Nat → Nat → Int32) (L : Nat → Int64) (R : Nat → Option Nat) (H : Heap) (locs : List Loc) (ls : Array Slot), vX6_set K n k x1 x2 S L R Q → hw D (tyC cI cJ cZ cP cS) q (29 + 2 * n) (gC q cI cJ cZ cP cS K n S L R) A s H locs → lv_has ls 3 [(0, .ref (q (21 + 2 * k))), (1, .int x1), (2, .int x2)] → W p l e (headSpec wsX6_set rmX6_set).room s m args below meth c H locs 0 0 (MQ below (QCv D q cI cJ cZ cP cS K n Q A) args s 0 0 A) (F0 m 0 ls []) := by
  intro x1 x2 S L R H locs ls h hW hl
  unfold vX6_set at h
  refine lv_aload_n C.1 C.2.1 dX6_set_0 rfl (lv_at hl 0 rfl) ?_
  refine lv_iload_n C.1 C.2.1 dX6_set_1 rfl (lv_at hl 1 rfl) ?_
  refine k_i hW (va_runV (As := [.int x1]) (rest := []) C (mtX6_hasCell l D q cI cJ cZ cP cS K n k hk H.size x1 S L R _ h) (cwV 1 C.2.2.2.2 gX6_set_X6_hasCell rfl rfl rfl (by decide +kernel) ⟨Nat.le_of_ble_eq_true rfl, Nat.le_of_ble_eq_true rfl⟩) ⟨mP_blind cX_B, va_recv hW.1 hW.2.1 (ci := 6) (q0 := 21 + 2 * k) rfl (by rw [wL_get (by omega), gC_sheet hk]), fun U hU hV => ⟨rfl, hW.pre hU hV (hX.call hW hU hV)⟩⟩ rfl rfl hl.1 rfl (lv_room (Nat.le_of_ble_eq_true rfl)) dX6_set_2 ⟨Nat.zero_le _, Nat.zero_le _⟩) (fun r1 u H locs h hW => ?_)
  obtain ⟨S2, L3, R4⟩ := u
  replace hW : hw D (tyC cI cJ cZ cP cS) q (29 + 2 * n) (gC q cI cJ cZ cP cS K n S2 L3 R4) A s H locs := hW
  refine lv_if_eq (tgt := 19) C.1 C.2.1 dX6_set_5 (by decide) (fun c5 => ?_) (fun c5 => ?_)
  · replace h := h.1 c5
    exact t_v C hr hlk (u := (S2, L3, R4)) hW.2.2.2.1 hW.B h dX6_set_19
  · replace h := h.2 c5
    refine lv_aload_n C.1 C.2.1 dX6_set_8 rfl (lv_at hl 0 rfl) ?_
    refine r_get C hW (ci := 6) (T := TX6) (n := 4) (ref := "BallMinder$Sheet") (v := .ref (q (22 + 2 * k))) (21 + 2 * k) (by omega) (gC_sheet hk) rfl 0 (by decide) inX6_set_X6 (by decide +kernel) (fun _ h9 => h9) rfl dX6_set_9 ?_
    refine lv_iload_n C.1 C.2.1 dX6_set_12 rfl (lv_at hl 1 rfl) ?_
    refine lv_aload_n C.1 C.2.1 dX6_set_13 rfl (lv_at hl 0 rfl) ?_
    refine lv_iload_n C.1 C.2.1 dX6_set_14 rfl (lv_at hl 2 rfl) ?_
    refine k_i hW (va_runV (As := [.int x2]) (rest := [.int x1, .ref (q (22 + 2 * k))]) C (mtX6_cut l D q cI cJ cZ cP cS K n k hk H.size x2 S2 L3 R4 _ h) (cwV 1 C.2.2.2.2 gX6_set_X6_cut rfl rfl rfl (by decide +kernel) ⟨Nat.le_of_ble_eq_true rfl, Nat.le_of_ble_eq_true rfl⟩) ⟨mP_blind cX_B, va_recv hW.1 hW.2.1 (ci := 6) (q0 := 21 + 2 * k) rfl (by rw [wL_get (by omega), gC_sheet hk]), fun U hU hV => ⟨rfl, hW.pre hU hV (hX.call hW hU hV)⟩⟩ rfl rfl hl.1 rfl (lv_room (Nat.le_of_ble_eq_true rfl)) dX6_set_15 ⟨Nat.zero_le _, Nat.zero_le _⟩) (fun r6 u H locs h hW => ?_)
    obtain ⟨S7, L8, R9⟩ := u
    replace hW : hw D (tyC cI cJ cZ cP cS) q (29 + 2 * n) (gC q cI cJ cZ cP cS K n S7 L8 R9) A s H locs := hW
    obtain ⟨hs10, h⟩ := h
    refine r_iast C hW (cA := cI) (n := 60) (f := S7 (22 + 2 * k)) (22 + 2 * k) 0 (by omega) (gC_cells hk) rfl hs10 dX6_set_18 (fun H locs hW => ?_)
    replace hW := gC_put (F := upd (S7 (22 + 2 * k)) x1.toNatClampNeg r6) (by rw [gC_cells hk, va_up_self]) hW
    obtain ⟨S11, eS11⟩ : ∃ z : Nat → Nat → Int32, z = va_up S7 (22 + 2 * k) (upd (S7 (22 + 2 * k)) x1.toNatClampNeg r6) := ⟨_, rfl⟩
    rw [← eS11] at hW
    replace h := h S11 eS11
    exact t_v C hr hlk (u := (S11, L8, R9)) hW.2.2.2.1 hW.B h dX6_set_19
set_option maxRecDepth 100000 in
set_option maxHeartbeats 4000000 in
theorem mtX6_set (l : Launch) (D : va_G) (q : Nat → Nat) (cI cJ cZ cP cS : ClassId) (K : Nat → Nat) (n : Nat) (k : Nat) (hk : k < 4) (sz : Nat) (x1 : Int32) (x2 : Int32) (S : Nat → Nat → Int32) (L : Nat → Int64) (R : Nat → Option Nat) (Q : (Nat → Nat → Int32) → (Nat → Int64) → (Nat → Option Nat) → Prop) (h : vX6_set K n k x1 x2 S L R Q) : Met l yX6_set wsX6_set rmX6_set (va_Pc [.ref (q (21 + 2 * k)), .int x1, .int x2] (mP D (tyC cI cJ cZ cP cS) q (29 + 2 * n) (gC q cI cJ cZ cP cS K n S L R) sz (cX (aQ q (29 + 2 * n) sz)))) (QCv D q cI cJ cZ cP cS K n Q (aQ q (29 + 2 * n) sz)) 0 0 (aQ q (29 + 2 * n) sz) := by
  refine met_w (cc := cX6_set) (maxL := 3) (ret := none) (by decide) rfl (Nat.le_of_ble_eq_true rfl) ?_
  intro p e s m below meth c ls C hr hlk hW hX hnm hl
  exact sX6_set C hr hlk hX k hk Q x1 x2 S L R _ _ _ h hW hl
theorem inX10_put_X10 : ∀ w ∈ wsX100, w ∈ wsX10_put := fun _ h => List.mem_cons_of_mem _ (List.mem_append_left _ (List.mem_append_right _ h))
theorem inX10_put_X6 : ∀ w ∈ wsX60, w ∈ wsX10_put := fun _ h => List.mem_cons_of_mem _ (List.mem_append_right _ h)
abbrev rmX10_put : Room := { frames := 3, cells := 0, slots := 0, locals := 65 }
def vX10_put (K : Nat → Nat) (n : Nat) (x1 : Int32) (x2 : Int32) (x3 : Int32) (S : Nat → Nat → Int32) (L : Nat → Int64) (R : Nat → Option Nat) (Q : Int32 → (Nat → Nat → Int32) → (Nat → Int64) → (Nat → Option Nat) → Prop) : Prop := ∀ S1 : Nat → Nat → Int32, S1 = va_up S 0 (upd (S 0) 10 (0 : Int32)) → vX10_sheetOf K n x1 S1 L R (fun o2 S3 L4 R5 => (o2 = none → Q (-1 : Int32) S3 L4 R5) ∧ (∀ mi6 : Nat, o2 = some mi6 → mi6 < 4 ∧ ((¬ (S3 (21 + 2 * mi6) 1) = 0 → vX6_hasCell K n mi6 x2 S3 L4 R5 (fun r9 S10 L11 R12 => (¬ r9 = 0 → vX6_set K n mi6 x2 x3 S10 L11 R12 (fun S14 L15 R16 => Q (1 : Int32) S14 L15 R16)) ∧ (r9 = 0 → vX10_faulted K n (3 : Int32) S10 L11 R12 (fun r17 S18 L19 R20 => Q r17 S18 L19 R20)))) ∧ ((S3 (21 + 2 * mi6) 1) = 0 → vX10_faulted K n (1 : Int32) S3 L4 R5 (fun r21 S22 L23 R24 => Q r21 S22 L23 R24)))))
set_option maxRecDepth 100000 in
set_option maxHeartbeats 4000000 in
theorem sX10_put {p : Program} {l : Launch} {e : Env} {s : State} {m : MethodId} {args : Array Value} {below : List Frame} {meth : Method} {c : Code} {D : va_G} {q : Nat → Nat} {A : Nat → Prop} {cI cJ cZ cP cS : ClassId} {K : Nat → Nat} {n : Nat} (C : CallFix p m c cX10_put 5 s args wsX10_put RX10) (hr : meth.sig.returnType = (some .int)) (hlk : meth.locks = false) (hX : cX A s) (Q : Int32 → (Nat → Nat → Int32) → (Nat → Int64) → (Nat → Option Nat) → Prop) : ∀ (x1 : Int32) (x2 : Int32) (x3 : Int32) (S : Nat → Nat → Int32) (L : Nat → Int64) (R : Nat → Option Nat) (H : Heap) (locs : List Loc) (ls : Array Slot), vX10_put K n x1 x2 x3 S L R Q → hw D (tyC cI cJ cZ cP cS) q (29 + 2 * n) (gC q cI cJ cZ cP cS K n S L R) A s H locs → lv_has ls 5 [(0, .ref (q 0)), (1, .int x1), (2, .int x2), (3, .int x3)] → W p l e (headSpec wsX10_put rmX10_put).room s m args below meth c H locs 0 0 (MQ below (QCi D q cI cJ cZ cP cS K n Q A) args s 0 0 A) (F0 m 0 ls []) := by
  intro x1 x2 x3 S L R H locs ls h hW hl
  unfold vX10_put at h
  refine lv_aload_n C.1 C.2.1 dX10_put_0 rfl (lv_at hl 0 rfl) ?_
  refine lv_iconst (v := 0) C.1 C.2.1 dX10_put_1 (by decide) ?_
  refine r_put C hW (ci := 10) (T := TX10) (n := 11) (ref := "BallMinder") (0) (by omega) rfl rfl 10 (by decide) inX10_put_X10 tyX10 tyX10_ok nmX10 (by decide +kernel) (fun _ h9 => h9) rfl rfl rfl (Nat.le_of_ble_eq_true rfl) dX10_put_2 (fun H locs hW => ?_)
  replace hW := gC_put (F := upd (S 0) 10 (0 : Int32)) rfl hW
  obtain ⟨S1, eS1⟩ : ∃ z : Nat → Nat → Int32, z = va_up S 0 (upd (S 0) 10 (0 : Int32)) := ⟨_, rfl⟩
  rw [← eS1] at hW
  replace h := h S1 eS1
  refine lv_aload_n C.1 C.2.1 dX10_put_5 rfl (lv_at hl 0 rfl) ?_
  refine lv_iload_n C.1 C.2.1 dX10_put_6 rfl (lv_at hl 1 rfl) ?_
  refine k_q hW (va_runV (As := [.int x1]) (rest := []) C (mtX10_sheetOf l D q cI cJ cZ cP cS K n H.size x1 S1 L R _ h) (cwV 1 C.2.2.2.2 gX10_put_X10_sheetOf rfl rfl rfl (by decide +kernel) ⟨Nat.le_of_ble_eq_true rfl, Nat.le_of_ble_eq_true rfl⟩) ⟨mP_blind cX_B, va_recv hW.1 hW.2.1 (ci := 10) (q0 := 0) rfl (wL_get (by omega)), fun U hU hV => ⟨rfl, hW.pre hU hV (hX.call hW hU hV)⟩⟩ rfl rfl hl.1 rfl (lv_room (Nat.le_of_ble_eq_true rfl)) dX10_put_7 ⟨Nat.zero_le _, Nat.zero_le _⟩) (fun r9 u H locs h hW => ?_)
  obtain ⟨S3, L4, R5⟩ := u
  obtain ⟨o2, rfl, h⟩ := h
  replace hW : hw D (tyC cI cJ cZ cP cS) q (29 + 2 * n) (gC q cI cJ cZ cP cS K n S3 L4 R5) A s H locs := hW
  refine cv_astore (lv' := [(4, va_rf (Option.map (qS q) o2)), (0, .ref (q 0)), (1, .int x1), (2, .int x2), (3, .int x3)]) C.1 C.2.1 dX10_put_10 hl (by decide) rfl (fun ls hl => ?_)
  refine cv_aload C.1 C.2.1 dX10_put_12 (lv_at hl 0 rfl) ?_
  rcases o2 with _ | mi6
  · replace h := h.1 rfl
    replace hl : lv_has ls 5 [(4, .null), (0, .ref (q 0)), (1, .int x1), (2, .int x2), (3, .int x3)] := hl
    refine lv_ifnonnullN C.1 C.2.1 dX10_put_14 ?_
    refine lv_iconst (v := -1) C.1 C.2.1 dX10_put_17 (by decide) ?_
    exact t_i C hr hlk (u := (S3, L4, R5)) hW.2.2.2.1 hW.B h dX10_put_18
  · replace h := h.2 mi6 rfl
    replace hl : lv_has ls 5 [(4, .ref (q (21 + 2 * mi6))), (0, .ref (q 0)), (1, .int x1), (2, .int x2), (3, .int x3)] := hl
    refine lv_ifnonnull (tgt := 19) C.1 C.2.1 dX10_put_14 (by decide) ?_
    refine lv_aload C.1 C.2.1 dX10_put_19 (lv_at hl 0 rfl) ?_
    obtain ⟨hb7, h⟩ := h
    refine r_getN C hW (ci := 6) (T := TX6) (n := 4) (ref := "BallMinder$Sheet") (host := "BallMinder") (v := .int (S3 (21 + 2 * mi6) 1)) (21 + 2 * mi6) (by omega) (gC_sheet hb7) rfl 1 (by decide) inX10_put_X6 (hX.1 _ (by decide +kernel)) (fun _ h9 => h9) rfl dX10_put_21 ?_
    refine lv_if_ne (tgt := 33) C.1 C.2.1 dX10_put_24 (by decide) (fun c8 => ?_) (fun c8 => ?_)
    · replace h := h.1 c8
      refine lv_aload C.1 C.2.1 dX10_put_33 (lv_at hl 0 rfl) ?_
      refine lv_iload_n C.1 C.2.1 dX10_put_35 rfl (lv_at hl 3 rfl) ?_
      refine k_i hW (va_runV (As := [.int x2]) (rest := []) C (mtX6_hasCell l D q cI cJ cZ cP cS K n mi6 hb7 H.size x2 S3 L4 R5 _ h) (cwV 1 C.2.2.2.2 gX10_put_X6_hasCell rfl rfl rfl (by decide +kernel) ⟨Nat.le_of_ble_eq_true rfl, Nat.le_of_ble_eq_true rfl⟩) ⟨mP_blind cX_B, va_recv hW.1 hW.2.1 (ci := 6) (q0 := 21 + 2 * mi6) rfl (by rw [wL_get (by omega), gC_sheet hb7]), fun U hU hV => ⟨rfl, hW.pre hU hV (hX.call hW hU hV)⟩⟩ rfl rfl hl.1 rfl (lv_room (Nat.le_of_ble_eq_true rfl)) dX10_put_36 ⟨Nat.zero_le _, Nat.zero_le _⟩) (fun r9 u H locs h hW => ?_)
      obtain ⟨S10, L11, R12⟩ := u
      replace hW : hw D (tyC cI cJ cZ cP cS) q (29 + 2 * n) (gC q cI cJ cZ cP cS K n S10 L11 R12) A s H locs := hW
      refine lv_if_ne (tgt := 48) C.1 C.2.1 dX10_put_39 (by decide) (fun c13 => ?_) (fun c13 => ?_)
      · replace h := h.1 c13
        refine lv_aload C.1 C.2.1 dX10_put_48 (lv_at hl 0 rfl) ?_
        refine lv_iload_n C.1 C.2.1 dX10_put_50 rfl (lv_at hl 3 rfl) ?_
        refine lv_iload_n C.1 C.2.1 dX10_put_51 rfl (lv_at hl 4 rfl) ?_
        refine k_v hW (va_runV (As := [.int x2, .int x3]) (rest := []) C (mtX6_set l D q cI cJ cZ cP cS K n mi6 hb7 H.size x2 x3 S10 L11 R12 _ h) (cwV 2 C.2.2.2.2 gX10_put_X6_set rfl rfl rfl (by decide +kernel) ⟨Nat.le_of_ble_eq_true rfl, Nat.le_of_ble_eq_true rfl⟩) ⟨mP_blind cX_B, va_recv hW.1 hW.2.1 (ci := 6) (q0 := 21 + 2 * mi6) rfl (by rw [wL_get (by omega), gC_sheet hb7]), fun U hU hV => ⟨rfl, hW.pre hU hV (hX.call hW hU hV)⟩⟩ rfl rfl hl.1 rfl (lv_room (Nat.le_of_ble_eq_true rfl)) dX10_put_52 ⟨Nat.zero_le _, Nat.zero_le _⟩) (fun u H locs h hW => ?_)
        obtain ⟨S14, L15, R16⟩ := u
        replace hW : hw D (tyC cI cJ cZ cP cS) q (29 + 2 * n) (gC q cI cJ cZ cP cS K n S14 L15 R16) A s H locs := hW
        refine lv_iconst (v := 1) C.1 C.2.1 dX10_put_55 (by decide) ?_
        exact t_i C hr hlk (u := (S14, L15, R16)) hW.2.2.2.1 hW.B h dX10_put_56
      · replace h := h.2 c13
        refine lv_aload_n C.1 C.2.1 dX10_put_42 rfl (lv_at hl 1 rfl) ?_
        refine lv_iconst (v := 3) C.1 C.2.1 dX10_put_43 (by decide) ?_
        refine k_i hW (va_runV (As := [.int (3 : Int32)]) (rest := []) C (mtX10_faulted l D q cI cJ cZ cP cS K n H.size (3 : Int32) S10 L11 R12 _ h) (cwV 1 C.2.2.2.2 gX10_put_X10_faulted rfl rfl rfl (by decide +kernel) ⟨Nat.le_of_ble_eq_true rfl, Nat.le_of_ble_eq_true rfl⟩) ⟨mP_blind cX_B, va_recv hW.1 hW.2.1 (ci := 10) (q0 := 0) rfl (wL_get (by omega)), fun U hU hV => ⟨rfl, hW.pre hU hV (hX.call hW hU hV)⟩⟩ rfl rfl hl.1 rfl (lv_room (Nat.le_of_ble_eq_true rfl)) dX10_put_44 ⟨Nat.zero_le _, Nat.zero_le _⟩) (fun r17 u H locs h hW => ?_)
        obtain ⟨S18, L19, R20⟩ := u
        replace hW : hw D (tyC cI cJ cZ cP cS) q (29 + 2 * n) (gC q cI cJ cZ cP cS K n S18 L19 R20) A s H locs := hW
        exact t_i C hr hlk (u := (S18, L19, R20)) hW.2.2.2.1 hW.B h dX10_put_47
    · replace h := h.2 c8
      refine lv_aload_n C.1 C.2.1 dX10_put_27 rfl (lv_at hl 1 rfl) ?_
      refine lv_iconst (v := 1) C.1 C.2.1 dX10_put_28 (by decide) ?_
      refine k_i hW (va_runV (As := [.int (1 : Int32)]) (rest := []) C (mtX10_faulted l D q cI cJ cZ cP cS K n H.size (1 : Int32) S3 L4 R5 _ h) (cwV 1 C.2.2.2.2 gX10_put_X10_faulted rfl rfl rfl (by decide +kernel) ⟨Nat.le_of_ble_eq_true rfl, Nat.le_of_ble_eq_true rfl⟩) ⟨mP_blind cX_B, va_recv hW.1 hW.2.1 (ci := 10) (q0 := 0) rfl (wL_get (by omega)), fun U hU hV => ⟨rfl, hW.pre hU hV (hX.call hW hU hV)⟩⟩ rfl rfl hl.1 rfl (lv_room (Nat.le_of_ble_eq_true rfl)) dX10_put_29 ⟨Nat.zero_le _, Nat.zero_le _⟩) (fun r21 u H locs h hW => ?_)
      obtain ⟨S22, L23, R24⟩ := u
      replace hW : hw D (tyC cI cJ cZ cP cS) q (29 + 2 * n) (gC q cI cJ cZ cP cS K n S22 L23 R24) A s H locs := hW
      exact t_i C hr hlk (u := (S22, L23, R24)) hW.2.2.2.1 hW.B h dX10_put_32
set_option maxRecDepth 100000 in
set_option maxHeartbeats 4000000 in
theorem mtX10_put (l : Launch) (D : va_G) (q : Nat → Nat) (cI cJ cZ cP cS : ClassId) (K : Nat → Nat) (n : Nat) (sz : Nat) (x1 : Int32) (x2 : Int32) (x3 : Int32) (S : Nat → Nat → Int32) (L : Nat → Int64) (R : Nat → Option Nat) (Q : Int32 → (Nat → Nat → Int32) → (Nat → Int64) → (Nat → Option Nat) → Prop) (h : vX10_put K n x1 x2 x3 S L R Q) : Met l yX10_put wsX10_put rmX10_put (va_Pc [.ref (q 0), .int x1, .int x2, .int x3] (mP D (tyC cI cJ cZ cP cS) q (29 + 2 * n) (gC q cI cJ cZ cP cS K n S L R) sz (cX (aQ q (29 + 2 * n) sz)))) (QCi D q cI cJ cZ cP cS K n Q (aQ q (29 + 2 * n) sz)) 0 0 (aQ q (29 + 2 * n) sz) := by
  refine met_w (cc := cX10_put) (maxL := 5) (ret := (some .int)) (by decide) rfl (Nat.le_of_ble_eq_true rfl) ?_
  intro p e s m below meth c ls C hr hlk hW hX hnm hl
  exact sX10_put C hr hlk hX Q x1 x2 x3 S L R _ _ _ h hW hl
