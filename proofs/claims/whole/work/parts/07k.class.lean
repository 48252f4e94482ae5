theorem inX0_codeAt_X0 : ∀ w ∈ wsX00, w ∈ wsX0_codeAt := fun _ h => List.mem_cons_of_mem _ (List.mem_append_left _ (List.mem_append_right _ h))
theorem inX0_codeAt_X6 : ∀ w ∈ wsX60, w ∈ wsX0_codeAt := fun _ h => List.mem_cons_of_mem _ (List.mem_append_right _ h)
abbrev rmX0_codeAt : Room := { frames := 3, cells := 0, slots := 0, locals := 64 }
def vX0_codeAt (K : Nat → Nat) (n : Nat) (x1 : Int32) (S : Nat → Nat → Int32) (L : Nat → Int64) (R : Nat → Option Nat) (Q : Int32 → (Nat → Nat → Int32) → (Nat → Int64) → (Nat → Option Nat) → Prop) : Prop := ((S 4 4) ≤ x1 → Q (-1 : Int32) S L R) ∧ (¬ ((S 4 4) ≤ x1) → ∀ o2 : Option Nat, o2 = R 4 → ∃ mi3 : Nat, o2 = some mi3 ∧ (mi3 < 4 ∧ (vX6_at K n mi3 ((S 4 3) + x1) S L R (fun r4 S5 L6 R7 => Q r4 S5 L6 R7))))
set_option maxRecDepth 100000 in
set_option maxHeartbeats 4000000 in
theorem sX0_codeAt {p : Program} {l : Launch} {e : Env} {s : State} {m : MethodId} {args : Array Value} {below : List Frame} {meth : Method} {c : Code} {D : va_G} {q : Nat → Nat} {A : Nat → Prop} {cI cJ cZ cP cS : ClassId} {K : Nat → Nat} {n : Nat} (C : CallFix p m c cX0_codeAt 2 s args wsX0_codeAt RX0) (hr : meth.sig.returnType = (some .int)) (hlk : meth.locks = false) (hX : cX A s) (Q : Int32 → (Nat → Nat → Int32) → (Nat → Int64) → (Nat → Option Nat) → Prop) : ∀ (x1 : Int32) (S : Nat → Nat → Int32) (L : Nat → Int64) (R : Nat → Option Nat) (H : Heap) (locs : List Loc) (ls : Array Slot), vX0_codeAt K n x1 S L R Q → hw D (tyC cI cJ cZ cP cS) q (29 + 2 * n) (gC q cI cJ cZ cP cS K n S L R) A s H locs → lv_has ls 2 [(0, .ref (q 4)), (1, .int x1)] → W p l e (headSpec wsX0_codeAt rmX0_codeAt).room s m args below meth c H locs 0 0 (MQ below (QCi D q cI cJ cZ cP cS K n Q A) args s 0 0 A) (F0 m 0 ls []) := by
  intro x1 S L R H locs ls h hW hl
  unfold vX0_codeAt at h
  refine lv_iload_n C.1 C.2.1 dX0_codeAt_0 rfl (lv_at hl 1 rfl) ?_
  refine lv_aload_n C.1 C.2.1 dX0_codeAt_1 rfl (lv_at hl 0 rfl) ?_
  refine r_get C hW (ci := 0) (T := TX0) (n := 5) (ref := "BallMinder$Drawing") (v := .int (S 4 4)) (4) (by omega) rfl rfl 4 (by decide) inX0_codeAt_X0 (by decide +kernel) (fun _ h9 => h9) rfl dX0_codeAt_2 ?_
  refine lv_icmp_ge (tgt := 24) C.1 C.2.1 dX0_codeAt_5 (by decide) (fun c1 => ?_) (fun c1 => ?_)
  · replace h := h.1 c1
    refine lv_iconst (v := -1) C.1 C.2.1 dX0_codeAt_24 (by decide) ?_
    exact t_i C hr hlk (u := (S, L, R)) hW.2.2.2.1 hW.B h dX0_codeAt_25
  · replace h := h.2 c1
    refine lv_aload_n C.1 C.2.1 dX0_codeAt_8 rfl (lv_at hl 0 rfl) ?_
    refine r_get C hW (ci := 0) (T := TX0) (n := 5) (ref := "BallMinder$Drawing") (v := va_rf (Option.map (qS q) (R 4))) (4) (by omega) rfl rfl 2 (by decide) inX0_codeAt_X0 (by decide +kernel) (fun _ h9 => h9) rfl dX0_codeAt_9 ?_
    obtain ⟨o2, eo2⟩ : ∃ z : Option Nat, z = R 4 := ⟨_, rfl⟩
    rw [← eo2]
    replace h := h o2 eo2
    refine lv_aload_n C.1 C.2.1 dX0_codeAt_12 rfl (lv_at hl 0 rfl) ?_
    refine r_get C hW (ci := 0) (T := TX0) (n := 5) (ref := "BallMinder$Drawing") (v := .int (S 4 3)) (4) (by omega) rfl rfl 3 (by decide) inX0_codeAt_X0 (by decide +kernel) (fun _ h9 => h9) rfl dX0_codeAt_13 ?_
    refine lv_iload_n C.1 C.2.1 dX0_codeAt_16 rfl (lv_at hl 1 rfl) ?_
    refine lv_iadd C.1 C.2.1 dX0_codeAt_17 ?_
    obtain ⟨mi3, zmi3, hmi3⟩ := h
    subst zmi3
    replace h := hmi3
    clear hmi3
    replace hl : lv_has ls 2 [(0, .ref (q 4)), (1, .int x1)] := hl
    obtain ⟨hb8, h⟩ := h
    refine k_i hW (va_runV (As := [.int ((S 4 3) + x1)]) (rest := []) C (mtX6_at l D q cI cJ cZ cP cS K n mi3 hb8 H.size ((S 4 3) + x1) S L R _ h) (cwV 1 C.2.2.2.2 gX0_codeAt_X6_at rfl rfl rfl (by decide +kernel) ⟨Nat.le_of_ble_eq_true rfl, Nat.le_of_ble_eq_true rfl⟩) ⟨mP_blind cX_B, va_recv hW.1 hW.2.1 (ci := 6) (q0 := 21 + 2 * mi3) rfl (by rw [wL_get (by omega), gC_sheet hb8]), fun U hU hV => ⟨rfl, hW.pre hU hV (hX.call hW hU hV)⟩⟩ rfl rfl hl.1 rfl (lv_room (Nat.le_of_ble_eq_true rfl)) dX0_codeAt_18 ⟨Nat.zero_le _, Nat.zero_le _⟩) (fun r4 u H locs h hW => ?_)
    obtain ⟨S5, L6, R7⟩ := u
    replace hW : hw D (tyC cI cJ cZ cP cS) q (29 + 2 * n) (gC q cI cJ cZ cP cS K n S5 L6 R7) A s H locs := hW
    refine lv_goto (tgt := 25) C.1 C.2.1 dX0_codeAt_21 (by decide) ?_
    exact t_i C hr hlk (u := (S5, L6, R7)) hW.2.2.2.1 hW.B h dX0_codeAt_25
set_option maxRecDepth 100000 in
set_option maxHeartbeats 4000000 in
theorem mtX0_codeAt (l : Launch) (D : va_G) (q : Nat → Nat) (cI cJ cZ cP cS : ClassId) (K : Nat → Nat) (n : Nat) (sz : Nat) (x1 : Int32) (S : Nat → Nat → Int32) (L : Nat → Int64) (R : Nat → Option Nat) (Q : Int32 → (Nat → Nat → Int32) → (Nat → Int64) → (Nat → Option Nat) → Prop) (h : vX0_codeAt K n x1 S L R Q) : Met l yX0_codeAt wsX0_codeAt rmX0_codeAt (va_Pc [.ref (q 4), .int x1] (mP D (tyC cI cJ cZ cP cS) q (29 + 2 * n) (gC q cI cJ cZ cP cS K n S L R) sz (cX (aQ q (29 + 2 * n) sz)))) (QCi D q cI cJ cZ cP cS K n Q (aQ q (29 + 2 * n) sz)) 0 0 (aQ q (29 + 2 * n) sz) := by
  refine met_w (cc := cX0_codeAt) (maxL := 2) (ret := (some .int)) (by decide) rfl (Nat.le_of_ble_eq_true rfl) ?_
  intro p e s m below meth c ls C hr hlk hW hX hnm hl
  exact sX0_codeAt C hr hlk hX Q x1 S L R _ _ _ h hW hl
theorem inX0_letterAt_X0 : ∀ w ∈ wsX00, w ∈ wsX0_letterAt := fun _ h => List.mem_cons_of_mem _ (List.mem_append_left _ (List.mem_append_right _ h))
theorem inX0_letterAt_X6 : ∀ w ∈ wsX60, w ∈ wsX0_letterAt := fun _ h => List.mem_cons_of_mem _ (List.mem_append_right _ h)
abbrev rmX0_letterAt : Room := { frames := 4, cells := 0, slots := 0, locals := 85 }
def vX0_letterAt_8 (K : Nat → Nat) (n : Nat) (Q : Int32 → (Nat → Nat → Int32) → (Nat → Int64) → (Nat → Option Nat) → Prop) : Nat → Int32 → Int32 → (Nat → Nat → Int32) → (Nat → Int64) → (Nat → Option Nat) → Prop
  | 0, _, _, _, _, _ => False
  | fu+1, x2, x3, S, L, R => ((9 : Int32) ≤ x3 → Q (-1 : Int32) S L R) ∧ (¬ ((9 : Int32) ≤ x3) → vp_in x3 9 ∧ ((¬ (letterV x3.toNatClampNeg) = x2 → ∀ x3_10 : Int32, x3_10 = x3 + (1 : Int32) → vX0_letterAt_8 K n Q fu x2 x3_10 S L R) ∧ ((letterV x3.toNatClampNeg) = x2 → Q x3 S L R)))
def vX0_letterAt (K : Nat → Nat) (n : Nat) (x1 : Int32) (S : Nat → Nat → Int32) (L : Nat → Int64) (R : Nat → Option Nat) (Q : Int32 → (Nat → Nat → Int32) → (Nat → Int64) → (Nat → Option Nat) → Prop) : Prop := vX0_codeAt K n x1 S L R (fun r1 S2 L3 R4 => ∃ n8, vX0_letterAt_8 K n Q n8 r1 (0 : Int32) S2 L3 R4)
set_option maxRecDepth 100000 in
set_option maxHeartbeats 4000000 in
theorem sX0_letterAt_8 {p : Program} {l : Launch} {e : Env} {s : State} {m : MethodId} {args : Array Value} {below : List Frame} {meth : Method} {c : Code} {D : va_G} {q : Nat → Nat} {A : Nat → Prop} {cI cJ cZ cP cS : ClassId} {K : Nat → Nat} {n : Nat} (C : CallFix p m c cX0_letterAt 4 s args wsX0_letterAt RX0) (hr : meth.sig.returnType = (some .int)) (hlk : meth.locks = false) (hX : cX A s) (Q : Int32 → (Nat → Nat → Int32) → (Nat → Int64) → (Nat → Option Nat) → Prop) : ∀ (fu : Nat) (x2 : Int32) (x3 : Int32) (S : Nat → Nat → Int32) (L : Nat → Int64) (R : Nat → Option Nat) (H : Heap) (locs : List Loc) (ls : Array Slot), vX0_letterAt_8 K n Q fu x2 x3 S L R → hw D (tyC cI cJ cZ cP cS) q (29 + 2 * n) (gC q cI cJ cZ cP cS K n S L R) A s H locs → lv_has ls 4 [(2, .int x2), (3, .int x3)] → W p l e (headSpec wsX0_letterAt rmX0_letterAt).room s m args below meth c H locs 0 0 (MQ below (QCi D q cI cJ cZ cP cS K n Q A) args s 0 0 A) (F0 m 8 ls []) := by
  intro fu
  induction fu with
  | zero =>
    intro x2 x3 S L R H locs ls h
    exact h.elim
  | succ fu ih =>
    intro x2 x3 S L R H locs ls h hW hl
    refine lv_iload_n C.1 C.2.1 dX0_letterAt_8 rfl (lv_at hl 1 rfl) ?_
    refine lv_bipush (v := 9) C.1 C.2.1 dX0_letterAt_9 (by decide) ?_
    refine lv_icmp_ge (tgt := 31) C.1 C.2.1 dX0_letterAt_11 (by decide) (fun c5 => ?_) (fun c5 => ?_)
    · replace h := h.1 c5
      refine lv_iconst (v := -1) C.1 C.2.1 dX0_letterAt_31 (by decide) ?_
      exact t_i C hr hlk (u := (S, L, R)) hW.2.2.2.1 hW.B h dX0_letterAt_32
    · replace h := h.2 c5
      refine c_statN C hW hX.2.2.2.2 (hX.1 _ (by decide +kernel)) dX0_letterAt_14 (fun t6 hT7 => ?_)
      refine lv_iload_n C.1 C.2.1 dX0_letterAt_17 rfl (lv_at hl 1 rfl) ?_
      obtain ⟨hs8, h⟩ := h
      refine va_tc C.1 C.2.1 hT7 hW.2.2.2.1 hs8 rfl dX0_letterAt_18 ?_
      refine lv_iload_n C.1 C.2.1 dX0_letterAt_19 rfl (lv_at hl 0 rfl) ?_
      refine lv_icmp_ne (tgt := 25) C.1 C.2.1 dX0_letterAt_20 (by decide) (fun c9 => ?_) (fun c9 => ?_)
      · replace h := h.1 c9
        obtain ⟨x3_10, ex3_10⟩ : ∃ z : Int32, z = x3 + (1 : Int32) := ⟨_, rfl⟩
        replace h := h x3_10 ex3_10
        refine lv_iinc (v := x3_10) (lv' := [(3, .int x3_10), (2, .int x2)]) C.1 C.2.1 dX0_letterAt_25 hl (k := 1) rfl (by rw [ex3_10]; rfl) (by decide) rfl (fun ls hl => ?_)
        refine lv_goto (tgt := 8) C.1 C.2.1 dX0_letterAt_28 (by decide) ?_
        exact ih x2 x3_10 S L R _ _ _ h hW (lv_sub hl [1, 0] rfl)
      · replace h := h.2 c9
        refine lv_iload_n C.1 C.2.1 dX0_letterAt_23 rfl (lv_at hl 1 rfl) ?_
        exact t_i C hr hlk (u := (S, L, R)) hW.2.2.2.1 hW.B h dX0_letterAt_24
set_option maxRecDepth 100000 in
set_option maxHeartbeats 4000000 in
theorem sX0_letterAt {p : Program} {l : Launch} {e : Env} {s : State} {m : MethodId} {args : Array Value} {below : List Frame} {meth : Method} {c : Code} {D : va_G} {q : Nat → Nat} {A : Nat → Prop} {cI cJ cZ cP cS : ClassId} {K : Nat → Nat} {n : Nat} (C : CallFix p m c cX0_letterAt 4 s args wsX0_letterAt RX0) (hr : meth.sig.returnType = (some .int)) (hlk : meth.locks = false) (hX : cX A s) (Q : Int32 → (Nat → Nat → Int32) → (Nat → Int64) → (Nat → Option Nat) → Prop) : ∀ (x1 : Int32) (S : Nat → Nat → Int32) (L : Nat → Int64) (R : Nat → Option Nat) (H : Heap) (locs : List Loc) (ls : Array Slot), vX0_letterAt K n x1 S L R Q → hw D (tyC cI cJ cZ cP cS) q (29 + 2 * n) (gC q cI cJ cZ cP cS K n S L R) A s H locs → lv_has ls 4 [(0, .ref (q 4)), (1, .int x1)] → W p l e (headSpec wsX0_letterAt rmX0_letterAt).room s m args below meth c H locs 0 0 (MQ below (QCi D q cI cJ cZ cP cS K n Q A) args s 0 0 A) (F0 m 0 ls []) := by
  intro x1 S L R H locs ls h hW hl
  unfold vX0_letterAt at h
  refine lv_aload_n C.1 C.2.1 dX0_letterAt_0 rfl (lv_at hl 0 rfl) ?_
  refine lv_iload_n C.1 C.2.1 dX0_letterAt_1 rfl (lv_at hl 1 rfl) ?_
  refine k_i hW (va_runV (As := [.int x1]) (rest := []) C (mtX0_codeAt l D q cI cJ cZ cP cS K n H.size x1 S L R _ h) (cwV 1 C.2.2.2.2 gX0_letterAt_X0_codeAt rfl rfl rfl (by decide +kernel) ⟨Nat.le_of_ble_eq_true rfl, Nat.le_of_ble_eq_true rfl⟩) ⟨mP_blind cX_B, va_recv hW.1 hW.2.1 (ci := 0) (q0 := 4) rfl (wL_get (by omega)), fun U hU hV => ⟨rfl, hW.pre hU hV (hX.call hW hU hV)⟩⟩ rfl rfl hl.1 rfl (lv_room (Nat.le_of_ble_eq_true rfl)) dX0_letterAt_2 ⟨Nat.zero_le _, Nat.zero_le _⟩) (fun r1 u H locs h hW => ?_)
  obtain ⟨S2, L3, R4⟩ := u
  replace hW : hw D (tyC cI cJ cZ cP cS) q (29 + 2 * n) (gC q cI cJ cZ cP cS K n S2 L3 R4) A s H locs := hW
  refine lv_istore_n (lv' := [(2, .int r1), (0, .ref (q 4)), (1, .int x1)]) C.1 C.2.1 dX0_letterAt_5 rfl hl (by decide) rfl (fun ls hl => ?_)
  refine lv_iconst (v := 0) C.1 C.2.1 dX0_letterAt_6 (by decide) ?_
  refine lv_istore_n (lv' := [(3, .int (0 : Int32)), (2, .int r1), (0, .ref (q 4)), (1, .int x1)]) C.1 C.2.1 dX0_letterAt_7 rfl hl (by decide) rfl (fun ls hl => ?_)
  obtain ⟨n9, h⟩ := h
  exact sX0_letterAt_8 C hr hlk hX Q n9 r1 (0 : Int32) S2 L3 R4 _ _ _ h hW (lv_sub hl [1, 0] rfl)
set_option maxRecDepth 100000 in
set_option maxHeartbeats 4000000 in
theorem mtX0_letterAt (l : Launch) (D : va_G) (q : Nat → Nat) (cI cJ cZ cP cS : ClassId) (K : Nat → Nat) (n : Nat) (sz : Nat) (x1 : Int32) (S : Nat → Nat → Int32) (L : Nat → Int64) (R : Nat → Option Nat) (Q : Int32 → (Nat → Nat → Int32) → (Nat → Int64) → (Nat → Option Nat) → Prop) (h : vX0_letterAt K n x1 S L R Q) : Met l yX0_letterAt wsX0_letterAt rmX0_letterAt (va_Pc [.ref (q 4), .int x1] (mP D (tyC cI cJ cZ cP cS) q (29 + 2 * n) (gC q cI cJ cZ cP cS K n S L R) sz (cX (aQ q (29 + 2 * n) sz)))) (QCi D q cI cJ cZ cP cS K n Q (aQ q (29 + 2 * n) sz)) 0 0 (aQ q (29 + 2 * n) sz) := by
  refine met_w (cc := cX0_letterAt) (maxL := 4) (ret := (some .int)) (by decide) rfl (Nat.le_of_ble_eq_true rfl) ?_
  intro p e s m below meth c ls C hr hlk hW hX hnm hl
  exact sX0_letterAt C hr hlk hX Q x1 S L R _ _ _ h hW hl
theorem inX0_digitsFrom_X0 : ∀ w ∈ wsX00, w ∈ wsX0_digitsFrom := fun _ h => List.mem_cons_of_mem _ (List.mem_append_left _ (List.mem_append_right _ h))
theorem inX0_digitsFrom_X6 : ∀ w ∈ wsX60, w ∈ wsX0_digitsFrom := fun _ h => List.mem_cons_of_mem _ (List.mem_append_right _ h)
abbrev rmX0_digitsFrom : Room := { frames := 4, cells := 0, slots := 0, locals := 85 }
def vX0_digitsFrom (K : Nat → Nat) (n : Nat) (x1 : Int32) (S : Nat → Nat → Int32) (L : Nat → Int64) (R : Nat → Option Nat) (Q : Int32 → (Nat → Nat → Int32) → (Nat → Int64) → (Nat → Option Nat) → Prop) : Prop := vX0_codeAt K n x1 S L R (fun r1 S2 L3 R4 => vX10_within r1 (48 : Int32) (57 : Int32) (fun r5 => (¬ r5 = 0 → vX0_codeAt K n (x1 + (1 : Int32)) S2 L3 R4 (fun r7 S8 L9 R10 => vX10_within r7 (48 : Int32) (57 : Int32) (fun r11 => (r11 = 0 → Q (1 : Int32) S8 L9 R10) ∧ (¬ (r11 = 0) → Q (2 : Int32) S8 L9 R10)))) ∧ (r5 = 0 → Q (0 : Int32) S2 L3 R4)))
set_option maxRecDepth 100000 in
set_option maxHeartbeats 4000000 in
theorem sX0_digitsFrom {p : Program} {l : Launch} {e : Env} {s : State} {m : MethodId} {args : Array Value} {below : List Frame} {meth : Method} {c : Code} {D : va_G} {q : Nat → Nat} {A : Nat → Prop} {cI cJ cZ cP cS : ClassId} {K : Nat → Nat} {n : Nat} (C : CallFix p m c cX0_digitsFrom 2 s args wsX0_digitsFrom RX0) (hr : meth.sig.returnType = (some .int)) (hlk : meth.locks = false) (hX : cX A s) (Q : Int32 → (Nat → Nat → Int32) → (Nat → Int64) → (Nat → Option Nat) → Prop) : ∀ (x1 : Int32) (S : Nat → Nat → Int32) (L : Nat → Int64) (R : Nat → Option Nat) (H : Heap) (locs : List Loc) (ls : Array Slot), vX0_digitsFrom K n x1 S L R Q → hw D (tyC cI cJ cZ cP cS) q (29 + 2 * n) (gC q cI cJ cZ cP cS K n S L R) A s H locs → lv_has ls 2 [(0, .ref (q 4)), (1, .int x1)] → W p l e (headSpec wsX0_digitsFrom rmX0_digitsFrom).room s m args below meth c H locs 0 0 (MQ below (QCi D q cI cJ cZ cP cS K n Q A) args s 0 0 A) (F0 m 0 ls []) := by
  intro x1 S L R H locs ls h hW hl
  unfold vX0_digitsFrom at h
  refine lv_aload_n C.1 C.2.1 dX0_digitsFrom_0 rfl (lv_at hl 0 rfl) ?_
  refine lv_iload_n C.1 C.2.1 dX0_digitsFrom_1 rfl (lv_at hl 1 rfl) ?_
  refine k_i hW (va_runV (As := [.int x1]) (rest := []) C (mtX0_codeAt l D q cI cJ cZ cP cS K n H.size x1 S L R _ h) (cwV 1 C.2.2.2.2 gX0_digitsFrom_X0_codeAt rfl rfl rfl (by decide +kernel) ⟨Nat.le_of_ble_eq_true rfl, Nat.le_of_ble_eq_true rfl⟩) ⟨mP_blind cX_B, va_recv hW.1 hW.2.1 (ci := 0) (q0 := 4) rfl (wL_get (by omega)), fun U hU hV => ⟨rfl, hW.pre hU hV (hX.call hW hU hV)⟩⟩ rfl rfl hl.1 rfl (lv_room (Nat.le_of_ble_eq_true rfl)) dX0_digitsFrom_2 ⟨Nat.zero_le _, Nat.zero_le _⟩) (fun r1 u H locs h hW => ?_)
  obtain ⟨S2, L3, R4⟩ := u
  replace hW : hw D (tyC cI cJ cZ cP cS) q (29 + 2 * n) (gC q cI cJ cZ cP cS K n S2 L3 R4) A s H locs := hW
  refine lv_bipush (v := 48) C.1 C.2.1 dX0_digitsFrom_5 (by decide) ?_
  refine lv_bipush (v := 57) C.1 C.2.1 dX0_digitsFrom_7 (by decide) ?_
  refine k_pi hW (va_runSN (As := [.int r1, .int (48 : Int32), .int (57 : Int32)]) (rest := []) C (mtX10_within l D q _ H.size r1 (48 : Int32) (57 : Int32) _ h) ⟨va_cnB 3 C.2.2.2.2 gX0_digitsFrom_X10_within_n40 rfl rfl rfl (hX.1 (.methodLinkNest RX0 40 yX10_within "BallMinder") (by decide +kernel)) (C.2.2.2.2 (.initialized RX10) (by decide +kernel)) (by decide +kernel) ⟨Nat.le_of_ble_eq_true rfl, Nat.le_of_ble_eq_true rfl⟩, (C.2.2.2.2 (.static yX10_within) (by decide +kernel)), trivial⟩ ⟨mP_blind tX_B, fun U hU hV => ⟨rfl, hW.pre0 hU hV trivial⟩⟩ rfl rfl hl.1 rfl (lv_room (Nat.le_of_ble_eq_true rfl)) dX0_digitsFrom_9 ⟨Nat.zero_le _, Nat.zero_le _⟩) (fun r5 H locs h hW => ?_)
  refine lv_if_ne (tgt := 17) C.1 C.2.1 dX0_digitsFrom_12 (by decide) (fun c6 => ?_) (fun c6 => ?_)
  · replace h := h.1 c6
    refine lv_aload_n C.1 C.2.1 dX0_digitsFrom_17 rfl (lv_at hl 0 rfl) ?_
    refine lv_iload_n C.1 C.2.1 dX0_digitsFrom_18 rfl (lv_at hl 1 rfl) ?_
    refine lv_iconst (v := 1) C.1 C.2.1 dX0_digitsFrom_19 (by decide) ?_
    refine lv_iadd C.1 C.2.1 dX0_digitsFrom_20 ?_
    refine k_i hW (va_runV (As := [.int (x1 + (1 : Int32))]) (rest := []) C (mtX0_codeAt l D q cI cJ cZ cP cS K n H.size (x1 + (1 : Int32)) S2 L3 R4 _ h) (cwV 1 C.2.2.2.2 gX0_digitsFrom_X0_codeAt rfl rfl rfl (by decide +kernel) ⟨Nat.le_of_ble_eq_true rfl, Nat.le_of_ble_eq_true rfl⟩) ⟨mP_blind cX_B, va_recv hW.1 hW.2.1 (ci := 0) (q0 := 4) rfl (wL_get (by omega)), fun U hU hV => ⟨rfl, hW.pre hU hV (hX.call hW hU hV)⟩⟩ rfl rfl hl.1 rfl (lv_room (Nat.le_of_ble_eq_true rfl)) dX0_digitsFrom_21 ⟨Nat.zero_le _, Nat.zero_le _⟩) (fun r7 u H locs h hW => ?_)
    obtain ⟨S8, L9, R10⟩ := u
    replace hW : hw D (tyC cI cJ cZ cP cS) q (29 + 2 * n) (gC q cI cJ cZ cP cS K n S8 L9 R10) A s H locs := hW
    refine lv_bipush (v := 48) C.1 C.2.1 dX0_digitsFrom_24 (by decide) ?_
    refine lv_bipush (v := 57) C.1 C.2.1 dX0_digitsFrom_26 (by decide) ?_
    refine k_pi hW (va_runSN (As := [.int r7, .int (48 : Int32), .int (57 : Int32)]) (rest := []) C (mtX10_within l D q _ H.size r7 (48 : Int32) (57 : Int32) _ h) ⟨va_cnB 3 C.2.2.2.2 gX0_digitsFrom_X10_within_n40 rfl rfl rfl (hX.1 (.methodLinkNest RX0 40 yX10_within "BallMinder") (by decide +kernel)) (C.2.2.2.2 (.initialized RX10) (by decide +kernel)) (by decide +kernel) ⟨Nat.le_of_ble_eq_true rfl, Nat.le_of_ble_eq_true rfl⟩, (C.2.2.2.2 (.static yX10_within) (by decide +kernel)), trivial⟩ ⟨mP_blind tX_B, fun U hU hV => ⟨rfl, hW.pre0 hU hV trivial⟩⟩ rfl rfl hl.1 rfl (lv_room (Nat.le_of_ble_eq_true rfl)) dX0_digitsFrom_28 ⟨Nat.zero_le _, Nat.zero_le _⟩) (fun r11 H locs h hW => ?_)
    refine lv_if_eq (tgt := 38) C.1 C.2.1 dX0_digitsFrom_31 (by decide) (fun c12 => ?_) (fun c12 => ?_)
    · replace h := h.1 c12
      refine lv_iconst (v := 1) C.1 C.2.1 dX0_digitsFrom_38 (by decide) ?_
      exact t_i C hr hlk (u := (S8, L9, R10)) hW.2.2.2.1 hW.B h dX0_digitsFrom_39
    · replace h := h.2 c12
      refine lv_iconst (v := 2) C.1 C.2.1 dX0_digitsFrom_34 (by decide) ?_
      refine lv_goto (tgt := 39) C.1 C.2.1 dX0_digitsFrom_35 (by decide) ?_
      exact t_i C hr hlk (u := (S8, L9, R10)) hW.2.2.2.1 hW.B h dX0_digitsFrom_39
  · replace h := h.2 c6
    refine lv_iconst (v := 0) C.1 C.2.1 dX0_digitsFrom_15 (by decide) ?_
    exact t_i C hr hlk (u := (S2, L3, R4)) hW.2.2.2.1 hW.B h dX0_digitsFrom_16
set_option maxRecDepth 100000 in
set_option maxHeartbeats 4000000 in
theorem mtX0_digitsFrom (l : Launch) (D : va_G) (q : Nat → Nat) (cI cJ cZ cP cS : ClassId) (K : Nat → Nat) (n : Nat) (sz : Nat) (x1 : Int32) (S : Nat → Nat → Int32) (L : Nat → Int64) (R : Nat → Option Nat) (Q : Int32 → (Nat → Nat → Int32) → (Nat → Int64) → (Nat → Option Nat) → Prop) (h : vX0_digitsFrom K n x1 S L R Q) : Met l yX0_digitsFrom wsX0_digitsFrom rmX0_digitsFrom (va_Pc [.ref (q 4), .int x1] (mP D (tyC cI cJ cZ cP cS) q (29 + 2 * n) (gC q cI cJ cZ cP cS K n S L R) sz (cX (aQ q (29 + 2 * n) sz)))) (QCi D q cI cJ cZ cP cS K n Q (aQ q (29 + 2 * n) sz)) 0 0 (aQ q (29 + 2 * n) sz) := by
  refine met_w (cc := cX0_digitsFrom) (maxL := 2) (ret := (some .int)) (by decide) rfl (Nat.le_of_ble_eq_true rfl) ?_
  intro p e s m below meth c ls C hr hlk hW hX hnm hl
  exact sX0_digitsFrom C hr hlk hX Q x1 S L R _ _ _ h hW hl
theorem inX0_numberFrom_X0 : ∀ w ∈ wsX00, w ∈ wsX0_numberFrom := fun _ h => List.mem_cons_of_mem _ (List.mem_append_left _ (List.mem_append_right _ h))
theorem inX0_numberFrom_X6 : ∀ w ∈ wsX60, w ∈ wsX0_numberFrom := fun _ h => List.mem_cons_of_mem _ (List.mem_append_right _ h)
abbrev rmX0_numberFrom : Room := { frames := 4, cells := 0, slots := 0, locals := 85 }
def vX0_numberFrom_5 (K : Nat → Nat) (n : Nat) (Q : Int32 → (Nat → Nat → Int32) → (Nat → Int64) → (Nat → Option Nat) → Prop) : Nat → Int32 → Int32 → Int32 → Int32 → (Nat → Nat → Int32) → (Nat → Int64) → (Nat → Option Nat) → Prop
  | 0, _, _, _, _, _, _, _ => False
  | fu+1, x1, x2, x3, x4, S, L, R => (x2 ≤ x4 → Q x3 S L R) ∧ (¬ (x2 ≤ x4) → vX0_codeAt K n (x1 + x4) S L R (fun r2 S3 L4 R5 => ∀ x3_6 : Int32, x3_6 = (((10 : Int32) * x3) + r2) - (48 : Int32) → ∀ x4_7 : Int32, x4_7 = x4 + (1 : Int32) → vX0_numberFrom_5 K n Q fu x1 x2 x3_6 x4_7 S3 L4 R5))
def vX0_numberFrom (K : Nat → Nat) (n : Nat) (x1 : Int32) (x2 : Int32) (S : Nat → Nat → Int32) (L : Nat → Int64) (R : Nat → Option Nat) (Q : Int32 → (Nat → Nat → Int32) → (Nat → Int64) → (Nat → Option Nat) → Prop) : Prop := ∃ n5, vX0_numberFrom_5 K n Q n5 x1 x2 (0 : Int32) (0 : Int32) S L R
set_option maxRecDepth 100000 in
set_option maxHeartbeats 4000000 in
theorem sX0_numberFrom_5 {p : Program} {l : Launch} {e : Env} {s : State} {m : MethodId} {args : Array Value} {below : List Frame} {meth : Method} {c : Code} {D : va_G} {q : Nat → Nat} {A : Nat → Prop} {cI cJ cZ cP cS : ClassId} {K : Nat → Nat} {n : Nat} (C : CallFix p m c cX0_numberFrom 5 s args wsX0_numberFrom RX0) (hr : meth.sig.returnType = (some .int)) (hlk : meth.locks = false) (hX : cX A s) (Q : Int32 → (Nat → Nat → Int32) → (Nat → Int64) → (Nat → Option Nat) → Prop) : ∀ (fu : Nat) (x1 : Int32) (x2 : Int32) (x3 : Int32) (x4 : Int32) (S : Nat → Nat → Int32) (L : Nat → Int64) (R : Nat → Option Nat) (H : Heap) (locs : List Loc) (ls : Array Slot), vX0_numberFrom_5 K n Q fu x1 x2 x3 x4 S L R → hw D (tyC cI cJ cZ cP cS) q (29 + 2 * n) (gC q cI cJ cZ cP cS K n S L R) A s H locs → lv_has ls 5 [(0, .ref (q 4)), (1, .int x1), (2, .int x2), (3, .int x3), (4, .int x4)] → W p l e (headSpec wsX0_numberFrom rmX0_numberFrom).room s m args below meth c H locs 0 0 (MQ below (QCi D q cI cJ cZ cP cS K n Q A) args s 0 0 A) (F0 m 5 ls []) := by
  intro fu
  induction fu with
  | zero =>
    intro x1 x2 x3 x4 S L R H locs ls h
    exact h.elim
  | succ fu ih =>
    intro x1 x2 x3 x4 S L R H locs ls h hW hl
    refine lv_iload C.1 C.2.1 dX0_numberFrom_5 (lv_at hl 4 rfl) ?_
    refine lv_iload_n C.1 C.2.1 dX0_numberFrom_7 rfl (lv_at hl 2 rfl) ?_
    refine lv_icmp_ge (tgt := 34) C.1 C.2.1 dX0_numberFrom_8 (by decide) (fun c1 => ?_) (fun c1 => ?_)
    · replace h := h.1 c1
      refine lv_iload_n C.1 C.2.1 dX0_numberFrom_34 rfl (lv_at hl 3 rfl) ?_
      exact t_i C hr hlk (u := (S, L, R)) hW.2.2.2.1 hW.B h dX0_numberFrom_35
    · replace h := h.2 c1
      refine lv_bipush (v := 10) C.1 C.2.1 dX0_numberFrom_11 (by decide) ?_
      refine lv_iload_n C.1 C.2.1 dX0_numberFrom_13 rfl (lv_at hl 3 rfl) ?_
      refine lv_imul C.1 C.2.1 dX0_numberFrom_14 ?_
      refine lv_aload_n C.1 C.2.1 dX0_numberFrom_15 rfl (lv_at hl 0 rfl) ?_
      refine lv_iload_n C.1 C.2.1 dX0_numberFrom_16 rfl (lv_at hl 1 rfl) ?_
      refine lv_iload C.1 C.2.1 dX0_numberFrom_17 (lv_at hl 4 rfl) ?_
      refine lv_iadd C.1 C.2.1 dX0_numberFrom_19 ?_
      refine k_i hW (va_runV (As := [.int (x1 + x4)]) (rest := [.int ((10 : Int32) * x3)]) C (mtX0_codeAt l D q cI cJ cZ cP cS K n H.size (x1 + x4) S L R _ h) (cwV 1 C.2.2.2.2 gX0_numberFrom_X0_codeAt rfl rfl rfl (by decide +kernel) ⟨Nat.le_of_ble_eq_true rfl, Nat.le_of_ble_eq_true rfl⟩) ⟨mP_blind cX_B, va_recv hW.1 hW.2.1 (ci := 0) (q0 := 4) rfl (wL_get (by omega)), fun U hU hV => ⟨rfl, hW.pre hU hV (hX.call hW hU hV)⟩⟩ rfl rfl hl.1 rfl (lv_room (Nat.le_of_ble_eq_true rfl)) dX0_numberFrom_20 ⟨Nat.zero_le _, Nat.zero_le _⟩) (fun r2 u H locs h hW => ?_)
      obtain ⟨S3, L4, R5⟩ := u
      replace hW : hw D (tyC cI cJ cZ cP cS) q (29 + 2 * n) (gC q cI cJ cZ cP cS K n S3 L4 R5) A s H locs := hW
      refine lv_iadd C.1 C.2.1 dX0_numberFrom_23 ?_
      refine lv_bipush (v := 48) C.1 C.2.1 dX0_numberFrom_24 (by decide) ?_
      refine lv_isub C.1 C.2.1 dX0_numberFrom_26 ?_
      refine lv_topi (fun x3_6 ex3_6 => ?_)
      replace h := h x3_6 ex3_6
      refine lv_istore_n (lv' := [(3, .int x3_6), (0, .ref (q 4)), (1, .int x1), (2, .int x2), (4, .int x4)]) C.1 C.2.1 dX0_numberFrom_27 rfl hl (by decide) rfl (fun ls hl => ?_)
      obtain ⟨x4_7, ex4_7⟩ : ∃ z : Int32, z = x4 + (1 : Int32) := ⟨_, rfl⟩
      replace h := h x4_7 ex4_7
      refine lv_iinc (v := x4_7) (lv' := [(4, .int x4_7), (3, .int x3_6), (0, .ref (q 4)), (1, .int x1), (2, .int x2)]) C.1 C.2.1 dX0_numberFrom_28 hl (k := 4) rfl (by rw [ex4_7]; rfl) (by decide) rfl (fun ls hl => ?_)
      refine lv_goto (tgt := 5) C.1 C.2.1 dX0_numberFrom_31 (by decide) ?_
      exact ih x1 x2 x3_6 x4_7 S3 L4 R5 _ _ _ h hW (lv_sub hl [2, 3, 4, 1, 0] rfl)
set_option maxRecDepth 100000 in
set_option maxHeartbeats 4000000 in
theorem sX0_numberFrom {p : Program} {l : Launch} {e : Env} {s : State} {m : MethodId} {args : Array Value} {below : List Frame} {meth : Method} {c : Code} {D : va_G} {q : Nat → Nat} {A : Nat → Prop} {cI cJ cZ cP cS : ClassId} {K : Nat → Nat} {n : Nat} (C : CallFix p m c cX0_numberFrom 5 s args wsX0_numberFrom RX0) (hr : meth.sig.returnType = (some .int)) (hlk : meth.locks = false) (hX : cX A s) (Q : Int32 → (Nat → Nat → Int32) → (Nat → Int64) → (Nat → Option Nat) → Prop) : ∀ (x1 : Int32) (x2 : Int32) (S : Nat → Nat → Int32) (L : Nat → Int64) (R : Nat → Option Nat) (H : Heap) (locs : List Loc) (ls : Array Slot), vX0_numberFrom K n x1 x2 S L R Q → hw D (tyC cI cJ cZ cP cS) q (29 + 2 * n) (gC q cI cJ cZ cP cS K n S L R) A s H locs → lv_has ls 5 [(0, .ref (q 4)), (1, .int x1), (2, .int x2)] → W p l e (headSpec wsX0_numberFrom rmX0_numberFrom).room s m args below meth c H locs 0 0 (MQ below (QCi D q cI cJ cZ cP cS K n Q A) args s 0 0 A) (F0 m 0 ls []) := by
  intro x1 x2 S L R H locs ls h hW hl
  unfold vX0_numberFrom at h
  refine lv_iconst (v := 0) C.1 C.2.1 dX0_numberFrom_0 (by decide) ?_
  refine lv_istore_n (lv' := [(3, .int (0 : Int32)), (0, .ref (q 4)), (1, .int x1), (2, .int x2)]) C.1 C.2.1 dX0_numberFrom_1 rfl hl (by decide) rfl (fun ls hl => ?_)
  refine lv_iconst (v := 0) C.1 C.2.1 dX0_numberFrom_2 (by decide) ?_
  refine lv_istore (lv' := [(4, .int (0 : Int32)), (3, .int (0 : Int32)), (0, .ref (q 4)), (1, .int x1), (2, .int x2)]) C.1 C.2.1 dX0_numberFrom_3 hl (by decide) rfl (fun ls hl => ?_)
  obtain ⟨n9, h⟩ := h
  exact sX0_numberFrom_5 C hr hlk hX Q n9 x1 x2 (0 : Int32) (0 : Int32) S L R _ _ _ h hW (lv_sub hl [2, 3, 4, 1, 0] rfl)
set_option maxRecDepth 100000 in
set_option maxHeartbeats 4000000 in
theorem mtX0_numberFrom (l : Launch) (D : va_G) (q : Nat → Nat) (cI cJ cZ cP cS : ClassId) (K : Nat → Nat) (n : Nat) (sz : Nat) (x1 : Int32) (x2 : Int32) (S : Nat → Nat → Int32) (L : Nat → Int64) (R : Nat → Option Nat) (Q : Int32 → (Nat → Nat → Int32) → (Nat → Int64) → (Nat → Option Nat) → Prop) (h : vX0_numberFrom K n x1 x2 S L R Q) : Met l yX0_numberFrom wsX0_numberFrom rmX0_numberFrom (va_Pc [.ref (q 4), .int x1, .int x2] (mP D (tyC cI cJ cZ cP cS) q (29 + 2 * n) (gC q cI cJ cZ cP cS K n S L R) sz (cX (aQ q (29 + 2 * n) sz)))) (QCi D q cI cJ cZ cP cS K n Q (aQ q (29 + 2 * n) sz)) 0 0 (aQ q (29 + 2 * n) sz) := by
  refine met_w (cc := cX0_numberFrom) (maxL := 5) (ret := (some .int)) (by decide) rfl (Nat.le_of_ble_eq_true rfl) ?_
  intro p e s m below meth c ls C hr hlk hW hX hnm hl
  exact sX0_numberFrom C hr hlk hX Q x1 x2 S L R _ _ _ h hW hl
theorem inX0_read_X0 : ∀ w ∈ wsX00, w ∈ wsX0_read := fun _ h => List.mem_cons_of_mem _ (List.mem_append_left _ (List.mem_append_right _ h))
theorem inX0_read_X6 : ∀ w ∈ wsX60, w ∈ wsX0_read := fun _ h => List.mem_cons_of_mem _ (List.mem_append_right _ h)
abbrev rmX0_read : Room := { frames := 5, cells := 0, slots := 0, locals := 109 }
def vX0_read_13 (K : Nat → Nat) (n : Nat) (Q : Int32 → (Nat → Nat → Int32) → (Nat → Int64) → (Nat → Option Nat) → Prop) : Nat → Int32 → Int32 → (Nat → Nat → Int32) → (Nat → Int64) → (Nat → Option Nat) → Prop
  | 0, _, _, _, _, _ => False
  | fu+1, x4, x5, S, L, R => ((9 : Int32) < x5 → Q x4 S L R) ∧ (¬ ((9 : Int32) < x5) → vX0_letterAt K n x4 S L R (fun r5 S6 L7 R8 => (r5 = (-1 : Int32) → Q x4 S6 L7 R8) ∧ (¬ (r5 = (-1 : Int32)) → vp_in r5 9 ∧ (((S6 6 r5.toNatClampNeg) = 0 → ∀ x4_12 : Int32, x4_12 = x4 + (1 : Int32) → vX0_digitsFrom K n x4_12 S6 L7 R8 (fun r13 S14 L15 R16 => vX0_numberFrom K n x4_12 r13 S14 L15 R16 (fun r17 S18 L19 R20 => (r13 = 0 → Q x4_12 S18 L19 R20) ∧ (¬ (r13 = 0) → vp_in r5 9 ∧ (vp_in r5 9 ∧ (vX10_within r17 (leastV r5.toNatClampNeg) (greatestV r5.toNatClampNeg) (fun r28 => (¬ r28 = 0 → vp_in r5 9 ∧ (∀ S31 : Nat → Nat → Int32, S31 = va_up S18 5 (upd (S18 5) r5.toNatClampNeg r17) → vp_in r5 9 ∧ (∀ S33 : Nat → Nat → Int32, S33 = va_up S31 6 (upd (S31 6) r5.toNatClampNeg (vp_nar .boolean (1 : Int32))) → ∀ x4_34 : Int32, x4_34 = x4_12 + r13 → (x4_34 < (S33 4 4) → vX0_codeAt K n x4_34 S33 L19 R20 (fun r36 S37 L38 R39 => (¬ r36 = (59 : Int32) → Q x4_34 S37 L38 R39) ∧ (r36 = (59 : Int32) → (¬ x5 = (9 : Int32) → ∀ x4_42 : Int32, x4_42 = x4_34 + (1 : Int32) → ∀ x5_43 : Int32, x5_43 = x5 + (1 : Int32) → vX0_read_13 K n Q fu x4_42 x5_43 S37 L38 R39) ∧ (x5 = (9 : Int32) → Q x4_34 S37 L38 R39)))) ∧ (¬ (x4_34 < (S33 4 4)) → Q (-1 : Int32) S33 L19 R20)))) ∧ (r28 = 0 → Q x4_12 S18 L19 R20)))))))) ∧ (¬ ((S6 6 r5.toNatClampNeg) = 0) → Q x4 S6 L7 R8)))))
def vX0_read (K : Nat → Nat) (n : Nat) (x1 : Nat) (x2 : Int32) (x3 : Int32) (S : Nat → Nat → Int32) (L : Nat → Int64) (R : Nat → Option Nat) (Q : Int32 → (Nat → Nat → Int32) → (Nat → Int64) → (Nat → Option Nat) → Prop) : Prop := vX0_begin K n x1 x2 x3 S L R (fun S1 L2 R3 => ∃ n13, vX0_read_13 K n Q n13 (0 : Int32) (1 : Int32) S1 L2 R3)
set_option maxRecDepth 100000 in
set_option maxHeartbeats 4000000 in
theorem sX0_read_13 {p : Program} {l : Launch} {e : Env} {s : State} {m : MethodId} {args : Array Value} {below : List Frame} {meth : Method} {c : Code} {D : va_G} {q : Nat → Nat} {A : Nat → Prop} {cI cJ cZ cP cS : ClassId} {K : Nat → Nat} {n : Nat} (C : CallFix p m c cX0_read 9 s args wsX0_read RX0) (hr : meth.sig.returnType = (some .int)) (hlk : meth.locks = false) (hX : cX A s) (Q : Int32 → (Nat → Nat → Int32) → (Nat → Int64) → (Nat → Option Nat) → Prop) : ∀ (fu : Nat) (x4 : Int32) (x5 : Int32) (S : Nat → Nat → Int32) (L : Nat → Int64) (R : Nat → Option Nat) (H : Heap) (locs : List Loc) (ls : Array Slot), vX0_read_13 K n Q fu x4 x5 S L R → hw D (tyC cI cJ cZ cP cS) q (29 + 2 * n) (gC q cI cJ cZ cP cS K n S L R) A s H locs → lv_has ls 9 [(0, .ref (q 4)), (4, .int x4), (5, .int x5)] → W p l e (headSpec wsX0_read rmX0_read).room s m args below meth c H locs 0 0 (MQ below (QCi D q cI cJ cZ cP cS K n Q A) args s 0 0 A) (F0 m 13 ls []) := by
  intro fu
  induction fu with
  | zero =>
    intro x4 x5 S L R H locs ls h
    exact h.elim
  | succ fu ih =>
    intro x4 x5 S L R H locs ls h hW hl
    refine lv_iload C.1 C.2.1 dX0_read_13 (lv_at hl 2 rfl) ?_
    refine lv_bipush (v := 9) C.1 C.2.1 dX0_read_15 (by decide) ?_
    refine lv_icmp_gt (tgt := 161) C.1 C.2.1 dX0_read_17 (by decide) (fun c4 => ?_) (fun c4 => ?_)
    · replace h := h.1 c4
      refine lv_iload C.1 C.2.1 dX0_read_161 (lv_at hl 1 rfl) ?_
      exact t_i C hr hlk (u := (S, L, R)) hW.2.2.2.1 hW.B h dX0_read_163
    · replace h := h.2 c4
      refine lv_aload_n C.1 C.2.1 dX0_read_20 rfl (lv_at hl 0 rfl) ?_
      refine lv_iload C.1 C.2.1 dX0_read_21 (lv_at hl 1 rfl) ?_
      refine k_i hW (va_runV (As := [.int x4]) (rest := []) C (mtX0_letterAt l D q cI cJ cZ cP cS K n H.size x4 S L R _ h) (cwV 1 C.2.2.2.2 gX0_read_X0_letterAt rfl rfl rfl (by decide +kernel) ⟨Nat.le_of_ble_eq_true rfl, Nat.le_of_ble_eq_true rfl⟩) ⟨mP_blind cX_B, va_recv hW.1 hW.2.1 (ci := 0) (q0 := 4) rfl (wL_get (by omega)), fun U hU hV => ⟨rfl, hW.pre hU hV (hX.call hW hU hV)⟩⟩ rfl rfl hl.1 rfl (lv_room (Nat.le_of_ble_eq_true rfl)) dX0_read_23 ⟨Nat.zero_le _, Nat.zero_le _⟩) (fun r5 u H locs h hW => ?_)
      obtain ⟨S6, L7, R8⟩ := u
      replace hW : hw D (tyC cI cJ cZ cP cS) q (29 + 2 * n) (gC q cI cJ cZ cP cS K n S6 L7 R8) A s H locs := hW
      refine lv_istore (lv' := [(6, .int r5), (0, .ref (q 4)), (4, .int x4), (5, .int x5)]) C.1 C.2.1 dX0_read_26 hl (by decide) rfl (fun ls hl => ?_)
      refine lv_iload C.1 C.2.1 dX0_read_28 (lv_at hl 0 rfl) ?_
      refine lv_iconst (v := -1) C.1 C.2.1 dX0_read_30 (by decide) ?_
      refine lv_icmp_eq (tgt := 44) C.1 C.2.1 dX0_read_31 (by decide) (fun c9 => ?_) (fun c9 => ?_)
      · replace h := h.1 c9
        refine lv_iload C.1 C.2.1 dX0_read_44 (lv_at hl 2 rfl) ?_
        exact t_i C hr hlk (u := (S6, L7, R8)) hW.2.2.2.1 hW.B h dX0_read_46
      · replace h := h.2 c9
        refine lv_aload_n C.1 C.2.1 dX0_read_34 rfl (lv_at hl 1 rfl) ?_
        refine r_get C hW (ci := 0) (T := TX0) (n := 5) (ref := "BallMinder$Drawing") (v := .ref (q 6)) (4) (by omega) rfl rfl 1 (by decide) inX0_read_X0 (by decide +kernel) (fun _ h9 => h9) rfl dX0_read_35 ?_
        refine lv_iload C.1 C.2.1 dX0_read_38 (lv_at hl 0 rfl) ?_
        obtain ⟨hs10, h⟩ := h
        refine r_zald C hW (cA := cZ) (n := 9) (f := S6 6) (6) 2 (by omega) rfl rfl hs10 dX0_read_40 ?_
        refine lv_if_eq (tgt := 47) C.1 C.2.1 dX0_read_41 (by decide) (fun c11 => ?_) (fun c11 => ?_)
        · replace h := h.1 c11
          obtain ⟨x4_12, ex4_12⟩ : ∃ z : Int32, z = x4 + (1 : Int32) := ⟨_, rfl⟩
          replace h := h x4_12 ex4_12
          refine lv_iinc (v := x4_12) (lv' := [(4, .int x4_12), (6, .int r5), (0, .ref (q 4)), (5, .int x5)]) C.1 C.2.1 dX0_read_47 hl (k := 2) rfl (by rw [ex4_12]; rfl) (by decide) rfl (fun ls hl => ?_)
          refine lv_aload_n C.1 C.2.1 dX0_read_50 rfl (lv_at hl 2 rfl) ?_
          refine lv_iload C.1 C.2.1 dX0_read_51 (lv_at hl 0 rfl) ?_
          refine k_i hW (va_runV (As := [.int x4_12]) (rest := []) C (mtX0_digitsFrom l D q cI cJ cZ cP cS K n H.size x4_12 S6 L7 R8 _ h) (cwV 1 C.2.2.2.2 gX0_read_X0_digitsFrom rfl rfl rfl (by decide +kernel) ⟨Nat.le_of_ble_eq_true rfl, Nat.le_of_ble_eq_true rfl⟩) ⟨mP_blind cX_B, va_recv hW.1 hW.2.1 (ci := 0) (q0 := 4) rfl (wL_get (by omega)), fun U hU hV => ⟨rfl, hW.pre hU hV (hX.call hW hU hV)⟩⟩ rfl rfl hl.1 rfl (lv_room (Nat.le_of_ble_eq_true rfl)) dX0_read_53 ⟨Nat.zero_le _, Nat.zero_le _⟩) (fun r13 u H locs h hW => ?_)
          obtain ⟨S14, L15, R16⟩ := u
          replace hW : hw D (tyC cI cJ cZ cP cS) q (29 + 2 * n) (gC q cI cJ cZ cP cS K n S14 L15 R16) A s H locs := hW
          refine lv_istore (lv' := [(7, .int r13), (4, .int x4_12), (6, .int r5), (0, .ref (q 4)), (5, .int x5)]) C.1 C.2.1 dX0_read_56 hl (by decide) rfl (fun ls hl => ?_)
          refine lv_aload_n C.1 C.2.1 dX0_read_58 rfl (lv_at hl 3 rfl) ?_
          refine lv_iload C.1 C.2.1 dX0_read_59 (lv_at hl 1 rfl) ?_
          refine lv_iload C.1 C.2.1 dX0_read_61 (lv_at hl 0 rfl) ?_
          refine k_i hW (va_runV (As := [.int x4_12, .int r13]) (rest := []) C (mtX0_numberFrom l D q cI cJ cZ cP cS K n H.size x4_12 r13 S14 L15 R16 _ h) (cwV 2 C.2.2.2.2 gX0_read_X0_numberFrom rfl rfl rfl (by decide +kernel) ⟨Nat.le_of_ble_eq_true rfl, Nat.le_of_ble_eq_true rfl⟩) ⟨mP_blind cX_B, va_recv hW.1 hW.2.1 (ci := 0) (q0 := 4) rfl (wL_get (by omega)), fun U hU hV => ⟨rfl, hW.pre hU hV (hX.call hW hU hV)⟩⟩ rfl rfl hl.1 rfl (lv_room (Nat.le_of_ble_eq_true rfl)) dX0_read_63 ⟨Nat.zero_le _, Nat.zero_le _⟩) (fun r17 u H locs h hW => ?_)
          obtain ⟨S18, L19, R20⟩ := u
          replace hW : hw D (tyC cI cJ cZ cP cS) q (29 + 2 * n) (gC q cI cJ cZ cP cS K n S18 L19 R20) A s H locs := hW
          refine lv_istore (lv' := [(8, .int r17), (7, .int r13), (4, .int x4_12), (6, .int r5), (0, .ref (q 4)), (5, .int x5)]) C.1 C.2.1 dX0_read_66 hl (by decide) rfl (fun ls hl => ?_)
          refine lv_iload C.1 C.2.1 dX0_read_68 (lv_at hl 1 rfl) ?_
          refine lv_if_eq (tgt := 93) C.1 C.2.1 dX0_read_70 (by decide) (fun c21 => ?_) (fun c21 => ?_)
          · replace h := h.1 c21
            refine lv_iload C.1 C.2.1 dX0_read_93 (lv_at hl 2 rfl) ?_
            exact t_i C hr hlk (u := (S18, L19, R20)) hW.2.2.2.1 hW.B h dX0_read_95
          · replace h := h.2 c21
            refine lv_iload C.1 C.2.1 dX0_read_73 (lv_at hl 0 rfl) ?_
            refine c_statN C hW hX.2.1 (hX.1 _ (by decide +kernel)) dX0_read_75 (fun t22 hT23 => ?_)
            refine lv_iload C.1 C.2.1 dX0_read_78 (lv_at hl 3 rfl) ?_
            obtain ⟨hs24, h⟩ := h
            refine va_ti C.1 C.2.1 hT23 hW.2.2.2.1 hs24 rfl dX0_read_80 ?_
            refine c_statN C hW hX.2.2.1 (hX.1 _ (by decide +kernel)) dX0_read_81 (fun t25 hT26 => ?_)
            refine lv_iload C.1 C.2.1 dX0_read_84 (lv_at hl 3 rfl) ?_
            obtain ⟨hs27, h⟩ := h
            refine va_ti C.1 C.2.1 hT26 hW.2.2.2.1 hs27 rfl dX0_read_86 ?_
            refine k_pi hW (va_runSN (As := [.int r17, .int (leastV r5.toNatClampNeg), .int (greatestV r5.toNatClampNeg)]) (rest := []) C (mtX10_within l D q _ H.size r17 (leastV r5.toNatClampNeg) (greatestV r5.toNatClampNeg) _ h) ⟨va_cnB 3 C.2.2.2.2 gX0_read_X10_within_n40 rfl rfl rfl (hX.1 (.methodLinkNest RX0 40 yX10_within "BallMinder") (by decide +kernel)) (C.2.2.2.2 (.initialized RX10) (by decide +kernel)) (by decide +kernel) ⟨Nat.le_of_ble_eq_true rfl, Nat.le_of_ble_eq_true rfl⟩, (C.2.2.2.2 (.static yX10_within) (by decide +kernel)), trivial⟩ ⟨mP_blind tX_B, fun U hU hV => ⟨rfl, hW.pre0 hU hV trivial⟩⟩ rfl rfl hl.1 rfl (lv_room (Nat.le_of_ble_eq_true rfl)) dX0_read_87 ⟨Nat.zero_le _, Nat.zero_le _⟩) (fun r28 H locs h hW => ?_)
            refine lv_if_ne (tgt := 96) C.1 C.2.1 dX0_read_90 (by decide) (fun c29 => ?_) (fun c29 => ?_)
            · replace h := h.1 c29
              refine lv_aload_n C.1 C.2.1 dX0_read_96 rfl (lv_at hl 4 rfl) ?_
              refine r_get C hW (ci := 0) (T := TX0) (n := 5) (ref := "BallMinder$Drawing") (v := .ref (q 5)) (4) (by omega) rfl rfl 0 (by decide) inX0_read_X0 (by decide +kernel) (fun _ h9 => h9) rfl dX0_read_97 ?_
              refine lv_iload C.1 C.2.1 dX0_read_100 (lv_at hl 3 rfl) ?_
              refine lv_iload C.1 C.2.1 dX0_read_102 (lv_at hl 0 rfl) ?_
              obtain ⟨hs30, h⟩ := h
              refine r_iast C hW (cA := cI) (n := 9) (f := S18 5) (5) 0 (by omega) rfl rfl hs30 dX0_read_104 (fun H locs hW => ?_)
              replace hW := gC_put (F := upd (S18 5) r5.toNatClampNeg r17) rfl hW
              obtain ⟨S31, eS31⟩ : ∃ z : Nat → Nat → Int32, z = va_up S18 5 (upd (S18 5) r5.toNatClampNeg r17) := ⟨_, rfl⟩
              rw [← eS31] at hW
              replace h := h S31 eS31
              refine lv_aload_n C.1 C.2.1 dX0_read_105 rfl (lv_at hl 4 rfl) ?_
              refine r_get C hW (ci := 0) (T := TX0) (n := 5) (ref := "BallMinder$Drawing") (v := .ref (q 6)) (4) (by omega) rfl rfl 1 (by decide) inX0_read_X0 (by decide +kernel) (fun _ h9 => h9) rfl dX0_read_106 ?_
              refine lv_iload C.1 C.2.1 dX0_read_109 (lv_at hl 3 rfl) ?_
              refine lv_iconst (v := 1) C.1 C.2.1 dX0_read_111 (by decide) ?_
              obtain ⟨hs32, h⟩ := h
              refine r_zast C hW (cA := cZ) (n := 9) (f := S31 6) (6) 2 (by omega) rfl rfl hs32 dX0_read_112 (fun H locs hW => ?_)
              replace hW := gC_put (F := upd (S31 6) r5.toNatClampNeg (vp_nar .boolean (1 : Int32))) rfl hW
              obtain ⟨S33, eS33⟩ : ∃ z : Nat → Nat → Int32, z = va_up S31 6 (upd (S31 6) r5.toNatClampNeg (vp_nar .boolean (1 : Int32))) := ⟨_, rfl⟩
              rw [← eS33] at hW
              replace h := h S33 eS33
              refine lv_iload C.1 C.2.1 dX0_read_113 (lv_at hl 2 rfl) ?_
              refine lv_iload C.1 C.2.1 dX0_read_115 (lv_at hl 1 rfl) ?_
              refine lv_iadd C.1 C.2.1 dX0_read_117 ?_
              refine lv_topi (fun x4_34 ex4_34 => ?_)
              replace h := h x4_34 ex4_34
              refine lv_istore (lv' := [(4, .int x4_34), (8, .int r17), (7, .int r13), (6, .int r5), (0, .ref (q 4)), (5, .int x5)]) C.1 C.2.1 dX0_read_118 hl (by decide) rfl (fun ls hl => ?_)
              refine lv_iload C.1 C.2.1 dX0_read_120 (lv_at hl 0 rfl) ?_
              refine lv_aload_n C.1 C.2.1 dX0_read_122 rfl (lv_at hl 4 rfl) ?_
              refine r_get C hW (ci := 0) (T := TX0) (n := 5) (ref := "BallMinder$Drawing") (v := .int (S33 4 4)) (4) (by omega) rfl rfl 4 (by decide) inX0_read_X0 (by decide +kernel) (fun _ h9 => h9) rfl dX0_read_123 ?_
              refine lv_icmp_lt (tgt := 131) C.1 C.2.1 dX0_read_126 (by decide) (fun c35 => ?_) (fun c35 => ?_)
              · replace h := h.1 c35
                refine lv_aload_n C.1 C.2.1 dX0_read_131 rfl (lv_at hl 4 rfl) ?_
                refine lv_iload C.1 C.2.1 dX0_read_132 (lv_at hl 0 rfl) ?_
                refine k_i hW (va_runV (As := [.int x4_34]) (rest := []) C (mtX0_codeAt l D q cI cJ cZ cP cS K n H.size x4_34 S33 L19 R20 _ h) (cwV 1 C.2.2.2.2 gX0_read_X0_codeAt rfl rfl rfl (by decide +kernel) ⟨Nat.le_of_ble_eq_true rfl, Nat.le_of_ble_eq_true rfl⟩) ⟨mP_blind cX_B, va_recv hW.1 hW.2.1 (ci := 0) (q0 := 4) rfl (wL_get (by omega)), fun U hU hV => ⟨rfl, hW.pre hU hV (hX.call hW hU hV)⟩⟩ rfl rfl hl.1 rfl (lv_room (Nat.le_of_ble_eq_true rfl)) dX0_read_134 ⟨Nat.zero_le _, Nat.zero_le _⟩) (fun r36 u H locs h hW => ?_)
                obtain ⟨S37, L38, R39⟩ := u
                replace hW : hw D (tyC cI cJ cZ cP cS) q (29 + 2 * n) (gC q cI cJ cZ cP cS K n S37 L38 R39) A s H locs := hW
                refine lv_bipush (v := 59) C.1 C.2.1 dX0_read_137 (by decide) ?_
                refine lv_icmp_ne (tgt := 149) C.1 C.2.1 dX0_read_139 (by decide) (fun c40 => ?_) (fun c40 => ?_)
                · replace h := h.1 c40
                  refine lv_iload C.1 C.2.1 dX0_read_149 (lv_at hl 0 rfl) ?_
                  exact t_i C hr hlk (u := (S37, L38, R39)) hW.2.2.2.1 hW.B h dX0_read_151
                · replace h := h.2 c40
                  refine lv_iload C.1 C.2.1 dX0_read_142 (lv_at hl 5 rfl) ?_
                  refine lv_bipush (v := 9) C.1 C.2.1 dX0_read_144 (by decide) ?_
                  refine lv_icmp_ne (tgt := 152) C.1 C.2.1 dX0_read_146 (by decide) (fun c41 => ?_) (fun c41 => ?_)
                  · replace h := h.1 c41
                    obtain ⟨x4_42, ex4_42⟩ : ∃ z : Int32, z = x4_34 + (1 : Int32) := ⟨_, rfl⟩
                    replace h := h x4_42 ex4_42
                    refine lv_iinc (v := x4_42) (lv' := [(4, .int x4_42), (8, .int r17), (7, .int r13), (6, .int r5), (0, .ref (q 4)), (5, .int x5)]) C.1 C.2.1 dX0_read_152 hl (k := 0) rfl (by rw [ex4_42]; rfl) (by decide) rfl (fun ls hl => ?_)
                    obtain ⟨x5_43, ex5_43⟩ : ∃ z : Int32, z = x5 + (1 : Int32) := ⟨_, rfl⟩
                    replace h := h x5_43 ex5_43
                    refine lv_iinc (v := x5_43) (lv' := [(5, .int x5_43), (4, .int x4_42), (8, .int r17), (7, .int r13), (6, .int r5), (0, .ref (q 4))]) C.1 C.2.1 dX0_read_155 hl (k := 5) rfl (by rw [ex5_43]; rfl) (by decide) rfl (fun ls hl => ?_)
                    refine lv_goto (tgt := 13) C.1 C.2.1 dX0_read_158 (by decide) ?_
                    exact ih x4_42 x5_43 S37 L38 R39 _ _ _ h hW (lv_sub hl [5, 1, 0] rfl)
                  · replace h := h.2 c41
                    refine lv_iload C.1 C.2.1 dX0_read_149 (lv_at hl 0 rfl) ?_
                    exact t_i C hr hlk (u := (S37, L38, R39)) hW.2.2.2.1 hW.B h dX0_read_151
              · replace h := h.2 c35
                refine lv_iconst (v := -1) C.1 C.2.1 dX0_read_129 (by decide) ?_
                exact t_i C hr hlk (u := (S33, L19, R20)) hW.2.2.2.1 hW.B h dX0_read_130
            · replace h := h.2 c29
              refine lv_iload C.1 C.2.1 dX0_read_93 (lv_at hl 2 rfl) ?_
              exact t_i C hr hlk (u := (S18, L19, R20)) hW.2.2.2.1 hW.B h dX0_read_95
        · replace h := h.2 c11
          refine lv_iload C.1 C.2.1 dX0_read_44 (lv_at hl 2 rfl) ?_
          exact t_i C hr hlk (u := (S6, L7, R8)) hW.2.2.2.1 hW.B h dX0_read_46
set_option maxRecDepth 100000 in
set_option maxHeartbeats 4000000 in
theorem sX0_read {p : Program} {l : Launch} {e : Env} {s : State} {m : MethodId} {args : Array Value} {below : List Frame} {meth : Method} {c : Code} {D : va_G} {q : Nat → Nat} {A : Nat → Prop} {cI cJ cZ cP cS : ClassId} {K : Nat → Nat} {n : Nat} (C : CallFix p m c cX0_read 9 s args wsX0_read RX0) (hr : meth.sig.returnType = (some .int)) (hlk : meth.locks = false) (hX : cX A s) (Q : Int32 → (Nat → Nat → Int32) → (Nat → Int64) → (Nat → Option Nat) → Prop) : ∀ (x1 : Nat) (x2 : Int32) (x3 : Int32) (S : Nat → Nat → Int32) (L : Nat → Int64) (R : Nat → Option Nat) (H : Heap) (locs : List Loc) (ls : Array Slot), vX0_read K n x1 x2 x3 S L R Q → hw D (tyC cI cJ cZ cP cS) q (29 + 2 * n) (gC q cI cJ cZ cP cS K n S L R) A s H locs → lv_has ls 9 [(0, .ref (q 4)), (1, .ref (q (21 + 2 * x1))), (2, .int x2), (3, .int x3)] → W p l e (headSpec wsX0_read rmX0_read).room s m args below meth c H locs 0 0 (MQ below (QCi D q cI cJ cZ cP cS K n Q A) args s 0 0 A) (F0 m 0 ls []) := by
  intro x1 x2 x3 S L R H locs ls h hW hl
  unfold vX0_read at h
  refine lv_aload_n C.1 C.2.1 dX0_read_0 rfl (lv_at hl 0 rfl) ?_
  refine lv_aload_n C.1 C.2.1 dX0_read_1 rfl (lv_at hl 1 rfl) ?_
  refine lv_iload_n C.1 C.2.1 dX0_read_2 rfl (lv_at hl 2 rfl) ?_
  refine lv_iload_n C.1 C.2.1 dX0_read_3 rfl (lv_at hl 3 rfl) ?_
  refine k_v hW (va_runV (As := [.ref (q (21 + 2 * x1)), .int x2, .int x3]) (rest := []) C (mtX0_begin l D q cI cJ cZ cP cS K n H.size x1 x2 x3 S L R _ h) (cwV 3 C.2.2.2.2 gX0_read_X0_begin rfl rfl rfl (by decide +kernel) ⟨Nat.le_of_ble_eq_true rfl, Nat.le_of_ble_eq_true rfl⟩) ⟨mP_blind cX_B, va_recv hW.1 hW.2.1 (ci := 0) (q0 := 4) rfl (wL_get (by omega)), fun U hU hV => ⟨rfl, hW.pre hU hV (hX.call hW hU hV)⟩⟩ rfl rfl hl.1 rfl (lv_room (Nat.le_of_ble_eq_true rfl)) dX0_read_4 ⟨Nat.zero_le _, Nat.zero_le _⟩) (fun u H locs h hW => ?_)
  obtain ⟨S1, L2, R3⟩ := u
  replace hW : hw D (tyC cI cJ cZ cP cS) q (29 + 2 * n) (gC q cI cJ cZ cP cS K n S1 L2 R3) A s H locs := hW
  refine lv_iconst (v := 0) C.1 C.2.1 dX0_read_7 (by decide) ?_
  refine lv_istore (lv' := [(4, .int (0 : Int32)), (0, .ref (q 4)), (1, .ref (q (21 + 2 * x1))), (2, .int x2), (3, .int x3)]) C.1 C.2.1 dX0_read_8 hl (by decide) rfl (fun ls hl => ?_)
  refine lv_iconst (v := 1) C.1 C.2.1 dX0_read_10 (by decide) ?_
  refine lv_istore (lv' := [(5, .int (1 : Int32)), (4, .int (0 : Int32)), (0, .ref (q 4)), (1, .ref (q (21 + 2 * x1))), (2, .int x2), (3, .int x3)]) C.1 C.2.1 dX0_read_11 hl (by decide) rfl (fun ls hl => ?_)
  obtain ⟨n9, h⟩ := h
  exact sX0_read_13 C hr hlk hX Q n9 (0 : Int32) (1 : Int32) S1 L2 R3 _ _ _ h hW (lv_sub hl [2, 1, 0] rfl)
set_option maxRecDepth 100000 in
set_option maxHeartbeats 4000000 in
theorem mtX0_read (l : Launch) (D : va_G) (q : Nat → Nat) (cI cJ cZ cP cS : ClassId) (K : Nat → Nat) (n : Nat) (sz : Nat) (x1 : Nat) (x2 : Int32) (x3 : Int32) (S : Nat → Nat → Int32) (L : Nat → Int64) (R : Nat → Option Nat) (Q : Int32 → (Nat → Nat → Int32) → (Nat → Int64) → (Nat → Option Nat) → Prop) (h : vX0_read K n x1 x2 x3 S L R Q) : Met l yX0_read wsX0_read rmX0_read (va_Pc [.ref (q 4), .ref (q (21 + 2 * x1)), .int x2, .int x3] (mP D (tyC cI cJ cZ cP cS) q (29 + 2 * n) (gC q cI cJ cZ cP cS K n S L R) sz (cX (aQ q (29 + 2 * n) sz)))) (QCi D q cI cJ cZ cP cS K n Q (aQ q (29 + 2 * n) sz)) 0 0 (aQ q (29 + 2 * n) sz) := by
  refine met_w (cc := cX0_read) (maxL := 9) (ret := (some .int)) (by decide) rfl (Nat.le_of_ble_eq_true rfl) ?_
  intro p e s m below meth c ls C hr hlk hW hX hnm hl
  exact sX0_read C hr hlk hX Q x1 x2 x3 S L R _ _ _ h hW hl
