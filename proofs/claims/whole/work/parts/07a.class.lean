abbrev rmX4_kind : Room := { frames := 0, cells := 0, slots := 0, locals := 0 }
def vX4_kind (K : Nat → Nat) (n : Nat) (x : Nat) (S : Nat → Nat → Int32) (L : Nat → Int64) (R : Nat → Option Nat) (Q : Int32 → (Nat → Nat → Int32) → (Nat → Int64) → (Nat → Option Nat) → Prop) : Prop := Q (0 : Int32) S L R
set_option maxRecDepth 100000 in
set_option maxHeartbeats 4000000 in
theorem sX4_kind {p : Program} {l : Launch} {e : Env} {s : State} {m : MethodId} {args : Array Value} {below : List Frame} {meth : Method} {c : Code} {D : va_G} {q : Nat → Nat} {A : Nat → Prop} {cI cJ cZ cP cS : ClassId} {K : Nat → Nat} {n : Nat} (C : CallFix p m c cX4_kind 1 s args wsX4_kind RX4) (hr : meth.sig.returnType = (some .int)) (hlk : meth.locks = false) (hX : cX A s) (x : Nat) (hx : x < n) (Q : Int32 → (Nat → Nat → Int32) → (Nat → Int64) → (Nat → Option Nat) → Prop) : ∀ (S : Nat → Nat → Int32) (L : Nat → Int64) (R : Nat → Option Nat) (H : Heap) (locs : List Loc) (ls : Array Slot), vX4_kind K n x S L R Q → hw D (tyC cI cJ cZ cP cS) q (29 + 2 * n) (gC q cI cJ cZ cP cS K n S L R) A s H locs → lv_has ls 1 [(0, .ref (q (29 + 2 * x)))] → W p l e (headSpec wsX4_kind rmX4_kind).room s m args below meth c H locs 0 0 (MQ below (QCi D q cI cJ cZ cP cS K n Q A) args s 0 0 A) (F0 m 0 ls []) := by
  intro S L R H locs ls h hW hl
  unfold vX4_kind at h
  refine lv_iconst (v := 0) C.1 C.2.1 dX4_kind_0 (by decide) ?_
  exact t_i C hr hlk (u := (S, L, R)) hW.2.2.2.1 hW.B h dX4_kind_1
set_option maxRecDepth 100000 in
set_option maxHeartbeats 4000000 in
theorem mtX4_kind (l : Launch) (D : va_G) (q : Nat → Nat) (cI cJ cZ cP cS : ClassId) (K : Nat → Nat) (n : Nat) (x : Nat) (hx : x < n) (sz : Nat) (S : Nat → Nat → Int32) (L : Nat → Int64) (R : Nat → Option Nat) (Q : Int32 → (Nat → Nat → Int32) → (Nat → Int64) → (Nat → Option Nat) → Prop) (h : vX4_kind K n x S L R Q) : Met l yX4_kind wsX4_kind rmX4_kind (va_Pc [.ref (q (29 + 2 * x))] (mP D (tyC cI cJ cZ cP cS) q (29 + 2 * n) (gC q cI cJ cZ cP cS K n S L R) sz (cX (aQ q (29 + 2 * n) sz)))) (QCi D q cI cJ cZ cP cS K n Q (aQ q (29 + 2 * n) sz)) 0 0 (aQ q (29 + 2 * n) sz) := by
  refine met_w (cc := cX4_kind) (maxL := 1) (ret := (some .int)) (by decide) rfl (Nat.le_of_ble_eq_true rfl) ?_
  intro p e s m below meth c ls C hr hlk hW hX hnm hl
  exact sX4_kind C hr hlk hX x hx Q S L R _ _ _ h hW hl
theorem inX9_leave_X9 : ∀ w ∈ wsX90, w ∈ wsX9_leave := fun _ h => List.mem_cons_of_mem _ (List.mem_append_right _ h)
abbrev rmX9_leave : Room := { frames := 0, cells := 0, slots := 0, locals := 0 }
def vX9_leave (K : Nat → Nat) (n : Nat) (x1 : Int32) (S : Nat → Nat → Int32) (L : Nat → Int64) (R : Nat → Option Nat) (Q : (Nat → Nat → Int32) → (Nat → Int64) → (Nat → Option Nat) → Prop) : Prop := ∀ S1 : Nat → Nat → Int32, S1 = va_up S 14 (upd (S 14) 0 (((31 : Int32) * (S 14 0)) + x1)) → Q S1 L R
set_option maxRecDepth 100000 in
set_option maxHeartbeats 4000000 in
theorem sX9_leave {p : Program} {l : Launch} {e : Env} {s : State} {m : MethodId} {args : Array Value} {below : List Frame} {meth : Method} {c : Code} {D : va_G} {q : Nat → Nat} {A : Nat → Prop} {cI cJ cZ cP cS : ClassId} {K : Nat → Nat} {n : Nat} (C : CallFix p m c cX9_leave 2 s args wsX9_leave RX9) (hr : meth.sig.returnType = none) (hlk : meth.locks = false) (hX : cX A s) (Q : (Nat → Nat → Int32) → (Nat → Int64) → (Nat → Option Nat) → Prop) : ∀ (x1 : Int32) (S : Nat → Nat → Int32) (L : Nat → Int64) (R : Nat → Option Nat) (H : Heap) (locs : List Loc) (ls : Array Slot), vX9_leave K n x1 S L R Q → hw D (tyC cI cJ cZ cP cS) q (29 + 2 * n) (gC q cI cJ cZ cP cS K n S L R) A s H locs → lv_has ls 2 [(0, .ref (q 14)), (1, .int x1)] → W p l e (headSpec wsX9_leave rmX9_leave).room s m args below meth c H locs 0 0 (MQ below (QCv D q cI cJ cZ cP cS K n Q A) args s 0 0 A) (F0 m 0 ls []) := by
  intro x1 S L R H locs ls h hW hl
  unfold vX9_leave at h
  refine lv_aload_n C.1 C.2.1 dX9_leave_0 rfl (lv_at hl 0 rfl) ?_
  refine lv_bipush (v := 31) C.1 C.2.1 dX9_leave_1 (by decide) ?_
  refine lv_aload_n C.1 C.2.1 dX9_leave_3 rfl (lv_at hl 0 rfl) ?_
  refine r_get C hW (ci := 9) (T := TX9) (n := 1) (ref := "BallMinder$Trace") (v := .int (S 14 0)) (14) (by omega) rfl rfl 0 (by decide) inX9_leave_X9 (by decide +kernel) (fun _ h9 => h9) rfl dX9_leave_4 ?_
  refine lv_imul C.1 C.2.1 dX9_leave_7 ?_
  refine lv_iload_n C.1 C.2.1 dX9_leave_8 rfl (lv_at hl 1 rfl) ?_
  refine lv_iadd C.1 C.2.1 dX9_leave_9 ?_
  refine r_put C hW (ci := 9) (T := TX9) (n := 1) (ref := "BallMinder$Trace") (14) (by omega) rfl rfl 0 (by decide) inX9_leave_X9 tyX9 tyX9_ok nmX9 (by decide +kernel) (fun _ h9 => h9) rfl rfl rfl (Nat.le_of_ble_eq_true rfl) dX9_leave_10 (fun H locs hW => ?_)
  replace hW := gC_put (F := upd (S 14) 0 (((31 : Int32) * (S 14 0)) + x1)) rfl hW
  obtain ⟨S1, eS1⟩ : ∃ z : Nat → Nat → Int32, z = va_up S 14 (upd (S 14) 0 (((31 : Int32) * (S 14 0)) + x1)) := ⟨_, rfl⟩
  rw [← eS1] at hW
  replace h := h S1 eS1
  exact t_v C hr hlk (u := (S1, L, R)) hW.2.2.2.1 hW.B h dX9_leave_13
set_option maxRecDepth 100000 in
set_option maxHeartbeats 4000000 in
theorem mtX9_leave (l : Launch) (D : va_G) (q : Nat → Nat) (cI cJ cZ cP cS : ClassId) (K : Nat → Nat) (n : Nat) (sz : Nat) (x1 : Int32) (S : Nat → Nat → Int32) (L : Nat → Int64) (R : Nat → Option Nat) (Q : (Nat → Nat → Int32) → (Nat → Int64) → (Nat → Option Nat) → Prop) (h : vX9_leave K n x1 S L R Q) : Met l yX9_leave wsX9_leave rmX9_leave (va_Pc [.ref (q 14), .int x1] (mP D (tyC cI cJ cZ cP cS) q (29 + 2 * n) (gC q cI cJ cZ cP cS K n S L R) sz (cX (aQ q (29 + 2 * n) sz)))) (QCv D q cI cJ cZ cP cS K n Q (aQ q (29 + 2 * n) sz)) 0 0 (aQ q (29 + 2 * n) sz) := by
  refine met_w (cc := cX9_leave) (maxL := 2) (ret := none) (by decide) rfl (Nat.le_of_ble_eq_true rfl) ?_
  intro p e s m below meth c ls C hr hlk hW hX hnm hl
  exact sX9_leave C hr hlk hX Q x1 S L R _ _ _ h hW hl
theorem inX4_plainTelling_X3 : ∀ w ∈ wsX30, w ∈ wsX4_plainTelling := fun _ h => List.mem_cons_of_mem _ (List.mem_append_left _ (List.mem_append_left _ (List.mem_append_left _ (List.mem_append_right _ h))))
theorem inX4_plainTelling_X4 : ∀ w ∈ wsX40, w ∈ wsX4_plainTelling := fun _ h => List.mem_cons_of_mem _ (List.mem_append_left _ (List.mem_append_left _ (List.mem_append_right _ h)))
theorem inX4_plainTelling_X7 : ∀ w ∈ wsX70, w ∈ wsX4_plainTelling := fun _ h => List.mem_cons_of_mem _ (List.mem_append_left _ (List.mem_append_right _ h))
theorem inX4_plainTelling_X9 : ∀ w ∈ wsX90, w ∈ wsX4_plainTelling := fun _ h => List.mem_cons_of_mem _ (List.mem_append_right _ h)
abbrev rmX4_plainTelling : Room := { frames := 1, cells := 0, slots := 0, locals := 21 }
def vX4_plainTelling (K : Nat → Nat) (n : Nat) (x : Nat) (S : Nat → Nat → Int32) (L : Nat → Int64) (R : Nat → Option Nat) (Q : Int32 → (Nat → Nat → Int32) → (Nat → Int64) → (Nat → Option Nat) → Prop) : Prop := vX9_leave K n (1 : Int32) S L R (fun S1 L2 R3 => vp_in (0 : Int32) 9 ∧ (Q (S1 (30 + 2 * x) (0 : Int32).toNatClampNeg) S1 L2 R3))
set_option maxRecDepth 100000 in
set_option maxHeartbeats 4000000 in
theorem sX4_plainTelling {p : Program} {l : Launch} {e : Env} {s : State} {m : MethodId} {args : Array Value} {below : List Frame} {meth : Method} {c : Code} {D : va_G} {q : Nat → Nat} {A : Nat → Prop} {cI cJ cZ cP cS : ClassId} {K : Nat → Nat} {n : Nat} (C : CallFix p m c cX4_plainTelling 2 s args wsX4_plainTelling RX4) (hr : meth.sig.returnType = (some .int)) (hlk : meth.locks = false) (hX : cX A s) (x : Nat) (hx : x < n) (Q : Int32 → (Nat → Nat → Int32) → (Nat → Int64) → (Nat → Option Nat) → Prop) : ∀ (S : Nat → Nat → Int32) (L : Nat → Int64) (R : Nat → Option Nat) (H : Heap) (locs : List Loc) (ls : Array Slot), vX4_plainTelling K n x S L R Q → hw D (tyC cI cJ cZ cP cS) q (29 + 2 * n) (gC q cI cJ cZ cP cS K n S L R) A s H locs → lv_has ls 2 [(0, .ref (q (29 + 2 * x))), (1, .ref (q 14))] → W p l e (headSpec wsX4_plainTelling rmX4_plainTelling).room s m args below meth c H locs 0 0 (MQ below (QCi D q cI cJ cZ cP cS K n Q A) args s 0 0 A) (F0 m 0 ls []) := by
  intro S L R H locs ls h hW hl
  unfold vX4_plainTelling at h
  refine lv_aload_n C.1 C.2.1 dX4_plainTelling_0 rfl (lv_at hl 1 rfl) ?_
  refine lv_iconst (v := 1) C.1 C.2.1 dX4_plainTelling_1 (by decide) ?_
  refine k_v hW (va_runV (As := [.int (1 : Int32)]) (rest := []) C (mtX9_leave l D q cI cJ cZ cP cS K n H.size (1 : Int32) S L R _ h) (cwV 1 C.2.2.2.2 gX4_plainTelling_X9_leave rfl rfl rfl (by decide +kernel) ⟨Nat.le_of_ble_eq_true rfl, Nat.le_of_ble_eq_true rfl⟩) ⟨mP_blind cX_B, va_recv hW.1 hW.2.1 (ci := 9) (q0 := 14) rfl (wL_get (by omega)), fun U hU hV => ⟨rfl, hW.pre hU hV (hX.call hW hU hV)⟩⟩ rfl rfl hl.1 rfl (lv_room (Nat.le_of_ble_eq_true rfl)) dX4_plainTelling_2 ⟨Nat.zero_le _, Nat.zero_le _⟩) (fun u H locs h hW => ?_)
  obtain ⟨S1, L2, R3⟩ := u
  replace hW : hw D (tyC cI cJ cZ cP cS) q (29 + 2 * n) (gC q cI cJ cZ cP cS K n S1 L2 R3) A s H locs := hW
  refine lv_aload_n C.1 C.2.1 dX4_plainTelling_5 rfl (lv_at hl 0 rfl) ?_
  refine c_nums C hW hx inX4_plainTelling_X3 inX4_plainTelling_X4 inX4_plainTelling_X7 (ref := "BallMinder$Plain") (by decide +kernel) (fun _ h9 => h9) dX4_plainTelling_6 ?_
  refine lv_iconst (v := 0) C.1 C.2.1 dX4_plainTelling_9 (by decide) ?_
  obtain ⟨hs4, h⟩ := h
  refine r_iald C hW (cA := cI) (n := 9) (f := S1 (30 + 2 * x)) (30 + 2 * x) 0 (by omega) (gC_nums x) rfl hs4 dX4_plainTelling_10 ?_
  exact t_i C hr hlk (u := (S1, L2, R3)) hW.2.2.2.1 hW.B h dX4_plainTelling_11
set_option maxRecDepth 100000 in
set_option maxHeartbeats 4000000 in
theorem mtX4_plainTelling (l : Launch) (D : va_G) (q : Nat → Nat) (cI cJ cZ cP cS : ClassId) (K : Nat → Nat) (n : Nat) (x : Nat) (hx : x < n) (sz : Nat) (S : Nat → Nat → Int32) (L : Nat → Int64) (R : Nat → Option Nat) (Q : Int32 → (Nat → Nat → Int32) → (Nat → Int64) → (Nat → Option Nat) → Prop) (h : vX4_plainTelling K n x S L R Q) : Met l yX4_plainTelling wsX4_plainTelling rmX4_plainTelling (va_Pc [.ref (q (29 + 2 * x)), .ref (q 14)] (mP D (tyC cI cJ cZ cP cS) q (29 + 2 * n) (gC q cI cJ cZ cP cS K n S L R) sz (cX (aQ q (29 + 2 * n) sz)))) (QCi D q cI cJ cZ cP cS K n Q (aQ q (29 + 2 * n) sz)) 0 0 (aQ q (29 + 2 * n) sz) := by
  refine met_w (cc := cX4_plainTelling) (maxL := 2) (ret := (some .int)) (by decide) rfl (Nat.le_of_ble_eq_true rfl) ?_
  intro p e s m below meth c ls C hr hlk hW hX hnm hl
  exact sX4_plainTelling C hr hlk hX x hx Q S L R _ _ _ h hW hl
theorem inX4_telling_X3 : ∀ w ∈ wsX30, w ∈ wsX4_telling := fun _ h => List.mem_cons_of_mem _ (List.mem_append_left _ (List.mem_append_left _ (List.mem_append_left _ (List.mem_append_right _ h))))
theorem inX4_telling_X4 : ∀ w ∈ wsX40, w ∈ wsX4_telling := fun _ h => List.mem_cons_of_mem _ (List.mem_append_left _ (List.mem_append_left _ (List.mem_append_right _ h)))
theorem inX4_telling_X7 : ∀ w ∈ wsX70, w ∈ wsX4_telling := fun _ h => List.mem_cons_of_mem _ (List.mem_append_left _ (List.mem_append_right _ h))
theorem inX4_telling_X9 : ∀ w ∈ wsX90, w ∈ wsX4_telling := fun _ h => List.mem_cons_of_mem _ (List.mem_append_right _ h)
abbrev rmX4_telling : Room := { frames := 2, cells := 0, slots := 0, locals := 42 }
def vX4_telling (K : Nat → Nat) (n : Nat) (x : Nat) (S : Nat → Nat → Int32) (L : Nat → Int64) (R : Nat → Option Nat) (Q : Int32 → (Nat → Nat → Int32) → (Nat → Int64) → (Nat → Option Nat) → Prop) : Prop := vX4_plainTelling K n x  S L R (fun r1 S2 L3 R4 => Q r1 S2 L3 R4)
set_option maxRecDepth 100000 in
set_option maxHeartbeats 4000000 in
theorem sX4_telling {p : Program} {l : Launch} {e : Env} {s : State} {m : MethodId} {args : Array Value} {below : List Frame} {meth : Method} {c : Code} {D : va_G} {q : Nat → Nat} {A : Nat → Prop} {cI cJ cZ cP cS : ClassId} {K : Nat → Nat} {n : Nat} (C : CallFix p m c cX4_telling 2 s args wsX4_telling RX4) (hr : meth.sig.returnType = (some .int)) (hlk : meth.locks = false) (hX : cX A s) (x : Nat) (hx : x < n) (Q : Int32 → (Nat → Nat → Int32) → (Nat → Int64) → (Nat → Option Nat) → Prop) : ∀ (S : Nat → Nat → Int32) (L : Nat → Int64) (R : Nat → Option Nat) (H : Heap) (locs : List Loc) (ls : Array Slot), vX4_telling K n x S L R Q → hw D (tyC cI cJ cZ cP cS) q (29 + 2 * n) (gC q cI cJ cZ cP cS K n S L R) A s H locs → lv_has ls 2 [(0, .ref (q (29 + 2 * x))), (1, .ref (q 14))] → W p l e (headSpec wsX4_telling rmX4_telling).room s m args below meth c H locs 0 0 (MQ below (QCi D q cI cJ cZ cP cS K n Q A) args s 0 0 A) (F0 m 0 ls []) := by
  intro S L R H locs ls h hW hl
  unfold vX4_telling at h
  refine lv_aload_n C.1 C.2.1 dX4_telling_0 rfl (lv_at hl 0 rfl) ?_
  refine lv_aload_n C.1 C.2.1 dX4_telling_1 rfl (lv_at hl 1 rfl) ?_
  refine k_i hW (by1 (k := K x) h (fun k0 h => va_runV (As := [.ref (q 14)]) (rest := []) C (mtX4_plainTelling l D q cI cJ cZ cP cS K n x hx H.size  S L R _ h) (cwV 1 C.2.2.2.2 gX4_telling_X4_plainTelling rfl rfl rfl (by decide +kernel) ⟨Nat.le_of_ble_eq_true rfl, Nat.le_of_ble_eq_true rfl⟩) ⟨mP_blind cX_B, c_rec0 hW hx k0, fun U hU hV => ⟨rfl, hW.pre hU hV (hX.call hW hU hV)⟩⟩ rfl rfl hl.1 rfl (lv_room (Nat.le_of_ble_eq_true rfl)) dX4_telling_2 ⟨Nat.zero_le _, Nat.zero_le _⟩) (fun k1 h => va_runU (As := [.ref (q 14)]) (rest := []) C (mtX4_plainTelling l D q cI cJ cZ cP cS K n x hx H.size  S L R _ h) (va_cwU 1 C.2.2.2.2 gX4_telling_X4_plainTelling_u24X3 rfl rfl rfl rfl (by decide +kernel) ⟨Nat.le_of_ble_eq_true rfl, Nat.le_of_ble_eq_true rfl⟩) ⟨mP_blind cX_B, c_rec1 hW hx k1, fun U hU hV => ⟨rfl, hW.pre hU hV (hX.call hW hU hV)⟩⟩ rfl rfl hl.1 rfl (lv_room (Nat.le_of_ble_eq_true rfl)) dX4_telling_2 ⟨Nat.zero_le _, Nat.zero_le _⟩) (fun k0 k1 h => va_runU (As := [.ref (q 14)]) (rest := []) C (mtX4_plainTelling l D q cI cJ cZ cP cS K n x hx H.size  S L R _ h) (va_cwU 1 C.2.2.2.2 gX4_telling_X4_plainTelling_u24X7 rfl rfl rfl rfl (by decide +kernel) ⟨Nat.le_of_ble_eq_true rfl, Nat.le_of_ble_eq_true rfl⟩) ⟨mP_blind cX_B, c_rec2 hW hx k0 k1, fun U hU hV => ⟨rfl, hW.pre hU hV (hX.call hW hU hV)⟩⟩ rfl rfl hl.1 rfl (lv_room (Nat.le_of_ble_eq_true rfl)) dX4_telling_2 ⟨Nat.zero_le _, Nat.zero_le _⟩)) (fun r1 u H locs h hW => ?_)
  obtain ⟨S2, L3, R4⟩ := u
  replace hW : hw D (tyC cI cJ cZ cP cS) q (29 + 2 * n) (gC q cI cJ cZ cP cS K n S2 L3 R4) A s H locs := hW
  exact t_i C hr hlk (u := (S2, L3, R4)) hW.2.2.2.1 hW.B h dX4_telling_5
set_option maxRecDepth 100000 in
set_option maxHeartbeats 4000000 in
theorem mtX4_telling (l : Launch) (D : va_G) (q : Nat → Nat) (cI cJ cZ cP cS : ClassId) (K : Nat → Nat) (n : Nat) (x : Nat) (hx : x < n) (sz : Nat) (S : Nat → Nat → Int32) (L : Nat → Int64) (R : Nat → Option Nat) (Q : Int32 → (Nat → Nat → Int32) → (Nat → Int64) → (Nat → Option Nat) → Prop) (h : vX4_telling K n x S L R Q) : Met l yX4_telling wsX4_telling rmX4_telling (va_Pc [.ref (q (29 + 2 * x)), .ref (q 14)] (mP D (tyC cI cJ cZ cP cS) q (29 + 2 * n) (gC q cI cJ cZ cP cS K n S L R) sz (cX (aQ q (29 + 2 * n) sz)))) (QCi D q cI cJ cZ cP cS K n Q (aQ q (29 + 2 * n) sz)) 0 0 (aQ q (29 + 2 * n) sz) := by
  refine met_w (cc := cX4_telling) (maxL := 2) (ret := (some .int)) (by decide) rfl (Nat.le_of_ble_eq_true rfl) ?_
  intro p e s m below meth c ls C hr hlk hW hX hnm hl
  exact sX4_telling C hr hlk hX x hx Q S L R _ _ _ h hW hl
theorem inX4_rung_X3 : ∀ w ∈ wsX30, w ∈ wsX4_rung := fun _ h => List.mem_cons_of_mem _ (List.mem_append_left _ (List.mem_append_left _ (List.mem_append_left _ (List.mem_append_right _ h))))
theorem inX4_rung_X4 : ∀ w ∈ wsX40, w ∈ wsX4_rung := fun _ h => List.mem_cons_of_mem _ (List.mem_append_left _ (List.mem_append_left _ (List.mem_append_right _ h)))
theorem inX4_rung_X7 : ∀ w ∈ wsX70, w ∈ wsX4_rung := fun _ h => List.mem_cons_of_mem _ (List.mem_append_left _ (List.mem_append_right _ h))
theorem inX4_rung_X9 : ∀ w ∈ wsX90, w ∈ wsX4_rung := fun _ h => List.mem_cons_of_mem _ (List.mem_append_right _ h)
abbrev rmX4_rung : Room := { frames := 1, cells := 0, slots := 0, locals := 21 }
def vX4_rung (K : Nat → Nat) (n : Nat) (x : Nat) (S : Nat → Nat → Int32) (L : Nat → Int64) (R : Nat → Option Nat) (Q : Int32 → (Nat → Nat → Int32) → (Nat → Int64) → (Nat → Option Nat) → Prop) : Prop := vX9_leave K n (4 : Int32) S L R (fun S1 L2 R3 => Q (nI x) S1 L2 R3)
set_option maxRecDepth 100000 in
set_option maxHeartbeats 4000000 in
theorem sX4_rung {p : Program} {l : Launch} {e : Env} {s : State} {m : MethodId} {args : Array Value} {below : List Frame} {meth : Method} {c : Code} {D : va_G} {q : Nat → Nat} {A : Nat → Prop} {cI cJ cZ cP cS : ClassId} {K : Nat → Nat} {n : Nat} (C : CallFix p m c cX4_rung 2 s args wsX4_rung RX4) (hr : meth.sig.returnType = (some .int)) (hlk : meth.locks = false) (hX : cX A s) (x : Nat) (hx : x < n) (Q : Int32 → (Nat → Nat → Int32) → (Nat → Int64) → (Nat → Option Nat) → Prop) : ∀ (S : Nat → Nat → Int32) (L : Nat → Int64) (R : Nat → Option Nat) (H : Heap) (locs : List Loc) (ls : Array Slot), vX4_rung K n x S L R Q → hw D (tyC cI cJ cZ cP cS) q (29 + 2 * n) (gC q cI cJ cZ cP cS K n S L R) A s H locs → lv_has ls 2 [(0, .ref (q (29 + 2 * x))), (1, .ref (q 14))] → W p l e (headSpec wsX4_rung rmX4_rung).room s m args below meth c H locs 0 0 (MQ below (QCi D q cI cJ cZ cP cS K n Q A) args s 0 0 A) (F0 m 0 ls []) := by
  intro S L R H locs ls h hW hl
  unfold vX4_rung at h
  refine lv_aload_n C.1 C.2.1 dX4_rung_0 rfl (lv_at hl 1 rfl) ?_
  refine lv_iconst (v := 4) C.1 C.2.1 dX4_rung_1 (by decide) ?_
  refine k_v hW (va_runV (As := [.int (4 : Int32)]) (rest := []) C (mtX9_leave l D q cI cJ cZ cP cS K n H.size (4 : Int32) S L R _ h) (cwV 1 C.2.2.2.2 gX4_rung_X9_leave rfl rfl rfl (by decide +kernel) ⟨Nat.le_of_ble_eq_true rfl, Nat.le_of_ble_eq_true rfl⟩) ⟨mP_blind cX_B, va_recv hW.1 hW.2.1 (ci := 9) (q0 := 14) rfl (wL_get (by omega)), fun U hU hV => ⟨rfl, hW.pre hU hV (hX.call hW hU hV)⟩⟩ rfl rfl hl.1 rfl (lv_room (Nat.le_of_ble_eq_true rfl)) dX4_rung_2 ⟨Nat.zero_le _, Nat.zero_le _⟩) (fun u H locs h hW => ?_)
  obtain ⟨S1, L2, R3⟩ := u
  replace hW : hw D (tyC cI cJ cZ cP cS) q (29 + 2 * n) (gC q cI cJ cZ cP cS K n S1 L2 R3) A s H locs := hW
  refine lv_aload_n C.1 C.2.1 dX4_rung_5 rfl (lv_at hl 0 rfl) ?_
  refine c_numb C hW hx inX4_rung_X3 inX4_rung_X4 inX4_rung_X7 (ref := "BallMinder$Plain") (by decide +kernel) (fun _ h9 => h9) dX4_rung_6 ?_
  exact t_i C hr hlk (u := (S1, L2, R3)) hW.2.2.2.1 hW.B h dX4_rung_9
set_option maxRecDepth 100000 in
set_option maxHeartbeats 4000000 in
theorem mtX4_rung (l : Launch) (D : va_G) (q : Nat → Nat) (cI cJ cZ cP cS : ClassId) (K : Nat → Nat) (n : Nat) (x : Nat) (hx : x < n) (sz : Nat) (S : Nat → Nat → Int32) (L : Nat → Int64) (R : Nat → Option Nat) (Q : Int32 → (Nat → Nat → Int32) → (Nat → Int64) → (Nat → Option Nat) → Prop) (h : vX4_rung K n x S L R Q) : Met l yX4_rung wsX4_rung rmX4_rung (va_Pc [.ref (q (29 + 2 * x)), .ref (q 14)] (mP D (tyC cI cJ cZ cP cS) q (29 + 2 * n) (gC q cI cJ cZ cP cS K n S L R) sz (cX (aQ q (29 + 2 * n) sz)))) (QCi D q cI cJ cZ cP cS K n Q (aQ q (29 + 2 * n) sz)) 0 0 (aQ q (29 + 2 * n) sz) := by
  refine met_w (cc := cX4_rung) (maxL := 2) (ret := (some .int)) (by decide) rfl (Nat.le_of_ble_eq_true rfl) ?_
  intro p e s m below meth c ls C hr hlk hW hX hnm hl
  exact sX4_rung C hr hlk hX x hx Q S L R _ _ _ h hW hl
abbrev rmX4_valveBehind : Room := { frames := 0, cells := 0, slots := 0, locals := 0 }
def vX4_valveBehind (K : Nat → Nat) (n : Nat) (x : Nat) (x1 : Int32) (x2 : Int32) (S : Nat → Nat → Int32) (L : Nat → Int64) (R : Nat → Option Nat) (Q : Int32 → (Nat → Nat → Int32) → (Nat → Int64) → (Nat → Option Nat) → Prop) : Prop := Q x2 S L R
set_option maxRecDepth 100000 in
set_option maxHeartbeats 4000000 in
theorem sX4_valveBehind {p : Program} {l : Launch} {e : Env} {s : State} {m : MethodId} {args : Array Value} {below : List Frame} {meth : Method} {c : Code} {D : va_G} {q : Nat → Nat} {A : Nat → Prop} {cI cJ cZ cP cS : ClassId} {K : Nat → Nat} {n : Nat} (C : CallFix p m c cX4_valveBehind 3 s args wsX4_valveBehind RX4) (hr : meth.sig.returnType = (some .int)) (hlk : meth.locks = false) (hX : cX A s) (x : Nat) (hx : x < n) (Q : Int32 → (Nat → Nat → Int32) → (Nat → Int64) → (Nat → Option Nat) → Prop) : ∀ (x1 : Int32) (x2 : Int32) (S : Nat → Nat → Int32) (L : Nat → Int64) (R : Nat → Option Nat) (H : Heap) (locs : List Loc) (ls : Array Slot), vX4_valveBehind K n x x1 x2 S L R Q → hw D (tyC cI cJ cZ cP cS) q (29 + 2 * n) (gC q cI cJ cZ cP cS K n S L R) A s H locs → lv_has ls 3 [(0, .ref (q (29 + 2 * x))), (1, .int x1), (2, .int x2)] → W p l e (headSpec wsX4_valveBehind rmX4_valveBehind).room s m args below meth c H locs 0 0 (MQ below (QCi D q cI cJ cZ cP cS K n Q A) args s 0 0 A) (F0 m 0 ls []) := by
  intro x1 x2 S L R H locs ls h hW hl
  unfold vX4_valveBehind at h
  refine lv_iload_n C.1 C.2.1 dX4_valveBehind_0 rfl (lv_at hl 2 rfl) ?_
  exact t_i C hr hlk (u := (S, L, R)) hW.2.2.2.1 hW.B h dX4_valveBehind_1
set_option maxRecDepth 100000 in
set_option maxHeartbeats 4000000 in
theorem mtX4_valveBehind (l : Launch) (D : va_G) (q : Nat → Nat) (cI cJ cZ cP cS : ClassId) (K : Nat → Nat) (n : Nat) (x : Nat) (hx : x < n) (sz : Nat) (x1 : Int32) (x2 : Int32) (S : Nat → Nat → Int32) (L : Nat → Int64) (R : Nat → Option Nat) (Q : Int32 → (Nat → Nat → Int32) → (Nat → Int64) → (Nat → Option Nat) → Prop) (h : vX4_valveBehind K n x x1 x2 S L R Q) : Met l yX4_valveBehind wsX4_valveBehind rmX4_valveBehind (va_Pc [.ref (q (29 + 2 * x)), .int x1, .int x2] (mP D (tyC cI cJ cZ cP cS) q (29 + 2 * n) (gC q cI cJ cZ cP cS K n S L R) sz (cX (aQ q (29 + 2 * n) sz)))) (QCi D q cI cJ cZ cP cS K n Q (aQ q (29 + 2 * n) sz)) 0 0 (aQ q (29 + 2 * n) sz) := by
  refine met_w (cc := cX4_valveBehind) (maxL := 3) (ret := (some .int)) (by decide) rfl (Nat.le_of_ble_eq_true rfl) ?_
  intro p e s m below meth c ls C hr hlk hW hX hnm hl
  exact sX4_valveBehind C hr hlk hX x hx Q x1 x2 S L R _ _ _ h hW hl
abbrev rmX10_bounded : Room := { frames := 0, cells := 0, slots := 0, locals := 0 }
def vX10_bounded (x0 : Int32) (x1 : Int32) (x2 : Int32) (Q : Int32 → Prop) : Prop := (x1 ≤ x0 → (x0 ≤ x2 → Q x0) ∧ (¬ (x0 ≤ x2) → Q x2)) ∧ (¬ (x1 ≤ x0) → Q x1)
set_option maxRecDepth 100000 in
set_option maxHeartbeats 4000000 in
theorem sX10_bounded {p : Program} {l : Launch} {e : Env} {s : State} {m : MethodId} {args : Array Value} {below : List Frame} {meth : Method} {c : Code} {D : va_G} {q : Nat → Nat} {A : Nat → Prop} {tys : List (ClassId × FieldType)} {N : Nat} {g : Nat → va_E} (C : CallFix p m c cX10_bounded 3 s args wsX10_bounded RX10) (hr : meth.sig.returnType = (some .int)) (hlk : meth.locks = false) (Q : Int32 → Prop) : ∀ (x0 : Int32) (x1 : Int32) (x2 : Int32) (H : Heap) (locs : List Loc) (ls : Array Slot), vX10_bounded x0 x1 x2 Q → hw D tys q N g A s H locs → lv_has ls 3 [(0, .int x0), (1, .int x1), (2, .int x2)] → W p l e (headSpec wsX10_bounded rmX10_bounded).room s m args below meth c H locs 0 0 (MQ below (va_Qi (fun r (_ : Unit) => Q r) (fun _ _ => True) A) args s 0 0 A) (F0 m 0 ls []) := by
  intro x0 x1 x2 H locs ls h hW hl
  unfold vX10_bounded at h
  refine lv_iload_n C.1 C.2.1 dX10_bounded_0 rfl (lv_at hl 0 rfl) ?_
  refine lv_iload_n C.1 C.2.1 dX10_bounded_1 rfl (lv_at hl 1 rfl) ?_
  refine lv_icmp_ge (tgt := 7) C.1 C.2.1 dX10_bounded_2 (by decide) (fun c1 => ?_) (fun c1 => ?_)
  · replace h := h.1 c1
    refine lv_iload_n C.1 C.2.1 dX10_bounded_7 rfl (lv_at hl 0 rfl) ?_
    refine lv_iload_n C.1 C.2.1 dX10_bounded_8 rfl (lv_at hl 2 rfl) ?_
    refine lv_icmp_le (tgt := 16) C.1 C.2.1 dX10_bounded_9 (by decide) (fun c2 => ?_) (fun c2 => ?_)
    · replace h := h.1 c2
      refine lv_iload_n C.1 C.2.1 dX10_bounded_16 rfl (lv_at hl 0 rfl) ?_
      exact t_i C hr hlk (u := ()) hW.2.2.2.1 (fun _ _ => trivial) h dX10_bounded_17
    · replace h := h.2 c2
      refine lv_iload_n C.1 C.2.1 dX10_bounded_12 rfl (lv_at hl 2 rfl) ?_
      refine lv_goto (tgt := 17) C.1 C.2.1 dX10_bounded_13 (by decide) ?_
      exact t_i C hr hlk (u := ()) hW.2.2.2.1 (fun _ _ => trivial) h dX10_bounded_17
  · replace h := h.2 c1
    refine lv_iload_n C.1 C.2.1 dX10_bounded_5 rfl (lv_at hl 1 rfl) ?_
    exact t_i C hr hlk (u := ()) hW.2.2.2.1 (fun _ _ => trivial) h dX10_bounded_6
set_option maxRecDepth 100000 in
set_option maxHeartbeats 4000000 in
theorem mtX10_bounded (l : Launch) (D : va_G) (q : Nat → Nat) (g : Nat → va_E) (sz : Nat) (x0 : Int32) (x1 : Int32) (x2 : Int32) (Q : Int32 → Prop) (h : vX10_bounded x0 x1 x2 Q) : Met l yX10_bounded wsX10_bounded rmX10_bounded (va_Pc [.int x0, .int x1, .int x2] (mP D [] q 0 g sz tX)) (va_Qi (fun r (_ : Unit) => Q r) (fun _ _ => True) (aQ q 0 sz)) 0 0 (aQ q 0 sz) := by
  refine met_w (cc := cX10_bounded) (maxL := 3) (ret := (some .int)) (by decide) rfl (Nat.le_of_ble_eq_true rfl) ?_
  intro p e s m below meth c ls C hr hlk hW hX hnm hl
  exact sX10_bounded C hr hlk Q x0 x1 x2 _ _ _ h hW hl
theorem inX4_wanted_X3 : ∀ w ∈ wsX30, w ∈ wsX4_wanted := fun _ h => List.mem_cons_of_mem _ (List.mem_append_left _ (List.mem_append_left _ (List.mem_append_right _ h)))
theorem inX4_wanted_X4 : ∀ w ∈ wsX40, w ∈ wsX4_wanted := fun _ h => List.mem_cons_of_mem _ (List.mem_append_left _ (List.mem_append_right _ h))
theorem inX4_wanted_X7 : ∀ w ∈ wsX70, w ∈ wsX4_wanted := fun _ h => List.mem_cons_of_mem _ (List.mem_append_right _ h)
abbrev rmX4_wanted : Room := { frames := 1, cells := 0, slots := 0, locals := 22 }
def vX4_wanted (K : Nat → Nat) (n : Nat) (x : Nat) (x1 : Int32) (x2 : Int32) (S : Nat → Nat → Int32) (L : Nat → Int64) (R : Nat → Option Nat) (Q : Int32 → (Nat → Nat → Int32) → (Nat → Int64) → (Nat → Option Nat) → Prop) : Prop := vp_in (5 : Int32) 9 ∧ (vp_in (6 : Int32) 9 ∧ (∀ x3_3 : Int32, x3_3 = ((S (30 + 2 * x) (5 : Int32).toNatClampNeg) * (x1 - (100 : Int32))) + (((S (30 + 2 * x) (6 : Int32).toNatClampNeg) * x2) / (10 : Int32)) → vX10_bounded ((50 : Int32) - (x3_3 / (10 : Int32))) (0 : Int32) (100 : Int32) (fun r4 => Q r4 S L R)))
set_option maxRecDepth 100000 in
set_option maxHeartbeats 4000000 in
theorem sX4_wanted {p : Program} {l : Launch} {e : Env} {s : State} {m : MethodId} {args : Array Value} {below : List Frame} {meth : Method} {c : Code} {D : va_G} {q : Nat → Nat} {A : Nat → Prop} {cI cJ cZ cP cS : ClassId} {K : Nat → Nat} {n : Nat} (C : CallFix p m c cX4_wanted 4 s args wsX4_wanted RX4) (hr : meth.sig.returnType = (some .int)) (hlk : meth.locks = false) (hX : cX A s) (x : Nat) (hx : x < n) (Q : Int32 → (Nat → Nat → Int32) → (Nat → Int64) → (Nat → Option Nat) → Prop) : ∀ (x1 : Int32) (x2 : Int32) (S : Nat → Nat → Int32) (L : Nat → Int64) (R : Nat → Option Nat) (H : Heap) (locs : List Loc) (ls : Array Slot), vX4_wanted K n x x1 x2 S L R Q → hw D (tyC cI cJ cZ cP cS) q (29 + 2 * n) (gC q cI cJ cZ cP cS K n S L R) A s H locs → lv_has ls 4 [(0, .ref (q (29 + 2 * x))), (1, .int x1), (2, .int x2)] → W p l e (headSpec wsX4_wanted rmX4_wanted).room s m args below meth c H locs 0 0 (MQ below (QCi D q cI cJ cZ cP cS K n Q A) args s 0 0 A) (F0 m 0 ls []) := by
  intro x1 x2 S L R H locs ls h hW hl
  unfold vX4_wanted at h
  refine lv_aload_n C.1 C.2.1 dX4_wanted_0 rfl (lv_at hl 0 rfl) ?_
  refine c_nums C hW hx inX4_wanted_X3 inX4_wanted_X4 inX4_wanted_X7 (ref := "BallMinder$Plain") (by decide +kernel) (fun _ h9 => h9) dX4_wanted_1 ?_
  refine lv_iconst (v := 5) C.1 C.2.1 dX4_wanted_4 (by decide) ?_
  obtain ⟨hs1, h⟩ := h
  refine r_iald C hW (cA := cI) (n := 9) (f := S (30 + 2 * x)) (30 + 2 * x) 0 (by omega) (gC_nums x) rfl hs1 dX4_wanted_5 ?_
  refine lv_iload_n C.1 C.2.1 dX4_wanted_6 rfl (lv_at hl 1 rfl) ?_
  refine lv_bipush (v := 100) C.1 C.2.1 dX4_wanted_7 (by decide) ?_
  refine lv_isub C.1 C.2.1 dX4_wanted_9 ?_
  refine lv_imul C.1 C.2.1 dX4_wanted_10 ?_
  refine lv_aload_n C.1 C.2.1 dX4_wanted_11 rfl (lv_at hl 0 rfl) ?_
  refine c_nums C hW hx inX4_wanted_X3 inX4_wanted_X4 inX4_wanted_X7 (ref := "BallMinder$Plain") (by decide +kernel) (fun _ h9 => h9) dX4_wanted_12 ?_
  refine lv_bipush (v := 6) C.1 C.2.1 dX4_wanted_15 (by decide) ?_
  obtain ⟨hs2, h⟩ := h
  refine r_iald C hW (cA := cI) (n := 9) (f := S (30 + 2 * x)) (30 + 2 * x) 0 (by omega) (gC_nums x) rfl hs2 dX4_wanted_17 ?_
  refine lv_iload_n C.1 C.2.1 dX4_wanted_18 rfl (lv_at hl 2 rfl) ?_
  refine lv_imul C.1 C.2.1 dX4_wanted_19 ?_
  refine lv_bipush (v := 10) C.1 C.2.1 dX4_wanted_20 (by decide) ?_
  refine lv_idiv C.1 C.2.1 dX4_wanted_22 (by decide) ?_
  refine lv_iadd C.1 C.2.1 dX4_wanted_23 ?_
  refine lv_topi (fun x3_3 ex3_3 => ?_)
  replace h := h x3_3 ex3_3
  refine lv_istore_n (lv' := [(3, .int x3_3), (0, .ref (q (29 + 2 * x))), (1, .int x1), (2, .int x2)]) C.1 C.2.1 dX4_wanted_24 rfl hl (by decide) rfl (fun ls hl => ?_)
  refine lv_bipush (v := 50) C.1 C.2.1 dX4_wanted_25 (by decide) ?_
  refine lv_iload_n C.1 C.2.1 dX4_wanted_27 rfl (lv_at hl 0 rfl) ?_
  refine lv_bipush (v := 10) C.1 C.2.1 dX4_wanted_28 (by decide) ?_
  refine lv_idiv C.1 C.2.1 dX4_wanted_30 (by decide) ?_
  refine lv_isub C.1 C.2.1 dX4_wanted_31 ?_
  refine lv_iconst (v := 0) C.1 C.2.1 dX4_wanted_32 (by decide) ?_
  refine lv_bipush (v := 100) C.1 C.2.1 dX4_wanted_33 (by decide) ?_
  refine k_pi hW (va_runSN (As := [.int ((50 : Int32) - (x3_3 / (10 : Int32))), .int (0 : Int32), .int (100 : Int32)]) (rest := []) C (mtX10_bounded l D q _ H.size ((50 : Int32) - (x3_3 / (10 : Int32))) (0 : Int32) (100 : Int32) _ h) ⟨va_cnB 3 C.2.2.2.2 gX4_wanted_X10_bounded_n34 rfl rfl rfl (hX.1 (.methodLinkNest RX4 34 yX10_bounded "BallMinder") (by decide +kernel)) (C.2.2.2.2 (.initialized RX10) (by decide +kernel)) (by decide +kernel) ⟨Nat.le_of_ble_eq_true rfl, Nat.le_of_ble_eq_true rfl⟩, (C.2.2.2.2 (.static yX10_bounded) (by decide +kernel)), trivial⟩ ⟨mP_blind tX_B, fun U hU hV => ⟨rfl, hW.pre0 hU hV trivial⟩⟩ rfl rfl hl.1 rfl (lv_room (Nat.le_of_ble_eq_true rfl)) dX4_wanted_35 ⟨Nat.zero_le _, Nat.zero_le _⟩) (fun r4 H locs h hW => ?_)
  exact t_i C hr hlk (u := (S, L, R)) hW.2.2.2.1 hW.B h dX4_wanted_38
set_option maxRecDepth 100000 in
set_option maxHeartbeats 4000000 in
theorem mtX4_wanted (l : Launch) (D : va_G) (q : Nat → Nat) (cI cJ cZ cP cS : ClassId) (K : Nat → Nat) (n : Nat) (x : Nat) (hx : x < n) (sz : Nat) (x1 : Int32) (x2 : Int32) (S : Nat → Nat → Int32) (L : Nat → Int64) (R : Nat → Option Nat) (Q : Int32 → (Nat → Nat → Int32) → (Nat → Int64) → (Nat → Option Nat) → Prop) (h : vX4_wanted K n x x1 x2 S L R Q) : Met l yX4_wanted wsX4_wanted rmX4_wanted (va_Pc [.ref (q (29 + 2 * x)), .int x1, .int x2] (mP D (tyC cI cJ cZ cP cS) q (29 + 2 * n) (gC q cI cJ cZ cP cS K n S L R) sz (cX (aQ q (29 + 2 * n) sz)))) (QCi D q cI cJ cZ cP cS K n Q (aQ q (29 + 2 * n) sz)) 0 0 (aQ q (29 + 2 * n) sz) := by
  refine met_w (cc := cX4_wanted) (maxL := 4) (ret := (some .int)) (by decide) rfl (Nat.le_of_ble_eq_true rfl) ?_
  intro p e s m below meth c ls C hr hlk hW hX hnm hl
  exact sX4_wanted C hr hlk hX x hx Q x1 x2 S L R _ _ _ h hW hl
theorem inX4_missedBehind_X3 : ∀ w ∈ wsX30, w ∈ wsX4_missedBehind := fun _ h => List.mem_cons_of_mem _ (List.mem_append_left _ (List.mem_append_left _ (List.mem_append_right _ h)))
theorem inX4_missedBehind_X4 : ∀ w ∈ wsX40, w ∈ wsX4_missedBehind := fun _ h => List.mem_cons_of_mem _ (List.mem_append_left _ (List.mem_append_right _ h))
theorem inX4_missedBehind_X7 : ∀ w ∈ wsX70, w ∈ wsX4_missedBehind := fun _ h => List.mem_cons_of_mem _ (List.mem_append_right _ h)
abbrev rmX4_missedBehind : Room := { frames := 1, cells := 0, slots := 0, locals := 22 }
def vX4_missedBehind (K : Nat → Nat) (n : Nat) (x : Nat) (x1 : Int32) (x2 : Int32) (S : Nat → Nat → Int32) (L : Nat → Int64) (R : Nat → Option Nat) (Q : Int32 → (Nat → Nat → Int32) → (Nat → Int64) → (Nat → Option Nat) → Prop) : Prop := vp_in (6 : Int32) 9 ∧ ((¬ (S (30 + 2 * x) (6 : Int32).toNatClampNeg) = 0 → vX10_bounded ((x2 + x1) - (100 : Int32)) (-9999 : Int32) (9999 : Int32) (fun r3 => Q r3 S L R)) ∧ ((S (30 + 2 * x) (6 : Int32).toNatClampNeg) = 0 → Q x2 S L R))
set_option maxRecDepth 100000 in
set_option maxHeartbeats 4000000 in
theorem sX4_missedBehind {p : Program} {l : Launch} {e : Env} {s : State} {m : MethodId} {args : Array Value} {below : List Frame} {meth : Method} {c : Code} {D : va_G} {q : Nat → Nat} {A : Nat → Prop} {cI cJ cZ cP cS : ClassId} {K : Nat → Nat} {n : Nat} (C : CallFix p m c cX4_missedBehind 3 s args wsX4_missedBehind RX4) (hr : meth.sig.returnType = (some .int)) (hlk : meth.locks = false) (hX : cX A s) (x : Nat) (hx : x < n) (Q : Int32 → (Nat → Nat → Int32) → (Nat → Int64) → (Nat → Option Nat) → Prop) : ∀ (x1 : Int32) (x2 : Int32) (S : Nat → Nat → Int32) (L : Nat → Int64) (R : Nat → Option Nat) (H : Heap) (locs : List Loc) (ls : Array Slot), vX4_missedBehind K n x x1 x2 S L R Q → hw D (tyC cI cJ cZ cP cS) q (29 + 2 * n) (gC q cI cJ cZ cP cS K n S L R) A s H locs → lv_has ls 3 [(0, .ref (q (29 + 2 * x))), (1, .int x1), (2, .int x2)] → W p l e (headSpec wsX4_missedBehind rmX4_missedBehind).room s m args below meth c H locs 0 0 (MQ below (QCi D q cI cJ cZ cP cS K n Q A) args s 0 0 A) (F0 m 0 ls []) := by
  intro x1 x2 S L R H locs ls h hW hl
  unfold vX4_missedBehind at h
  refine lv_aload_n C.1 C.2.1 dX4_missedBehind_0 rfl (lv_at hl 0 rfl) ?_
  refine c_nums C hW hx inX4_missedBehind_X3 inX4_missedBehind_X4 inX4_missedBehind_X7 (ref := "BallMinder$Plain") (by decide +kernel) (fun _ h9 => h9) dX4_missedBehind_1 ?_
  refine lv_bipush (v := 6) C.1 C.2.1 dX4_missedBehind_4 (by decide) ?_
  obtain ⟨hs1, h⟩ := h
  refine r_iald C hW (cA := cI) (n := 9) (f := S (30 + 2 * x)) (30 + 2 * x) 0 (by omega) (gC_nums x) rfl hs1 dX4_missedBehind_6 ?_
  refine lv_if_ne (tgt := 12) C.1 C.2.1 dX4_missedBehind_7 (by decide) (fun c2 => ?_) (fun c2 => ?_)
  · replace h := h.1 c2
    refine lv_iload_n C.1 C.2.1 dX4_missedBehind_12 rfl (lv_at hl 2 rfl) ?_
    refine lv_iload_n C.1 C.2.1 dX4_missedBehind_13 rfl (lv_at hl 1 rfl) ?_
    refine lv_iadd C.1 C.2.1 dX4_missedBehind_14 ?_
    refine lv_bipush (v := 100) C.1 C.2.1 dX4_missedBehind_15 (by decide) ?_
    refine lv_isub C.1 C.2.1 dX4_missedBehind_17 ?_
    refine lv_sipush (v := -9999) C.1 C.2.1 dX4_missedBehind_18 (by decide) ?_
    refine lv_sipush (v := 9999) C.1 C.2.1 dX4_missedBehind_21 (by decide) ?_
    refine k_pi hW (va_runSN (As := [.int ((x2 + x1) - (100 : Int32)), .int (-9999 : Int32), .int (9999 : Int32)]) (rest := []) C (mtX10_bounded l D q _ H.size ((x2 + x1) - (100 : Int32)) (-9999 : Int32) (9999 : Int32) _ h) ⟨va_cnB 3 C.2.2.2.2 gX4_missedBehind_X10_bounded_n34 rfl rfl rfl (hX.1 (.methodLinkNest RX4 34 yX10_bounded "BallMinder") (by decide +kernel)) (C.2.2.2.2 (.initialized RX10) (by decide +kernel)) (by decide +kernel) ⟨Nat.le_of_ble_eq_true rfl, Nat.le_of_ble_eq_true rfl⟩, (C.2.2.2.2 (.static yX10_bounded) (by decide +kernel)), trivial⟩ ⟨mP_blind tX_B, fun U hU hV => ⟨rfl, hW.pre0 hU hV trivial⟩⟩ rfl rfl hl.1 rfl (lv_room (Nat.le_of_ble_eq_true rfl)) dX4_missedBehind_24 ⟨Nat.zero_le _, Nat.zero_le _⟩) (fun r3 H locs h hW => ?_)
    exact t_i C hr hlk (u := (S, L, R)) hW.2.2.2.1 hW.B h dX4_missedBehind_27
  · replace h := h.2 c2
    refine lv_iload_n C.1 C.2.1 dX4_missedBehind_10 rfl (lv_at hl 2 rfl) ?_
    exact t_i C hr hlk (u := (S, L, R)) hW.2.2.2.1 hW.B h dX4_missedBehind_11
set_option maxRecDepth 100000 in
set_option maxHeartbeats 4000000 in
theorem mtX4_missedBehind (l : Launch) (D : va_G) (q : Nat → Nat) (cI cJ cZ cP cS : ClassId) (K : Nat → Nat) (n : Nat) (x : Nat) (hx : x < n) (sz : Nat) (x1 : Int32) (x2 : Int32) (S : Nat → Nat → Int32) (L : Nat → Int64) (R : Nat → Option Nat) (Q : Int32 → (Nat → Nat → Int32) → (Nat → Int64) → (Nat → Option Nat) → Prop) (h : vX4_missedBehind K n x x1 x2 S L R Q) : Met l yX4_missedBehind wsX4_missedBehind rmX4_missedBehind (va_Pc [.ref (q (29 + 2 * x)), .int x1, .int x2] (mP D (tyC cI cJ cZ cP cS) q (29 + 2 * n) (gC q cI cJ cZ cP cS K n S L R) sz (cX (aQ q (29 + 2 * n) sz)))) (QCi D q cI cJ cZ cP cS K n Q (aQ q (29 + 2 * n) sz)) 0 0 (aQ q (29 + 2 * n) sz) := by
  refine met_w (cc := cX4_missedBehind) (maxL := 3) (ret := (some .int)) (by decide) rfl (Nat.le_of_ble_eq_true rfl) ?_
  intro p e s m below meth c ls C hr hlk hW hX hnm hl
  exact sX4_missedBehind C hr hlk hX x hx Q x1 x2 S L R _ _ _ h hW hl
theorem inX4_hasRestOfItsOwn_X3 : ∀ w ∈ wsX30, w ∈ wsX4_hasRestOfItsOwn := fun _ h => List.mem_cons_of_mem _ (List.mem_append_left _ (List.mem_append_left _ (List.mem_append_right _ h)))
theorem inX4_hasRestOfItsOwn_X4 : ∀ w ∈ wsX40, w ∈ wsX4_hasRestOfItsOwn := fun _ h => List.mem_cons_of_mem _ (List.mem_append_left _ (List.mem_append_right _ h))
theorem inX4_hasRestOfItsOwn_X7 : ∀ w ∈ wsX70, w ∈ wsX4_hasRestOfItsOwn := fun _ h => List.mem_cons_of_mem _ (List.mem_append_right _ h)
abbrev rmX4_hasRestOfItsOwn : Room := { frames := 0, cells := 0, slots := 0, locals := 0 }
def vX4_hasRestOfItsOwn (K : Nat → Nat) (n : Nat) (x : Nat) (S : Nat → Nat → Int32) (L : Nat → Int64) (R : Nat → Option Nat) (Q : Int32 → (Nat → Nat → Int32) → (Nat → Int64) → (Nat → Option Nat) → Prop) : Prop := vp_in (4 : Int32) 9 ∧ (((S (30 + 2 * x) (4 : Int32).toNatClampNeg) = 0 → Q (0 : Int32) S L R) ∧ (¬ ((S (30 + 2 * x) (4 : Int32).toNatClampNeg) = 0) → vp_in (6 : Int32) 9 ∧ ((¬ (S (30 + 2 * x) (6 : Int32).toNatClampNeg) = 0 → Q (0 : Int32) S L R) ∧ ((S (30 + 2 * x) (6 : Int32).toNatClampNeg) = 0 → Q (1 : Int32) S L R))))
set_option maxRecDepth 100000 in
set_option maxHeartbeats 4000000 in
theorem sX4_hasRestOfItsOwn {p : Program} {l : Launch} {e : Env} {s : State} {m : MethodId} {args : Array Value} {below : List Frame} {meth : Method} {c : Code} {D : va_G} {q : Nat → Nat} {A : Nat → Prop} {cI cJ cZ cP cS : ClassId} {K : Nat → Nat} {n : Nat} (C : CallFix p m c cX4_hasRestOfItsOwn 1 s args wsX4_hasRestOfItsOwn RX4) (hr : meth.sig.returnType = (some .boolean)) (hlk : meth.locks = false) (hX : cX A s) (x : Nat) (hx : x < n) (Q : Int32 → (Nat → Nat → Int32) → (Nat → Int64) → (Nat → Option Nat) → Prop) : ∀ (S : Nat → Nat → Int32) (L : Nat → Int64) (R : Nat → Option Nat) (H : Heap) (locs : List Loc) (ls : Array Slot), vX4_hasRestOfItsOwn K n x S L R Q → hw D (tyC cI cJ cZ cP cS) q (29 + 2 * n) (gC q cI cJ cZ cP cS K n S L R) A s H locs → lv_has ls 1 [(0, .ref (q (29 + 2 * x)))] → W p l e (headSpec wsX4_hasRestOfItsOwn rmX4_hasRestOfItsOwn).room s m args below meth c H locs 0 0 (MQ below (QCi D q cI cJ cZ cP cS K n Q A) args s 0 0 A) (F0 m 0 ls []) := by
  intro S L R H locs ls h hW hl
  unfold vX4_hasRestOfItsOwn at h
  refine lv_aload_n C.1 C.2.1 dX4_hasRestOfItsOwn_0 rfl (lv_at hl 0 rfl) ?_
  refine c_nums C hW hx inX4_hasRestOfItsOwn_X3 inX4_hasRestOfItsOwn_X4 inX4_hasRestOfItsOwn_X7 (ref := "BallMinder$Plain") (by decide +kernel) (fun _ h9 => h9) dX4_hasRestOfItsOwn_1 ?_
  refine lv_iconst (v := 4) C.1 C.2.1 dX4_hasRestOfItsOwn_4 (by decide) ?_
  obtain ⟨hs1, h⟩ := h
  refine r_iald C hW (cA := cI) (n := 9) (f := S (30 + 2 * x)) (30 + 2 * x) 0 (by omega) (gC_nums x) rfl hs1 dX4_hasRestOfItsOwn_5 ?_
  refine lv_if_eq (tgt := 23) C.1 C.2.1 dX4_hasRestOfItsOwn_6 (by decide) (fun c2 => ?_) (fun c2 => ?_)
  · replace h := h.1 c2
    refine lv_iconst (v := 0) C.1 C.2.1 dX4_hasRestOfItsOwn_23 (by decide) ?_
    exact t_z C hr hlk (u := (S, L, R)) (Or.inl rfl) hW.2.2.2.1 hW.B h dX4_hasRestOfItsOwn_24
  · replace h := h.2 c2
    refine lv_aload_n C.1 C.2.1 dX4_hasRestOfItsOwn_9 rfl (lv_at hl 0 rfl) ?_
    refine c_nums C hW hx inX4_hasRestOfItsOwn_X3 inX4_hasRestOfItsOwn_X4 inX4_hasRestOfItsOwn_X7 (ref := "BallMinder$Plain") (by decide +kernel) (fun _ h9 => h9) dX4_hasRestOfItsOwn_10 ?_
    refine lv_bipush (v := 6) C.1 C.2.1 dX4_hasRestOfItsOwn_13 (by decide) ?_
    obtain ⟨hs3, h⟩ := h
    refine r_iald C hW (cA := cI) (n := 9) (f := S (30 + 2 * x)) (30 + 2 * x) 0 (by omega) (gC_nums x) rfl hs3 dX4_hasRestOfItsOwn_15 ?_
    refine lv_if_ne (tgt := 23) C.1 C.2.1 dX4_hasRestOfItsOwn_16 (by decide) (fun c4 => ?_) (fun c4 => ?_)
    · replace h := h.1 c4
      refine lv_iconst (v := 0) C.1 C.2.1 dX4_hasRestOfItsOwn_23 (by decide) ?_
      exact t_z C hr hlk (u := (S, L, R)) (Or.inl rfl) hW.2.2.2.1 hW.B h dX4_hasRestOfItsOwn_24
    · replace h := h.2 c4
      refine lv_iconst (v := 1) C.1 C.2.1 dX4_hasRestOfItsOwn_19 (by decide) ?_
      refine lv_goto (tgt := 24) C.1 C.2.1 dX4_hasRestOfItsOwn_20 (by decide) ?_
      exact t_z C hr hlk (u := (S, L, R)) (Or.inr rfl) hW.2.2.2.1 hW.B h dX4_hasRestOfItsOwn_24
set_option maxRecDepth 100000 in
set_option maxHeartbeats 4000000 in
theorem mtX4_hasRestOfItsOwn (l : Launch) (D : va_G) (q : Nat → Nat) (cI cJ cZ cP cS : ClassId) (K : Nat → Nat) (n : Nat) (x : Nat) (hx : x < n) (sz : Nat) (S : Nat → Nat → Int32) (L : Nat → Int64) (R : Nat → Option Nat) (Q : Int32 → (Nat → Nat → Int32) → (Nat → Int64) → (Nat → Option Nat) → Prop) (h : vX4_hasRestOfItsOwn K n x S L R Q) : Met l yX4_hasRestOfItsOwn wsX4_hasRestOfItsOwn rmX4_hasRestOfItsOwn (va_Pc [.ref (q (29 + 2 * x))] (mP D (tyC cI cJ cZ cP cS) q (29 + 2 * n) (gC q cI cJ cZ cP cS K n S L R) sz (cX (aQ q (29 + 2 * n) sz)))) (QCi D q cI cJ cZ cP cS K n Q (aQ q (29 + 2 * n) sz)) 0 0 (aQ q (29 + 2 * n) sz) := by
  refine met_w (cc := cX4_hasRestOfItsOwn) (maxL := 1) (ret := (some .boolean)) (by decide) rfl (Nat.le_of_ble_eq_true rfl) ?_
  intro p e s m below meth c ls C hr hlk hW hX hnm hl
  exact sX4_hasRestOfItsOwn C hr hlk hX x hx Q S L R _ _ _ h hW hl
abbrev rmX3_kind : Room := { frames := 0, cells := 0, slots := 0, locals := 0 }
def vX3_kind (K : Nat → Nat) (n : Nat) (x : Nat) (S : Nat → Nat → Int32) (L : Nat → Int64) (R : Nat → Option Nat) (Q : Int32 → (Nat → Nat → Int32) → (Nat → Int64) → (Nat → Option Nat) → Prop) : Prop := Q (1 : Int32) S L R
set_option maxRecDepth 100000 in
set_option maxHeartbeats 4000000 in
theorem sX3_kind {p : Program} {l : Launch} {e : Env} {s : State} {m : MethodId} {args : Array Value} {below : List Frame} {meth : Method} {c : Code} {D : va_G} {q : Nat → Nat} {A : Nat → Prop} {cI cJ cZ cP cS : ClassId} {K : Nat → Nat} {n : Nat} (C : CallFix p m c cX3_kind 1 s args wsX3_kind RX3) (hr : meth.sig.returnType = (some .int)) (hlk : meth.locks = false) (hX : cX A s) (x : Nat) (hx : x < n) (Q : Int32 → (Nat → Nat → Int32) → (Nat → Int64) → (Nat → Option Nat) → Prop) : ∀ (S : Nat → Nat → Int32) (L : Nat → Int64) (R : Nat → Option Nat) (H : Heap) (locs : List Loc) (ls : Array Slot), vX3_kind K n x S L R Q → hw D (tyC cI cJ cZ cP cS) q (29 + 2 * n) (gC q cI cJ cZ cP cS K n S L R) A s H locs → lv_has ls 1 [(0, .ref (q (29 + 2 * x)))] → W p l e (headSpec wsX3_kind rmX3_kind).room s m args below meth c H locs 0 0 (MQ below (QCi D q cI cJ cZ cP cS K n Q A) args s 0 0 A) (F0 m 0 ls []) := by
  intro S L R H locs ls h hW hl
  unfold vX3_kind at h
  refine lv_iconst (v := 1) C.1 C.2.1 dX3_kind_0 (by decide) ?_
  exact t_i C hr hlk (u := (S, L, R)) hW.2.2.2.1 hW.B h dX3_kind_1
set_option maxRecDepth 100000 in
set_option maxHeartbeats 4000000 in
theorem mtX3_kind (l : Launch) (D : va_G) (q : Nat → Nat) (cI cJ cZ cP cS : ClassId) (K : Nat → Nat) (n : Nat) (x : Nat) (hx : x < n) (sz : Nat) (S : Nat → Nat → Int32) (L : Nat → Int64) (R : Nat → Option Nat) (Q : Int32 → (Nat → Nat → Int32) → (Nat → Int64) → (Nat → Option Nat) → Prop) (h : vX3_kind K n x S L R Q) : Met l yX3_kind wsX3_kind rmX3_kind (va_Pc [.ref (q (29 + 2 * x))] (mP D (tyC cI cJ cZ cP cS) q (29 + 2 * n) (gC q cI cJ cZ cP cS K n S L R) sz (cX (aQ q (29 + 2 * n) sz)))) (QCi D q cI cJ cZ cP cS K n Q (aQ q (29 + 2 * n) sz)) 0 0 (aQ q (29 + 2 * n) sz) := by
  refine met_w (cc := cX3_kind) (maxL := 1) (ret := (some .int)) (by decide) rfl (Nat.le_of_ble_eq_true rfl) ?_
  intro p e s m below meth c ls C hr hlk hW hX hnm hl
  exact sX3_kind C hr hlk hX x hx Q S L R _ _ _ h hW hl
theorem inX3_telling_X9 : ∀ w ∈ wsX90, w ∈ wsX3_telling := fun _ h => List.mem_cons_of_mem _ (List.mem_append_left _ (List.mem_append_left _ (List.mem_append_left _ (List.mem_append_right _ h))))
theorem inX3_telling_X3 : ∀ w ∈ wsX30, w ∈ wsX3_telling := fun _ h => List.mem_cons_of_mem _ (List.mem_append_left _ (List.mem_append_left _ (List.mem_append_right _ h)))
theorem inX3_telling_X4 : ∀ w ∈ wsX40, w ∈ wsX3_telling := fun _ h => List.mem_cons_of_mem _ (List.mem_append_left _ (List.mem_append_right _ h))
theorem inX3_telling_X7 : ∀ w ∈ wsX70, w ∈ wsX3_telling := fun _ h => List.mem_cons_of_mem _ (List.mem_append_right _ h)
abbrev rmX3_telling : Room := { frames := 3, cells := 0, slots := 0, locals := 63 }
def vX3_telling (K : Nat → Nat) (n : Nat) (x : Nat) (S : Nat → Nat → Int32) (L : Nat → Int64) (R : Nat → Option Nat) (Q : Int32 → (Nat → Nat → Int32) → (Nat → Int64) → (Nat → Option Nat) → Prop) : Prop := vX9_leave K n (2 : Int32) S L R (fun S1 L2 R3 => vX4_telling K n x  S1 L2 R3 (fun r4 S5 L6 R7 => Q (r4 + (100 : Int32)) S5 L6 R7))
set_option maxRecDepth 100000 in
set_option maxHeartbeats 4000000 in
theorem sX3_telling {p : Program} {l : Launch} {e : Env} {s : State} {m : MethodId} {args : Array Value} {below : List Frame} {meth : Method} {c : Code} {D : va_G} {q : Nat → Nat} {A : Nat → Prop} {cI cJ cZ cP cS : ClassId} {K : Nat → Nat} {n : Nat} (C : CallFix p m c cX3_telling 2 s args wsX3_telling RX3) (hr : meth.sig.returnType = (some .int)) (hlk : meth.locks = false) (hX : cX A s) (x : Nat) (hx : x < n) (Q : Int32 → (Nat → Nat → Int32) → (Nat → Int64) → (Nat → Option Nat) → Prop) : ∀ (S : Nat → Nat → Int32) (L : Nat → Int64) (R : Nat → Option Nat) (H : Heap) (locs : List Loc) (ls : Array Slot), vX3_telling K n x S L R Q → hw D (tyC cI cJ cZ cP cS) q (29 + 2 * n) (gC q cI cJ cZ cP cS K n S L R) A s H locs → lv_has ls 2 [(0, .ref (q (29 + 2 * x))), (1, .ref (q 14))] → W p l e (headSpec wsX3_telling rmX3_telling).room s m args below meth c H locs 0 0 (MQ below (QCi D q cI cJ cZ cP cS K n Q A) args s 0 0 A) (F0 m 0 ls []) := by
  intro S L R H locs ls h hW hl
  unfold vX3_telling at h
  refine lv_aload_n C.1 C.2.1 dX3_telling_0 rfl (lv_at hl 1 rfl) ?_
  refine lv_iconst (v := 2) C.1 C.2.1 dX3_telling_1 (by decide) ?_
  refine k_v hW (va_runV (As := [.int (2 : Int32)]) (rest := []) C (mtX9_leave l D q cI cJ cZ cP cS K n H.size (2 : Int32) S L R _ h) (cwV 1 C.2.2.2.2 gX3_telling_X9_leave rfl rfl rfl (by decide +kernel) ⟨Nat.le_of_ble_eq_true rfl, Nat.le_of_ble_eq_true rfl⟩) ⟨mP_blind cX_B, va_recv hW.1 hW.2.1 (ci := 9) (q0 := 14) rfl (wL_get (by omega)), fun U hU hV => ⟨rfl, hW.pre hU hV (hX.call hW hU hV)⟩⟩ rfl rfl hl.1 rfl (lv_room (Nat.le_of_ble_eq_true rfl)) dX3_telling_2 ⟨Nat.zero_le _, Nat.zero_le _⟩) (fun u H locs h hW => ?_)
  obtain ⟨S1, L2, R3⟩ := u
  replace hW : hw D (tyC cI cJ cZ cP cS) q (29 + 2 * n) (gC q cI cJ cZ cP cS K n S1 L2 R3) A s H locs := hW
  refine lv_aload_n C.1 C.2.1 dX3_telling_5 rfl (lv_at hl 0 rfl) ?_
  refine lv_aload_n C.1 C.2.1 dX3_telling_6 rfl (lv_at hl 1 rfl) ?_
  refine k_i hW (by1 (k := K x) h (fun k0 h => va_runSU (As := [.ref (q 14)]) (rest := []) (hW.1.1 4 _ rfl).2 C (mtX4_telling l D q cI cJ cZ cP cS K n x hx H.size  S1 L2 R3 _ h) (va_cwSU 1 C.2.2.2.2 gX3_telling_X4_telling_s15 rfl rfl rfl (by decide +kernel) ⟨Nat.le_of_ble_eq_true rfl, Nat.le_of_ble_eq_true rfl⟩) ⟨mP_blind cX_B, c_rec0 hW hx k0, fun U hU hV => ⟨rfl, hW.pre hU hV (hX.call hW hU hV)⟩⟩ rfl rfl hl.1 rfl (lv_room (Nat.le_of_ble_eq_true rfl)) dX3_telling_7 ⟨Nat.zero_le _, Nat.zero_le _⟩) (fun k1 h => va_runSU (As := [.ref (q 14)]) (rest := []) (hW.1.1 3 _ rfl).2 C (mtX4_telling l D q cI cJ cZ cP cS K n x hx H.size  S1 L2 R3 _ h) (va_cwSU 1 C.2.2.2.2 gX3_telling_X4_telling_s15 rfl rfl rfl (by decide +kernel) ⟨Nat.le_of_ble_eq_true rfl, Nat.le_of_ble_eq_true rfl⟩) ⟨mP_blind cX_B, c_rec1 hW hx k1, fun U hU hV => ⟨rfl, hW.pre hU hV (hX.call hW hU hV)⟩⟩ rfl rfl hl.1 rfl (lv_room (Nat.le_of_ble_eq_true rfl)) dX3_telling_7 ⟨Nat.zero_le _, Nat.zero_le _⟩) (fun k0 k1 h => va_runSU (As := [.ref (q 14)]) (rest := []) (hW.1.1 7 _ rfl).2 C (mtX4_telling l D q cI cJ cZ cP cS K n x hx H.size  S1 L2 R3 _ h) (va_cwSU 1 C.2.2.2.2 gX3_telling_X4_telling_s15 rfl rfl rfl (by decide +kernel) ⟨Nat.le_of_ble_eq_true rfl, Nat.le_of_ble_eq_true rfl⟩) ⟨mP_blind cX_B, c_rec2 hW hx k0 k1, fun U hU hV => ⟨rfl, hW.pre hU hV (hX.call hW hU hV)⟩⟩ rfl rfl hl.1 rfl (lv_room (Nat.le_of_ble_eq_true rfl)) dX3_telling_7 ⟨Nat.zero_le _, Nat.zero_le _⟩)) (fun r4 u H locs h hW => ?_)
  obtain ⟨S5, L6, R7⟩ := u
  replace hW : hw D (tyC cI cJ cZ cP cS) q (29 + 2 * n) (gC q cI cJ cZ cP cS K n S5 L6 R7) A s H locs := hW
  refine lv_bipush (v := 100) C.1 C.2.1 dX3_telling_10 (by decide) ?_
  refine lv_iadd C.1 C.2.1 dX3_telling_12 ?_
  exact t_i C hr hlk (u := (S5, L6, R7)) hW.2.2.2.1 hW.B h dX3_telling_13
set_option maxRecDepth 100000 in
set_option maxHeartbeats 4000000 in
theorem mtX3_telling (l : Launch) (D : va_G) (q : Nat → Nat) (cI cJ cZ cP cS : ClassId) (K : Nat → Nat) (n : Nat) (x : Nat) (hx : x < n) (sz : Nat) (S : Nat → Nat → Int32) (L : Nat → Int64) (R : Nat → Option Nat) (Q : Int32 → (Nat → Nat → Int32) → (Nat → Int64) → (Nat → Option Nat) → Prop) (h : vX3_telling K n x S L R Q) : Met l yX3_telling wsX3_telling rmX3_telling (va_Pc [.ref (q (29 + 2 * x)), .ref (q 14)] (mP D (tyC cI cJ cZ cP cS) q (29 + 2 * n) (gC q cI cJ cZ cP cS K n S L R) sz (cX (aQ q (29 + 2 * n) sz)))) (QCi D q cI cJ cZ cP cS K n Q (aQ q (29 + 2 * n) sz)) 0 0 (aQ q (29 + 2 * n) sz) := by
  refine met_w (cc := cX3_telling) (maxL := 2) (ret := (some .int)) (by decide) rfl (Nat.le_of_ble_eq_true rfl) ?_
  intro p e s m below meth c ls C hr hlk hW hX hnm hl
  exact sX3_telling C hr hlk hX x hx Q S L R _ _ _ h hW hl
abbrev rmX10_quotient : Room := { frames := 0, cells := 0, slots := 0, locals := 0 }
def vX10_quotient (x0 : Int32) (x1 : Int32) (Q : Int32 → Prop) : Prop := (¬ x1 = 0 → ¬ x1 = 0 ∧ (Q (x0 / x1))) ∧ (x1 = 0 → Q (0 : Int32))
set_option maxRecDepth 100000 in
set_option maxHeartbeats 4000000 in
theorem sX10_quotient {p : Program} {l : Launch} {e : Env} {s : State} {m : MethodId} {args : Array Value} {below : List Frame} {meth : Method} {c : Code} {D : va_G} {q : Nat → Nat} {A : Nat → Prop} {tys : List (ClassId × FieldType)} {N : Nat} {g : Nat → va_E} (C : CallFix p m c cX10_quotient 2 s args wsX10_quotient RX10) (hr : meth.sig.returnType = (some .int)) (hlk : meth.locks = false) (Q : Int32 → Prop) : ∀ (x0 : Int32) (x1 : Int32) (H : Heap) (locs : List Loc) (ls : Array Slot), vX10_quotient x0 x1 Q → hw D tys q N g A s H locs → lv_has ls 2 [(0, .int x0), (1, .int x1)] → W p l e (headSpec wsX10_quotient rmX10_quotient).room s m args below meth c H locs 0 0 (MQ below (va_Qi (fun r (_ : Unit) => Q r) (fun _ _ => True) A) args s 0 0 A) (F0 m 0 ls []) := by
  intro x0 x1 H locs ls h hW hl
  unfold vX10_quotient at h
  refine lv_iload_n C.1 C.2.1 dX10_quotient_0 rfl (lv_at hl 1 rfl) ?_
  refine lv_if_ne (tgt := 8) C.1 C.2.1 dX10_quotient_1 (by decide) (fun c1 => ?_) (fun c1 => ?_)
  · replace h := h.1 c1
    refine lv_iload_n C.1 C.2.1 dX10_quotient_8 rfl (lv_at hl 0 rfl) ?_
    refine lv_iload_n C.1 C.2.1 dX10_quotient_9 rfl (lv_at hl 1 rfl) ?_
    obtain ⟨hs2, h⟩ := h
    refine lv_idiv C.1 C.2.1 dX10_quotient_10 hs2 ?_
    exact t_i C hr hlk (u := ()) hW.2.2.2.1 (fun _ _ => trivial) h dX10_quotient_11
  · replace h := h.2 c1
    refine lv_iconst (v := 0) C.1 C.2.1 dX10_quotient_4 (by decide) ?_
    refine lv_goto (tgt := 11) C.1 C.2.1 dX10_quotient_5 (by decide) ?_
    exact t_i C hr hlk (u := ()) hW.2.2.2.1 (fun _ _ => trivial) h dX10_quotient_11
set_option maxRecDepth 100000 in
set_option maxHeartbeats 4000000 in
theorem mtX10_quotient (l : Launch) (D : va_G) (q : Nat → Nat) (g : Nat → va_E) (sz : Nat) (x0 : Int32) (x1 : Int32) (Q : Int32 → Prop) (h : vX10_quotient x0 x1 Q) : Met l yX10_quotient wsX10_quotient rmX10_quotient (va_Pc [.int x0, .int x1] (mP D [] q 0 g sz tX)) (va_Qi (fun r (_ : Unit) => Q r) (fun _ _ => True) (aQ q 0 sz)) 0 0 (aQ q 0 sz) := by
  refine met_w (cc := cX10_quotient) (maxL := 2) (ret := (some .int)) (by decide) rfl (Nat.le_of_ble_eq_true rfl) ?_
  intro p e s m below meth c ls C hr hlk hW hX hnm hl
  exact sX10_quotient C hr hlk Q x0 x1 _ _ _ h hW hl
theorem inX3_valveBehind_X3 : ∀ w ∈ wsX30, w ∈ wsX3_valveBehind := fun _ h => List.mem_cons_of_mem _ (List.mem_append_left _ (List.mem_append_left _ (List.mem_append_right _ h)))
theorem inX3_valveBehind_X4 : ∀ w ∈ wsX40, w ∈ wsX3_valveBehind := fun _ h => List.mem_cons_of_mem _ (List.mem_append_left _ (List.mem_append_right _ h))
theorem inX3_valveBehind_X7 : ∀ w ∈ wsX70, w ∈ wsX3_valveBehind := fun _ h => List.mem_cons_of_mem _ (List.mem_append_right _ h)
abbrev rmX3_valveBehind : Room := { frames := 1, cells := 0, slots := 0, locals := 22 }
def vX3_valveBehind (K : Nat → Nat) (n : Nat) (x : Nat) (x1 : Int32) (x2 : Int32) (S : Nat → Nat → Int32) (L : Nat → Int64) (R : Nat → Option Nat) (Q : Int32 → (Nat → Nat → Int32) → (Nat → Int64) → (Nat → Option Nat) → Prop) : Prop := vp_in (3 : Int32) 9 ∧ (vX10_quotient (40 : Int32) ((S (30 + 2 * x) (3 : Int32).toNatClampNeg) + (1 : Int32)) (fun r2 => ∀ x3_3 : Int32, x3_3 = (if (1 : Int32) < r2 then r2 else (1 : Int32)) → vX10_bounded (x2 - x1) (-x3_3) x3_3 (fun r4 => Q (x1 + r4) S L R)))
set_option maxRecDepth 100000 in
set_option maxHeartbeats 4000000 in
theorem sX3_valveBehind {p : Program} {l : Launch} {e : Env} {s : State} {m : MethodId} {args : Array Value} {below : List Frame} {meth : Method} {c : Code} {D : va_G} {q : Nat → Nat} {A : Nat → Prop} {cI cJ cZ cP cS : ClassId} {K : Nat → Nat} {n : Nat} (C : CallFix p m c cX3_valveBehind 4 s args wsX3_valveBehind RX3) (hr : meth.sig.returnType = (some .int)) (hlk : meth.locks = false) (hX : cX A s) (x : Nat) (hx : x < n) (Q : Int32 → (Nat → Nat → Int32) → (Nat → Int64) → (Nat → Option Nat) → Prop) : ∀ (x1 : Int32) (x2 : Int32) (S : Nat → Nat → Int32) (L : Nat → Int64) (R : Nat → Option Nat) (H : Heap) (locs : List Loc) (ls : Array Slot), vX3_valveBehind K n x x1 x2 S L R Q → hw D (tyC cI cJ cZ cP cS) q (29 + 2 * n) (gC q cI cJ cZ cP cS K n S L R) A s H locs → lv_has ls 4 [(0, .ref (q (29 + 2 * x))), (1, .int x1), (2, .int x2)] → W p l e (headSpec wsX3_valveBehind rmX3_valveBehind).room s m args below meth c H locs 0 0 (MQ below (QCi D q cI cJ cZ cP cS K n Q A) args s 0 0 A) (F0 m 0 ls []) := by
  intro x1 x2 S L R H locs ls h hW hl
  unfold vX3_valveBehind at h
  refine lv_iconst (v := 1) C.1 C.2.1 dX3_valveBehind_0 (by decide) ?_
  refine lv_bipush (v := 40) C.1 C.2.1 dX3_valveBehind_1 (by decide) ?_
  refine lv_aload_n C.1 C.2.1 dX3_valveBehind_3 rfl (lv_at hl 0 rfl) ?_
  refine c_nums C hW hx inX3_valveBehind_X3 inX3_valveBehind_X4 inX3_valveBehind_X7 (ref := "BallMinder$Oiled") (by decide +kernel) (fun x9 h9 => u_same (C.2.2.2.2 (.sameField "BallMinder$Oiled" "BallMinder$Plain" "numbers" "[I") (by decide +kernel)) x9 h9) dX3_valveBehind_4 ?_
  refine lv_iconst (v := 3) C.1 C.2.1 dX3_valveBehind_7 (by decide) ?_
  obtain ⟨hs1, h⟩ := h
  refine r_iald C hW (cA := cI) (n := 9) (f := S (30 + 2 * x)) (30 + 2 * x) 0 (by omega) (gC_nums x) rfl hs1 dX3_valveBehind_8 ?_
  refine lv_iconst (v := 1) C.1 C.2.1 dX3_valveBehind_9 (by decide) ?_
  refine lv_iadd C.1 C.2.1 dX3_valveBehind_10 ?_
  refine k_pi hW (va_runSN (As := [.int (40 : Int32), .int ((S (30 + 2 * x) (3 : Int32).toNatClampNeg) + (1 : Int32))]) (rest := [.int (1 : Int32)]) C (mtX10_quotient l D q _ H.size (40 : Int32) ((S (30 + 2 * x) (3 : Int32).toNatClampNeg) + (1 : Int32)) _ h) ⟨va_cnB 2 C.2.2.2.2 gX3_valveBehind_X10_quotient_n25 rfl rfl rfl (hX.1 (.methodLinkNest RX3 25 yX10_quotient "BallMinder") (by decide +kernel)) (C.2.2.2.2 (.initialized RX10) (by decide +kernel)) (by decide +kernel) ⟨Nat.le_of_ble_eq_true rfl, Nat.le_of_ble_eq_true rfl⟩, (C.2.2.2.2 (.static yX10_quotient) (by decide +kernel)), trivial⟩ ⟨mP_blind tX_B, fun U hU hV => ⟨rfl, hW.pre0 hU hV trivial⟩⟩ rfl rfl hl.1 rfl (lv_room (Nat.le_of_ble_eq_true rfl)) dX3_valveBehind_11 ⟨Nat.zero_le _, Nat.zero_le _⟩) (fun r2 H locs h hW => ?_)
  refine va_mmax C.1 C.2.1 (by rw [C.2.2.1, hl.1]) C.2.2.2.1 (C.2.2.2.2 (.methodLink RX3 29 Lib.Math.max.name) (by decide +kernel)) (C.2.2.2.2 (.static Lib.Math.max.name) (by decide +kernel)) (C.2.2.2.2 (.initialized "java/lang/Math") (by decide +kernel)) (C.2.2.2.2 (.code Lib.Math.max.name Lib.Math.max.code 2 (some .int)) (by decide +kernel)) (Nat.le_of_ble_eq_true rfl) (Nat.le_of_ble_eq_true rfl) (Nat.zero_le _) (Nat.zero_le _) dX3_valveBehind_14 ?_
  refine lv_topi (fun x3_3 ex3_3 => ?_)
  replace h := h x3_3 ex3_3
  refine lv_istore_n (lv' := [(3, .int x3_3), (0, .ref (q (29 + 2 * x))), (1, .int x1), (2, .int x2)]) C.1 C.2.1 dX3_valveBehind_17 rfl hl (by decide) rfl (fun ls hl => ?_)
  refine lv_iload_n C.1 C.2.1 dX3_valveBehind_18 rfl (lv_at hl 2 rfl) ?_
  refine lv_iload_n C.1 C.2.1 dX3_valveBehind_19 rfl (lv_at hl 3 rfl) ?_
  refine lv_iload_n C.1 C.2.1 dX3_valveBehind_20 rfl (lv_at hl 2 rfl) ?_
  refine lv_isub C.1 C.2.1 dX3_valveBehind_21 ?_
  refine lv_iload_n C.1 C.2.1 dX3_valveBehind_22 rfl (lv_at hl 0 rfl) ?_
  refine lv_ineg C.1 C.2.1 dX3_valveBehind_23 ?_
  refine lv_iload_n C.1 C.2.1 dX3_valveBehind_24 rfl (lv_at hl 0 rfl) ?_
  refine k_pi hW (va_runSN (As := [.int (x2 - x1), .int (-x3_3), .int x3_3]) (rest := [.int x1]) C (mtX10_bounded l D q _ H.size (x2 - x1) (-x3_3) x3_3 _ h) ⟨va_cnB 3 C.2.2.2.2 gX3_valveBehind_X10_bounded_n34 rfl rfl rfl (hX.1 (.methodLinkNest RX3 34 yX10_bounded "BallMinder") (by decide +kernel)) (C.2.2.2.2 (.initialized RX10) (by decide +kernel)) (by decide +kernel) ⟨Nat.le_of_ble_eq_true rfl, Nat.le_of_ble_eq_true rfl⟩, (C.2.2.2.2 (.static yX10_bounded) (by decide +kernel)), trivial⟩ ⟨mP_blind tX_B, fun U hU hV => ⟨rfl, hW.pre0 hU hV trivial⟩⟩ rfl rfl hl.1 rfl (lv_room (Nat.le_of_ble_eq_true rfl)) dX3_valveBehind_25 ⟨Nat.zero_le _, Nat.zero_le _⟩) (fun r4 H locs h hW => ?_)
  refine lv_iadd C.1 C.2.1 dX3_valveBehind_28 ?_
  exact t_i C hr hlk (u := (S, L, R)) hW.2.2.2.1 hW.B h dX3_valveBehind_29
set_option maxRecDepth 100000 in
set_option maxHeartbeats 4000000 in
theorem mtX3_valveBehind (l : Launch) (D : va_G) (q : Nat → Nat) (cI cJ cZ cP cS : ClassId) (K : Nat → Nat) (n : Nat) (x : Nat) (hx : x < n) (sz : Nat) (x1 : Int32) (x2 : Int32) (S : Nat → Nat → Int32) (L : Nat → Int64) (R : Nat → Option Nat) (Q : Int32 → (Nat → Nat → Int32) → (Nat → Int64) → (Nat → Option Nat) → Prop) (h : vX3_valveBehind K n x x1 x2 S L R Q) : Met l yX3_valveBehind wsX3_valveBehind rmX3_valveBehind (va_Pc [.ref (q (29 + 2 * x)), .int x1, .int x2] (mP D (tyC cI cJ cZ cP cS) q (29 + 2 * n) (gC q cI cJ cZ cP cS K n S L R) sz (cX (aQ q (29 + 2 * n) sz)))) (QCi D q cI cJ cZ cP cS K n Q (aQ q (29 + 2 * n) sz)) 0 0 (aQ q (29 + 2 * n) sz) := by
  refine met_w (cc := cX3_valveBehind) (maxL := 4) (ret := (some .int)) (by decide) rfl (Nat.le_of_ble_eq_true rfl) ?_
  intro p e s m below meth c ls C hr hlk hW hX hnm hl
  exact sX3_valveBehind C hr hlk hX x hx Q x1 x2 S L R _ _ _ h hW hl
abbrev rmX7_kind : Room := { frames := 0, cells := 0, slots := 0, locals := 0 }
def vX7_kind (K : Nat → Nat) (n : Nat) (x : Nat) (S : Nat → Nat → Int32) (L : Nat → Int64) (R : Nat → Option Nat) (Q : Int32 → (Nat → Nat → Int32) → (Nat → Int64) → (Nat → Option Nat) → Prop) : Prop := Q (2 : Int32) S L R
set_option maxRecDepth 100000 in
set_option maxHeartbeats 4000000 in
theorem sX7_kind {p : Program} {l : Launch} {e : Env} {s : State} {m : MethodId} {args : Array Value} {below : List Frame} {meth : Method} {c : Code} {D : va_G} {q : Nat → Nat} {A : Nat → Prop} {cI cJ cZ cP cS : ClassId} {K : Nat → Nat} {n : Nat} (C : CallFix p m c cX7_kind 1 s args wsX7_kind RX7) (hr : meth.sig.returnType = (some .int)) (hlk : meth.locks = false) (hX : cX A s) (x : Nat) (hx : x < n) (hx0 : ¬ K x = 0) (hx1 : ¬ K x = 1) (Q : Int32 → (Nat → Nat → Int32) → (Nat → Int64) → (Nat → Option Nat) → Prop) : ∀ (S : Nat → Nat → Int32) (L : Nat → Int64) (R : Nat → Option Nat) (H : Heap) (locs : List Loc) (ls : Array Slot), vX7_kind K n x S L R Q → hw D (tyC cI cJ cZ cP cS) q (29 + 2 * n) (gC q cI cJ cZ cP cS K n S L R) A s H locs → lv_has ls 1 [(0, .ref (q (29 + 2 * x)))] → W p l e (headSpec wsX7_kind rmX7_kind).room s m args below meth c H locs 0 0 (MQ below (QCi D q cI cJ cZ cP cS K n Q A) args s 0 0 A) (F0 m 0 ls []) := by
  intro S L R H locs ls h hW hl
  unfold vX7_kind at h
  refine lv_iconst (v := 2) C.1 C.2.1 dX7_kind_0 (by decide) ?_
  exact t_i C hr hlk (u := (S, L, R)) hW.2.2.2.1 hW.B h dX7_kind_1
set_option maxRecDepth 100000 in
set_option maxHeartbeats 4000000 in
theorem mtX7_kind (l : Launch) (D : va_G) (q : Nat → Nat) (cI cJ cZ cP cS : ClassId) (K : Nat → Nat) (n : Nat) (x : Nat) (hx : x < n) (hx0 : ¬ K x = 0) (hx1 : ¬ K x = 1) (sz : Nat) (S : Nat → Nat → Int32) (L : Nat → Int64) (R : Nat → Option Nat) (Q : Int32 → (Nat → Nat → Int32) → (Nat → Int64) → (Nat → Option Nat) → Prop) (h : vX7_kind K n x S L R Q) : Met l yX7_kind wsX7_kind rmX7_kind (va_Pc [.ref (q (29 + 2 * x))] (mP D (tyC cI cJ cZ cP cS) q (29 + 2 * n) (gC q cI cJ cZ cP cS K n S L R) sz (cX (aQ q (29 + 2 * n) sz)))) (QCi D q cI cJ cZ cP cS K n Q (aQ q (29 + 2 * n) sz)) 0 0 (aQ q (29 + 2 * n) sz) := by
  refine met_w (cc := cX7_kind) (maxL := 1) (ret := (some .int)) (by decide) rfl (Nat.le_of_ble_eq_true rfl) ?_
  intro p e s m below meth c ls C hr hlk hW hX hnm hl
  exact sX7_kind C hr hlk hX x hx hx0 hx1 Q S L R _ _ _ h hW hl
theorem inX7_telling_X9 : ∀ w ∈ wsX90, w ∈ wsX7_telling := fun _ h => List.mem_cons_of_mem _ (List.mem_append_left _ (List.mem_append_left _ (List.mem_append_left _ (List.mem_append_right _ h))))
theorem inX7_telling_X3 : ∀ w ∈ wsX30, w ∈ wsX7_telling := fun _ h => List.mem_cons_of_mem _ (List.mem_append_left _ (List.mem_append_left _ (List.mem_append_right _ h)))
theorem inX7_telling_X4 : ∀ w ∈ wsX40, w ∈ wsX7_telling := fun _ h => List.mem_cons_of_mem _ (List.mem_append_left _ (List.mem_append_right _ h))
theorem inX7_telling_X7 : ∀ w ∈ wsX70, w ∈ wsX7_telling := fun _ h => List.mem_cons_of_mem _ (List.mem_append_right _ h)
abbrev rmX7_telling : Room := { frames := 4, cells := 0, slots := 0, locals := 84 }
def vX7_telling (K : Nat → Nat) (n : Nat) (x : Nat) (S : Nat → Nat → Int32) (L : Nat → Int64) (R : Nat → Option Nat) (Q : Int32 → (Nat → Nat → Int32) → (Nat → Int64) → (Nat → Option Nat) → Prop) : Prop := vX9_leave K n (3 : Int32) S L R (fun S1 L2 R3 => vX3_telling K n x  S1 L2 R3 (fun r4 S5 L6 R7 => vX4_plainTelling K n x  S5 L6 R7 (fun r8 S9 L10 R11 => Q (r4 + r8) S9 L10 R11)))
set_option maxRecDepth 100000 in
set_option maxHeartbeats 4000000 in
theorem sX7_telling {p : Program} {l : Launch} {e : Env} {s : State} {m : MethodId} {args : Array Value} {below : List Frame} {meth : Method} {c : Code} {D : va_G} {q : Nat → Nat} {A : Nat → Prop} {cI cJ cZ cP cS : ClassId} {K : Nat → Nat} {n : Nat} (C : CallFix p m c cX7_telling 2 s args wsX7_telling RX7) (hr : meth.sig.returnType = (some .int)) (hlk : meth.locks = false) (hX : cX A s) (x : Nat) (hx : x < n) (hx0 : ¬ K x = 0) (hx1 : ¬ K x = 1) (Q : Int32 → (Nat → Nat → Int32) → (Nat → Int64) → (Nat → Option Nat) → Prop) : ∀ (S : Nat → Nat → Int32) (L : Nat → Int64) (R : Nat → Option Nat) (H : Heap) (locs : List Loc) (ls : Array Slot), vX7_telling K n x S L R Q → hw D (tyC cI cJ cZ cP cS) q (29 + 2 * n) (gC q cI cJ cZ cP cS K n S L R) A s H locs → lv_has ls 2 [(0, .ref (q (29 + 2 * x))), (1, .ref (q 14))] → W p l e (headSpec wsX7_telling rmX7_telling).room s m args below meth c H locs 0 0 (MQ below (QCi D q cI cJ cZ cP cS K n Q A) args s 0 0 A) (F0 m 0 ls []) := by
  intro S L R H locs ls h hW hl
  unfold vX7_telling at h
  refine lv_aload_n C.1 C.2.1 dX7_telling_0 rfl (lv_at hl 1 rfl) ?_
  refine lv_iconst (v := 3) C.1 C.2.1 dX7_telling_1 (by decide) ?_
  refine k_v hW (va_runV (As := [.int (3 : Int32)]) (rest := []) C (mtX9_leave l D q cI cJ cZ cP cS K n H.size (3 : Int32) S L R _ h) (cwV 1 C.2.2.2.2 gX7_telling_X9_leave rfl rfl rfl (by decide +kernel) ⟨Nat.le_of_ble_eq_true rfl, Nat.le_of_ble_eq_true rfl⟩) ⟨mP_blind cX_B, va_recv hW.1 hW.2.1 (ci := 9) (q0 := 14) rfl (wL_get (by omega)), fun U hU hV => ⟨rfl, hW.pre hU hV (hX.call hW hU hV)⟩⟩ rfl rfl hl.1 rfl (lv_room (Nat.le_of_ble_eq_true rfl)) dX7_telling_2 ⟨Nat.zero_le _, Nat.zero_le _⟩) (fun u H locs h hW => ?_)
  obtain ⟨S1, L2, R3⟩ := u
  replace hW : hw D (tyC cI cJ cZ cP cS) q (29 + 2 * n) (gC q cI cJ cZ cP cS K n S1 L2 R3) A s H locs := hW
  refine lv_aload_n C.1 C.2.1 dX7_telling_5 rfl (lv_at hl 0 rfl) ?_
  refine lv_aload_n C.1 C.2.1 dX7_telling_6 rfl (lv_at hl 1 rfl) ?_
  refine k_i hW (by1 (k := K x) h (fun k0 h => va_runSU (As := [.ref (q 14)]) (rest := []) (hW.1.1 4 _ rfl).2 C (mtX3_telling l D q cI cJ cZ cP cS K n x hx H.size  S1 L2 R3 _ h) (va_cwSU 1 C.2.2.2.2 gX7_telling_X3_telling_s15 rfl rfl rfl (by decide +kernel) ⟨Nat.le_of_ble_eq_true rfl, Nat.le_of_ble_eq_true rfl⟩) ⟨mP_blind cX_B, c_rec0 hW hx k0, fun U hU hV => ⟨rfl, hW.pre hU hV (hX.call hW hU hV)⟩⟩ rfl rfl hl.1 rfl (lv_room (Nat.le_of_ble_eq_true rfl)) dX7_telling_7 ⟨Nat.zero_le _, Nat.zero_le _⟩) (fun k1 h => va_runSU (As := [.ref (q 14)]) (rest := []) (hW.1.1 3 _ rfl).2 C (mtX3_telling l D q cI cJ cZ cP cS K n x hx H.size  S1 L2 R3 _ h) (va_cwSU 1 C.2.2.2.2 gX7_telling_X3_telling_s15 rfl rfl rfl (by decide +kernel) ⟨Nat.le_of_ble_eq_true rfl, Nat.le_of_ble_eq_true rfl⟩) ⟨mP_blind cX_B, c_rec1 hW hx k1, fun U hU hV => ⟨rfl, hW.pre hU hV (hX.call hW hU hV)⟩⟩ rfl rfl hl.1 rfl (lv_room (Nat.le_of_ble_eq_true rfl)) dX7_telling_7 ⟨Nat.zero_le _, Nat.zero_le _⟩) (fun k0 k1 h => va_runSU (As := [.ref (q 14)]) (rest := []) (hW.1.1 7 _ rfl).2 C (mtX3_telling l D q cI cJ cZ cP cS K n x hx H.size  S1 L2 R3 _ h) (va_cwSU 1 C.2.2.2.2 gX7_telling_X3_telling_s15 rfl rfl rfl (by decide +kernel) ⟨Nat.le_of_ble_eq_true rfl, Nat.le_of_ble_eq_true rfl⟩) ⟨mP_blind cX_B, c_rec2 hW hx k0 k1, fun U hU hV => ⟨rfl, hW.pre hU hV (hX.call hW hU hV)⟩⟩ rfl rfl hl.1 rfl (lv_room (Nat.le_of_ble_eq_true rfl)) dX7_telling_7 ⟨Nat.zero_le _, Nat.zero_le _⟩)) (fun r4 u H locs h hW => ?_)
  obtain ⟨S5, L6, R7⟩ := u
  replace hW : hw D (tyC cI cJ cZ cP cS) q (29 + 2 * n) (gC q cI cJ cZ cP cS K n S5 L6 R7) A s H locs := hW
  refine lv_aload_n C.1 C.2.1 dX7_telling_10 rfl (lv_at hl 0 rfl) ?_
  refine lv_aload_n C.1 C.2.1 dX7_telling_11 rfl (lv_at hl 1 rfl) ?_
  refine k_i hW (va_runU (As := [.ref (q 14)]) (rest := [.int r4]) C (mtX4_plainTelling l D q cI cJ cZ cP cS K n x hx H.size  S5 L6 R7 _ h) (va_cwU 1 C.2.2.2.2 gX7_telling_X4_plainTelling_u19X7 rfl rfl rfl rfl (by decide +kernel) ⟨Nat.le_of_ble_eq_true rfl, Nat.le_of_ble_eq_true rfl⟩) ⟨mP_blind cX_B, c_rec2 hW hx hx0 hx1, fun U hU hV => ⟨rfl, hW.pre hU hV (hX.call hW hU hV)⟩⟩ rfl rfl hl.1 rfl (lv_room (Nat.le_of_ble_eq_true rfl)) dX7_telling_12 ⟨Nat.zero_le _, Nat.zero_le _⟩) (fun r8 u H locs h hW => ?_)
  obtain ⟨S9, L10, R11⟩ := u
  replace hW : hw D (tyC cI cJ cZ cP cS) q (29 + 2 * n) (gC q cI cJ cZ cP cS K n S9 L10 R11) A s H locs := hW
  refine lv_iadd C.1 C.2.1 dX7_telling_15 ?_
  exact t_i C hr hlk (u := (S9, L10, R11)) hW.2.2.2.1 hW.B h dX7_telling_16
set_option maxRecDepth 100000 in
set_option maxHeartbeats 4000000 in
theorem mtX7_telling (l : Launch) (D : va_G) (q : Nat → Nat) (cI cJ cZ cP cS : ClassId) (K : Nat → Nat) (n : Nat) (x : Nat) (hx : x < n) (hx0 : ¬ K x = 0) (hx1 : ¬ K x = 1) (sz : Nat) (S : Nat → Nat → Int32) (L : Nat → Int64) (R : Nat → Option Nat) (Q : Int32 → (Nat → Nat → Int32) → (Nat → Int64) → (Nat → Option Nat) → Prop) (h : vX7_telling K n x S L R Q) : Met l yX7_telling wsX7_telling rmX7_telling (va_Pc [.ref (q (29 + 2 * x)), .ref (q 14)] (mP D (tyC cI cJ cZ cP cS) q (29 + 2 * n) (gC q cI cJ cZ cP cS K n S L R) sz (cX (aQ q (29 + 2 * n) sz)))) (QCi D q cI cJ cZ cP cS K n Q (aQ q (29 + 2 * n) sz)) 0 0 (aQ q (29 + 2 * n) sz) := by
  refine met_w (cc := cX7_telling) (maxL := 2) (ret := (some .int)) (by decide) rfl (Nat.le_of_ble_eq_true rfl) ?_
  intro p e s m below meth c ls C hr hlk hW hX hnm hl
  exact sX7_telling C hr hlk hX x hx hx0 hx1 Q S L R _ _ _ h hW hl
theorem inX7_rung_X9 : ∀ w ∈ wsX90, w ∈ wsX7_rung := fun _ h => List.mem_cons_of_mem _ (List.mem_append_right _ h)
abbrev rmX7_rung : Room := { frames := 1, cells := 0, slots := 0, locals := 21 }
def vX7_rung (K : Nat → Nat) (n : Nat) (x : Nat) (S : Nat → Nat → Int32) (L : Nat → Int64) (R : Nat → Option Nat) (Q : Int32 → (Nat → Nat → Int32) → (Nat → Int64) → (Nat → Option Nat) → Prop) : Prop := vX9_leave K n (5 : Int32) S L R (fun S1 L2 R3 => Q (50 : Int32) S1 L2 R3)
set_option maxRecDepth 100000 in
set_option maxHeartbeats 4000000 in
theorem sX7_rung {p : Program} {l : Launch} {e : Env} {s : State} {m : MethodId} {args : Array Value} {below : List Frame} {meth : Method} {c : Code} {D : va_G} {q : Nat → Nat} {A : Nat → Prop} {cI cJ cZ cP cS : ClassId} {K : Nat → Nat} {n : Nat} (C : CallFix p m c cX7_rung 2 s args wsX7_rung RX7) (hr : meth.sig.returnType = (some .int)) (hlk : meth.locks = false) (hX : cX A s) (x : Nat) (hx : x < n) (hx0 : ¬ K x = 0) (hx1 : ¬ K x = 1) (Q : Int32 → (Nat → Nat → Int32) → (Nat → Int64) → (Nat → Option Nat) → Prop) : ∀ (S : Nat → Nat → Int32) (L : Nat → Int64) (R : Nat → Option Nat) (H : Heap) (locs : List Loc) (ls : Array Slot), vX7_rung K n x S L R Q → hw D (tyC cI cJ cZ cP cS) q (29 + 2 * n) (gC q cI cJ cZ cP cS K n S L R) A s H locs → lv_has ls 2 [(0, .ref (q (29 + 2 * x))), (1, .ref (q 14))] → W p l e (headSpec wsX7_rung rmX7_rung).room s m args below meth c H locs 0 0 (MQ below (QCi D q cI cJ cZ cP cS K n Q A) args s 0 0 A) (F0 m 0 ls []) := by
  intro S L R H locs ls h hW hl
  unfold vX7_rung at h
  refine lv_aload_n C.1 C.2.1 dX7_rung_0 rfl (lv_at hl 1 rfl) ?_
  refine lv_iconst (v := 5) C.1 C.2.1 dX7_rung_1 (by decide) ?_
  refine k_v hW (va_runV (As := [.int (5 : Int32)]) (rest := []) C (mtX9_leave l D q cI cJ cZ cP cS K n H.size (5 : Int32) S L R _ h) (cwV 1 C.2.2.2.2 gX7_rung_X9_leave rfl rfl rfl (by decide +kernel) ⟨Nat.le_of_ble_eq_true rfl, Nat.le_of_ble_eq_true rfl⟩) ⟨mP_blind cX_B, va_recv hW.1 hW.2.1 (ci := 9) (q0 := 14) rfl (wL_get (by omega)), fun U hU hV => ⟨rfl, hW.pre hU hV (hX.call hW hU hV)⟩⟩ rfl rfl hl.1 rfl (lv_room (Nat.le_of_ble_eq_true rfl)) dX7_rung_2 ⟨Nat.zero_le _, Nat.zero_le _⟩) (fun u H locs h hW => ?_)
  obtain ⟨S1, L2, R3⟩ := u
  replace hW : hw D (tyC cI cJ cZ cP cS) q (29 + 2 * n) (gC q cI cJ cZ cP cS K n S1 L2 R3) A s H locs := hW
  refine lv_bipush (v := 50) C.1 C.2.1 dX7_rung_5 (by decide) ?_
  exact t_i C hr hlk (u := (S1, L2, R3)) hW.2.2.2.1 hW.B h dX7_rung_7
set_option maxRecDepth 100000 in
set_option maxHeartbeats 4000000 in
theorem mtX7_rung (l : Launch) (D : va_G) (q : Nat → Nat) (cI cJ cZ cP cS : ClassId) (K : Nat → Nat) (n : Nat) (x : Nat) (hx : x < n) (hx0 : ¬ K x = 0) (hx1 : ¬ K x = 1) (sz : Nat) (S : Nat → Nat → Int32) (L : Nat → Int64) (R : Nat → Option Nat) (Q : Int32 → (Nat → Nat → Int32) → (Nat → Int64) → (Nat → Option Nat) → Prop) (h : vX7_rung K n x S L R Q) : Met l yX7_rung wsX7_rung rmX7_rung (va_Pc [.ref (q (29 + 2 * x)), .ref (q 14)] (mP D (tyC cI cJ cZ cP cS) q (29 + 2 * n) (gC q cI cJ cZ cP cS K n S L R) sz (cX (aQ q (29 + 2 * n) sz)))) (QCi D q cI cJ cZ cP cS K n Q (aQ q (29 + 2 * n) sz)) 0 0 (aQ q (29 + 2 * n) sz) := by
  refine met_w (cc := cX7_rung) (maxL := 2) (ret := (some .int)) (by decide) rfl (Nat.le_of_ble_eq_true rfl) ?_
  intro p e s m below meth c ls C hr hlk hW hX hnm hl
  exact sX7_rung C hr hlk hX x hx hx0 hx1 Q S L R _ _ _ h hW hl
theorem inX7_valveBehind_X3 : ∀ w ∈ wsX30, w ∈ wsX7_valveBehind := fun _ h => List.mem_cons_of_mem _ (List.mem_append_left _ (List.mem_append_left _ (List.mem_append_right _ h)))
theorem inX7_valveBehind_X4 : ∀ w ∈ wsX40, w ∈ wsX7_valveBehind := fun _ h => List.mem_cons_of_mem _ (List.mem_append_left _ (List.mem_append_right _ h))
theorem inX7_valveBehind_X7 : ∀ w ∈ wsX70, w ∈ wsX7_valveBehind := fun _ h => List.mem_cons_of_mem _ (List.mem_append_right _ h)
abbrev rmX7_valveBehind : Room := { frames := 2, cells := 0, slots := 0, locals := 45 }
def vX7_valveBehind (K : Nat → Nat) (n : Nat) (x : Nat) (x1 : Int32) (x2 : Int32) (S : Nat → Nat → Int32) (L : Nat → Int64) (R : Nat → Option Nat) (Q : Int32 → (Nat → Nat → Int32) → (Nat → Int64) → (Nat → Option Nat) → Prop) : Prop := vp_in (8 : Int32) 9 ∧ (((S (30 + 2 * x) (8 : Int32).toNatClampNeg) ≤ (if 0 ≤ (x2 - x1) then (x2 - x1) else 0 - (x2 - x1)) → vX3_valveBehind K n x x1 x2 S L R (fun r3 S4 L5 R6 => Q r3 S4 L5 R6)) ∧ (¬ ((S (30 + 2 * x) (8 : Int32).toNatClampNeg) ≤ (if 0 ≤ (x2 - x1) then (x2 - x1) else 0 - (x2 - x1))) → Q x1 S L R))
set_option maxRecDepth 100000 in
set_option maxHeartbeats 4000000 in
theorem sX7_valveBehind {p : Program} {l : Launch} {e : Env} {s : State} {m : MethodId} {args : Array Value} {below : List Frame} {meth : Method} {c : Code} {D : va_G} {q : Nat → Nat} {A : Nat → Prop} {cI cJ cZ cP cS : ClassId} {K : Nat → Nat} {n : Nat} (C : CallFix p m c cX7_valveBehind 3 s args wsX7_valveBehind RX7) (hr : meth.sig.returnType = (some .int)) (hlk : meth.locks = false) (hX : cX A s) (x : Nat) (hx : x < n) (hx0 : ¬ K x = 0) (hx1 : ¬ K x = 1) (Q : Int32 → (Nat → Nat → Int32) → (Nat → Int64) → (Nat → Option Nat) → Prop) : ∀ (x1 : Int32) (x2 : Int32) (S : Nat → Nat → Int32) (L : Nat → Int64) (R : Nat → Option Nat) (H : Heap) (locs : List Loc) (ls : Array Slot), vX7_valveBehind K n x x1 x2 S L R Q → hw D (tyC cI cJ cZ cP cS) q (29 + 2 * n) (gC q cI cJ cZ cP cS K n S L R) A s H locs → lv_has ls 3 [(0, .ref (q (29 + 2 * x))), (1, .int x1), (2, .int x2)] → W p l e (headSpec wsX7_valveBehind rmX7_valveBehind).room s m args below meth c H locs 0 0 (MQ below (QCi D q cI cJ cZ cP cS K n Q A) args s 0 0 A) (F0 m 0 ls []) := by
  intro x1 x2 S L R H locs ls h hW hl
  unfold vX7_valveBehind at h
  refine lv_iload_n C.1 C.2.1 dX7_valveBehind_0 rfl (lv_at hl 2 rfl) ?_
  refine lv_iload_n C.1 C.2.1 dX7_valveBehind_1 rfl (lv_at hl 1 rfl) ?_
  refine lv_isub C.1 C.2.1 dX7_valveBehind_2 ?_
  refine va_mabs C.1 C.2.1 (by rw [C.2.2.1, hl.1]) C.2.2.2.1 (C.2.2.2.2 (.methodLink RX7 24 Lib.Math.abs.name) (by decide +kernel)) (C.2.2.2.2 (.static Lib.Math.abs.name) (by decide +kernel)) (C.2.2.2.2 (.initialized "java/lang/Math") (by decide +kernel)) (C.2.2.2.2 (.code Lib.Math.abs.name Lib.Math.abs.code 1 (some .int)) (by decide +kernel)) (Nat.le_of_ble_eq_true rfl) (Nat.le_of_ble_eq_true rfl) (Nat.zero_le _) (Nat.zero_le _) dX7_valveBehind_3 ?_
  refine lv_aload_n C.1 C.2.1 dX7_valveBehind_6 rfl (lv_at hl 0 rfl) ?_
  refine c_nums C hW hx inX7_valveBehind_X3 inX7_valveBehind_X4 inX7_valveBehind_X7 (ref := "BallMinder$Sticky") (by decide +kernel) (fun x9 h9 => u_same (C.2.2.2.2 (.sameField "BallMinder$Sticky" "BallMinder$Plain" "numbers" "[I") (by decide +kernel)) x9 h9) dX7_valveBehind_7 ?_
  refine lv_bipush (v := 8) C.1 C.2.1 dX7_valveBehind_10 (by decide) ?_
  obtain ⟨hs1, h⟩ := h
  refine r_iald C hW (cA := cI) (n := 9) (f := S (30 + 2 * x)) (30 + 2 * x) 0 (by omega) (gC_nums x) rfl hs1 dX7_valveBehind_12 ?_
  refine lv_icmp_ge (tgt := 18) C.1 C.2.1 dX7_valveBehind_13 (by decide) (fun c2 => ?_) (fun c2 => ?_)
  · replace h := h.1 c2
    refine lv_aload_n C.1 C.2.1 dX7_valveBehind_18 rfl (lv_at hl 0 rfl) ?_
    refine lv_iload_n C.1 C.2.1 dX7_valveBehind_19 rfl (lv_at hl 1 rfl) ?_
    refine lv_iload_n C.1 C.2.1 dX7_valveBehind_20 rfl (lv_at hl 2 rfl) ?_
    refine k_i hW (by1 (k := K x) h (fun k0 h => va_runSU (As := [.int x1, .int x2]) (rest := []) (hW.1.1 4 _ rfl).2 C (mtX3_valveBehind l D q cI cJ cZ cP cS K n x hx H.size x1 x2 S L R _ h) (va_cwSU 2 C.2.2.2.2 gX7_valveBehind_X3_valveBehind_s34 rfl rfl rfl (by decide +kernel) ⟨Nat.le_of_ble_eq_true rfl, Nat.le_of_ble_eq_true rfl⟩) ⟨mP_blind cX_B, c_rec0 hW hx k0, fun U hU hV => ⟨rfl, hW.pre hU hV (hX.call hW hU hV)⟩⟩ rfl rfl hl.1 rfl (lv_room (Nat.le_of_ble_eq_true rfl)) dX7_valveBehind_21 ⟨Nat.zero_le _, Nat.zero_le _⟩) (fun k1 h => va_runSU (As := [.int x1, .int x2]) (rest := []) (hW.1.1 3 _ rfl).2 C (mtX3_valveBehind l D q cI cJ cZ cP cS K n x hx H.size x1 x2 S L R _ h) (va_cwSU 2 C.2.2.2.2 gX7_valveBehind_X3_valveBehind_s34 rfl rfl rfl (by decide +kernel) ⟨Nat.le_of_ble_eq_true rfl, Nat.le_of_ble_eq_true rfl⟩) ⟨mP_blind cX_B, c_rec1 hW hx k1, fun U hU hV => ⟨rfl, hW.pre hU hV (hX.call hW hU hV)⟩⟩ rfl rfl hl.1 rfl (lv_room (Nat.le_of_ble_eq_true rfl)) dX7_valveBehind_21 ⟨Nat.zero_le _, Nat.zero_le _⟩) (fun k0 k1 h => va_runSU (As := [.int x1, .int x2]) (rest := []) (hW.1.1 7 _ rfl).2 C (mtX3_valveBehind l D q cI cJ cZ cP cS K n x hx H.size x1 x2 S L R _ h) (va_cwSU 2 C.2.2.2.2 gX7_valveBehind_X3_valveBehind_s34 rfl rfl rfl (by decide +kernel) ⟨Nat.le_of_ble_eq_true rfl, Nat.le_of_ble_eq_true rfl⟩) ⟨mP_blind cX_B, c_rec2 hW hx k0 k1, fun U hU hV => ⟨rfl, hW.pre hU hV (hX.call hW hU hV)⟩⟩ rfl rfl hl.1 rfl (lv_room (Nat.le_of_ble_eq_true rfl)) dX7_valveBehind_21 ⟨Nat.zero_le _, Nat.zero_le _⟩)) (fun r3 u H locs h hW => ?_)
    obtain ⟨S4, L5, R6⟩ := u
    replace hW : hw D (tyC cI cJ cZ cP cS) q (29 + 2 * n) (gC q cI cJ cZ cP cS K n S4 L5 R6) A s H locs := hW
    exact t_i C hr hlk (u := (S4, L5, R6)) hW.2.2.2.1 hW.B h dX7_valveBehind_24
  · replace h := h.2 c2
    refine lv_iload_n C.1 C.2.1 dX7_valveBehind_16 rfl (lv_at hl 1 rfl) ?_
    exact t_i C hr hlk (u := (S, L, R)) hW.2.2.2.1 hW.B h dX7_valveBehind_17
set_option maxRecDepth 100000 in
set_option maxHeartbeats 4000000 in
theorem mtX7_valveBehind (l : Launch) (D : va_G) (q : Nat → Nat) (cI cJ cZ cP cS : ClassId) (K : Nat → Nat) (n : Nat) (x : Nat) (hx : x < n) (hx0 : ¬ K x = 0) (hx1 : ¬ K x = 1) (sz : Nat) (x1 : Int32) (x2 : Int32) (S : Nat → Nat → Int32) (L : Nat → Int64) (R : Nat → Option Nat) (Q : Int32 → (Nat → Nat → Int32) → (Nat → Int64) → (Nat → Option Nat) → Prop) (h : vX7_valveBehind K n x x1 x2 S L R Q) : Met l yX7_valveBehind wsX7_valveBehind rmX7_valveBehind (va_Pc [.ref (q (29 + 2 * x)), .int x1, .int x2] (mP D (tyC cI cJ cZ cP cS) q (29 + 2 * n) (gC q cI cJ cZ cP cS K n S L R) sz (cX (aQ q (29 + 2 * n) sz)))) (QCi D q cI cJ cZ cP cS K n Q (aQ q (29 + 2 * n) sz)) 0 0 (aQ q (29 + 2 * n) sz) := by
  refine met_w (cc := cX7_valveBehind) (maxL := 3) (ret := (some .int)) (by decide) rfl (Nat.le_of_ble_eq_true rfl) ?_
  intro p e s m below meth c ls C hr hlk hW hX hnm hl
  exact sX7_valveBehind C hr hlk hX x hx hx0 hx1 Q x1 x2 S L R _ _ _ h hW hl
abbrev rmJ13_compare_74951 : Room := { frames := 0, cells := 0, slots := 0, locals := 0 }
def vJ13_compare_74951 (x0 : Int64) (x2 : Int64) (Q : Int32 → Prop) : Prop := (x2 ≤ x0 → (¬ x0 = x2 → Q (1 : Int32)) ∧ (x0 = x2 → Q (0 : Int32))) ∧ (¬ (x2 ≤ x0) → Q (-1 : Int32))
set_option maxRecDepth 100000 in
set_option maxHeartbeats 4000000 in
theorem sJ13_compare_74951 {p : Program} {l : Launch} {e : Env} {s : State} {m : MethodId} {args : Array Value} {below : List Frame} {meth : Method} {c : Code} {D : va_G} {q : Nat → Nat} {A : Nat → Prop} {tys : List (ClassId × FieldType)} {N : Nat} {g : Nat → va_E} (C : CallFix p m c cJ13_compare_74951 4 s args wsJ13_compare_74951 RJ13) (hr : meth.sig.returnType = (some .int)) (hlk : meth.locks = false) (Q : Int32 → Prop) : ∀ (x0 : Int64) (x2 : Int64) (H : Heap) (locs : List Loc) (ls : Array Slot), vJ13_compare_74951 x0 x2 Q → hw D tys q N g A s H locs → lv_has ls 4 [(0, .long x0), (2, .long x2)] → W p l e (headSpec wsJ13_compare_74951 rmJ13_compare_74951).room s m args below meth c H locs 0 0 (MQ below (va_Qi (fun r (_ : Unit) => Q r) (fun _ _ => True) A) args s 0 0 A) (F0 m 0 ls []) := by
  intro x0 x2 H locs ls h hW hl
  unfold vJ13_compare_74951 at h
  refine lv_lload_n C.1 C.2.1 dJ13_compare_74951_0 rfl (lv_at hl 0 rfl) ?_
  refine lv_lload_n C.1 C.2.1 dJ13_compare_74951_1 rfl (lv_at hl 1 rfl) ?_
  refine W.lcmp C.1 C.2.1 dJ13_compare_74951_2 ?_
  refine lv_if_ge (tgt := 10) C.1 C.2.1 dJ13_compare_74951_3 (by decide) (fun c1 => ?_) (fun c1 => ?_)
  · replace h := h.1 (lc_ge.mp c1)
    refine lv_lload_n C.1 C.2.1 dJ13_compare_74951_10 rfl (lv_at hl 0 rfl) ?_
    refine lv_lload_n C.1 C.2.1 dJ13_compare_74951_11 rfl (lv_at hl 1 rfl) ?_
    refine W.lcmp C.1 C.2.1 dJ13_compare_74951_12 ?_
    refine lv_if_ne (tgt := 20) C.1 C.2.1 dJ13_compare_74951_13 (by decide) (fun c2 => ?_) (fun c2 => ?_)
    · replace h := h.1 (lc_ne.mp c2)
      refine lv_iconst (v := 1) C.1 C.2.1 dJ13_compare_74951_20 (by decide) ?_
      exact t_i C hr hlk (u := ()) hW.2.2.2.1 (fun _ _ => trivial) h dJ13_compare_74951_21
    · replace h := h.2 (lc_eq.mp c2)
      refine lv_iconst (v := 0) C.1 C.2.1 dJ13_compare_74951_16 (by decide) ?_
      refine lv_goto (tgt := 21) C.1 C.2.1 dJ13_compare_74951_17 (by decide) ?_
      exact t_i C hr hlk (u := ()) hW.2.2.2.1 (fun _ _ => trivial) h dJ13_compare_74951_21
  · replace h := h.2 (fun z => c1 (lc_ge.mpr z))
    refine lv_iconst (v := -1) C.1 C.2.1 dJ13_compare_74951_6 (by decide) ?_
    refine lv_goto (tgt := 21) C.1 C.2.1 dJ13_compare_74951_7 (by decide) ?_
    exact t_i C hr hlk (u := ()) hW.2.2.2.1 (fun _ _ => trivial) h dJ13_compare_74951_21
set_option maxRecDepth 100000 in
set_option maxHeartbeats 4000000 in
theorem mtJ13_compare_74951 (l : Launch) (D : va_G) (q : Nat → Nat) (g : Nat → va_E) (sz : Nat) (x0 : Int64) (x2 : Int64) (Q : Int32 → Prop) (h : vJ13_compare_74951 x0 x2 Q) : Met l yJ13_compare_74951 wsJ13_compare_74951 rmJ13_compare_74951 (va_Pc [.long x0, .long x2] (mP D [] q 0 g sz tX)) (va_Qi (fun r (_ : Unit) => Q r) (fun _ _ => True) (aQ q 0 sz)) 0 0 (aQ q 0 sz) := by
  refine met_w (cc := cJ13_compare_74951) (maxL := 4) (ret := (some .int)) (by decide) rfl (Nat.le_of_ble_eq_true rfl) ?_
  intro p e s m below meth c ls C hr hlk hW hX hnm hl
  exact sJ13_compare_74951 C hr hlk Q x0 x2 _ _ _ h hW hl
