section LC
variable {p : Program} {l : Launch} {e : Env} {s : State} {m : MethodId} {below : List Frame} {meth : Method} {c : Code} {b L0 i : Nat} {xs : Nat → Int32} {D : va_G} {cI cJ cZ cP cS cI2 : ClassId} {q q2 : Nat → Nat} {K : Nat → Nat} {n : Nat} {S : Nat → Nat → Int32} {L : Nat → Int64} {R : Nat → Option Nat} {f : Nat → Int32} {a : Nat → Nat → Int32} {H : Heap} {locs : List Loc} {ls : Array Slot} {cells slots : Nat} {Q : State → Prop}
set_option maxRecDepth 100000 in
set_option maxHeartbeats 4000000 in
theorem law_c5 (C : CallFix p m c cL_law 4 s #[Value.ref b] wsL_law RL) (hcx : cX (lA s) s) (hX : va_X b L0 xs s s.heap) (hbl : b < s.heap.size) (hi : i + 7 ≤ L0) (hL : L0 ≤ 3584) (hw0 : LW D cI cJ cZ cP cS cI2 q q2 K n S L R f a s H locs) (hl : lv_has ls 4 [(0, .ref b), (1, .ref (q 0)), (2, .ref (q2 0)), (3, .int (nI i))]) (hcs : cells + 2 ≤ 600000 ∧ slots + 11 ≤ 7302250)
    (kk : ∀ (q1 : Nat → Nat) (K1 : Nat → Nat) (n1 : Nat) (S1 : Nat → Nat → Int32) (L1 : Nat → Int64) (R1 : Nat → Option Nat) (f1 : Nat → Int32) (a1 : Nat → Nat → Int32) (H1 : Heap) (locs1 : List Loc), q1 0 = q 0 → LW D cI cJ cZ cP cS cI2 q1 q2 K1 n1 S1 L1 R1 f1 a1 s H1 locs1 → W p l e room_1 s m #[Value.ref b] below meth c H1 locs1 (cells + 2) (slots + 11) Q (F0 m 1298 ls [])) :
    W p l e room_1 s m #[Value.ref b] below meth c H locs cells slots Q (F0 m 361 ls []) := by
  obtain ⟨hC, hM, hdis, M, I⟩ := hw0
  have hbA : ¬ lA s b := Nat.not_le.mpr hbl
  have v1 : vp_in (nI i + (1 : Int32)) L0 := by rw [show (1 : Int32) = nI 1 from rfl, nI_add]; exact vp_in_nI (by omega) (by omega)
  refine lv_aload_n C.1 C.2.1 dL_law_361 rfl (lv_at hl 1 rfl) ?_
  refine lv_aload_n C.1 C.2.1 dL_law_362 rfl (lv_at hl 0 rfl) ?_
  refine lv_iload_n C.1 C.2.1 dL_law_363 rfl (lv_at hl 3 rfl) ?_
  refine lv_iconst (v := 1) C.1 C.2.1 dL_law_364 (by decide) ?_
  refine lv_iadd C.1 C.2.1 dL_law_365 ?_
  refine va_sld C.1 C.2.1 hX hbl hbA hC.2.2.2.1 v1 dL_law_366 ?_
  have hv := pr_near (L := L) I (xs (nI i + (1 : Int32)).toNatClampNeg)
  refine kL_i hC hM hdis (va_runV (As := [.int (xs (nI i + (1 : Int32)).toNatClampNeg)]) (rest := []) C (mtX10_near l D q cI cJ cZ cP cS K n H.size (xs (nI i + (1 : Int32)).toNatClampNeg) S L R _ hv) (cwV 1 C.2.2.2.2 gL_law_X10_near rfl rfl rfl (by decide +kernel) ⟨Nat.le_of_ble_eq_true rfl, Nat.le_of_ble_eq_true rfl⟩) ⟨mP_blind cX_B, va_recv hC.1 hC.2.1 (ci := 10) (q0 := 0) rfl (wL_get (by omega)), fun U hU hV => ⟨rfl, hC.pre hU hV (hcx.call hC hU hV)⟩⟩ rfl rfl hl.1 rfl (lv_room (Nat.le_of_ble_eq_true rfl)) dL_law_367 ⟨show cells + 0 ≤ 600000 by omega, show slots + 0 ≤ 7302250 by omega⟩) (fun r u H1 locs1 h hC hM => ?_)
  obtain ⟨S1, L1, R1⟩ := u
  try dsimp only at h hC
  refine lv_aload_n C.1 C.2.1 dL_law_370 rfl (lv_at hl 2 rfl) ?_
  refine lv_aload_n C.1 C.2.1 dL_law_371 rfl (lv_at hl 0 rfl) ?_
  refine lv_iload_n C.1 C.2.1 dL_law_372 rfl (lv_at hl 3 rfl) ?_
  refine lv_iconst (v := 1) C.1 C.2.1 dL_law_373 (by decide) ?_
  refine lv_iadd C.1 C.2.1 dL_law_374 ?_
  refine va_sld C.1 C.2.1 hX hbl hbA hC.2.2.2.1 v1 dL_law_375 ?_
  refine kL_i hM hC (fun i hi j hj e => hdis j hj i hi e.symm) (va_runV (As := [.int (xs (nI i + (1 : Int32)).toNatClampNeg)]) (rest := [.int r]) C (mtX11_near l D q2 cI2 H1.size (xs (nI i + (1 : Int32)).toNatClampNeg) f a _ h) (cwV 1 C.2.2.2.2 gL_law_X11_near rfl rfl rfl (by decide +kernel) ⟨Nat.le_of_ble_eq_true rfl, Nat.le_of_ble_eq_true rfl⟩) ⟨mP_blind tX_B, va_recv hM.1 hM.2.1 (ci := 11) (q0 := 0) rfl (wL_get (by decide)), fun U hU hV => ⟨rfl, hM.pre hU hV trivial⟩⟩ rfl rfl hl.1 rfl (lv_room (Nat.le_of_ble_eq_true rfl)) dL_law_376 ⟨show cells + 0 ≤ 600000 by omega, show slots + 0 ≤ 7302250 by omega⟩) (fun r2 u H1 locs1 h hM hC => ?_)
  obtain ⟨f1, a1⟩ := u
  obtain ⟨er, J⟩ := h
  try dsimp only at er J hM
  refine lv_icmp_eq (tgt := 1298) C.1 C.2.1 dL_law_379 (by decide) (fun _ => ?_) (fun ne => absurd er ne)
  · skip
    refine W.widen (k := cells + 2) (n := slots + 11) (by omega) (by omega) ?_
    exact kk q K n S1 L1 R1 f1 a1 H1 locs1 rfl ⟨hC, hM, hdis, J⟩
set_option maxRecDepth 100000 in
set_option maxHeartbeats 4000000 in
theorem law_c6 (C : CallFix p m c cL_law 4 s #[Value.ref b] wsL_law RL) (hcx : cX (lA s) s) (hX : va_X b L0 xs s s.heap) (hbl : b < s.heap.size) (hi : i + 7 ≤ L0) (hL : L0 ≤ 3584) (hw0 : LW D cI cJ cZ cP cS cI2 q q2 K n S L R f a s H locs) (hl : lv_has ls 4 [(0, .ref b), (1, .ref (q 0)), (2, .ref (q2 0)), (3, .int (nI i))]) (hcs : cells + 2 ≤ 600000 ∧ slots + 11 ≤ 7302250)
    (kk : ∀ (q1 : Nat → Nat) (K1 : Nat → Nat) (n1 : Nat) (S1 : Nat → Nat → Int32) (L1 : Nat → Int64) (R1 : Nat → Option Nat) (f1 : Nat → Int32) (a1 : Nat → Nat → Int32) (H1 : Heap) (locs1 : List Loc), q1 0 = q 0 → LW D cI cJ cZ cP cS cI2 q1 q2 K1 n1 S1 L1 R1 f1 a1 s H1 locs1 → W p l e room_1 s m #[Value.ref b] below meth c H1 locs1 (cells + 2) (slots + 11) Q (F0 m 1298 ls [])) :
    W p l e room_1 s m #[Value.ref b] below meth c H locs cells slots Q (F0 m 384 ls []) := by
  obtain ⟨hC, hM, hdis, M, I⟩ := hw0
  have hbA : ¬ lA s b := Nat.not_le.mpr hbl
  have v1 : vp_in (nI i + (1 : Int32)) L0 := by rw [show (1 : Int32) = nI 1 from rfl, nI_add]; exact vp_in_nI (by omega) (by omega)
  have v2 : vp_in (nI i + (2 : Int32)) L0 := by rw [show (2 : Int32) = nI 2 from rfl, nI_add]; exact vp_in_nI (by omega) (by omega)
  have v3 : vp_in (nI i + (3 : Int32)) L0 := by rw [show (3 : Int32) = nI 3 from rfl, nI_add]; exact vp_in_nI (by omega) (by omega)
  refine lv_aload_n C.1 C.2.1 dL_law_384 rfl (lv_at hl 1 rfl) ?_
  refine lv_aload_n C.1 C.2.1 dL_law_385 rfl (lv_at hl 0 rfl) ?_
  refine lv_iload_n C.1 C.2.1 dL_law_386 rfl (lv_at hl 3 rfl) ?_
  refine lv_iconst (v := 1) C.1 C.2.1 dL_law_387 (by decide) ?_
  refine lv_iadd C.1 C.2.1 dL_law_388 ?_
  refine va_sld C.1 C.2.1 hX hbl hbA hC.2.2.2.1 v1 dL_law_389 ?_
  refine lv_aload_n C.1 C.2.1 dL_law_390 rfl (lv_at hl 0 rfl) ?_
  refine lv_iload_n C.1 C.2.1 dL_law_391 rfl (lv_at hl 3 rfl) ?_
  refine lv_iconst (v := 2) C.1 C.2.1 dL_law_392 (by decide) ?_
  refine lv_iadd C.1 C.2.1 dL_law_393 ?_
  refine va_sld C.1 C.2.1 hX hbl hbA hC.2.2.2.1 v2 dL_law_394 ?_
  refine lv_aload_n C.1 C.2.1 dL_law_395 rfl (lv_at hl 0 rfl) ?_
  refine lv_iload_n C.1 C.2.1 dL_law_396 rfl (lv_at hl 3 rfl) ?_
  refine lv_iconst (v := 3) C.1 C.2.1 dL_law_397 (by decide) ?_
  refine lv_iadd C.1 C.2.1 dL_law_398 ?_
  refine va_sld C.1 C.2.1 hX hbl hbA hC.2.2.2.1 v3 dL_law_399 ?_
  have hv := pr_line (L := L) I (xs (nI i + (1 : Int32)).toNatClampNeg) (xs (nI i + (2 : Int32)).toNatClampNeg) (xs (nI i + (3 : Int32)).toNatClampNeg)
  refine kL_i hC hM hdis (va_runV (As := [.int (xs (nI i + (1 : Int32)).toNatClampNeg), .int (xs (nI i + (2 : Int32)).toNatClampNeg), .int (xs (nI i + (3 : Int32)).toNatClampNeg)]) (rest := []) C (mtX10_line l D q cI cJ cZ cP cS K n H.size (xs (nI i + (1 : Int32)).toNatClampNeg) (xs (nI i + (2 : Int32)).toNatClampNeg) (xs (nI i + (3 : Int32)).toNatClampNeg) S L R _ hv) (cwV 3 C.2.2.2.2 gL_law_X10_line rfl rfl rfl (by decide +kernel) ⟨Nat.le_of_ble_eq_true rfl, Nat.le_of_ble_eq_true rfl⟩) ⟨mP_blind cX_B, va_recv hC.1 hC.2.1 (ci := 10) (q0 := 0) rfl (wL_get (by omega)), fun U hU hV => ⟨rfl, hC.pre hU hV (hcx.call hC hU hV)⟩⟩ rfl rfl hl.1 rfl (lv_room (Nat.le_of_ble_eq_true rfl)) dL_law_400 ⟨show cells + 0 ≤ 600000 by omega, show slots + 0 ≤ 7302250 by omega⟩) (fun r u H1 locs1 h hC hM => ?_)
  obtain ⟨S1, L1, R1⟩ := u
  try dsimp only at h hC
  refine lv_aload_n C.1 C.2.1 dL_law_403 rfl (lv_at hl 2 rfl) ?_
  refine lv_aload_n C.1 C.2.1 dL_law_404 rfl (lv_at hl 0 rfl) ?_
  refine lv_iload_n C.1 C.2.1 dL_law_405 rfl (lv_at hl 3 rfl) ?_
  refine lv_iconst (v := 1) C.1 C.2.1 dL_law_406 (by decide) ?_
  refine lv_iadd C.1 C.2.1 dL_law_407 ?_
  refine va_sld C.1 C.2.1 hX hbl hbA hC.2.2.2.1 v1 dL_law_408 ?_
  refine lv_aload_n C.1 C.2.1 dL_law_409 rfl (lv_at hl 0 rfl) ?_
  refine lv_iload_n C.1 C.2.1 dL_law_410 rfl (lv_at hl 3 rfl) ?_
  refine lv_iconst (v := 2) C.1 C.2.1 dL_law_411 (by decide) ?_
  refine lv_iadd C.1 C.2.1 dL_law_412 ?_
  refine va_sld C.1 C.2.1 hX hbl hbA hC.2.2.2.1 v2 dL_law_413 ?_
  refine lv_aload_n C.1 C.2.1 dL_law_414 rfl (lv_at hl 0 rfl) ?_
  refine lv_iload_n C.1 C.2.1 dL_law_415 rfl (lv_at hl 3 rfl) ?_
  refine lv_iconst (v := 3) C.1 C.2.1 dL_law_416 (by decide) ?_
  refine lv_iadd C.1 C.2.1 dL_law_417 ?_
  refine va_sld C.1 C.2.1 hX hbl hbA hC.2.2.2.1 v3 dL_law_418 ?_
  refine kL_i hM hC (fun i hi j hj e => hdis j hj i hi e.symm) (va_runV (As := [.int (xs (nI i + (1 : Int32)).toNatClampNeg), .int (xs (nI i + (2 : Int32)).toNatClampNeg), .int (xs (nI i + (3 : Int32)).toNatClampNeg)]) (rest := [.int r]) C (mtX11_line l D q2 cI2 H1.size (xs (nI i + (1 : Int32)).toNatClampNeg) (xs (nI i + (2 : Int32)).toNatClampNeg) (xs (nI i + (3 : Int32)).toNatClampNeg) f a _ h) (cwV 3 C.2.2.2.2 gL_law_X11_line rfl rfl rfl (by decide +kernel) ⟨Nat.le_of_ble_eq_true rfl, Nat.le_of_ble_eq_true rfl⟩) ⟨mP_blind tX_B, va_recv hM.1 hM.2.1 (ci := 11) (q0 := 0) rfl (wL_get (by decide)), fun U hU hV => ⟨rfl, hM.pre hU hV trivial⟩⟩ rfl rfl hl.1 rfl (lv_room (Nat.le_of_ble_eq_true rfl)) dL_law_419 ⟨show cells + 0 ≤ 600000 by omega, show slots + 0 ≤ 7302250 by omega⟩) (fun r2 u H1 locs1 h hM hC => ?_)
  obtain ⟨f1, a1⟩ := u
  obtain ⟨er, J⟩ := h
  try dsimp only at er J hM
  refine lv_icmp_eq (tgt := 1298) C.1 C.2.1 dL_law_422 (by decide) (fun _ => ?_) (fun ne => absurd er ne)
  · skip
    refine W.widen (k := cells + 2) (n := slots + 11) (by omega) (by omega) ?_
    exact kk q K n S1 L1 R1 f1 a1 H1 locs1 rfl ⟨hC, hM, hdis, J⟩
set_option maxRecDepth 100000 in
set_option maxHeartbeats 4000000 in
theorem law_c7 (C : CallFix p m c cL_law 4 s #[Value.ref b] wsL_law RL) (hcx : cX (lA s) s) (hX : va_X b L0 xs s s.heap) (hbl : b < s.heap.size) (hi : i + 7 ≤ L0) (hL : L0 ≤ 3584) (hw0 : LW D cI cJ cZ cP cS cI2 q q2 K n S L R f a s H locs) (hl : lv_has ls 4 [(0, .ref b), (1, .ref (q 0)), (2, .ref (q2 0)), (3, .int (nI i))]) (hcs : cells + 2 ≤ 600000 ∧ slots + 11 ≤ 7302250)
    (kk : ∀ (q1 : Nat → Nat) (K1 : Nat → Nat) (n1 : Nat) (S1 : Nat → Nat → Int32) (L1 : Nat → Int64) (R1 : Nat → Option Nat) (f1 : Nat → Int32) (a1 : Nat → Nat → Int32) (H1 : Heap) (locs1 : List Loc), q1 0 = q 0 → LW D cI cJ cZ cP cS cI2 q1 q2 K1 n1 S1 L1 R1 f1 a1 s H1 locs1 → W p l e room_1 s m #[Value.ref b] below meth c H1 locs1 (cells + 2) (slots + 11) Q (F0 m 1298 ls [])) :
    W p l e room_1 s m #[Value.ref b] below meth c H locs cells slots Q (F0 m 427 ls []) := by
  obtain ⟨hC, hM, hdis, M, I⟩ := hw0
  have hbA : ¬ lA s b := Nat.not_le.mpr hbl
  have v1 : vp_in (nI i + (1 : Int32)) L0 := by rw [show (1 : Int32) = nI 1 from rfl, nI_add]; exact vp_in_nI (by omega) (by omega)
  have v2 : vp_in (nI i + (2 : Int32)) L0 := by rw [show (2 : Int32) = nI 2 from rfl, nI_add]; exact vp_in_nI (by omega) (by omega)
  refine lv_aload_n C.1 C.2.1 dL_law_427 rfl (lv_at hl 1 rfl) ?_
  refine lv_aload_n C.1 C.2.1 dL_law_428 rfl (lv_at hl 0 rfl) ?_
  refine lv_iload_n C.1 C.2.1 dL_law_429 rfl (lv_at hl 3 rfl) ?_
  refine lv_iconst (v := 1) C.1 C.2.1 dL_law_430 (by decide) ?_
  refine lv_iadd C.1 C.2.1 dL_law_431 ?_
  refine va_sld C.1 C.2.1 hX hbl hbA hC.2.2.2.1 v1 dL_law_432 ?_
  refine lv_aload_n C.1 C.2.1 dL_law_433 rfl (lv_at hl 0 rfl) ?_
  refine lv_iload_n C.1 C.2.1 dL_law_434 rfl (lv_at hl 3 rfl) ?_
  refine lv_iconst (v := 2) C.1 C.2.1 dL_law_435 (by decide) ?_
  refine lv_iadd C.1 C.2.1 dL_law_436 ?_
  refine va_sld C.1 C.2.1 hX hbl hbA hC.2.2.2.1 v2 dL_law_437 ?_
  have hv := pr_better (L := L) I (xs (nI i + (1 : Int32)).toNatClampNeg) (xs (nI i + (2 : Int32)).toNatClampNeg)
  refine kL_i hC hM hdis (va_runV (As := [.int (xs (nI i + (1 : Int32)).toNatClampNeg), .int (xs (nI i + (2 : Int32)).toNatClampNeg)]) (rest := []) C (mtX10_better l D q cI cJ cZ cP cS K n H.size (xs (nI i + (1 : Int32)).toNatClampNeg) (xs (nI i + (2 : Int32)).toNatClampNeg) S L R _ hv) (cwV 2 C.2.2.2.2 gL_law_X10_better rfl rfl rfl (by decide +kernel) ⟨Nat.le_of_ble_eq_true rfl, Nat.le_of_ble_eq_true rfl⟩) ⟨mP_blind cX_B, va_recv hC.1 hC.2.1 (ci := 10) (q0 := 0) rfl (wL_get (by omega)), fun U hU hV => ⟨rfl, hC.pre hU hV (hcx.call hC hU hV)⟩⟩ rfl rfl hl.1 rfl (lv_room (Nat.le_of_ble_eq_true rfl)) dL_law_438 ⟨show cells + 0 ≤ 600000 by omega, show slots + 0 ≤ 7302250 by omega⟩) (fun r u H1 locs1 h hC hM => ?_)
  obtain ⟨S1, L1, R1⟩ := u
  try dsimp only at h hC
  refine lv_aload_n C.1 C.2.1 dL_law_441 rfl (lv_at hl 2 rfl) ?_
  refine lv_aload_n C.1 C.2.1 dL_law_442 rfl (lv_at hl 0 rfl) ?_
  refine lv_iload_n C.1 C.2.1 dL_law_443 rfl (lv_at hl 3 rfl) ?_
  refine lv_iconst (v := 1) C.1 C.2.1 dL_law_444 (by decide) ?_
  refine lv_iadd C.1 C.2.1 dL_law_445 ?_
  refine va_sld C.1 C.2.1 hX hbl hbA hC.2.2.2.1 v1 dL_law_446 ?_
  refine lv_aload_n C.1 C.2.1 dL_law_447 rfl (lv_at hl 0 rfl) ?_
  refine lv_iload_n C.1 C.2.1 dL_law_448 rfl (lv_at hl 3 rfl) ?_
  refine lv_iconst (v := 2) C.1 C.2.1 dL_law_449 (by decide) ?_
  refine lv_iadd C.1 C.2.1 dL_law_450 ?_
  refine va_sld C.1 C.2.1 hX hbl hbA hC.2.2.2.1 v2 dL_law_451 ?_
  refine kL_i hM hC (fun i hi j hj e => hdis j hj i hi e.symm) (va_runV (As := [.int (xs (nI i + (1 : Int32)).toNatClampNeg), .int (xs (nI i + (2 : Int32)).toNatClampNeg)]) (rest := [.int r]) C (mtX11_better l D q2 cI2 H1.size (xs (nI i + (1 : Int32)).toNatClampNeg) (xs (nI i + (2 : Int32)).toNatClampNeg) f a _ h) (cwV 2 C.2.2.2.2 gL_law_X11_better rfl rfl rfl (by decide +kernel) ⟨Nat.le_of_ble_eq_true rfl, Nat.le_of_ble_eq_true rfl⟩) ⟨mP_blind tX_B, va_recv hM.1 hM.2.1 (ci := 11) (q0 := 0) rfl (wL_get (by decide)), fun U hU hV => ⟨rfl, hM.pre hU hV trivial⟩⟩ rfl rfl hl.1 rfl (lv_room (Nat.le_of_ble_eq_true rfl)) dL_law_452 ⟨show cells + 0 ≤ 600000 by omega, show slots + 0 ≤ 7302250 by omega⟩) (fun r2 u H1 locs1 h hM hC => ?_)
  obtain ⟨f1, a1⟩ := u
  obtain ⟨er, J⟩ := h
  try dsimp only at er J hM
  refine lv_icmp_eq (tgt := 1298) C.1 C.2.1 dL_law_455 (by decide) (fun _ => ?_) (fun ne => absurd er ne)
  · skip
    refine W.widen (k := cells + 2) (n := slots + 11) (by omega) (by omega) ?_
    exact kk q K n S1 L1 R1 f1 a1 H1 locs1 rfl ⟨hC, hM, hdis, J⟩
set_option maxRecDepth 100000 in
set_option maxHeartbeats 4000000 in
theorem law_c8 (C : CallFix p m c cL_law 4 s #[Value.ref b] wsL_law RL) (hcx : cX (lA s) s) (hX : va_X b L0 xs s s.heap) (hbl : b < s.heap.size) (hi : i + 7 ≤ L0) (hL : L0 ≤ 3584) (hw0 : LW D cI cJ cZ cP cS cI2 q q2 K n S L R f a s H locs) (hl : lv_has ls 4 [(0, .ref b), (1, .ref (q 0)), (2, .ref (q2 0)), (3, .int (nI i))]) (hcs : cells + 2 ≤ 600000 ∧ slots + 11 ≤ 7302250)
    (kk : ∀ (q1 : Nat → Nat) (K1 : Nat → Nat) (n1 : Nat) (S1 : Nat → Nat → Int32) (L1 : Nat → Int64) (R1 : Nat → Option Nat) (f1 : Nat → Int32) (a1 : Nat → Nat → Int32) (H1 : Heap) (locs1 : List Loc), q1 0 = q 0 → LW D cI cJ cZ cP cS cI2 q1 q2 K1 n1 S1 L1 R1 f1 a1 s H1 locs1 → W p l e room_1 s m #[Value.ref b] below meth c H1 locs1 (cells + 2) (slots + 11) Q (F0 m 1298 ls [])) :
    W p l e room_1 s m #[Value.ref b] below meth c H locs cells slots Q (F0 m 460 ls []) := by
  obtain ⟨hC, hM, hdis, M, I⟩ := hw0
  have hbA : ¬ lA s b := Nat.not_le.mpr hbl
  have v1 : vp_in (nI i + (1 : Int32)) L0 := by rw [show (1 : Int32) = nI 1 from rfl, nI_add]; exact vp_in_nI (by omega) (by omega)
  have v2 : vp_in (nI i + (2 : Int32)) L0 := by rw [show (2 : Int32) = nI 2 from rfl, nI_add]; exact vp_in_nI (by omega) (by omega)
  have v3 : vp_in (nI i + (3 : Int32)) L0 := by rw [show (3 : Int32) = nI 3 from rfl, nI_add]; exact vp_in_nI (by omega) (by omega)
  refine lv_aload_n C.1 C.2.1 dL_law_460 rfl (lv_at hl 1 rfl) ?_
  refine lv_aload_n C.1 C.2.1 dL_law_461 rfl (lv_at hl 0 rfl) ?_
  refine lv_iload_n C.1 C.2.1 dL_law_462 rfl (lv_at hl 3 rfl) ?_
  refine lv_iconst (v := 1) C.1 C.2.1 dL_law_463 (by decide) ?_
  refine lv_iadd C.1 C.2.1 dL_law_464 ?_
  refine va_sld C.1 C.2.1 hX hbl hbA hC.2.2.2.1 v1 dL_law_465 ?_
  refine lv_aload_n C.1 C.2.1 dL_law_466 rfl (lv_at hl 0 rfl) ?_
  refine lv_iload_n C.1 C.2.1 dL_law_467 rfl (lv_at hl 3 rfl) ?_
  refine lv_iconst (v := 2) C.1 C.2.1 dL_law_468 (by decide) ?_
  refine lv_iadd C.1 C.2.1 dL_law_469 ?_
  refine va_sld C.1 C.2.1 hX hbl hbA hC.2.2.2.1 v2 dL_law_470 ?_
  refine lv_aload_n C.1 C.2.1 dL_law_471 rfl (lv_at hl 0 rfl) ?_
  refine lv_iload_n C.1 C.2.1 dL_law_472 rfl (lv_at hl 3 rfl) ?_
  refine lv_iconst (v := 3) C.1 C.2.1 dL_law_473 (by decide) ?_
  refine lv_iadd C.1 C.2.1 dL_law_474 ?_
  refine va_sld C.1 C.2.1 hX hbl hbA hC.2.2.2.1 v3 dL_law_475 ?_
  have hv := pr_off (L := L) I (xs (nI i + (1 : Int32)).toNatClampNeg) (xs (nI i + (2 : Int32)).toNatClampNeg) (xs (nI i + (3 : Int32)).toNatClampNeg)
  refine kL_l hC hM hdis (va_runV (As := [.int (xs (nI i + (1 : Int32)).toNatClampNeg), .int (xs (nI i + (2 : Int32)).toNatClampNeg), .int (xs (nI i + (3 : Int32)).toNatClampNeg)]) (rest := []) C (mtX10_off l D q cI cJ cZ cP cS K n H.size (xs (nI i + (1 : Int32)).toNatClampNeg) (xs (nI i + (2 : Int32)).toNatClampNeg) (xs (nI i + (3 : Int32)).toNatClampNeg) S L R _ hv) (cwV 3 C.2.2.2.2 gL_law_X10_off rfl rfl rfl (by decide +kernel) ⟨Nat.le_of_ble_eq_true rfl, Nat.le_of_ble_eq_true rfl⟩) ⟨mP_blind cX_B, va_recv hC.1 hC.2.1 (ci := 10) (q0 := 0) rfl (wL_get (by omega)), fun U hU hV => ⟨rfl, hC.pre hU hV (hcx.call hC hU hV)⟩⟩ rfl rfl hl.1 rfl (lv_room (Nat.le_of_ble_eq_true rfl)) dL_law_476 ⟨show cells + 0 ≤ 600000 by omega, show slots + 0 ≤ 7302250 by omega⟩) (fun r u H1 locs1 h hC hM => ?_)
  obtain ⟨S1, L1, R1⟩ := u
  try dsimp only at h hC
  refine lv_aload_n C.1 C.2.1 dL_law_479 rfl (lv_at hl 2 rfl) ?_
  refine lv_aload_n C.1 C.2.1 dL_law_480 rfl (lv_at hl 0 rfl) ?_
  refine lv_iload_n C.1 C.2.1 dL_law_481 rfl (lv_at hl 3 rfl) ?_
  refine lv_iconst (v := 1) C.1 C.2.1 dL_law_482 (by decide) ?_
  refine lv_iadd C.1 C.2.1 dL_law_483 ?_
  refine va_sld C.1 C.2.1 hX hbl hbA hC.2.2.2.1 v1 dL_law_484 ?_
  refine lv_aload_n C.1 C.2.1 dL_law_485 rfl (lv_at hl 0 rfl) ?_
  refine lv_iload_n C.1 C.2.1 dL_law_486 rfl (lv_at hl 3 rfl) ?_
  refine lv_iconst (v := 2) C.1 C.2.1 dL_law_487 (by decide) ?_
  refine lv_iadd C.1 C.2.1 dL_law_488 ?_
  refine va_sld C.1 C.2.1 hX hbl hbA hC.2.2.2.1 v2 dL_law_489 ?_
  refine lv_aload_n C.1 C.2.1 dL_law_490 rfl (lv_at hl 0 rfl) ?_
  refine lv_iload_n C.1 C.2.1 dL_law_491 rfl (lv_at hl 3 rfl) ?_
  refine lv_iconst (v := 3) C.1 C.2.1 dL_law_492 (by decide) ?_
  refine lv_iadd C.1 C.2.1 dL_law_493 ?_
  refine va_sld C.1 C.2.1 hX hbl hbA hC.2.2.2.1 v3 dL_law_494 ?_
  refine kL_l hM hC (fun i hi j hj e => hdis j hj i hi e.symm) (va_runV (As := [.int (xs (nI i + (1 : Int32)).toNatClampNeg), .int (xs (nI i + (2 : Int32)).toNatClampNeg), .int (xs (nI i + (3 : Int32)).toNatClampNeg)]) (rest := [.long r]) C (mtX11_off l D q2 cI2 H1.size (xs (nI i + (1 : Int32)).toNatClampNeg) (xs (nI i + (2 : Int32)).toNatClampNeg) (xs (nI i + (3 : Int32)).toNatClampNeg) f a _ h) (cwV 3 C.2.2.2.2 gL_law_X11_off rfl rfl rfl (by decide +kernel) ⟨Nat.le_of_ble_eq_true rfl, Nat.le_of_ble_eq_true rfl⟩) ⟨mP_blind tX_B, va_recv hM.1 hM.2.1 (ci := 11) (q0 := 0) rfl (wL_get (by decide)), fun U hU hV => ⟨rfl, hM.pre hU hV trivial⟩⟩ rfl rfl hl.1 rfl (lv_room (Nat.le_of_ble_eq_true rfl)) dL_law_495 ⟨show cells + 0 ≤ 600000 by omega, show slots + 0 ≤ 7302250 by omega⟩) (fun r2 u H1 locs1 h hM hC => ?_)
  obtain ⟨f1, a1⟩ := u
  obtain ⟨er, J⟩ := h
  try dsimp only at er J hM
  refine W.lcmp C.1 C.2.1 dL_law_498 ?_
  refine lv_if_eq (tgt := 1298) C.1 C.2.1 dL_law_499 (by decide) (fun _ => ?_) (fun ne => absurd (lc_eq.mpr er) ne)
  · skip
    refine W.widen (k := cells + 2) (n := slots + 11) (by omega) (by omega) ?_
    exact kk q K n S1 L1 R1 f1 a1 H1 locs1 rfl ⟨hC, hM, hdis, J⟩
set_option maxRecDepth 100000 in
set_option maxHeartbeats 4000000 in
theorem law_c9 (C : CallFix p m c cL_law 4 s #[Value.ref b] wsL_law RL) (hcx : cX (lA s) s) (hX : va_X b L0 xs s s.heap) (hbl : b < s.heap.size) (hi : i + 7 ≤ L0) (hL : L0 ≤ 3584) (hw0 : LW D cI cJ cZ cP cS cI2 q q2 K n S L R f a s H locs) (hl : lv_has ls 4 [(0, .ref b), (1, .ref (q 0)), (2, .ref (q2 0)), (3, .int (nI i))]) (hcs : cells + 2 ≤ 600000 ∧ slots + 11 ≤ 7302250)
    (kk : ∀ (q1 : Nat → Nat) (K1 : Nat → Nat) (n1 : Nat) (S1 : Nat → Nat → Int32) (L1 : Nat → Int64) (R1 : Nat → Option Nat) (f1 : Nat → Int32) (a1 : Nat → Nat → Int32) (H1 : Heap) (locs1 : List Loc), q1 0 = q 0 → LW D cI cJ cZ cP cS cI2 q1 q2 K1 n1 S1 L1 R1 f1 a1 s H1 locs1 → W p l e room_1 s m #[Value.ref b] below meth c H1 locs1 (cells + 2) (slots + 11) Q (F0 m 1298 ls [])) :
    W p l e room_1 s m #[Value.ref b] below meth c H locs cells slots Q (F0 m 504 ls []) := by
  obtain ⟨hC, hM, hdis, M, I⟩ := hw0
  have hbA : ¬ lA s b := Nat.not_le.mpr hbl
  have v1 : vp_in (nI i + (1 : Int32)) L0 := by rw [show (1 : Int32) = nI 1 from rfl, nI_add]; exact vp_in_nI (by omega) (by omega)
  have v2 : vp_in (nI i + (2 : Int32)) L0 := by rw [show (2 : Int32) = nI 2 from rfl, nI_add]; exact vp_in_nI (by omega) (by omega)
  have v3 : vp_in (nI i + (3 : Int32)) L0 := by rw [show (3 : Int32) = nI 3 from rfl, nI_add]; exact vp_in_nI (by omega) (by omega)
  refine lv_aload_n C.1 C.2.1 dL_law_504 rfl (lv_at hl 1 rfl) ?_
  refine lv_aload_n C.1 C.2.1 dL_law_505 rfl (lv_at hl 0 rfl) ?_
  refine lv_iload_n C.1 C.2.1 dL_law_506 rfl (lv_at hl 3 rfl) ?_
  refine lv_iconst (v := 1) C.1 C.2.1 dL_law_507 (by decide) ?_
  refine lv_iadd C.1 C.2.1 dL_law_508 ?_
  refine va_sld C.1 C.2.1 hX hbl hbA hC.2.2.2.1 v1 dL_law_509 ?_
  refine lv_aload_n C.1 C.2.1 dL_law_510 rfl (lv_at hl 0 rfl) ?_
  refine lv_iload_n C.1 C.2.1 dL_law_511 rfl (lv_at hl 3 rfl) ?_
  refine lv_iconst (v := 2) C.1 C.2.1 dL_law_512 (by decide) ?_
  refine lv_iadd C.1 C.2.1 dL_law_513 ?_
  refine va_sld C.1 C.2.1 hX hbl hbA hC.2.2.2.1 v2 dL_law_514 ?_
  refine lv_aload_n C.1 C.2.1 dL_law_515 rfl (lv_at hl 0 rfl) ?_
  refine lv_iload_n C.1 C.2.1 dL_law_516 rfl (lv_at hl 3 rfl) ?_
  refine lv_iconst (v := 3) C.1 C.2.1 dL_law_517 (by decide) ?_
  refine lv_iadd C.1 C.2.1 dL_law_518 ?_
  refine va_sld C.1 C.2.1 hX hbl hbA hC.2.2.2.1 v3 dL_law_519 ?_
  have hv := pr_years (L := L) I (xs (nI i + (1 : Int32)).toNatClampNeg) (xs (nI i + (2 : Int32)).toNatClampNeg) (xs (nI i + (3 : Int32)).toNatClampNeg)
  refine kL_i hC hM hdis (va_runV (As := [.int (xs (nI i + (1 : Int32)).toNatClampNeg), .int (xs (nI i + (2 : Int32)).toNatClampNeg), .int (xs (nI i + (3 : Int32)).toNatClampNeg)]) (rest := []) C (mtX10_years l D q cI cJ cZ cP cS K n H.size (xs (nI i + (1 : Int32)).toNatClampNeg) (xs (nI i + (2 : Int32)).toNatClampNeg) (xs (nI i + (3 : Int32)).toNatClampNeg) S L R _ hv) (cwV 3 C.2.2.2.2 gL_law_X10_years rfl rfl rfl (by decide +kernel) ⟨Nat.le_of_ble_eq_true rfl, Nat.le_of_ble_eq_true rfl⟩) ⟨mP_blind cX_B, va_recv hC.1 hC.2.1 (ci := 10) (q0 := 0) rfl (wL_get (by omega)), fun U hU hV => ⟨rfl, hC.pre hU hV (hcx.call hC hU hV)⟩⟩ rfl rfl hl.1 rfl (lv_room (Nat.le_of_ble_eq_true rfl)) dL_law_520 ⟨show cells + 0 ≤ 600000 by omega, show slots + 0 ≤ 7302250 by omega⟩) (fun r u H1 locs1 h hC hM => ?_)
  obtain ⟨S1, L1, R1⟩ := u
  try dsimp only at h hC
  refine lv_aload_n C.1 C.2.1 dL_law_523 rfl (lv_at hl 2 rfl) ?_
  refine lv_aload_n C.1 C.2.1 dL_law_524 rfl (lv_at hl 0 rfl) ?_
  refine lv_iload_n C.1 C.2.1 dL_law_525 rfl (lv_at hl 3 rfl) ?_
  refine lv_iconst (v := 1) C.1 C.2.1 dL_law_526 (by decide) ?_
  refine lv_iadd C.1 C.2.1 dL_law_527 ?_
  refine va_sld C.1 C.2.1 hX hbl hbA hC.2.2.2.1 v1 dL_law_528 ?_
  refine lv_aload_n C.1 C.2.1 dL_law_529 rfl (lv_at hl 0 rfl) ?_
  refine lv_iload_n C.1 C.2.1 dL_law_530 rfl (lv_at hl 3 rfl) ?_
  refine lv_iconst (v := 2) C.1 C.2.1 dL_law_531 (by decide) ?_
  refine lv_iadd C.1 C.2.1 dL_law_532 ?_
  refine va_sld C.1 C.2.1 hX hbl hbA hC.2.2.2.1 v2 dL_law_533 ?_
  refine lv_aload_n C.1 C.2.1 dL_law_534 rfl (lv_at hl 0 rfl) ?_
  refine lv_iload_n C.1 C.2.1 dL_law_535 rfl (lv_at hl 3 rfl) ?_
  refine lv_iconst (v := 3) C.1 C.2.1 dL_law_536 (by decide) ?_
  refine lv_iadd C.1 C.2.1 dL_law_537 ?_
  refine va_sld C.1 C.2.1 hX hbl hbA hC.2.2.2.1 v3 dL_law_538 ?_
  refine kL_i hM hC (fun i hi j hj e => hdis j hj i hi e.symm) (va_runV (As := [.int (xs (nI i + (1 : Int32)).toNatClampNeg), .int (xs (nI i + (2 : Int32)).toNatClampNeg), .int (xs (nI i + (3 : Int32)).toNatClampNeg)]) (rest := [.int r]) C (mtX11_years l D q2 cI2 H1.size (xs (nI i + (1 : Int32)).toNatClampNeg) (xs (nI i + (2 : Int32)).toNatClampNeg) (xs (nI i + (3 : Int32)).toNatClampNeg) f a _ h) (cwV 3 C.2.2.2.2 gL_law_X11_years rfl rfl rfl (by decide +kernel) ⟨Nat.le_of_ble_eq_true rfl, Nat.le_of_ble_eq_true rfl⟩) ⟨mP_blind tX_B, va_recv hM.1 hM.2.1 (ci := 11) (q0 := 0) rfl (wL_get (by decide)), fun U hU hV => ⟨rfl, hM.pre hU hV trivial⟩⟩ rfl rfl hl.1 rfl (lv_room (Nat.le_of_ble_eq_true rfl)) dL_law_539 ⟨show cells + 0 ≤ 600000 by omega, show slots + 0 ≤ 7302250 by omega⟩) (fun r2 u H1 locs1 h hM hC => ?_)
  obtain ⟨f1, a1⟩ := u
  obtain ⟨er, J⟩ := h
  try dsimp only at er J hM
  refine lv_icmp_eq (tgt := 1298) C.1 C.2.1 dL_law_542 (by decide) (fun _ => ?_) (fun ne => absurd er ne)
  · skip
    refine W.widen (k := cells + 2) (n := slots + 11) (by omega) (by omega) ?_
    exact kk q K n S1 L1 R1 f1 a1 H1 locs1 rfl ⟨hC, hM, hdis, J⟩
end LC
