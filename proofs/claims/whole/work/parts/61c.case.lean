section LC
variable {p : Program} {l : Launch} {e : Env} {s : State} {m : MethodId} {below : List Frame} {meth : Method} {c : Code} {b L0 i : Nat} {xs : Nat → Int32} {D : va_G} {cI cJ cZ cP cS cI2 : ClassId} {q q2 : Nat → Nat} {K : Nat → Nat} {n : Nat} {S : Nat → Nat → Int32} {L : Nat → Int64} {R : Nat → Option Nat} {f : Nat → Int32} {a : Nat → Nat → Int32} {H : Heap} {locs : List Loc} {ls : Array Slot} {cells slots : Nat} {Q : State → Prop}
set_option maxRecDepth 100000 in
set_option maxHeartbeats 4000000 in
theorem law_c10 (C : CallFix p m c cL_law 4 s #[Value.ref b] wsL_law RL) (hcx : cX (lA s) s) (hX : va_X b L0 xs s s.heap) (hbl : b < s.heap.size) (hi : i + 7 ≤ L0) (hL : L0 ≤ 3584) (hw0 : LW D cI cJ cZ cP cS cI2 q q2 K n S L R f a s H locs) (hl : lv_has ls 4 [(0, .ref b), (1, .ref (q 0)), (2, .ref (q2 0)), (3, .int (nI i))]) (hcs : cells + 2 ≤ 600000 ∧ slots + 11 ≤ 7302250)
    (kk : ∀ (q1 : Nat → Nat) (K1 : Nat → Nat) (n1 : Nat) (S1 : Nat → Nat → Int32) (L1 : Nat → Int64) (R1 : Nat → Option Nat) (f1 : Nat → Int32) (a1 : Nat → Nat → Int32) (H1 : Heap) (locs1 : List Loc), q1 0 = q 0 → LW D cI cJ cZ cP cS cI2 q1 q2 K1 n1 S1 L1 R1 f1 a1 s H1 locs1 → W p l e room_1 s m #[Value.ref b] below meth c H1 locs1 (cells + 2) (slots + 11) Q (F0 m 1298 ls [])) :
    W p l e room_1 s m #[Value.ref b] below meth c H locs cells slots Q (F0 m 547 ls []) := by
  obtain ⟨hC, hM, hdis, M, I⟩ := hw0
  have hbA : ¬ lA s b := Nat.not_le.mpr hbl
  have v1 : vp_in (nI i + (1 : Int32)) L0 := by rw [show (1 : Int32) = nI 1 from rfl, nI_add]; exact vp_in_nI (by omega) (by omega)
  have v2 : vp_in (nI i + (2 : Int32)) L0 := by rw [show (2 : Int32) = nI 2 from rfl, nI_add]; exact vp_in_nI (by omega) (by omega)
  have v3 : vp_in (nI i + (3 : Int32)) L0 := by rw [show (3 : Int32) = nI 3 from rfl, nI_add]; exact vp_in_nI (by omega) (by omega)
  have v4 : vp_in (nI i + (4 : Int32)) L0 := by rw [show (4 : Int32) = nI 4 from rfl, nI_add]; exact vp_in_nI (by omega) (by omega)
  have v5 : vp_in (nI i + (5 : Int32)) L0 := by rw [show (5 : Int32) = nI 5 from rfl, nI_add]; exact vp_in_nI (by omega) (by omega)
  refine lv_aload_n C.1 C.2.1 dL_law_547 rfl (lv_at hl 1 rfl) ?_
  refine lv_aload_n C.1 C.2.1 dL_law_548 rfl (lv_at hl 0 rfl) ?_
  refine lv_iload_n C.1 C.2.1 dL_law_549 rfl (lv_at hl 3 rfl) ?_
  refine lv_iconst (v := 1) C.1 C.2.1 dL_law_550 (by decide) ?_
  refine lv_iadd C.1 C.2.1 dL_law_551 ?_
  refine va_sld C.1 C.2.1 hX hbl hbA hC.2.2.2.1 v1 dL_law_552 ?_
  refine lv_aload_n C.1 C.2.1 dL_law_553 rfl (lv_at hl 0 rfl) ?_
  refine lv_iload_n C.1 C.2.1 dL_law_554 rfl (lv_at hl 3 rfl) ?_
  refine lv_iconst (v := 2) C.1 C.2.1 dL_law_555 (by decide) ?_
  refine lv_iadd C.1 C.2.1 dL_law_556 ?_
  refine va_sld C.1 C.2.1 hX hbl hbA hC.2.2.2.1 v2 dL_law_557 ?_
  refine lv_aload_n C.1 C.2.1 dL_law_558 rfl (lv_at hl 0 rfl) ?_
  refine lv_iload_n C.1 C.2.1 dL_law_559 rfl (lv_at hl 3 rfl) ?_
  refine lv_iconst (v := 3) C.1 C.2.1 dL_law_560 (by decide) ?_
  refine lv_iadd C.1 C.2.1 dL_law_561 ?_
  refine va_sld C.1 C.2.1 hX hbl hbA hC.2.2.2.1 v3 dL_law_562 ?_
  refine lv_aload_n C.1 C.2.1 dL_law_563 rfl (lv_at hl 0 rfl) ?_
  refine lv_iload_n C.1 C.2.1 dL_law_564 rfl (lv_at hl 3 rfl) ?_
  refine lv_iconst (v := 4) C.1 C.2.1 dL_law_565 (by decide) ?_
  refine lv_iadd C.1 C.2.1 dL_law_566 ?_
  refine va_sld C.1 C.2.1 hX hbl hbA hC.2.2.2.1 v4 dL_law_567 ?_
  refine lv_aload_n C.1 C.2.1 dL_law_568 rfl (lv_at hl 0 rfl) ?_
  refine lv_iload_n C.1 C.2.1 dL_law_569 rfl (lv_at hl 3 rfl) ?_
  refine lv_iconst (v := 5) C.1 C.2.1 dL_law_570 (by decide) ?_
  refine lv_iadd C.1 C.2.1 dL_law_571 ?_
  refine va_sld C.1 C.2.1 hX hbl hbA hC.2.2.2.1 v5 dL_law_572 ?_
  have hv := pr_far (L := L) I (xs (nI i + (1 : Int32)).toNatClampNeg) (xs (nI i + (2 : Int32)).toNatClampNeg) (xs (nI i + (3 : Int32)).toNatClampNeg) (xs (nI i + (4 : Int32)).toNatClampNeg) (xs (nI i + (5 : Int32)).toNatClampNeg)
  refine kL_i hC hM hdis (va_runV (As := [.int (xs (nI i + (1 : Int32)).toNatClampNeg), .int (xs (nI i + (2 : Int32)).toNatClampNeg), .int (xs (nI i + (3 : Int32)).toNatClampNeg), .int (xs (nI i + (4 : Int32)).toNatClampNeg), .int (xs (nI i + (5 : Int32)).toNatClampNeg)]) (rest := []) C (mtX10_far l D q cI cJ cZ cP cS K n H.size (xs (nI i + (1 : Int32)).toNatClampNeg) (xs (nI i + (2 : Int32)).toNatClampNeg) (xs (nI i + (3 : Int32)).toNatClampNeg) (xs (nI i + (4 : Int32)).toNatClampNeg) (xs (nI i + (5 : Int32)).toNatClampNeg) S L R _ hv) (cwV 5 C.2.2.2.2 gL_law_X10_far rfl rfl rfl (by decide +kernel) ⟨Nat.le_of_ble_eq_true rfl, Nat.le_of_ble_eq_true rfl⟩) ⟨mP_blind cX_B, va_recv hC.1 hC.2.1 (ci := 10) (q0 := 0) rfl (wL_get (by omega)), fun U hU hV => ⟨rfl, hC.pre hU hV (hcx.call hC hU hV)⟩⟩ rfl rfl hl.1 rfl (lv_room (Nat.le_of_ble_eq_true rfl)) dL_law_573 ⟨show cells + 0 ≤ 600000 by omega, show slots + 0 ≤ 7302250 by omega⟩) (fun r u H1 locs1 h hC hM => ?_)
  obtain ⟨S1, L1, R1⟩ := u
  try dsimp only at h hC
  refine lv_aload_n C.1 C.2.1 dL_law_576 rfl (lv_at hl 2 rfl) ?_
  refine lv_aload_n C.1 C.2.1 dL_law_577 rfl (lv_at hl 0 rfl) ?_
  refine lv_iload_n C.1 C.2.1 dL_law_578 rfl (lv_at hl 3 rfl) ?_
  refine lv_iconst (v := 1) C.1 C.2.1 dL_law_579 (by decide) ?_
  refine lv_iadd C.1 C.2.1 dL_law_580 ?_
  refine va_sld C.1 C.2.1 hX hbl hbA hC.2.2.2.1 v1 dL_law_581 ?_
  refine lv_aload_n C.1 C.2.1 dL_law_582 rfl (lv_at hl 0 rfl) ?_
  refine lv_iload_n C.1 C.2.1 dL_law_583 rfl (lv_at hl 3 rfl) ?_
  refine lv_iconst (v := 2) C.1 C.2.1 dL_law_584 (by decide) ?_
  refine lv_iadd C.1 C.2.1 dL_law_585 ?_
  refine va_sld C.1 C.2.1 hX hbl hbA hC.2.2.2.1 v2 dL_law_586 ?_
  refine lv_aload_n C.1 C.2.1 dL_law_587 rfl (lv_at hl 0 rfl) ?_
  refine lv_iload_n C.1 C.2.1 dL_law_588 rfl (lv_at hl 3 rfl) ?_
  refine lv_iconst (v := 3) C.1 C.2.1 dL_law_589 (by decide) ?_
  refine lv_iadd C.1 C.2.1 dL_law_590 ?_
  refine va_sld C.1 C.2.1 hX hbl hbA hC.2.2.2.1 v3 dL_law_591 ?_
  refine lv_aload_n C.1 C.2.1 dL_law_592 rfl (lv_at hl 0 rfl) ?_
  refine lv_iload_n C.1 C.2.1 dL_law_593 rfl (lv_at hl 3 rfl) ?_
  refine lv_iconst (v := 4) C.1 C.2.1 dL_law_594 (by decide) ?_
  refine lv_iadd C.1 C.2.1 dL_law_595 ?_
  refine va_sld C.1 C.2.1 hX hbl hbA hC.2.2.2.1 v4 dL_law_596 ?_
  refine lv_aload_n C.1 C.2.1 dL_law_597 rfl (lv_at hl 0 rfl) ?_
  refine lv_iload_n C.1 C.2.1 dL_law_598 rfl (lv_at hl 3 rfl) ?_
  refine lv_iconst (v := 5) C.1 C.2.1 dL_law_599 (by decide) ?_
  refine lv_iadd C.1 C.2.1 dL_law_600 ?_
  refine va_sld C.1 C.2.1 hX hbl hbA hC.2.2.2.1 v5 dL_law_601 ?_
  refine kL_i hM hC (fun i hi j hj e => hdis j hj i hi e.symm) (va_runV (As := [.int (xs (nI i + (1 : Int32)).toNatClampNeg), .int (xs (nI i + (2 : Int32)).toNatClampNeg), .int (xs (nI i + (3 : Int32)).toNatClampNeg), .int (xs (nI i + (4 : Int32)).toNatClampNeg), .int (xs (nI i + (5 : Int32)).toNatClampNeg)]) (rest := [.int r]) C (mtX11_far l D q2 cI2 H1.size (xs (nI i + (1 : Int32)).toNatClampNeg) (xs (nI i + (2 : Int32)).toNatClampNeg) (xs (nI i + (3 : Int32)).toNatClampNeg) (xs (nI i + (4 : Int32)).toNatClampNeg) (xs (nI i + (5 : Int32)).toNatClampNeg) f a _ h) (cwV 5 C.2.2.2.2 gL_law_X11_far rfl rfl rfl (by decide +kernel) ⟨Nat.le_of_ble_eq_true rfl, Nat.le_of_ble_eq_true rfl⟩) ⟨mP_blind tX_B, va_recv hM.1 hM.2.1 (ci := 11) (q0 := 0) rfl (wL_get (by decide)), fun U hU hV => ⟨rfl, hM.pre hU hV trivial⟩⟩ rfl rfl hl.1 rfl (lv_room (Nat.le_of_ble_eq_true rfl)) dL_law_602 ⟨show cells + 0 ≤ 600000 by omega, show slots + 0 ≤ 7302250 by omega⟩) (fun r2 u H1 locs1 h hM hC => ?_)
  obtain ⟨f1, a1⟩ := u
  obtain ⟨er, J⟩ := h
  try dsimp only at er J hM
  refine lv_icmp_eq (tgt := 1298) C.1 C.2.1 dL_law_605 (by decide) (fun _ => ?_) (fun ne => absurd er ne)
  · skip
    refine W.widen (k := cells + 2) (n := slots + 11) (by omega) (by omega) ?_
    exact kk q K n S1 L1 R1 f1 a1 H1 locs1 rfl ⟨hC, hM, hdis, J⟩
set_option maxRecDepth 100000 in
set_option maxHeartbeats 4000000 in
theorem law_c11 (C : CallFix p m c cL_law 4 s #[Value.ref b] wsL_law RL) (hcx : cX (lA s) s) (hX : va_X b L0 xs s s.heap) (hbl : b < s.heap.size) (hi : i + 7 ≤ L0) (hL : L0 ≤ 3584) (hw0 : LW D cI cJ cZ cP cS cI2 q q2 K n S L R f a s H locs) (hl : lv_has ls 4 [(0, .ref b), (1, .ref (q 0)), (2, .ref (q2 0)), (3, .int (nI i))]) (hcs : cells + 2 ≤ 600000 ∧ slots + 11 ≤ 7302250)
    (kk : ∀ (q1 : Nat → Nat) (K1 : Nat → Nat) (n1 : Nat) (S1 : Nat → Nat → Int32) (L1 : Nat → Int64) (R1 : Nat → Option Nat) (f1 : Nat → Int32) (a1 : Nat → Nat → Int32) (H1 : Heap) (locs1 : List Loc), q1 0 = q 0 → LW D cI cJ cZ cP cS cI2 q1 q2 K1 n1 S1 L1 R1 f1 a1 s H1 locs1 → W p l e room_1 s m #[Value.ref b] below meth c H1 locs1 (cells + 2) (slots + 11) Q (F0 m 1298 ls [])) :
    W p l e room_1 s m #[Value.ref b] below meth c H locs cells slots Q (F0 m 610 ls []) := by
  obtain ⟨hC, hM, hdis, M, I⟩ := hw0
  have hbA : ¬ lA s b := Nat.not_le.mpr hbl
  have v1 : vp_in (nI i + (1 : Int32)) L0 := by rw [show (1 : Int32) = nI 1 from rfl, nI_add]; exact vp_in_nI (by omega) (by omega)
  have v2 : vp_in (nI i + (2 : Int32)) L0 := by rw [show (2 : Int32) = nI 2 from rfl, nI_add]; exact vp_in_nI (by omega) (by omega)
  have v3 : vp_in (nI i + (3 : Int32)) L0 := by rw [show (3 : Int32) = nI 3 from rfl, nI_add]; exact vp_in_nI (by omega) (by omega)
  have v4 : vp_in (nI i + (4 : Int32)) L0 := by rw [show (4 : Int32) = nI 4 from rfl, nI_add]; exact vp_in_nI (by omega) (by omega)
  have v5 : vp_in (nI i + (5 : Int32)) L0 := by rw [show (5 : Int32) = nI 5 from rfl, nI_add]; exact vp_in_nI (by omega) (by omega)
  have v6 : vp_in (nI i + (6 : Int32)) L0 := by rw [show (6 : Int32) = nI 6 from rfl, nI_add]; exact vp_in_nI (by omega) (by omega)
  refine lv_aload_n C.1 C.2.1 dL_law_610 rfl (lv_at hl 1 rfl) ?_
  refine lv_aload_n C.1 C.2.1 dL_law_611 rfl (lv_at hl 0 rfl) ?_
  refine lv_iload_n C.1 C.2.1 dL_law_612 rfl (lv_at hl 3 rfl) ?_
  refine lv_iconst (v := 1) C.1 C.2.1 dL_law_613 (by decide) ?_
  refine lv_iadd C.1 C.2.1 dL_law_614 ?_
  refine va_sld C.1 C.2.1 hX hbl hbA hC.2.2.2.1 v1 dL_law_615 ?_
  refine lv_aload_n C.1 C.2.1 dL_law_616 rfl (lv_at hl 0 rfl) ?_
  refine lv_iload_n C.1 C.2.1 dL_law_617 rfl (lv_at hl 3 rfl) ?_
  refine lv_iconst (v := 2) C.1 C.2.1 dL_law_618 (by decide) ?_
  refine lv_iadd C.1 C.2.1 dL_law_619 ?_
  refine va_sld C.1 C.2.1 hX hbl hbA hC.2.2.2.1 v2 dL_law_620 ?_
  refine lv_aload_n C.1 C.2.1 dL_law_621 rfl (lv_at hl 0 rfl) ?_
  refine lv_iload_n C.1 C.2.1 dL_law_622 rfl (lv_at hl 3 rfl) ?_
  refine lv_iconst (v := 3) C.1 C.2.1 dL_law_623 (by decide) ?_
  refine lv_iadd C.1 C.2.1 dL_law_624 ?_
  refine va_sld C.1 C.2.1 hX hbl hbA hC.2.2.2.1 v3 dL_law_625 ?_
  refine lv_aload_n C.1 C.2.1 dL_law_626 rfl (lv_at hl 0 rfl) ?_
  refine lv_iload_n C.1 C.2.1 dL_law_627 rfl (lv_at hl 3 rfl) ?_
  refine lv_iconst (v := 4) C.1 C.2.1 dL_law_628 (by decide) ?_
  refine lv_iadd C.1 C.2.1 dL_law_629 ?_
  refine va_sld C.1 C.2.1 hX hbl hbA hC.2.2.2.1 v4 dL_law_630 ?_
  refine lv_aload_n C.1 C.2.1 dL_law_631 rfl (lv_at hl 0 rfl) ?_
  refine lv_iload_n C.1 C.2.1 dL_law_632 rfl (lv_at hl 3 rfl) ?_
  refine lv_iconst (v := 5) C.1 C.2.1 dL_law_633 (by decide) ?_
  refine lv_iadd C.1 C.2.1 dL_law_634 ?_
  refine va_sld C.1 C.2.1 hX hbl hbA hC.2.2.2.1 v5 dL_law_635 ?_
  refine lv_aload_n C.1 C.2.1 dL_law_636 rfl (lv_at hl 0 rfl) ?_
  refine lv_iload_n C.1 C.2.1 dL_law_637 rfl (lv_at hl 3 rfl) ?_
  refine lv_bipush (v := 6) C.1 C.2.1 dL_law_638 (by decide) ?_
  refine lv_iadd C.1 C.2.1 dL_law_640 ?_
  refine va_sld C.1 C.2.1 hX hbl hbA hC.2.2.2.1 v6 dL_law_641 ?_
  have hv := pr_after (L := L) I (xs (nI i + (1 : Int32)).toNatClampNeg) (xs (nI i + (2 : Int32)).toNatClampNeg) (xs (nI i + (3 : Int32)).toNatClampNeg) (xs (nI i + (4 : Int32)).toNatClampNeg) (xs (nI i + (5 : Int32)).toNatClampNeg) (xs (nI i + (6 : Int32)).toNatClampNeg)
  refine kL_i hC hM hdis (va_runV (As := [.int (xs (nI i + (1 : Int32)).toNatClampNeg), .int (xs (nI i + (2 : Int32)).toNatClampNeg), .int (xs (nI i + (3 : Int32)).toNatClampNeg), .int (xs (nI i + (4 : Int32)).toNatClampNeg), .int (xs (nI i + (5 : Int32)).toNatClampNeg), .int (xs (nI i + (6 : Int32)).toNatClampNeg)]) (rest := []) C (mtX10_after l D q cI cJ cZ cP cS K n H.size (xs (nI i + (1 : Int32)).toNatClampNeg) (xs (nI i + (2 : Int32)).toNatClampNeg) (xs (nI i + (3 : Int32)).toNatClampNeg) (xs (nI i + (4 : Int32)).toNatClampNeg) (xs (nI i + (5 : Int32)).toNatClampNeg) (xs (nI i + (6 : Int32)).toNatClampNeg) S L R _ hv) (cwV 6 C.2.2.2.2 gL_law_X10_after rfl rfl rfl (by decide +kernel) ⟨Nat.le_of_ble_eq_true rfl, Nat.le_of_ble_eq_true rfl⟩) ⟨mP_blind cX_B, va_recv hC.1 hC.2.1 (ci := 10) (q0 := 0) rfl (wL_get (by omega)), fun U hU hV => ⟨rfl, hC.pre hU hV (hcx.call hC hU hV)⟩⟩ rfl rfl hl.1 rfl (lv_room (Nat.le_of_ble_eq_true rfl)) dL_law_642 ⟨show cells + 0 ≤ 600000 by omega, show slots + 0 ≤ 7302250 by omega⟩) (fun r u H1 locs1 h hC hM => ?_)
  obtain ⟨S1, L1, R1⟩ := u
  try dsimp only at h hC
  refine lv_aload_n C.1 C.2.1 dL_law_645 rfl (lv_at hl 2 rfl) ?_
  refine lv_aload_n C.1 C.2.1 dL_law_646 rfl (lv_at hl 0 rfl) ?_
  refine lv_iload_n C.1 C.2.1 dL_law_647 rfl (lv_at hl 3 rfl) ?_
  refine lv_iconst (v := 1) C.1 C.2.1 dL_law_648 (by decide) ?_
  refine lv_iadd C.1 C.2.1 dL_law_649 ?_
  refine va_sld C.1 C.2.1 hX hbl hbA hC.2.2.2.1 v1 dL_law_650 ?_
  refine lv_aload_n C.1 C.2.1 dL_law_651 rfl (lv_at hl 0 rfl) ?_
  refine lv_iload_n C.1 C.2.1 dL_law_652 rfl (lv_at hl 3 rfl) ?_
  refine lv_iconst (v := 2) C.1 C.2.1 dL_law_653 (by decide) ?_
  refine lv_iadd C.1 C.2.1 dL_law_654 ?_
  refine va_sld C.1 C.2.1 hX hbl hbA hC.2.2.2.1 v2 dL_law_655 ?_
  refine lv_aload_n C.1 C.2.1 dL_law_656 rfl (lv_at hl 0 rfl) ?_
  refine lv_iload_n C.1 C.2.1 dL_law_657 rfl (lv_at hl 3 rfl) ?_
  refine lv_iconst (v := 3) C.1 C.2.1 dL_law_658 (by decide) ?_
  refine lv_iadd C.1 C.2.1 dL_law_659 ?_
  refine va_sld C.1 C.2.1 hX hbl hbA hC.2.2.2.1 v3 dL_law_660 ?_
  refine lv_aload_n C.1 C.2.1 dL_law_661 rfl (lv_at hl 0 rfl) ?_
  refine lv_iload_n C.1 C.2.1 dL_law_662 rfl (lv_at hl 3 rfl) ?_
  refine lv_iconst (v := 4) C.1 C.2.1 dL_law_663 (by decide) ?_
  refine lv_iadd C.1 C.2.1 dL_law_664 ?_
  refine va_sld C.1 C.2.1 hX hbl hbA hC.2.2.2.1 v4 dL_law_665 ?_
  refine lv_aload_n C.1 C.2.1 dL_law_666 rfl (lv_at hl 0 rfl) ?_
  refine lv_iload_n C.1 C.2.1 dL_law_667 rfl (lv_at hl 3 rfl) ?_
  refine lv_iconst (v := 5) C.1 C.2.1 dL_law_668 (by decide) ?_
  refine lv_iadd C.1 C.2.1 dL_law_669 ?_
  refine va_sld C.1 C.2.1 hX hbl hbA hC.2.2.2.1 v5 dL_law_670 ?_
  refine lv_aload_n C.1 C.2.1 dL_law_671 rfl (lv_at hl 0 rfl) ?_
  refine lv_iload_n C.1 C.2.1 dL_law_672 rfl (lv_at hl 3 rfl) ?_
  refine lv_bipush (v := 6) C.1 C.2.1 dL_law_673 (by decide) ?_
  refine lv_iadd C.1 C.2.1 dL_law_675 ?_
  refine va_sld C.1 C.2.1 hX hbl hbA hC.2.2.2.1 v6 dL_law_676 ?_
  refine kL_i hM hC (fun i hi j hj e => hdis j hj i hi e.symm) (va_runV (As := [.int (xs (nI i + (1 : Int32)).toNatClampNeg), .int (xs (nI i + (2 : Int32)).toNatClampNeg), .int (xs (nI i + (3 : Int32)).toNatClampNeg), .int (xs (nI i + (4 : Int32)).toNatClampNeg), .int (xs (nI i + (5 : Int32)).toNatClampNeg), .int (xs (nI i + (6 : Int32)).toNatClampNeg)]) (rest := [.int r]) C (mtX11_after l D q2 cI2 H1.size (xs (nI i + (1 : Int32)).toNatClampNeg) (xs (nI i + (2 : Int32)).toNatClampNeg) (xs (nI i + (3 : Int32)).toNatClampNeg) (xs (nI i + (4 : Int32)).toNatClampNeg) (xs (nI i + (5 : Int32)).toNatClampNeg) (xs (nI i + (6 : Int32)).toNatClampNeg) f a _ h) (cwV 6 C.2.2.2.2 gL_law_X11_after rfl rfl rfl (by decide +kernel) ⟨Nat.le_of_ble_eq_true rfl, Nat.le_of_ble_eq_true rfl⟩) ⟨mP_blind tX_B, va_recv hM.1 hM.2.1 (ci := 11) (q0 := 0) rfl (wL_get (by decide)), fun U hU hV => ⟨rfl, hM.pre hU hV trivial⟩⟩ rfl rfl hl.1 rfl (lv_room (Nat.le_of_ble_eq_true rfl)) dL_law_677 ⟨show cells + 0 ≤ 600000 by omega, show slots + 0 ≤ 7302250 by omega⟩) (fun r2 u H1 locs1 h hM hC => ?_)
  obtain ⟨f1, a1⟩ := u
  obtain ⟨er, J⟩ := h
  try dsimp only at er J hM
  refine lv_icmp_eq (tgt := 1298) C.1 C.2.1 dL_law_680 (by decide) (fun _ => ?_) (fun ne => absurd er ne)
  · skip
    refine W.widen (k := cells + 2) (n := slots + 11) (by omega) (by omega) ?_
    exact kk q K n S1 L1 R1 f1 a1 H1 locs1 rfl ⟨hC, hM, hdis, J⟩
set_option maxRecDepth 100000 in
set_option maxHeartbeats 4000000 in
theorem law_c12 (C : CallFix p m c cL_law 4 s #[Value.ref b] wsL_law RL) (hcx : cX (lA s) s) (hX : va_X b L0 xs s s.heap) (hbl : b < s.heap.size) (hi : i + 7 ≤ L0) (hL : L0 ≤ 3584) (hw0 : LW D cI cJ cZ cP cS cI2 q q2 K n S L R f a s H locs) (hl : lv_has ls 4 [(0, .ref b), (1, .ref (q 0)), (2, .ref (q2 0)), (3, .int (nI i))]) (hcs : cells + 2 ≤ 600000 ∧ slots + 11 ≤ 7302250)
    (kk : ∀ (q1 : Nat → Nat) (K1 : Nat → Nat) (n1 : Nat) (S1 : Nat → Nat → Int32) (L1 : Nat → Int64) (R1 : Nat → Option Nat) (f1 : Nat → Int32) (a1 : Nat → Nat → Int32) (H1 : Heap) (locs1 : List Loc), q1 0 = q 0 → LW D cI cJ cZ cP cS cI2 q1 q2 K1 n1 S1 L1 R1 f1 a1 s H1 locs1 → W p l e room_1 s m #[Value.ref b] below meth c H1 locs1 (cells + 2) (slots + 11) Q (F0 m 1298 ls [])) :
    W p l e room_1 s m #[Value.ref b] below meth c H locs cells slots Q (F0 m 685 ls []) := by
  obtain ⟨hC, hM, hdis, M, I⟩ := hw0
  have hbA : ¬ lA s b := Nat.not_le.mpr hbl
  have v1 : vp_in (nI i + (1 : Int32)) L0 := by rw [show (1 : Int32) = nI 1 from rfl, nI_add]; exact vp_in_nI (by omega) (by omega)
  refine lv_aload_n C.1 C.2.1 dL_law_685 rfl (lv_at hl 1 rfl) ?_
  refine lv_aload_n C.1 C.2.1 dL_law_686 rfl (lv_at hl 0 rfl) ?_
  refine lv_iload_n C.1 C.2.1 dL_law_687 rfl (lv_at hl 3 rfl) ?_
  refine lv_iconst (v := 1) C.1 C.2.1 dL_law_688 (by decide) ?_
  refine lv_iadd C.1 C.2.1 dL_law_689 ?_
  refine va_sld C.1 C.2.1 hX hbl hbA hC.2.2.2.1 v1 dL_law_690 ?_
  have hv := pr_reach (L := L) I (xs (nI i + (1 : Int32)).toNatClampNeg)
  refine kL_i hC hM hdis (va_runV (As := [.int (xs (nI i + (1 : Int32)).toNatClampNeg)]) (rest := []) C (mtX10_reach l D q cI cJ cZ cP cS K n H.size (xs (nI i + (1 : Int32)).toNatClampNeg) S L R _ hv) (cwV 1 C.2.2.2.2 gL_law_X10_reach rfl rfl rfl (by decide +kernel) ⟨Nat.le_of_ble_eq_true rfl, Nat.le_of_ble_eq_true rfl⟩) ⟨mP_blind cX_B, va_recv hC.1 hC.2.1 (ci := 10) (q0 := 0) rfl (wL_get (by omega)), fun U hU hV => ⟨rfl, hC.pre hU hV (hcx.call hC hU hV)⟩⟩ rfl rfl hl.1 rfl (lv_room (Nat.le_of_ble_eq_true rfl)) dL_law_691 ⟨show cells + 0 ≤ 600000 by omega, show slots + 0 ≤ 7302250 by omega⟩) (fun r u H1 locs1 h hC hM => ?_)
  obtain ⟨S1, L1, R1⟩ := u
  try dsimp only at h hC
  refine lv_aload_n C.1 C.2.1 dL_law_694 rfl (lv_at hl 2 rfl) ?_
  refine lv_aload_n C.1 C.2.1 dL_law_695 rfl (lv_at hl 0 rfl) ?_
  refine lv_iload_n C.1 C.2.1 dL_law_696 rfl (lv_at hl 3 rfl) ?_
  refine lv_iconst (v := 1) C.1 C.2.1 dL_law_697 (by decide) ?_
  refine lv_iadd C.1 C.2.1 dL_law_698 ?_
  refine va_sld C.1 C.2.1 hX hbl hbA hC.2.2.2.1 v1 dL_law_699 ?_
  refine kL_i hM hC (fun i hi j hj e => hdis j hj i hi e.symm) (va_runV (As := [.int (xs (nI i + (1 : Int32)).toNatClampNeg)]) (rest := [.int r]) C (mtX11_reach l D q2 cI2 H1.size (xs (nI i + (1 : Int32)).toNatClampNeg) f a _ h) (cwV 1 C.2.2.2.2 gL_law_X11_reach rfl rfl rfl (by decide +kernel) ⟨Nat.le_of_ble_eq_true rfl, Nat.le_of_ble_eq_true rfl⟩) ⟨mP_blind tX_B, va_recv hM.1 hM.2.1 (ci := 11) (q0 := 0) rfl (wL_get (by decide)), fun U hU hV => ⟨rfl, hM.pre hU hV trivial⟩⟩ rfl rfl hl.1 rfl (lv_room (Nat.le_of_ble_eq_true rfl)) dL_law_700 ⟨show cells + 0 ≤ 600000 by omega, show slots + 0 ≤ 7302250 by omega⟩) (fun r2 u H1 locs1 h hM hC => ?_)
  obtain ⟨f1, a1⟩ := u
  obtain ⟨er, J⟩ := h
  try dsimp only at er J hM
  refine lv_icmp_eq (tgt := 1298) C.1 C.2.1 dL_law_703 (by decide) (fun _ => ?_) (fun ne => absurd er ne)
  · skip
    refine W.widen (k := cells + 2) (n := slots + 11) (by omega) (by omega) ?_
    exact kk q K n S1 L1 R1 f1 a1 H1 locs1 rfl ⟨hC, hM, hdis, J⟩
set_option maxRecDepth 100000 in
set_option maxHeartbeats 4000000 in
theorem law_c13 (C : CallFix p m c cL_law 4 s #[Value.ref b] wsL_law RL) (hcx : cX (lA s) s) (hX : va_X b L0 xs s s.heap) (hbl : b < s.heap.size) (hi : i + 7 ≤ L0) (hL : L0 ≤ 3584) (hw0 : LW D cI cJ cZ cP cS cI2 q q2 K n S L R f a s H locs) (hl : lv_has ls 4 [(0, .ref b), (1, .ref (q 0)), (2, .ref (q2 0)), (3, .int (nI i))]) (hcs : cells + 2 ≤ 600000 ∧ slots + 11 ≤ 7302250)
    (kk : ∀ (q1 : Nat → Nat) (K1 : Nat → Nat) (n1 : Nat) (S1 : Nat → Nat → Int32) (L1 : Nat → Int64) (R1 : Nat → Option Nat) (f1 : Nat → Int32) (a1 : Nat → Nat → Int32) (H1 : Heap) (locs1 : List Loc), q1 0 = q 0 → LW D cI cJ cZ cP cS cI2 q1 q2 K1 n1 S1 L1 R1 f1 a1 s H1 locs1 → W p l e room_1 s m #[Value.ref b] below meth c H1 locs1 (cells + 2) (slots + 11) Q (F0 m 1298 ls [])) :
    W p l e room_1 s m #[Value.ref b] below meth c H locs cells slots Q (F0 m 708 ls []) := by
  obtain ⟨hC, hM, hdis, M, I⟩ := hw0
  have hbA : ¬ lA s b := Nat.not_le.mpr hbl
  have v1 : vp_in (nI i + (1 : Int32)) L0 := by rw [show (1 : Int32) = nI 1 from rfl, nI_add]; exact vp_in_nI (by omega) (by omega)
  have v2 : vp_in (nI i + (2 : Int32)) L0 := by rw [show (2 : Int32) = nI 2 from rfl, nI_add]; exact vp_in_nI (by omega) (by omega)
  have v3 : vp_in (nI i + (3 : Int32)) L0 := by rw [show (3 : Int32) = nI 3 from rfl, nI_add]; exact vp_in_nI (by omega) (by omega)
  have v4 : vp_in (nI i + (4 : Int32)) L0 := by rw [show (4 : Int32) = nI 4 from rfl, nI_add]; exact vp_in_nI (by omega) (by omega)
  have v5 : vp_in (nI i + (5 : Int32)) L0 := by rw [show (5 : Int32) = nI 5 from rfl, nI_add]; exact vp_in_nI (by omega) (by omega)
  refine lv_aload_n C.1 C.2.1 dL_law_708 rfl (lv_at hl 1 rfl) ?_
  refine lv_aload_n C.1 C.2.1 dL_law_709 rfl (lv_at hl 0 rfl) ?_
  refine lv_iload_n C.1 C.2.1 dL_law_710 rfl (lv_at hl 3 rfl) ?_
  refine lv_iconst (v := 1) C.1 C.2.1 dL_law_711 (by decide) ?_
  refine lv_iadd C.1 C.2.1 dL_law_712 ?_
  refine va_sld C.1 C.2.1 hX hbl hbA hC.2.2.2.1 v1 dL_law_713 ?_
  refine lv_aload_n C.1 C.2.1 dL_law_714 rfl (lv_at hl 0 rfl) ?_
  refine lv_iload_n C.1 C.2.1 dL_law_715 rfl (lv_at hl 3 rfl) ?_
  refine lv_iconst (v := 2) C.1 C.2.1 dL_law_716 (by decide) ?_
  refine lv_iadd C.1 C.2.1 dL_law_717 ?_
  refine va_sld C.1 C.2.1 hX hbl hbA hC.2.2.2.1 v2 dL_law_718 ?_
  refine lv_aload_n C.1 C.2.1 dL_law_719 rfl (lv_at hl 0 rfl) ?_
  refine lv_iload_n C.1 C.2.1 dL_law_720 rfl (lv_at hl 3 rfl) ?_
  refine lv_iconst (v := 3) C.1 C.2.1 dL_law_721 (by decide) ?_
  refine lv_iadd C.1 C.2.1 dL_law_722 ?_
  refine va_sld C.1 C.2.1 hX hbl hbA hC.2.2.2.1 v3 dL_law_723 ?_
  refine lv_aload_n C.1 C.2.1 dL_law_724 rfl (lv_at hl 0 rfl) ?_
  refine lv_iload_n C.1 C.2.1 dL_law_725 rfl (lv_at hl 3 rfl) ?_
  refine lv_iconst (v := 4) C.1 C.2.1 dL_law_726 (by decide) ?_
  refine lv_iadd C.1 C.2.1 dL_law_727 ?_
  refine va_sld C.1 C.2.1 hX hbl hbA hC.2.2.2.1 v4 dL_law_728 ?_
  refine lv_aload_n C.1 C.2.1 dL_law_729 rfl (lv_at hl 0 rfl) ?_
  refine lv_iload_n C.1 C.2.1 dL_law_730 rfl (lv_at hl 3 rfl) ?_
  refine lv_iconst (v := 5) C.1 C.2.1 dL_law_731 (by decide) ?_
  refine lv_iadd C.1 C.2.1 dL_law_732 ?_
  refine va_sld C.1 C.2.1 hX hbl hbA hC.2.2.2.1 v5 dL_law_733 ?_
  have hv := pr_two (L := L) I (xs (nI i + (1 : Int32)).toNatClampNeg) (xs (nI i + (2 : Int32)).toNatClampNeg) (xs (nI i + (3 : Int32)).toNatClampNeg) (xs (nI i + (4 : Int32)).toNatClampNeg) (xs (nI i + (5 : Int32)).toNatClampNeg)
  refine kL_i hC hM hdis (va_runV (As := [.int (xs (nI i + (1 : Int32)).toNatClampNeg), .int (xs (nI i + (2 : Int32)).toNatClampNeg), .int (xs (nI i + (3 : Int32)).toNatClampNeg), .int (xs (nI i + (4 : Int32)).toNatClampNeg), .int (xs (nI i + (5 : Int32)).toNatClampNeg)]) (rest := []) C (mtX10_two l D q cI cJ cZ cP cS K n H.size (xs (nI i + (1 : Int32)).toNatClampNeg) (xs (nI i + (2 : Int32)).toNatClampNeg) (xs (nI i + (3 : Int32)).toNatClampNeg) (xs (nI i + (4 : Int32)).toNatClampNeg) (xs (nI i + (5 : Int32)).toNatClampNeg) S L R _ hv) (cwV 5 C.2.2.2.2 gL_law_X10_two rfl rfl rfl (by decide +kernel) ⟨Nat.le_of_ble_eq_true rfl, Nat.le_of_ble_eq_true rfl⟩) ⟨mP_blind cX_B, va_recv hC.1 hC.2.1 (ci := 10) (q0 := 0) rfl (wL_get (by omega)), fun U hU hV => ⟨rfl, hC.pre hU hV (hcx.call hC hU hV)⟩⟩ rfl rfl hl.1 rfl (lv_room (Nat.le_of_ble_eq_true rfl)) dL_law_734 ⟨show cells + 0 ≤ 600000 by omega, show slots + 0 ≤ 7302250 by omega⟩) (fun r u H1 locs1 h hC hM => ?_)
  obtain ⟨S1, L1, R1⟩ := u
  try dsimp only at h hC
  refine lv_aload_n C.1 C.2.1 dL_law_737 rfl (lv_at hl 2 rfl) ?_
  refine lv_aload_n C.1 C.2.1 dL_law_738 rfl (lv_at hl 0 rfl) ?_
  refine lv_iload_n C.1 C.2.1 dL_law_739 rfl (lv_at hl 3 rfl) ?_
  refine lv_iconst (v := 1) C.1 C.2.1 dL_law_740 (by decide) ?_
  refine lv_iadd C.1 C.2.1 dL_law_741 ?_
  refine va_sld C.1 C.2.1 hX hbl hbA hC.2.2.2.1 v1 dL_law_742 ?_
  refine lv_aload_n C.1 C.2.1 dL_law_743 rfl (lv_at hl 0 rfl) ?_
  refine lv_iload_n C.1 C.2.1 dL_law_744 rfl (lv_at hl 3 rfl) ?_
  refine lv_iconst (v := 2) C.1 C.2.1 dL_law_745 (by decide) ?_
  refine lv_iadd C.1 C.2.1 dL_law_746 ?_
  refine va_sld C.1 C.2.1 hX hbl hbA hC.2.2.2.1 v2 dL_law_747 ?_
  refine lv_aload_n C.1 C.2.1 dL_law_748 rfl (lv_at hl 0 rfl) ?_
  refine lv_iload_n C.1 C.2.1 dL_law_749 rfl (lv_at hl 3 rfl) ?_
  refine lv_iconst (v := 3) C.1 C.2.1 dL_law_750 (by decide) ?_
  refine lv_iadd C.1 C.2.1 dL_law_751 ?_
  refine va_sld C.1 C.2.1 hX hbl hbA hC.2.2.2.1 v3 dL_law_752 ?_
  refine lv_aload_n C.1 C.2.1 dL_law_753 rfl (lv_at hl 0 rfl) ?_
  refine lv_iload_n C.1 C.2.1 dL_law_754 rfl (lv_at hl 3 rfl) ?_
  refine lv_iconst (v := 4) C.1 C.2.1 dL_law_755 (by decide) ?_
  refine lv_iadd C.1 C.2.1 dL_law_756 ?_
  refine va_sld C.1 C.2.1 hX hbl hbA hC.2.2.2.1 v4 dL_law_757 ?_
  refine lv_aload_n C.1 C.2.1 dL_law_758 rfl (lv_at hl 0 rfl) ?_
  refine lv_iload_n C.1 C.2.1 dL_law_759 rfl (lv_at hl 3 rfl) ?_
  refine lv_iconst (v := 5) C.1 C.2.1 dL_law_760 (by decide) ?_
  refine lv_iadd C.1 C.2.1 dL_law_761 ?_
  refine va_sld C.1 C.2.1 hX hbl hbA hC.2.2.2.1 v5 dL_law_762 ?_
  refine kL_i hM hC (fun i hi j hj e => hdis j hj i hi e.symm) (va_runV (As := [.int (xs (nI i + (1 : Int32)).toNatClampNeg), .int (xs (nI i + (2 : Int32)).toNatClampNeg), .int (xs (nI i + (3 : Int32)).toNatClampNeg), .int (xs (nI i + (4 : Int32)).toNatClampNeg), .int (xs (nI i + (5 : Int32)).toNatClampNeg)]) (rest := [.int r]) C (mtX11_two l D q2 cI2 H1.size (xs (nI i + (1 : Int32)).toNatClampNeg) (xs (nI i + (2 : Int32)).toNatClampNeg) (xs (nI i + (3 : Int32)).toNatClampNeg) (xs (nI i + (4 : Int32)).toNatClampNeg) (xs (nI i + (5 : Int32)).toNatClampNeg) f a _ h) (cwV 5 C.2.2.2.2 gL_law_X11_two rfl rfl rfl (by decide +kernel) ⟨Nat.le_of_ble_eq_true rfl, Nat.le_of_ble_eq_true rfl⟩) ⟨mP_blind tX_B, va_recv hM.1 hM.2.1 (ci := 11) (q0 := 0) rfl (wL_get (by decide)), fun U hU hV => ⟨rfl, hM.pre hU hV trivial⟩⟩ rfl rfl hl.1 rfl (lv_room (Nat.le_of_ble_eq_true rfl)) dL_law_763 ⟨show cells + 0 ≤ 600000 by omega, show slots + 0 ≤ 7302250 by omega⟩) (fun r2 u H1 locs1 h hM hC => ?_)
  obtain ⟨f1, a1⟩ := u
  obtain ⟨er, J⟩ := h
  try dsimp only at er J hM
  refine lv_icmp_eq (tgt := 1298) C.1 C.2.1 dL_law_766 (by decide) (fun _ => ?_) (fun ne => absurd er ne)
  · skip
    refine W.widen (k := cells + 2) (n := slots + 11) (by omega) (by omega) ?_
    exact kk q K n S1 L1 R1 f1 a1 H1 locs1 rfl ⟨hC, hM, hdis, J⟩
set_option maxRecDepth 100000 in
set_option maxHeartbeats 4000000 in
theorem law_c14 (C : CallFix p m c cL_law 4 s #[Value.ref b] wsL_law RL) (hcx : cX (lA s) s) (hX : va_X b L0 xs s s.heap) (hbl : b < s.heap.size) (hi : i + 7 ≤ L0) (hL : L0 ≤ 3584) (hw0 : LW D cI cJ cZ cP cS cI2 q q2 K n S L R f a s H locs) (hl : lv_has ls 4 [(0, .ref b), (1, .ref (q 0)), (2, .ref (q2 0)), (3, .int (nI i))]) (hcs : cells + 2 ≤ 600000 ∧ slots + 11 ≤ 7302250)
    (kk : ∀ (q1 : Nat → Nat) (K1 : Nat → Nat) (n1 : Nat) (S1 : Nat → Nat → Int32) (L1 : Nat → Int64) (R1 : Nat → Option Nat) (f1 : Nat → Int32) (a1 : Nat → Nat → Int32) (H1 : Heap) (locs1 : List Loc), q1 0 = q 0 → LW D cI cJ cZ cP cS cI2 q1 q2 K1 n1 S1 L1 R1 f1 a1 s H1 locs1 → W p l e room_1 s m #[Value.ref b] below meth c H1 locs1 (cells + 2) (slots + 11) Q (F0 m 1298 ls [])) :
    W p l e room_1 s m #[Value.ref b] below meth c H locs cells slots Q (F0 m 771 ls []) := by
  obtain ⟨hC, hM, hdis, M, I⟩ := hw0
  have hbA : ¬ lA s b := Nat.not_le.mpr hbl
  have v1 : vp_in (nI i + (1 : Int32)) L0 := by rw [show (1 : Int32) = nI 1 from rfl, nI_add]; exact vp_in_nI (by omega) (by omega)
  have v2 : vp_in (nI i + (2 : Int32)) L0 := by rw [show (2 : Int32) = nI 2 from rfl, nI_add]; exact vp_in_nI (by omega) (by omega)
  have v3 : vp_in (nI i + (3 : Int32)) L0 := by rw [show (3 : Int32) = nI 3 from rfl, nI_add]; exact vp_in_nI (by omega) (by omega)
  refine lv_aload_n C.1 C.2.1 dL_law_771 rfl (lv_at hl 1 rfl) ?_
  refine lv_aload_n C.1 C.2.1 dL_law_772 rfl (lv_at hl 0 rfl) ?_
  refine lv_iload_n C.1 C.2.1 dL_law_773 rfl (lv_at hl 3 rfl) ?_
  refine lv_iconst (v := 1) C.1 C.2.1 dL_law_774 (by decide) ?_
  refine lv_iadd C.1 C.2.1 dL_law_775 ?_
  refine va_sld C.1 C.2.1 hX hbl hbA hC.2.2.2.1 v1 dL_law_776 ?_
  refine lv_aload_n C.1 C.2.1 dL_law_777 rfl (lv_at hl 0 rfl) ?_
  refine lv_iload_n C.1 C.2.1 dL_law_778 rfl (lv_at hl 3 rfl) ?_
  refine lv_iconst (v := 2) C.1 C.2.1 dL_law_779 (by decide) ?_
  refine lv_iadd C.1 C.2.1 dL_law_780 ?_
  refine va_sld C.1 C.2.1 hX hbl hbA hC.2.2.2.1 v2 dL_law_781 ?_
  refine lv_aload_n C.1 C.2.1 dL_law_782 rfl (lv_at hl 0 rfl) ?_
  refine lv_iload_n C.1 C.2.1 dL_law_783 rfl (lv_at hl 3 rfl) ?_
  refine lv_iconst (v := 3) C.1 C.2.1 dL_law_784 (by decide) ?_
  refine lv_iadd C.1 C.2.1 dL_law_785 ?_
  refine va_sld C.1 C.2.1 hX hbl hbA hC.2.2.2.1 v3 dL_law_786 ?_
  have hv := pr_share (L := L) I (xs (nI i + (1 : Int32)).toNatClampNeg) (xs (nI i + (2 : Int32)).toNatClampNeg) (xs (nI i + (3 : Int32)).toNatClampNeg)
  refine kL_l hC hM hdis (va_runV (As := [.int (xs (nI i + (1 : Int32)).toNatClampNeg), .int (xs (nI i + (2 : Int32)).toNatClampNeg), .int (xs (nI i + (3 : Int32)).toNatClampNeg)]) (rest := []) C (mtX10_share l D q cI cJ cZ cP cS K n H.size (xs (nI i + (1 : Int32)).toNatClampNeg) (xs (nI i + (2 : Int32)).toNatClampNeg) (xs (nI i + (3 : Int32)).toNatClampNeg) S L R _ hv) (cwV 3 C.2.2.2.2 gL_law_X10_share rfl rfl rfl (by decide +kernel) ⟨Nat.le_of_ble_eq_true rfl, Nat.le_of_ble_eq_true rfl⟩) ⟨mP_blind cX_B, va_recv hC.1 hC.2.1 (ci := 10) (q0 := 0) rfl (wL_get (by omega)), fun U hU hV => ⟨rfl, hC.pre hU hV (hcx.call hC hU hV)⟩⟩ rfl rfl hl.1 rfl (lv_room (Nat.le_of_ble_eq_true rfl)) dL_law_787 ⟨show cells + 0 ≤ 600000 by omega, show slots + 0 ≤ 7302250 by omega⟩) (fun r u H1 locs1 h hC hM => ?_)
  obtain ⟨S1, L1, R1⟩ := u
  try dsimp only at h hC
  refine lv_aload_n C.1 C.2.1 dL_law_790 rfl (lv_at hl 2 rfl) ?_
  refine lv_aload_n C.1 C.2.1 dL_law_791 rfl (lv_at hl 0 rfl) ?_
  refine lv_iload_n C.1 C.2.1 dL_law_792 rfl (lv_at hl 3 rfl) ?_
  refine lv_iconst (v := 1) C.1 C.2.1 dL_law_793 (by decide) ?_
  refine lv_iadd C.1 C.2.1 dL_law_794 ?_
  refine va_sld C.1 C.2.1 hX hbl hbA hC.2.2.2.1 v1 dL_law_795 ?_
  refine lv_aload_n C.1 C.2.1 dL_law_796 rfl (lv_at hl 0 rfl) ?_
  refine lv_iload_n C.1 C.2.1 dL_law_797 rfl (lv_at hl 3 rfl) ?_
  refine lv_iconst (v := 2) C.1 C.2.1 dL_law_798 (by decide) ?_
  refine lv_iadd C.1 C.2.1 dL_law_799 ?_
  refine va_sld C.1 C.2.1 hX hbl hbA hC.2.2.2.1 v2 dL_law_800 ?_
  refine lv_aload_n C.1 C.2.1 dL_law_801 rfl (lv_at hl 0 rfl) ?_
  refine lv_iload_n C.1 C.2.1 dL_law_802 rfl (lv_at hl 3 rfl) ?_
  refine lv_iconst (v := 3) C.1 C.2.1 dL_law_803 (by decide) ?_
  refine lv_iadd C.1 C.2.1 dL_law_804 ?_
  refine va_sld C.1 C.2.1 hX hbl hbA hC.2.2.2.1 v3 dL_law_805 ?_
  refine kL_l hM hC (fun i hi j hj e => hdis j hj i hi e.symm) (va_runV (As := [.int (xs (nI i + (1 : Int32)).toNatClampNeg), .int (xs (nI i + (2 : Int32)).toNatClampNeg), .int (xs (nI i + (3 : Int32)).toNatClampNeg)]) (rest := [.long r]) C (mtX11_share l D q2 cI2 H1.size (xs (nI i + (1 : Int32)).toNatClampNeg) (xs (nI i + (2 : Int32)).toNatClampNeg) (xs (nI i + (3 : Int32)).toNatClampNeg) f a _ h) (cwV 3 C.2.2.2.2 gL_law_X11_share rfl rfl rfl (by decide +kernel) ⟨Nat.le_of_ble_eq_true rfl, Nat.le_of_ble_eq_true rfl⟩) ⟨mP_blind tX_B, va_recv hM.1 hM.2.1 (ci := 11) (q0 := 0) rfl (wL_get (by decide)), fun U hU hV => ⟨rfl, hM.pre hU hV trivial⟩⟩ rfl rfl hl.1 rfl (lv_room (Nat.le_of_ble_eq_true rfl)) dL_law_806 ⟨show cells + 0 ≤ 600000 by omega, show slots + 0 ≤ 7302250 by omega⟩) (fun r2 u H1 locs1 h hM hC => ?_)
  obtain ⟨f1, a1⟩ := u
  obtain ⟨er, J⟩ := h
  try dsimp only at er J hM
  refine W.lcmp C.1 C.2.1 dL_law_809 ?_
  refine lv_if_eq (tgt := 1298) C.1 C.2.1 dL_law_810 (by decide) (fun _ => ?_) (fun ne => absurd (lc_eq.mpr er) ne)
  · skip
    refine W.widen (k := cells + 2) (n := slots + 11) (by omega) (by omega) ?_
    exact kk q K n S1 L1 R1 f1 a1 H1 locs1 rfl ⟨hC, hM, hdis, J⟩
end LC
