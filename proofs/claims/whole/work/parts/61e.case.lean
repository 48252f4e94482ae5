section LC
variable {p : Program} {l : Launch} {e : Env} {s : State} {m : MethodId} {below : List Frame} {meth : Method} {c : Code} {b L0 i : Nat} {xs : Nat → Int32} {D : va_G} {cI cJ cZ cP cS cI2 : ClassId} {q q2 : Nat → Nat} {K : Nat → Nat} {n : Nat} {S : Nat → Nat → Int32} {L : Nat → Int64} {R : Nat → Option Nat} {f : Nat → Int32} {a : Nat → Nat → Int32} {H : Heap} {locs : List Loc} {ls : Array Slot} {cells slots : Nat} {Q : State → Prop}
set_option maxRecDepth 100000 in
set_option maxHeartbeats 4000000 in
theorem law_c20 (C : CallFix p m c cL_law 4 s #[Value.ref b] wsL_law RL) (hcx : cX (lA s) s) (hX : va_X b L0 xs s s.heap) (hbl : b < s.heap.size) (hi : i + 7 ≤ L0) (hL : L0 ≤ 3584) (hw0 : LW D cI cJ cZ cP cS cI2 q q2 K n S L R f a s H locs) (hl : lv_has ls 4 [(0, .ref b), (1, .ref (q 0)), (2, .ref (q2 0)), (3, .int (nI i))]) (hcs : cells + 2 ≤ 600000 ∧ slots + 11 ≤ 7302250)
    (kk : ∀ (q1 : Nat → Nat) (K1 : Nat → Nat) (n1 : Nat) (S1 : Nat → Nat → Int32) (L1 : Nat → Int64) (R1 : Nat → Option Nat) (f1 : Nat → Int32) (a1 : Nat → Nat → Int32) (H1 : Heap) (locs1 : List Loc), q1 0 = q 0 → LW D cI cJ cZ cP cS cI2 q1 q2 K1 n1 S1 L1 R1 f1 a1 s H1 locs1 → W p l e room_1 s m #[Value.ref b] below meth c H1 locs1 (cells + 2) (slots + 11) Q (F0 m 1298 ls [])) :
    W p l e room_1 s m #[Value.ref b] below meth c H locs cells slots Q (F0 m 1020 ls []) := by
  obtain ⟨hC, hM, hdis, M, I⟩ := hw0
  have hbA : ¬ lA s b := Nat.not_le.mpr hbl
  have v1 : vp_in (nI i + (1 : Int32)) L0 := by rw [show (1 : Int32) = nI 1 from rfl, nI_add]; exact vp_in_nI (by omega) (by omega)
  have v2 : vp_in (nI i + (2 : Int32)) L0 := by rw [show (2 : Int32) = nI 2 from rfl, nI_add]; exact vp_in_nI (by omega) (by omega)
  have v3 : vp_in (nI i + (3 : Int32)) L0 := by rw [show (3 : Int32) = nI 3 from rfl, nI_add]; exact vp_in_nI (by omega) (by omega)
  refine lv_aload_n C.1 C.2.1 dL_law_1020 rfl (lv_at hl 1 rfl) ?_
  refine lv_aload_n C.1 C.2.1 dL_law_1021 rfl (lv_at hl 0 rfl) ?_
  refine lv_iload_n C.1 C.2.1 dL_law_1022 rfl (lv_at hl 3 rfl) ?_
  refine lv_iconst (v := 1) C.1 C.2.1 dL_law_1023 (by decide) ?_
  refine lv_iadd C.1 C.2.1 dL_law_1024 ?_
  refine va_sld C.1 C.2.1 hX hbl hbA hC.2.2.2.1 v1 dL_law_1025 ?_
  refine lv_aload_n C.1 C.2.1 dL_law_1026 rfl (lv_at hl 0 rfl) ?_
  refine lv_iload_n C.1 C.2.1 dL_law_1027 rfl (lv_at hl 3 rfl) ?_
  refine lv_iconst (v := 2) C.1 C.2.1 dL_law_1028 (by decide) ?_
  refine lv_iadd C.1 C.2.1 dL_law_1029 ?_
  refine va_sld C.1 C.2.1 hX hbl hbA hC.2.2.2.1 v2 dL_law_1030 ?_
  refine lv_aload_n C.1 C.2.1 dL_law_1031 rfl (lv_at hl 0 rfl) ?_
  refine lv_iload_n C.1 C.2.1 dL_law_1032 rfl (lv_at hl 3 rfl) ?_
  refine lv_iconst (v := 3) C.1 C.2.1 dL_law_1033 (by decide) ?_
  refine lv_iadd C.1 C.2.1 dL_law_1034 ?_
  refine va_sld C.1 C.2.1 hX hbl hbA hC.2.2.2.1 v3 dL_law_1035 ?_
  have hv := pr_put (L := L) I (xs (nI i + (1 : Int32)).toNatClampNeg) (xs (nI i + (2 : Int32)).toNatClampNeg) (xs (nI i + (3 : Int32)).toNatClampNeg)
  refine kL_i hC hM hdis (va_runV (As := [.int (xs (nI i + (1 : Int32)).toNatClampNeg), .int (xs (nI i + (2 : Int32)).toNatClampNeg), .int (xs (nI i + (3 : Int32)).toNatClampNeg)]) (rest := []) C (mtX10_put l D q cI cJ cZ cP cS K n H.size (xs (nI i + (1 : Int32)).toNatClampNeg) (xs (nI i + (2 : Int32)).toNatClampNeg) (xs (nI i + (3 : Int32)).toNatClampNeg) S L R _ hv) (cwV 3 C.2.2.2.2 gL_law_X10_put rfl rfl rfl (by decide +kernel) ⟨Nat.le_of_ble_eq_true rfl, Nat.le_of_ble_eq_true rfl⟩) ⟨mP_blind cX_B, va_recv hC.1 hC.2.1 (ci := 10) (q0 := 0) rfl (wL_get (by omega)), fun U hU hV => ⟨rfl, hC.pre hU hV (hcx.call hC hU hV)⟩⟩ rfl rfl hl.1 rfl (lv_room (Nat.le_of_ble_eq_true rfl)) dL_law_1036 ⟨show cells + 0 ≤ 600000 by omega, show slots + 0 ≤ 7302250 by omega⟩) (fun r u H1 locs1 h hC hM => ?_)
  obtain ⟨S1, L1, R1⟩ := u
  try dsimp only at h hC
  refine lv_aload_n C.1 C.2.1 dL_law_1039 rfl (lv_at hl 2 rfl) ?_
  refine lv_aload_n C.1 C.2.1 dL_law_1040 rfl (lv_at hl 0 rfl) ?_
  refine lv_iload_n C.1 C.2.1 dL_law_1041 rfl (lv_at hl 3 rfl) ?_
  refine lv_iconst (v := 1) C.1 C.2.1 dL_law_1042 (by decide) ?_
  refine lv_iadd C.1 C.2.1 dL_law_1043 ?_
  refine va_sld C.1 C.2.1 hX hbl hbA hC.2.2.2.1 v1 dL_law_1044 ?_
  refine lv_aload_n C.1 C.2.1 dL_law_1045 rfl (lv_at hl 0 rfl) ?_
  refine lv_iload_n C.1 C.2.1 dL_law_1046 rfl (lv_at hl 3 rfl) ?_
  refine lv_iconst (v := 2) C.1 C.2.1 dL_law_1047 (by decide) ?_
  refine lv_iadd C.1 C.2.1 dL_law_1048 ?_
  refine va_sld C.1 C.2.1 hX hbl hbA hC.2.2.2.1 v2 dL_law_1049 ?_
  refine lv_aload_n C.1 C.2.1 dL_law_1050 rfl (lv_at hl 0 rfl) ?_
  refine lv_iload_n C.1 C.2.1 dL_law_1051 rfl (lv_at hl 3 rfl) ?_
  refine lv_iconst (v := 3) C.1 C.2.1 dL_law_1052 (by decide) ?_
  refine lv_iadd C.1 C.2.1 dL_law_1053 ?_
  refine va_sld C.1 C.2.1 hX hbl hbA hC.2.2.2.1 v3 dL_law_1054 ?_
  refine kL_i hM hC (fun i hi j hj e => hdis j hj i hi e.symm) (va_runV (As := [.int (xs (nI i + (1 : Int32)).toNatClampNeg), .int (xs (nI i + (2 : Int32)).toNatClampNeg), .int (xs (nI i + (3 : Int32)).toNatClampNeg)]) (rest := [.int r]) C (mtX11_put l D q2 cI2 H1.size (xs (nI i + (1 : Int32)).toNatClampNeg) (xs (nI i + (2 : Int32)).toNatClampNeg) (xs (nI i + (3 : Int32)).toNatClampNeg) f a _ h) (cwV 3 C.2.2.2.2 gL_law_X11_put rfl rfl rfl (by decide +kernel) ⟨Nat.le_of_ble_eq_true rfl, Nat.le_of_ble_eq_true rfl⟩) ⟨mP_blind tX_B, va_recv hM.1 hM.2.1 (ci := 11) (q0 := 0) rfl (wL_get (by decide)), fun U hU hV => ⟨rfl, hM.pre hU hV trivial⟩⟩ rfl rfl hl.1 rfl (lv_room (Nat.le_of_ble_eq_true rfl)) dL_law_1055 ⟨show cells + 0 ≤ 600000 by omega, show slots + 0 ≤ 7302250 by omega⟩) (fun r2 u H1 locs1 h hM hC => ?_)
  obtain ⟨f1, a1⟩ := u
  obtain ⟨er, J⟩ := h
  try dsimp only at er J hM
  refine lv_icmp_eq (tgt := 1298) C.1 C.2.1 dL_law_1058 (by decide) (fun _ => ?_) (fun ne => absurd er ne)
  · skip
    refine W.widen (k := cells + 2) (n := slots + 11) (by omega) (by omega) ?_
    exact kk q K n S1 L1 R1 f1 a1 H1 locs1 rfl ⟨hC, hM, hdis, J⟩
set_option maxRecDepth 100000 in
set_option maxHeartbeats 4000000 in
theorem law_c21 (C : CallFix p m c cL_law 4 s #[Value.ref b] wsL_law RL) (hcx : cX (lA s) s) (hX : va_X b L0 xs s s.heap) (hbl : b < s.heap.size) (hi : i + 7 ≤ L0) (hL : L0 ≤ 3584) (hw0 : LW D cI cJ cZ cP cS cI2 q q2 K n S L R f a s H locs) (hl : lv_has ls 4 [(0, .ref b), (1, .ref (q 0)), (2, .ref (q2 0)), (3, .int (nI i))]) (hcs : cells + 2 ≤ 600000 ∧ slots + 11 ≤ 7302250)
    (kk : ∀ (q1 : Nat → Nat) (K1 : Nat → Nat) (n1 : Nat) (S1 : Nat → Nat → Int32) (L1 : Nat → Int64) (R1 : Nat → Option Nat) (f1 : Nat → Int32) (a1 : Nat → Nat → Int32) (H1 : Heap) (locs1 : List Loc), q1 0 = q 0 → LW D cI cJ cZ cP cS cI2 q1 q2 K1 n1 S1 L1 R1 f1 a1 s H1 locs1 → W p l e room_1 s m #[Value.ref b] below meth c H1 locs1 (cells + 2) (slots + 11) Q (F0 m 1298 ls [])) :
    W p l e room_1 s m #[Value.ref b] below meth c H locs cells slots Q (F0 m 1063 ls []) := by
  obtain ⟨hC, hM, hdis, M, I⟩ := hw0
  have hbA : ¬ lA s b := Nat.not_le.mpr hbl
  have v1 : vp_in (nI i + (1 : Int32)) L0 := by rw [show (1 : Int32) = nI 1 from rfl, nI_add]; exact vp_in_nI (by omega) (by omega)
  have v2 : vp_in (nI i + (2 : Int32)) L0 := by rw [show (2 : Int32) = nI 2 from rfl, nI_add]; exact vp_in_nI (by omega) (by omega)
  have v3 : vp_in (nI i + (3 : Int32)) L0 := by rw [show (3 : Int32) = nI 3 from rfl, nI_add]; exact vp_in_nI (by omega) (by omega)
  refine lv_aload_n C.1 C.2.1 dL_law_1063 rfl (lv_at hl 1 rfl) ?_
  refine lv_aload_n C.1 C.2.1 dL_law_1064 rfl (lv_at hl 0 rfl) ?_
  refine lv_iload_n C.1 C.2.1 dL_law_1065 rfl (lv_at hl 3 rfl) ?_
  refine lv_iconst (v := 1) C.1 C.2.1 dL_law_1066 (by decide) ?_
  refine lv_iadd C.1 C.2.1 dL_law_1067 ?_
  refine va_sld C.1 C.2.1 hX hbl hbA hC.2.2.2.1 v1 dL_law_1068 ?_
  refine lv_aload_n C.1 C.2.1 dL_law_1069 rfl (lv_at hl 0 rfl) ?_
  refine lv_iload_n C.1 C.2.1 dL_law_1070 rfl (lv_at hl 3 rfl) ?_
  refine lv_iconst (v := 2) C.1 C.2.1 dL_law_1071 (by decide) ?_
  refine lv_iadd C.1 C.2.1 dL_law_1072 ?_
  refine va_sld C.1 C.2.1 hX hbl hbA hC.2.2.2.1 v2 dL_law_1073 ?_
  refine lv_aload_n C.1 C.2.1 dL_law_1074 rfl (lv_at hl 0 rfl) ?_
  refine lv_iload_n C.1 C.2.1 dL_law_1075 rfl (lv_at hl 3 rfl) ?_
  refine lv_iconst (v := 3) C.1 C.2.1 dL_law_1076 (by decide) ?_
  refine lv_iadd C.1 C.2.1 dL_law_1077 ?_
  refine va_sld C.1 C.2.1 hX hbl hbA hC.2.2.2.1 v3 dL_law_1078 ?_
  have hv := pr_cell (L := L) I (xs (nI i + (1 : Int32)).toNatClampNeg) (xs (nI i + (2 : Int32)).toNatClampNeg) (xs (nI i + (3 : Int32)).toNatClampNeg)
  refine kL_l hC hM hdis (va_runV (As := [.int (xs (nI i + (1 : Int32)).toNatClampNeg), .int (xs (nI i + (2 : Int32)).toNatClampNeg), .int (xs (nI i + (3 : Int32)).toNatClampNeg)]) (rest := []) C (mtX10_cell l D q cI cJ cZ cP cS K n H.size (xs (nI i + (1 : Int32)).toNatClampNeg) (xs (nI i + (2 : Int32)).toNatClampNeg) (xs (nI i + (3 : Int32)).toNatClampNeg) S L R _ hv) (cwV 3 C.2.2.2.2 gL_law_X10_cell rfl rfl rfl (by decide +kernel) ⟨Nat.le_of_ble_eq_true rfl, Nat.le_of_ble_eq_true rfl⟩) ⟨mP_blind cX_B, va_recv hC.1 hC.2.1 (ci := 10) (q0 := 0) rfl (wL_get (by omega)), fun U hU hV => ⟨rfl, hC.pre hU hV (hcx.call hC hU hV)⟩⟩ rfl rfl hl.1 rfl (lv_room (Nat.le_of_ble_eq_true rfl)) dL_law_1079 ⟨show cells + 0 ≤ 600000 by omega, show slots + 0 ≤ 7302250 by omega⟩) (fun r u H1 locs1 h hC hM => ?_)
  obtain ⟨S1, L1, R1⟩ := u
  try dsimp only at h hC
  refine lv_aload_n C.1 C.2.1 dL_law_1082 rfl (lv_at hl 2 rfl) ?_
  refine lv_aload_n C.1 C.2.1 dL_law_1083 rfl (lv_at hl 0 rfl) ?_
  refine lv_iload_n C.1 C.2.1 dL_law_1084 rfl (lv_at hl 3 rfl) ?_
  refine lv_iconst (v := 1) C.1 C.2.1 dL_law_1085 (by decide) ?_
  refine lv_iadd C.1 C.2.1 dL_law_1086 ?_
  refine va_sld C.1 C.2.1 hX hbl hbA hC.2.2.2.1 v1 dL_law_1087 ?_
  refine lv_aload_n C.1 C.2.1 dL_law_1088 rfl (lv_at hl 0 rfl) ?_
  refine lv_iload_n C.1 C.2.1 dL_law_1089 rfl (lv_at hl 3 rfl) ?_
  refine lv_iconst (v := 2) C.1 C.2.1 dL_law_1090 (by decide) ?_
  refine lv_iadd C.1 C.2.1 dL_law_1091 ?_
  refine va_sld C.1 C.2.1 hX hbl hbA hC.2.2.2.1 v2 dL_law_1092 ?_
  refine lv_aload_n C.1 C.2.1 dL_law_1093 rfl (lv_at hl 0 rfl) ?_
  refine lv_iload_n C.1 C.2.1 dL_law_1094 rfl (lv_at hl 3 rfl) ?_
  refine lv_iconst (v := 3) C.1 C.2.1 dL_law_1095 (by decide) ?_
  refine lv_iadd C.1 C.2.1 dL_law_1096 ?_
  refine va_sld C.1 C.2.1 hX hbl hbA hC.2.2.2.1 v3 dL_law_1097 ?_
  refine kL_l hM hC (fun i hi j hj e => hdis j hj i hi e.symm) (va_runV (As := [.int (xs (nI i + (1 : Int32)).toNatClampNeg), .int (xs (nI i + (2 : Int32)).toNatClampNeg), .int (xs (nI i + (3 : Int32)).toNatClampNeg)]) (rest := [.long r]) C (mtX11_cell l D q2 cI2 H1.size (xs (nI i + (1 : Int32)).toNatClampNeg) (xs (nI i + (2 : Int32)).toNatClampNeg) (xs (nI i + (3 : Int32)).toNatClampNeg) f a _ h) (cwV 3 C.2.2.2.2 gL_law_X11_cell rfl rfl rfl (by decide +kernel) ⟨Nat.le_of_ble_eq_true rfl, Nat.le_of_ble_eq_true rfl⟩) ⟨mP_blind tX_B, va_recv hM.1 hM.2.1 (ci := 11) (q0 := 0) rfl (wL_get (by decide)), fun U hU hV => ⟨rfl, hM.pre hU hV trivial⟩⟩ rfl rfl hl.1 rfl (lv_room (Nat.le_of_ble_eq_true rfl)) dL_law_1098 ⟨show cells + 0 ≤ 600000 by omega, show slots + 0 ≤ 7302250 by omega⟩) (fun r2 u H1 locs1 h hM hC => ?_)
  obtain ⟨f1, a1⟩ := u
  obtain ⟨er, J⟩ := h
  try dsimp only at er J hM
  refine W.lcmp C.1 C.2.1 dL_law_1101 ?_
  refine lv_if_eq (tgt := 1298) C.1 C.2.1 dL_law_1102 (by decide) (fun _ => ?_) (fun ne => absurd (lc_eq.mpr er) ne)
  · skip
    refine W.widen (k := cells + 2) (n := slots + 11) (by omega) (by omega) ?_
    exact kk q K n S1 L1 R1 f1 a1 H1 locs1 rfl ⟨hC, hM, hdis, J⟩
set_option maxRecDepth 100000 in
set_option maxHeartbeats 4000000 in
theorem law_c22 (C : CallFix p m c cL_law 4 s #[Value.ref b] wsL_law RL) (hcx : cX (lA s) s) (hX : va_X b L0 xs s s.heap) (hbl : b < s.heap.size) (hi : i + 7 ≤ L0) (hL : L0 ≤ 3584) (hw0 : LW D cI cJ cZ cP cS cI2 q q2 K n S L R f a s H locs) (hl : lv_has ls 4 [(0, .ref b), (1, .ref (q 0)), (2, .ref (q2 0)), (3, .int (nI i))]) (hcs : cells + 2 ≤ 600000 ∧ slots + 11 ≤ 7302250)
    (kk : ∀ (q1 : Nat → Nat) (K1 : Nat → Nat) (n1 : Nat) (S1 : Nat → Nat → Int32) (L1 : Nat → Int64) (R1 : Nat → Option Nat) (f1 : Nat → Int32) (a1 : Nat → Nat → Int32) (H1 : Heap) (locs1 : List Loc), q1 0 = q 0 → LW D cI cJ cZ cP cS cI2 q1 q2 K1 n1 S1 L1 R1 f1 a1 s H1 locs1 → W p l e room_1 s m #[Value.ref b] below meth c H1 locs1 (cells + 2) (slots + 11) Q (F0 m 1298 ls [])) :
    W p l e room_1 s m #[Value.ref b] below meth c H locs cells slots Q (F0 m 1107 ls []) := by
  obtain ⟨hC, hM, hdis, M, I⟩ := hw0
  have hbA : ¬ lA s b := Nat.not_le.mpr hbl
  have v1 : vp_in (nI i + (1 : Int32)) L0 := by rw [show (1 : Int32) = nI 1 from rfl, nI_add]; exact vp_in_nI (by omega) (by omega)
  have v2 : vp_in (nI i + (2 : Int32)) L0 := by rw [show (2 : Int32) = nI 2 from rfl, nI_add]; exact vp_in_nI (by omega) (by omega)
  have v3 : vp_in (nI i + (3 : Int32)) L0 := by rw [show (3 : Int32) = nI 3 from rfl, nI_add]; exact vp_in_nI (by omega) (by omega)
  have v4 : vp_in (nI i + (4 : Int32)) L0 := by rw [show (4 : Int32) = nI 4 from rfl, nI_add]; exact vp_in_nI (by omega) (by omega)
  have v5 : vp_in (nI i + (5 : Int32)) L0 := by rw [show (5 : Int32) = nI 5 from rfl, nI_add]; exact vp_in_nI (by omega) (by omega)
  refine lv_aload_n C.1 C.2.1 dL_law_1107 rfl (lv_at hl 1 rfl) ?_
  refine lv_aload_n C.1 C.2.1 dL_law_1108 rfl (lv_at hl 0 rfl) ?_
  refine lv_iload_n C.1 C.2.1 dL_law_1109 rfl (lv_at hl 3 rfl) ?_
  refine lv_iconst (v := 1) C.1 C.2.1 dL_law_1110 (by decide) ?_
  refine lv_iadd C.1 C.2.1 dL_law_1111 ?_
  refine va_sld C.1 C.2.1 hX hbl hbA hC.2.2.2.1 v1 dL_law_1112 ?_
  refine lv_aload_n C.1 C.2.1 dL_law_1113 rfl (lv_at hl 0 rfl) ?_
  refine lv_iload_n C.1 C.2.1 dL_law_1114 rfl (lv_at hl 3 rfl) ?_
  refine lv_iconst (v := 2) C.1 C.2.1 dL_law_1115 (by decide) ?_
  refine lv_iadd C.1 C.2.1 dL_law_1116 ?_
  refine va_sld C.1 C.2.1 hX hbl hbA hC.2.2.2.1 v2 dL_law_1117 ?_
  refine lv_aload_n C.1 C.2.1 dL_law_1118 rfl (lv_at hl 0 rfl) ?_
  refine lv_iload_n C.1 C.2.1 dL_law_1119 rfl (lv_at hl 3 rfl) ?_
  refine lv_iconst (v := 3) C.1 C.2.1 dL_law_1120 (by decide) ?_
  refine lv_iadd C.1 C.2.1 dL_law_1121 ?_
  refine va_sld C.1 C.2.1 hX hbl hbA hC.2.2.2.1 v3 dL_law_1122 ?_
  refine lv_aload_n C.1 C.2.1 dL_law_1123 rfl (lv_at hl 0 rfl) ?_
  refine lv_iload_n C.1 C.2.1 dL_law_1124 rfl (lv_at hl 3 rfl) ?_
  refine lv_iconst (v := 4) C.1 C.2.1 dL_law_1125 (by decide) ?_
  refine lv_iadd C.1 C.2.1 dL_law_1126 ?_
  refine va_sld C.1 C.2.1 hX hbl hbA hC.2.2.2.1 v4 dL_law_1127 ?_
  refine lv_aload_n C.1 C.2.1 dL_law_1128 rfl (lv_at hl 0 rfl) ?_
  refine lv_iload_n C.1 C.2.1 dL_law_1129 rfl (lv_at hl 3 rfl) ?_
  refine lv_iconst (v := 5) C.1 C.2.1 dL_law_1130 (by decide) ?_
  refine lv_iadd C.1 C.2.1 dL_law_1131 ?_
  refine va_sld C.1 C.2.1 hX hbl hbA hC.2.2.2.1 v5 dL_law_1132 ?_
  have hv := pr_copy (L := L) I (xs (nI i + (1 : Int32)).toNatClampNeg) (xs (nI i + (2 : Int32)).toNatClampNeg) (xs (nI i + (3 : Int32)).toNatClampNeg) (xs (nI i + (4 : Int32)).toNatClampNeg) (xs (nI i + (5 : Int32)).toNatClampNeg)
  refine kL_i hC hM hdis (va_runV (As := [.int (xs (nI i + (1 : Int32)).toNatClampNeg), .int (xs (nI i + (2 : Int32)).toNatClampNeg), .int (xs (nI i + (3 : Int32)).toNatClampNeg), .int (xs (nI i + (4 : Int32)).toNatClampNeg), .int (xs (nI i + (5 : Int32)).toNatClampNeg)]) (rest := []) C (mtX10_copy l D q cI cJ cZ cP cS K n H.size (xs (nI i + (1 : Int32)).toNatClampNeg) (xs (nI i + (2 : Int32)).toNatClampNeg) (xs (nI i + (3 : Int32)).toNatClampNeg) (xs (nI i + (4 : Int32)).toNatClampNeg) (xs (nI i + (5 : Int32)).toNatClampNeg) S L R _ hv) (cwV 5 C.2.2.2.2 gL_law_X10_copy rfl rfl rfl (by decide +kernel) ⟨Nat.le_of_ble_eq_true rfl, Nat.le_of_ble_eq_true rfl⟩) ⟨mP_blind cX_B, va_recv hC.1 hC.2.1 (ci := 10) (q0 := 0) rfl (wL_get (by omega)), fun U hU hV => ⟨rfl, hC.pre hU hV (hcx.call hC hU hV)⟩⟩ rfl rfl hl.1 rfl (lv_room (Nat.le_of_ble_eq_true rfl)) dL_law_1133 ⟨show cells + 0 ≤ 600000 by omega, show slots + 0 ≤ 7302250 by omega⟩) (fun r u H1 locs1 h hC hM => ?_)
  obtain ⟨S1, L1, R1⟩ := u
  try dsimp only at h hC
  refine lv_aload_n C.1 C.2.1 dL_law_1136 rfl (lv_at hl 2 rfl) ?_
  refine lv_aload_n C.1 C.2.1 dL_law_1137 rfl (lv_at hl 0 rfl) ?_
  refine lv_iload_n C.1 C.2.1 dL_law_1138 rfl (lv_at hl 3 rfl) ?_
  refine lv_iconst (v := 1) C.1 C.2.1 dL_law_1139 (by decide) ?_
  refine lv_iadd C.1 C.2.1 dL_law_1140 ?_
  refine va_sld C.1 C.2.1 hX hbl hbA hC.2.2.2.1 v1 dL_law_1141 ?_
  refine lv_aload_n C.1 C.2.1 dL_law_1142 rfl (lv_at hl 0 rfl) ?_
  refine lv_iload_n C.1 C.2.1 dL_law_1143 rfl (lv_at hl 3 rfl) ?_
  refine lv_iconst (v := 2) C.1 C.2.1 dL_law_1144 (by decide) ?_
  refine lv_iadd C.1 C.2.1 dL_law_1145 ?_
  refine va_sld C.1 C.2.1 hX hbl hbA hC.2.2.2.1 v2 dL_law_1146 ?_
  refine lv_aload_n C.1 C.2.1 dL_law_1147 rfl (lv_at hl 0 rfl) ?_
  refine lv_iload_n C.1 C.2.1 dL_law_1148 rfl (lv_at hl 3 rfl) ?_
  refine lv_iconst (v := 3) C.1 C.2.1 dL_law_1149 (by decide) ?_
  refine lv_iadd C.1 C.2.1 dL_law_1150 ?_
  refine va_sld C.1 C.2.1 hX hbl hbA hC.2.2.2.1 v3 dL_law_1151 ?_
  refine lv_aload_n C.1 C.2.1 dL_law_1152 rfl (lv_at hl 0 rfl) ?_
  refine lv_iload_n C.1 C.2.1 dL_law_1153 rfl (lv_at hl 3 rfl) ?_
  refine lv_iconst (v := 4) C.1 C.2.1 dL_law_1154 (by decide) ?_
  refine lv_iadd C.1 C.2.1 dL_law_1155 ?_
  refine va_sld C.1 C.2.1 hX hbl hbA hC.2.2.2.1 v4 dL_law_1156 ?_
  refine lv_aload_n C.1 C.2.1 dL_law_1157 rfl (lv_at hl 0 rfl) ?_
  refine lv_iload_n C.1 C.2.1 dL_law_1158 rfl (lv_at hl 3 rfl) ?_
  refine lv_iconst (v := 5) C.1 C.2.1 dL_law_1159 (by decide) ?_
  refine lv_iadd C.1 C.2.1 dL_law_1160 ?_
  refine va_sld C.1 C.2.1 hX hbl hbA hC.2.2.2.1 v5 dL_law_1161 ?_
  refine kL_i hM hC (fun i hi j hj e => hdis j hj i hi e.symm) (va_runV (As := [.int (xs (nI i + (1 : Int32)).toNatClampNeg), .int (xs (nI i + (2 : Int32)).toNatClampNeg), .int (xs (nI i + (3 : Int32)).toNatClampNeg), .int (xs (nI i + (4 : Int32)).toNatClampNeg), .int (xs (nI i + (5 : Int32)).toNatClampNeg)]) (rest := [.int r]) C (mtX11_copy l D q2 cI2 H1.size (xs (nI i + (1 : Int32)).toNatClampNeg) (xs (nI i + (2 : Int32)).toNatClampNeg) (xs (nI i + (3 : Int32)).toNatClampNeg) (xs (nI i + (4 : Int32)).toNatClampNeg) (xs (nI i + (5 : Int32)).toNatClampNeg) f a _ h) (cwV 5 C.2.2.2.2 gL_law_X11_copy rfl rfl rfl (by decide +kernel) ⟨Nat.le_of_ble_eq_true rfl, Nat.le_of_ble_eq_true rfl⟩) ⟨mP_blind tX_B, va_recv hM.1 hM.2.1 (ci := 11) (q0 := 0) rfl (wL_get (by decide)), fun U hU hV => ⟨rfl, hM.pre hU hV trivial⟩⟩ rfl rfl hl.1 rfl (lv_room (Nat.le_of_ble_eq_true rfl)) dL_law_1162 ⟨show cells + 0 ≤ 600000 by omega, show slots + 0 ≤ 7302250 by omega⟩) (fun r2 u H1 locs1 h hM hC => ?_)
  obtain ⟨f1, a1⟩ := u
  obtain ⟨er, J⟩ := h
  try dsimp only at er J hM
  refine lv_icmp_eq (tgt := 1298) C.1 C.2.1 dL_law_1165 (by decide) (fun _ => ?_) (fun ne => absurd er ne)
  · skip
    refine W.widen (k := cells + 2) (n := slots + 11) (by omega) (by omega) ?_
    exact kk q K n S1 L1 R1 f1 a1 H1 locs1 rfl ⟨hC, hM, hdis, J⟩
set_option maxRecDepth 100000 in
set_option maxHeartbeats 4000000 in
theorem law_c23 (C : CallFix p m c cL_law 4 s #[Value.ref b] wsL_law RL) (hcx : cX (lA s) s) (hX : va_X b L0 xs s s.heap) (hbl : b < s.heap.size) (hi : i + 7 ≤ L0) (hL : L0 ≤ 3584) (hw0 : LW D cI cJ cZ cP cS cI2 q q2 K n S L R f a s H locs) (hl : lv_has ls 4 [(0, .ref b), (1, .ref (q 0)), (2, .ref (q2 0)), (3, .int (nI i))]) (hcs : cells + 2 ≤ 600000 ∧ slots + 11 ≤ 7302250)
    (kk : ∀ (q1 : Nat → Nat) (K1 : Nat → Nat) (n1 : Nat) (S1 : Nat → Nat → Int32) (L1 : Nat → Int64) (R1 : Nat → Option Nat) (f1 : Nat → Int32) (a1 : Nat → Nat → Int32) (H1 : Heap) (locs1 : List Loc), q1 0 = q 0 → LW D cI cJ cZ cP cS cI2 q1 q2 K1 n1 S1 L1 R1 f1 a1 s H1 locs1 → W p l e room_1 s m #[Value.ref b] below meth c H1 locs1 (cells + 2) (slots + 11) Q (F0 m 1298 ls [])) :
    W p l e room_1 s m #[Value.ref b] below meth c H locs cells slots Q (F0 m 1170 ls []) := by
  obtain ⟨hC, hM, hdis, M, I⟩ := hw0
  have hbA : ¬ lA s b := Nat.not_le.mpr hbl
  have v1 : vp_in (nI i + (1 : Int32)) L0 := by rw [show (1 : Int32) = nI 1 from rfl, nI_add]; exact vp_in_nI (by omega) (by omega)
  refine lv_aload_n C.1 C.2.1 dL_law_1170 rfl (lv_at hl 1 rfl) ?_
  refine lv_aload_n C.1 C.2.1 dL_law_1171 rfl (lv_at hl 0 rfl) ?_
  refine lv_iload_n C.1 C.2.1 dL_law_1172 rfl (lv_at hl 3 rfl) ?_
  refine lv_iconst (v := 1) C.1 C.2.1 dL_law_1173 (by decide) ?_
  refine lv_iadd C.1 C.2.1 dL_law_1174 ?_
  refine va_sld C.1 C.2.1 hX hbl hbA hC.2.2.2.1 v1 dL_law_1175 ?_
  have hv := pr_tell (L := L) I (xs (nI i + (1 : Int32)).toNatClampNeg)
  refine kL_i hC hM hdis (va_runV (As := [.int (xs (nI i + (1 : Int32)).toNatClampNeg)]) (rest := []) C (mtX10_tell l D q cI cJ cZ cP cS K n H.size (xs (nI i + (1 : Int32)).toNatClampNeg) S L R _ hv) (cwV 1 C.2.2.2.2 gL_law_X10_tell rfl rfl rfl (by decide +kernel) ⟨Nat.le_of_ble_eq_true rfl, Nat.le_of_ble_eq_true rfl⟩) ⟨mP_blind cX_B, va_recv hC.1 hC.2.1 (ci := 10) (q0 := 0) rfl (wL_get (by omega)), fun U hU hV => ⟨rfl, hC.pre hU hV (hcx.call hC hU hV)⟩⟩ rfl rfl hl.1 rfl (lv_room (Nat.le_of_ble_eq_true rfl)) dL_law_1176 ⟨show cells + 0 ≤ 600000 by omega, show slots + 0 ≤ 7302250 by omega⟩) (fun r u H1 locs1 h hC hM => ?_)
  obtain ⟨S1, L1, R1⟩ := u
  try dsimp only at h hC
  refine lv_aload_n C.1 C.2.1 dL_law_1179 rfl (lv_at hl 2 rfl) ?_
  refine lv_aload_n C.1 C.2.1 dL_law_1180 rfl (lv_at hl 0 rfl) ?_
  refine lv_iload_n C.1 C.2.1 dL_law_1181 rfl (lv_at hl 3 rfl) ?_
  refine lv_iconst (v := 1) C.1 C.2.1 dL_law_1182 (by decide) ?_
  refine lv_iadd C.1 C.2.1 dL_law_1183 ?_
  refine va_sld C.1 C.2.1 hX hbl hbA hC.2.2.2.1 v1 dL_law_1184 ?_
  refine kL_i hM hC (fun i hi j hj e => hdis j hj i hi e.symm) (va_runV (As := [.int (xs (nI i + (1 : Int32)).toNatClampNeg)]) (rest := [.int r]) C (mtX11_tell l D q2 cI2 H1.size (xs (nI i + (1 : Int32)).toNatClampNeg) f a _ h) (cwV 1 C.2.2.2.2 gL_law_X11_tell rfl rfl rfl (by decide +kernel) ⟨Nat.le_of_ble_eq_true rfl, Nat.le_of_ble_eq_true rfl⟩) ⟨mP_blind tX_B, va_recv hM.1 hM.2.1 (ci := 11) (q0 := 0) rfl (wL_get (by decide)), fun U hU hV => ⟨rfl, hM.pre hU hV trivial⟩⟩ rfl rfl hl.1 rfl (lv_room (Nat.le_of_ble_eq_true rfl)) dL_law_1185 ⟨show cells + 0 ≤ 600000 by omega, show slots + 0 ≤ 7302250 by omega⟩) (fun r2 u H1 locs1 h hM hC => ?_)
  obtain ⟨f1, a1⟩ := u
  obtain ⟨er, J⟩ := h
  try dsimp only at er J hM
  refine lv_icmp_eq (tgt := 1298) C.1 C.2.1 dL_law_1188 (by decide) (fun _ => ?_) (fun ne => absurd er ne)
  · skip
    refine W.widen (k := cells + 2) (n := slots + 11) (by omega) (by omega) ?_
    exact kk q K n S1 L1 R1 f1 a1 H1 locs1 rfl ⟨hC, hM, hdis, J⟩
set_option maxRecDepth 100000 in
set_option maxHeartbeats 4000000 in
theorem law_c24 (C : CallFix p m c cL_law 4 s #[Value.ref b] wsL_law RL) (hcx : cX (lA s) s) (hX : va_X b L0 xs s s.heap) (hbl : b < s.heap.size) (hi : i + 7 ≤ L0) (hL : L0 ≤ 3584) (hw0 : LW D cI cJ cZ cP cS cI2 q q2 K n S L R f a s H locs) (hl : lv_has ls 4 [(0, .ref b), (1, .ref (q 0)), (2, .ref (q2 0)), (3, .int (nI i))]) (hcs : cells + 2 ≤ 600000 ∧ slots + 11 ≤ 7302250)
    (kk : ∀ (q1 : Nat → Nat) (K1 : Nat → Nat) (n1 : Nat) (S1 : Nat → Nat → Int32) (L1 : Nat → Int64) (R1 : Nat → Option Nat) (f1 : Nat → Int32) (a1 : Nat → Nat → Int32) (H1 : Heap) (locs1 : List Loc), q1 0 = q 0 → LW D cI cJ cZ cP cS cI2 q1 q2 K1 n1 S1 L1 R1 f1 a1 s H1 locs1 → W p l e room_1 s m #[Value.ref b] below meth c H1 locs1 (cells + 2) (slots + 11) Q (F0 m 1298 ls [])) :
    W p l e room_1 s m #[Value.ref b] below meth c H locs cells slots Q (F0 m 1193 ls []) := by
  obtain ⟨hC, hM, hdis, M, I⟩ := hw0
  have hbA : ¬ lA s b := Nat.not_le.mpr hbl
  have v1 : vp_in (nI i + (1 : Int32)) L0 := by rw [show (1 : Int32) = nI 1 from rfl, nI_add]; exact vp_in_nI (by omega) (by omega)
  refine lv_aload_n C.1 C.2.1 dL_law_1193 rfl (lv_at hl 1 rfl) ?_
  refine lv_aload_n C.1 C.2.1 dL_law_1194 rfl (lv_at hl 0 rfl) ?_
  refine lv_iload_n C.1 C.2.1 dL_law_1195 rfl (lv_at hl 3 rfl) ?_
  refine lv_iconst (v := 1) C.1 C.2.1 dL_law_1196 (by decide) ?_
  refine lv_iadd C.1 C.2.1 dL_law_1197 ?_
  refine va_sld C.1 C.2.1 hX hbl hbA hC.2.2.2.1 v1 dL_law_1198 ?_
  have hv := pr_ring (L := L) I (xs (nI i + (1 : Int32)).toNatClampNeg)
  refine kL_i hC hM hdis (va_runV (As := [.int (xs (nI i + (1 : Int32)).toNatClampNeg)]) (rest := []) C (mtX10_ring l D q cI cJ cZ cP cS K n H.size (xs (nI i + (1 : Int32)).toNatClampNeg) S L R _ hv) (cwV 1 C.2.2.2.2 gL_law_X10_ring rfl rfl rfl (by decide +kernel) ⟨Nat.le_of_ble_eq_true rfl, Nat.le_of_ble_eq_true rfl⟩) ⟨mP_blind cX_B, va_recv hC.1 hC.2.1 (ci := 10) (q0 := 0) rfl (wL_get (by omega)), fun U hU hV => ⟨rfl, hC.pre hU hV (hcx.call hC hU hV)⟩⟩ rfl rfl hl.1 rfl (lv_room (Nat.le_of_ble_eq_true rfl)) dL_law_1199 ⟨show cells + 0 ≤ 600000 by omega, show slots + 0 ≤ 7302250 by omega⟩) (fun r u H1 locs1 h hC hM => ?_)
  obtain ⟨S1, L1, R1⟩ := u
  try dsimp only at h hC
  refine lv_aload_n C.1 C.2.1 dL_law_1202 rfl (lv_at hl 2 rfl) ?_
  refine lv_aload_n C.1 C.2.1 dL_law_1203 rfl (lv_at hl 0 rfl) ?_
  refine lv_iload_n C.1 C.2.1 dL_law_1204 rfl (lv_at hl 3 rfl) ?_
  refine lv_iconst (v := 1) C.1 C.2.1 dL_law_1205 (by decide) ?_
  refine lv_iadd C.1 C.2.1 dL_law_1206 ?_
  refine va_sld C.1 C.2.1 hX hbl hbA hC.2.2.2.1 v1 dL_law_1207 ?_
  refine kL_i hM hC (fun i hi j hj e => hdis j hj i hi e.symm) (va_runV (As := [.int (xs (nI i + (1 : Int32)).toNatClampNeg)]) (rest := [.int r]) C (mtX11_ring l D q2 cI2 H1.size (xs (nI i + (1 : Int32)).toNatClampNeg) f a _ h) (cwV 1 C.2.2.2.2 gL_law_X11_ring rfl rfl rfl (by decide +kernel) ⟨Nat.le_of_ble_eq_true rfl, Nat.le_of_ble_eq_true rfl⟩) ⟨mP_blind tX_B, va_recv hM.1 hM.2.1 (ci := 11) (q0 := 0) rfl (wL_get (by decide)), fun U hU hV => ⟨rfl, hM.pre hU hV trivial⟩⟩ rfl rfl hl.1 rfl (lv_room (Nat.le_of_ble_eq_true rfl)) dL_law_1208 ⟨show cells + 0 ≤ 600000 by omega, show slots + 0 ≤ 7302250 by omega⟩) (fun r2 u H1 locs1 h hM hC => ?_)
  obtain ⟨f1, a1⟩ := u
  obtain ⟨er, J⟩ := h
  try dsimp only at er J hM
  refine lv_icmp_eq (tgt := 1298) C.1 C.2.1 dL_law_1211 (by decide) (fun _ => ?_) (fun ne => absurd er ne)
  · skip
    refine W.widen (k := cells + 2) (n := slots + 11) (by omega) (by omega) ?_
    exact kk q K n S1 L1 R1 f1 a1 H1 locs1 rfl ⟨hC, hM, hdis, J⟩
end LC
