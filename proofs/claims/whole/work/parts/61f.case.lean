section LC
variable {p : Program} {l : Launch} {e : Env} {s : State} {m : MethodId} {below : List Frame} {meth : Method} {c : Code} {b L0 i : Nat} {xs : Nat → Int32} {D : va_G} {cI cJ cZ cP cS cI2 : ClassId} {q q2 : Nat → Nat} {K : Nat → Nat} {n : Nat} {S : Nat → Nat → Int32} {L : Nat → Int64} {R : Nat → Option Nat} {f : Nat → Int32} {a : Nat → Nat → Int32} {H : Heap} {locs : List Loc} {ls : Array Slot} {cells slots : Nat} {Q : State → Prop}
set_option maxRecDepth 100000 in
set_option maxHeartbeats 4000000 in
theorem law_c25 (C : CallFix p m c cL_law 4 s #[Value.ref b] wsL_law RL) (hcx : cX (lA s) s) (hX : va_X b L0 xs s s.heap) (hbl : b < s.heap.size) (hi : i + 7 ≤ L0) (hL : L0 ≤ 3584) (hw0 : LW D cI cJ cZ cP cS cI2 q q2 K n S L R f a s H locs) (hl : lv_has ls 4 [(0, .ref b), (1, .ref (q 0)), (2, .ref (q2 0)), (3, .int (nI i))]) (hcs : cells + 2 ≤ 600000 ∧ slots + 11 ≤ 7302250)
    (kk : ∀ (q1 : Nat → Nat) (K1 : Nat → Nat) (n1 : Nat) (S1 : Nat → Nat → Int32) (L1 : Nat → Int64) (R1 : Nat → Option Nat) (f1 : Nat → Int32) (a1 : Nat → Nat → Int32) (H1 : Heap) (locs1 : List Loc), q1 0 = q 0 → LW D cI cJ cZ cP cS cI2 q1 q2 K1 n1 S1 L1 R1 f1 a1 s H1 locs1 → W p l e room_1 s m #[Value.ref b] below meth c H1 locs1 (cells + 2) (slots + 11) Q (F0 m 1298 ls [])) :
    W p l e room_1 s m #[Value.ref b] below meth c H locs cells slots Q (F0 m 1216 ls []) := by
  obtain ⟨hC, hM, hdis, M, I⟩ := hw0
  have hbA : ¬ lA s b := Nat.not_le.mpr hbl
  have v1 : vp_in (nI i + (1 : Int32)) L0 := by rw [show (1 : Int32) = nI 1 from rfl, nI_add]; exact vp_in_nI (by omega) (by omega)
  have v2 : vp_in (nI i + (2 : Int32)) L0 := by rw [show (2 : Int32) = nI 2 from rfl, nI_add]; exact vp_in_nI (by omega) (by omega)
  refine lv_aload_n C.1 C.2.1 dL_law_1216 rfl (lv_at hl 1 rfl) ?_
  refine lv_aload_n C.1 C.2.1 dL_law_1217 rfl (lv_at hl 0 rfl) ?_
  refine lv_iload_n C.1 C.2.1 dL_law_1218 rfl (lv_at hl 3 rfl) ?_
  refine lv_iconst (v := 1) C.1 C.2.1 dL_law_1219 (by decide) ?_
  refine lv_iadd C.1 C.2.1 dL_law_1220 ?_
  refine va_sld C.1 C.2.1 hX hbl hbA hC.2.2.2.1 v1 dL_law_1221 ?_
  refine lv_aload_n C.1 C.2.1 dL_law_1222 rfl (lv_at hl 0 rfl) ?_
  refine lv_iload_n C.1 C.2.1 dL_law_1223 rfl (lv_at hl 3 rfl) ?_
  refine lv_iconst (v := 2) C.1 C.2.1 dL_law_1224 (by decide) ?_
  refine lv_iadd C.1 C.2.1 dL_law_1225 ?_
  refine va_sld C.1 C.2.1 hX hbl hbA hC.2.2.2.1 v2 dL_law_1226 ?_
  have hv := pr_as (L := L) I (xs (nI i + (1 : Int32)).toNatClampNeg) (xs (nI i + (2 : Int32)).toNatClampNeg)
  refine kL_i hC hM hdis (va_runV (As := [.int (xs (nI i + (1 : Int32)).toNatClampNeg), .int (xs (nI i + (2 : Int32)).toNatClampNeg)]) (rest := []) C (mtX10_as l D q cI cJ cZ cP cS K n H.size (xs (nI i + (1 : Int32)).toNatClampNeg) (xs (nI i + (2 : Int32)).toNatClampNeg) S L R _ hv) (cwV 2 C.2.2.2.2 gL_law_X10_as rfl rfl rfl (by decide +kernel) ⟨Nat.le_of_ble_eq_true rfl, Nat.le_of_ble_eq_true rfl⟩) ⟨mP_blind cX_B, va_recv hC.1 hC.2.1 (ci := 10) (q0 := 0) rfl (wL_get (by omega)), fun U hU hV => ⟨rfl, hC.pre hU hV (hcx.call hC hU hV)⟩⟩ rfl rfl hl.1 rfl (lv_room (Nat.le_of_ble_eq_true rfl)) dL_law_1227 ⟨show cells + 0 ≤ 600000 by omega, show slots + 0 ≤ 7302250 by omega⟩) (fun r u H1 locs1 h hC hM => ?_)
  obtain ⟨S1, L1, R1⟩ := u
  try dsimp only at h hC
  refine lv_aload_n C.1 C.2.1 dL_law_1230 rfl (lv_at hl 2 rfl) ?_
  refine lv_aload_n C.1 C.2.1 dL_law_1231 rfl (lv_at hl 0 rfl) ?_
  refine lv_iload_n C.1 C.2.1 dL_law_1232 rfl (lv_at hl 3 rfl) ?_
  refine lv_iconst (v := 1) C.1 C.2.1 dL_law_1233 (by decide) ?_
  refine lv_iadd C.1 C.2.1 dL_law_1234 ?_
  refine va_sld C.1 C.2.1 hX hbl hbA hC.2.2.2.1 v1 dL_law_1235 ?_
  refine lv_aload_n C.1 C.2.1 dL_law_1236 rfl (lv_at hl 0 rfl) ?_
  refine lv_iload_n C.1 C.2.1 dL_law_1237 rfl (lv_at hl 3 rfl) ?_
  refine lv_iconst (v := 2) C.1 C.2.1 dL_law_1238 (by decide) ?_
  refine lv_iadd C.1 C.2.1 dL_law_1239 ?_
  refine va_sld C.1 C.2.1 hX hbl hbA hC.2.2.2.1 v2 dL_law_1240 ?_
  refine kL_i hM hC (fun i hi j hj e => hdis j hj i hi e.symm) (va_runV (As := [.int (xs (nI i + (1 : Int32)).toNatClampNeg), .int (xs (nI i + (2 : Int32)).toNatClampNeg)]) (rest := [.int r]) C (mtX11_as l D q2 cI2 H1.size (xs (nI i + (1 : Int32)).toNatClampNeg) (xs (nI i + (2 : Int32)).toNatClampNeg) f a _ h) (cwV 2 C.2.2.2.2 gL_law_X11_as rfl rfl rfl (by decide +kernel) ⟨Nat.le_of_ble_eq_true rfl, Nat.le_of_ble_eq_true rfl⟩) ⟨mP_blind tX_B, va_recv hM.1 hM.2.1 (ci := 11) (q0 := 0) rfl (wL_get (by decide)), fun U hU hV => ⟨rfl, hM.pre hU hV trivial⟩⟩ rfl rfl hl.1 rfl (lv_room (Nat.le_of_ble_eq_true rfl)) dL_law_1241 ⟨show cells + 0 ≤ 600000 by omega, show slots + 0 ≤ 7302250 by omega⟩) (fun r2 u H1 locs1 h hM hC => ?_)
  obtain ⟨f1, a1⟩ := u
  obtain ⟨er, J⟩ := h
  try dsimp only at er J hM
  refine lv_icmp_eq (tgt := 1298) C.1 C.2.1 dL_law_1244 (by decide) (fun _ => ?_) (fun ne => absurd er ne)
  · skip
    refine W.widen (k := cells + 2) (n := slots + 11) (by omega) (by omega) ?_
    exact kk q K n S1 L1 R1 f1 a1 H1 locs1 rfl ⟨hC, hM, hdis, J⟩
set_option maxRecDepth 100000 in
set_option maxHeartbeats 4000000 in
theorem law_c26 (C : CallFix p m c cL_law 4 s #[Value.ref b] wsL_law RL) (hcx : cX (lA s) s) (hX : va_X b L0 xs s s.heap) (hbl : b < s.heap.size) (hi : i + 7 ≤ L0) (hL : L0 ≤ 3584) (hw0 : LW D cI cJ cZ cP cS cI2 q q2 K n S L R f a s H locs) (hl : lv_has ls 4 [(0, .ref b), (1, .ref (q 0)), (2, .ref (q2 0)), (3, .int (nI i))]) (hcs : cells + 2 ≤ 600000 ∧ slots + 11 ≤ 7302250)
    (kk : ∀ (q1 : Nat → Nat) (K1 : Nat → Nat) (n1 : Nat) (S1 : Nat → Nat → Int32) (L1 : Nat → Int64) (R1 : Nat → Option Nat) (f1 : Nat → Int32) (a1 : Nat → Nat → Int32) (H1 : Heap) (locs1 : List Loc), q1 0 = q 0 → LW D cI cJ cZ cP cS cI2 q1 q2 K1 n1 S1 L1 R1 f1 a1 s H1 locs1 → W p l e room_1 s m #[Value.ref b] below meth c H1 locs1 (cells + 2) (slots + 11) Q (F0 m 1298 ls [])) :
    W p l e room_1 s m #[Value.ref b] below meth c H locs cells slots Q (F0 m 1249 ls []) := by
  obtain ⟨hC, hM, hdis, M, I⟩ := hw0
  have hbA : ¬ lA s b := Nat.not_le.mpr hbl
  refine lv_aload_n C.1 C.2.1 dL_law_1249 rfl (lv_at hl 1 rfl) ?_
  have hv := pr_trace (L := L) I 
  refine kL_i hC hM hdis (va_runV (As := []) (rest := []) C (mtX10_trace l D q cI cJ cZ cP cS K n H.size S L R _ hv) (cwV 0 C.2.2.2.2 gL_law_X10_trace rfl rfl rfl (by decide +kernel) ⟨Nat.le_of_ble_eq_true rfl, Nat.le_of_ble_eq_true rfl⟩) ⟨mP_blind cX_B, va_recv hC.1 hC.2.1 (ci := 10) (q0 := 0) rfl (wL_get (by omega)), fun U hU hV => ⟨rfl, hC.pre hU hV (hcx.call hC hU hV)⟩⟩ rfl rfl hl.1 rfl (lv_room (Nat.le_of_ble_eq_true rfl)) dL_law_1250 ⟨show cells + 0 ≤ 600000 by omega, show slots + 0 ≤ 7302250 by omega⟩) (fun r u H1 locs1 h hC hM => ?_)
  obtain ⟨S1, L1, R1⟩ := u
  try dsimp only at h hC
  refine lv_aload_n C.1 C.2.1 dL_law_1253 rfl (lv_at hl 2 rfl) ?_
  refine kL_i hM hC (fun i hi j hj e => hdis j hj i hi e.symm) (va_runV (As := []) (rest := [.int r]) C (mtX11_trace l D q2 cI2 H1.size f a _ h) (cwV 0 C.2.2.2.2 gL_law_X11_trace rfl rfl rfl (by decide +kernel) ⟨Nat.le_of_ble_eq_true rfl, Nat.le_of_ble_eq_true rfl⟩) ⟨mP_blind tX_B, va_recv hM.1 hM.2.1 (ci := 11) (q0 := 0) rfl (wL_get (by decide)), fun U hU hV => ⟨rfl, hM.pre hU hV trivial⟩⟩ rfl rfl hl.1 rfl (lv_room (Nat.le_of_ble_eq_true rfl)) dL_law_1254 ⟨show cells + 0 ≤ 600000 by omega, show slots + 0 ≤ 7302250 by omega⟩) (fun r2 u H1 locs1 h hM hC => ?_)
  obtain ⟨f1, a1⟩ := u
  obtain ⟨er, J⟩ := h
  try dsimp only at er J hM
  refine lv_icmp_eq (tgt := 1298) C.1 C.2.1 dL_law_1257 (by decide) (fun _ => ?_) (fun ne => absurd er ne)
  · skip
    refine W.widen (k := cells + 2) (n := slots + 11) (by omega) (by omega) ?_
    exact kk q K n S1 L1 R1 f1 a1 H1 locs1 rfl ⟨hC, hM, hdis, J⟩
set_option maxRecDepth 100000 in
set_option maxHeartbeats 4000000 in
theorem law_c27 (C : CallFix p m c cL_law 4 s #[Value.ref b] wsL_law RL) (hcx : cX (lA s) s) (hX : va_X b L0 xs s s.heap) (hbl : b < s.heap.size) (hi : i + 7 ≤ L0) (hL : L0 ≤ 3584) (hw0 : LW D cI cJ cZ cP cS cI2 q q2 K n S L R f a s H locs) (hl : lv_has ls 4 [(0, .ref b), (1, .ref (q 0)), (2, .ref (q2 0)), (3, .int (nI i))]) (hcs : cells + 2 ≤ 600000 ∧ slots + 11 ≤ 7302250)
    (kk : ∀ (q1 : Nat → Nat) (K1 : Nat → Nat) (n1 : Nat) (S1 : Nat → Nat → Int32) (L1 : Nat → Int64) (R1 : Nat → Option Nat) (f1 : Nat → Int32) (a1 : Nat → Nat → Int32) (H1 : Heap) (locs1 : List Loc), q1 0 = q 0 → LW D cI cJ cZ cP cS cI2 q1 q2 K1 n1 S1 L1 R1 f1 a1 s H1 locs1 → W p l e room_1 s m #[Value.ref b] below meth c H1 locs1 (cells + 2) (slots + 11) Q (F0 m 1298 ls [])) :
    W p l e room_1 s m #[Value.ref b] below meth c H locs cells slots Q (F0 m 1262 ls []) := by
  obtain ⟨hC, hM, hdis, M, I⟩ := hw0
  have hbA : ¬ lA s b := Nat.not_le.mpr hbl
  refine lv_aload_n C.1 C.2.1 dL_law_1262 rfl (lv_at hl 1 rfl) ?_
  have hv := pr_fault (L := L) I 
  refine kL_i hC hM hdis (va_runV (As := []) (rest := []) C (mtX10_fault l D q cI cJ cZ cP cS K n H.size S L R _ hv) (cwV 0 C.2.2.2.2 gL_law_X10_fault rfl rfl rfl (by decide +kernel) ⟨Nat.le_of_ble_eq_true rfl, Nat.le_of_ble_eq_true rfl⟩) ⟨mP_blind cX_B, va_recv hC.1 hC.2.1 (ci := 10) (q0 := 0) rfl (wL_get (by omega)), fun U hU hV => ⟨rfl, hC.pre hU hV (hcx.call hC hU hV)⟩⟩ rfl rfl hl.1 rfl (lv_room (Nat.le_of_ble_eq_true rfl)) dL_law_1263 ⟨show cells + 0 ≤ 600000 by omega, show slots + 0 ≤ 7302250 by omega⟩) (fun r u H1 locs1 h hC hM => ?_)
  obtain ⟨S1, L1, R1⟩ := u
  try dsimp only at h hC
  refine lv_aload_n C.1 C.2.1 dL_law_1266 rfl (lv_at hl 2 rfl) ?_
  refine kL_i hM hC (fun i hi j hj e => hdis j hj i hi e.symm) (va_runV (As := []) (rest := [.int r]) C (mtX11_fault l D q2 cI2 H1.size f a _ h) (cwV 0 C.2.2.2.2 gL_law_X11_fault rfl rfl rfl (by decide +kernel) ⟨Nat.le_of_ble_eq_true rfl, Nat.le_of_ble_eq_true rfl⟩) ⟨mP_blind tX_B, va_recv hM.1 hM.2.1 (ci := 11) (q0 := 0) rfl (wL_get (by decide)), fun U hU hV => ⟨rfl, hM.pre hU hV trivial⟩⟩ rfl rfl hl.1 rfl (lv_room (Nat.le_of_ble_eq_true rfl)) dL_law_1267 ⟨show cells + 0 ≤ 600000 by omega, show slots + 0 ≤ 7302250 by omega⟩) (fun r2 u H1 locs1 h hM hC => ?_)
  obtain ⟨f1, a1⟩ := u
  obtain ⟨er, J⟩ := h
  try dsimp only at er J hM
  refine lv_icmp_eq (tgt := 1298) C.1 C.2.1 dL_law_1270 (by decide) (fun _ => ?_) (fun ne => absurd er ne)
  · skip
    refine W.widen (k := cells + 2) (n := slots + 11) (by omega) (by omega) ?_
    exact kk q K n S1 L1 R1 f1 a1 H1 locs1 rfl ⟨hC, hM, hdis, J⟩
set_option maxRecDepth 100000 in
set_option maxHeartbeats 4000000 in
theorem law_c28 (C : CallFix p m c cL_law 4 s #[Value.ref b] wsL_law RL) (hcx : cX (lA s) s) (hX : va_X b L0 xs s s.heap) (hbl : b < s.heap.size) (hi : i + 7 ≤ L0) (hL : L0 ≤ 3584) (hw0 : LW D cI cJ cZ cP cS cI2 q q2 K n S L R f a s H locs) (hl : lv_has ls 4 [(0, .ref b), (1, .ref (q 0)), (2, .ref (q2 0)), (3, .int (nI i))]) (hcs : cells + 2 ≤ 600000 ∧ slots + 11 ≤ 7302250)
    (kk : ∀ (q1 : Nat → Nat) (K1 : Nat → Nat) (n1 : Nat) (S1 : Nat → Nat → Int32) (L1 : Nat → Int64) (R1 : Nat → Option Nat) (f1 : Nat → Int32) (a1 : Nat → Nat → Int32) (H1 : Heap) (locs1 : List Loc), q1 0 = q 0 → LW D cI cJ cZ cP cS cI2 q1 q2 K1 n1 S1 L1 R1 f1 a1 s H1 locs1 → W p l e room_1 s m #[Value.ref b] below meth c H1 locs1 (cells + 2) (slots + 11) Q (F0 m 1298 ls [])) :
    W p l e room_1 s m #[Value.ref b] below meth c H locs cells slots Q (F0 m 1275 ls []) := by
  obtain ⟨hC, hM, hdis, M, I⟩ := hw0
  have hbA : ¬ lA s b := Nat.not_le.mpr hbl
  have v1 : vp_in (nI i + (1 : Int32)) L0 := by rw [show (1 : Int32) = nI 1 from rfl, nI_add]; exact vp_in_nI (by omega) (by omega)
  refine lv_aload_n C.1 C.2.1 dL_law_1275 rfl (lv_at hl 1 rfl) ?_
  refine lv_aload_n C.1 C.2.1 dL_law_1276 rfl (lv_at hl 0 rfl) ?_
  refine lv_iload_n C.1 C.2.1 dL_law_1277 rfl (lv_at hl 3 rfl) ?_
  refine lv_iconst (v := 1) C.1 C.2.1 dL_law_1278 (by decide) ?_
  refine lv_iadd C.1 C.2.1 dL_law_1279 ?_
  refine va_sld C.1 C.2.1 hX hbl hbA hC.2.2.2.1 v1 dL_law_1280 ?_
  have hv := pr_many (L := L) I (xs (nI i + (1 : Int32)).toNatClampNeg)
  refine kL_i hC hM hdis (va_runV (As := [.int (xs (nI i + (1 : Int32)).toNatClampNeg)]) (rest := []) C (mtX10_many l D q cI cJ cZ cP cS K n H.size (xs (nI i + (1 : Int32)).toNatClampNeg) S L R _ hv) (cwV 1 C.2.2.2.2 gL_law_X10_many rfl rfl rfl (by decide +kernel) ⟨Nat.le_of_ble_eq_true rfl, Nat.le_of_ble_eq_true rfl⟩) ⟨mP_blind cX_B, va_recv hC.1 hC.2.1 (ci := 10) (q0 := 0) rfl (wL_get (by omega)), fun U hU hV => ⟨rfl, hC.pre hU hV (hcx.call hC hU hV)⟩⟩ rfl rfl hl.1 rfl (lv_room (Nat.le_of_ble_eq_true rfl)) dL_law_1281 ⟨show cells + 0 ≤ 600000 by omega, show slots + 0 ≤ 7302250 by omega⟩) (fun r u H1 locs1 h hC hM => ?_)
  obtain ⟨S1, L1, R1⟩ := u
  try dsimp only at h hC
  refine lv_aload_n C.1 C.2.1 dL_law_1284 rfl (lv_at hl 2 rfl) ?_
  refine lv_aload_n C.1 C.2.1 dL_law_1285 rfl (lv_at hl 0 rfl) ?_
  refine lv_iload_n C.1 C.2.1 dL_law_1286 rfl (lv_at hl 3 rfl) ?_
  refine lv_iconst (v := 1) C.1 C.2.1 dL_law_1287 (by decide) ?_
  refine lv_iadd C.1 C.2.1 dL_law_1288 ?_
  refine va_sld C.1 C.2.1 hX hbl hbA hC.2.2.2.1 v1 dL_law_1289 ?_
  refine kL_i hM hC (fun i hi j hj e => hdis j hj i hi e.symm) (va_runV (As := [.int (xs (nI i + (1 : Int32)).toNatClampNeg)]) (rest := [.int r]) C (mtX11_many l D q2 cI2 H1.size (xs (nI i + (1 : Int32)).toNatClampNeg) f a _ h) (cwV 1 C.2.2.2.2 gL_law_X11_many rfl rfl rfl (by decide +kernel) ⟨Nat.le_of_ble_eq_true rfl, Nat.le_of_ble_eq_true rfl⟩) ⟨mP_blind tX_B, va_recv hM.1 hM.2.1 (ci := 11) (q0 := 0) rfl (wL_get (by decide)), fun U hU hV => ⟨rfl, hM.pre hU hV trivial⟩⟩ rfl rfl hl.1 rfl (lv_room (Nat.le_of_ble_eq_true rfl)) dL_law_1290 ⟨show cells + 0 ≤ 600000 by omega, show slots + 0 ≤ 7302250 by omega⟩) (fun r2 u H1 locs1 h hM hC => ?_)
  obtain ⟨f1, a1⟩ := u
  obtain ⟨er, J⟩ := h
  try dsimp only at er J hM
  refine lv_icmp_eq (tgt := 1298) C.1 C.2.1 dL_law_1293 (by decide) (fun _ => ?_) (fun ne => absurd er ne)
  · skip
    refine W.widen (k := cells + 2) (n := slots + 11) (by omega) (by omega) ?_
    exact kk q K n S1 L1 R1 f1 a1 H1 locs1 rfl ⟨hC, hM, hdis, J⟩
end LC
