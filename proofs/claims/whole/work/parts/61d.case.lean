section LC
variable {p : Program} {l : Launch} {e : Env} {s : State} {m : MethodId} {below : List Frame} {meth : Method} {c : Code} {b L0 i : Nat} {xs : Nat → Int32} {D : va_G} {cI cJ cZ cP cS cI2 : ClassId} {q q2 : Nat → Nat} {K : Nat → Nat} {n : Nat} {S : Nat → Nat → Int32} {L : Nat → Int64} {R : Nat → Option Nat} {f : Nat → Int32} {a : Nat → Nat → Int32} {H : Heap} {locs : List Loc} {ls : Array Slot} {cells slots : Nat} {Q : State → Prop}
set_option maxRecDepth 100000 in
set_option maxHeartbeats 4000000 in
theorem law_c15 (C : CallFix p m c cL_law 4 s #[Value.ref b] wsL_law RL) (hcx : cX (lA s) s) (hX : va_X b L0 xs s s.heap) (hbl : b < s.heap.size) (hi : i + 7 ≤ L0) (hL : L0 ≤ 3584) (hw0 : LW D cI cJ cZ cP cS cI2 q q2 K n S L R f a s H locs) (hl : lv_has ls 4 [(0, .ref b), (1, .ref (q 0)), (2, .ref (q2 0)), (3, .int (nI i))]) (hcs : cells + 2 ≤ 600000 ∧ slots + 11 ≤ 7302250)
    (kk : ∀ (q1 : Nat → Nat) (K1 : Nat → Nat) (n1 : Nat) (S1 : Nat → Nat → Int32) (L1 : Nat → Int64) (R1 : Nat → Option Nat) (f1 : Nat → Int32) (a1 : Nat → Nat → Int32) (H1 : Heap) (locs1 : List Loc), q1 0 = q 0 → LW D cI cJ cZ cP cS cI2 q1 q2 K1 n1 S1 L1 R1 f1 a1 s H1 locs1 → W p l e room_1 s m #[Value.ref b] below meth c H1 locs1 (cells + 2) (slots + 11) Q (F0 m 1298 ls [])) :
    W p l e room_1 s m #[Value.ref b] below meth c H locs cells slots Q (F0 m 815 ls []) := by
  obtain ⟨hC, hM, hdis, M, I⟩ := hw0
  have hbA : ¬ lA s b := Nat.not_le.mpr hbl
  have v1 : vp_in (nI i + (1 : Int32)) L0 := by rw [show (1 : Int32) = nI 1 from rfl, nI_add]; exact vp_in_nI (by omega) (by omega)
  have v2 : vp_in (nI i + (2 : Int32)) L0 := by rw [show (2 : Int32) = nI 2 from rfl, nI_add]; exact vp_in_nI (by omega) (by omega)
  refine lv_aload_n C.1 C.2.1 dL_law_815 rfl (lv_at hl 1 rfl) ?_
  refine lv_aload_n C.1 C.2.1 dL_law_816 rfl (lv_at hl 0 rfl) ?_
  refine lv_iload_n C.1 C.2.1 dL_law_817 rfl (lv_at hl 3 rfl) ?_
  refine lv_iconst (v := 1) C.1 C.2.1 dL_law_818 (by decide) ?_
  refine lv_iadd C.1 C.2.1 dL_law_819 ?_
  refine va_sld C.1 C.2.1 hX hbl hbA hC.2.2.2.1 v1 dL_law_820 ?_
  refine lv_aload_n C.1 C.2.1 dL_law_821 rfl (lv_at hl 0 rfl) ?_
  refine lv_iload_n C.1 C.2.1 dL_law_822 rfl (lv_at hl 3 rfl) ?_
  refine lv_iconst (v := 2) C.1 C.2.1 dL_law_823 (by decide) ?_
  refine lv_iadd C.1 C.2.1 dL_law_824 ?_
  refine va_sld C.1 C.2.1 hX hbl hbA hC.2.2.2.1 v2 dL_law_825 ?_
  have hv := pr_best (L := L) I (xs (nI i + (1 : Int32)).toNatClampNeg) (xs (nI i + (2 : Int32)).toNatClampNeg)
  refine kL_i hC hM hdis (va_runV (As := [.int (xs (nI i + (1 : Int32)).toNatClampNeg), .int (xs (nI i + (2 : Int32)).toNatClampNeg)]) (rest := []) C (mtX10_best l D q cI cJ cZ cP cS K n H.size (xs (nI i + (1 : Int32)).toNatClampNeg) (xs (nI i + (2 : Int32)).toNatClampNeg) S L R _ hv) (cwV 2 C.2.2.2.2 gL_law_X10_best rfl rfl rfl (by decide +kernel) ⟨Nat.le_of_ble_eq_true rfl, Nat.le_of_ble_eq_true rfl⟩) ⟨mP_blind cX_B, va_recv hC.1 hC.2.1 (ci := 10) (q0 := 0) rfl (wL_get (by omega)), fun U hU hV => ⟨rfl, hC.pre hU hV (hcx.call hC hU hV)⟩⟩ rfl rfl hl.1 rfl (lv_room (Nat.le_of_ble_eq_true rfl)) dL_law_826 ⟨show cells + 0 ≤ 600000 by omega, show slots + 0 ≤ 7302250 by omega⟩) (fun r u H1 locs1 h hC hM => ?_)
  obtain ⟨S1, L1, R1⟩ := u
  try dsimp only at h hC
  refine lv_aload_n C.1 C.2.1 dL_law_829 rfl (lv_at hl 2 rfl) ?_
  refine lv_aload_n C.1 C.2.1 dL_law_830 rfl (lv_at hl 0 rfl) ?_
  refine lv_iload_n C.1 C.2.1 dL_law_831 rfl (lv_at hl 3 rfl) ?_
  refine lv_iconst (v := 1) C.1 C.2.1 dL_law_832 (by decide) ?_
  refine lv_iadd C.1 C.2.1 dL_law_833 ?_
  refine va_sld C.1 C.2.1 hX hbl hbA hC.2.2.2.1 v1 dL_law_834 ?_
  refine lv_aload_n C.1 C.2.1 dL_law_835 rfl (lv_at hl 0 rfl) ?_
  refine lv_iload_n C.1 C.2.1 dL_law_836 rfl (lv_at hl 3 rfl) ?_
  refine lv_iconst (v := 2) C.1 C.2.1 dL_law_837 (by decide) ?_
  refine lv_iadd C.1 C.2.1 dL_law_838 ?_
  refine va_sld C.1 C.2.1 hX hbl hbA hC.2.2.2.1 v2 dL_law_839 ?_
  refine kL_i hM hC (fun i hi j hj e => hdis j hj i hi e.symm) (va_runV (As := [.int (xs (nI i + (1 : Int32)).toNatClampNeg), .int (xs (nI i + (2 : Int32)).toNatClampNeg)]) (rest := [.int r]) C (mtX11_best l D q2 cI2 H1.size (xs (nI i + (1 : Int32)).toNatClampNeg) (xs (nI i + (2 : Int32)).toNatClampNeg) f a _ h) (cwV 2 C.2.2.2.2 gL_law_X11_best rfl rfl rfl (by decide +kernel) ⟨Nat.le_of_ble_eq_true rfl, Nat.le_of_ble_eq_true rfl⟩) ⟨mP_blind tX_B, va_recv hM.1 hM.2.1 (ci := 11) (q0 := 0) rfl (wL_get (by decide)), fun U hU hV => ⟨rfl, hM.pre hU hV trivial⟩⟩ rfl rfl hl.1 rfl (lv_room (Nat.le_of_ble_eq_true rfl)) dL_law_840 ⟨show cells + 0 ≤ 600000 by omega, show slots + 0 ≤ 7302250 by omega⟩) (fun r2 u H1 locs1 h hM hC => ?_)
  obtain ⟨f1, a1⟩ := u
  obtain ⟨er, J⟩ := h
  try dsimp only at er J hM
  refine lv_icmp_eq (tgt := 1298) C.1 C.2.1 dL_law_843 (by decide) (fun _ => ?_) (fun ne => absurd er ne)
  · skip
    refine W.widen (k := cells + 2) (n := slots + 11) (by omega) (by omega) ?_
    exact kk q K n S1 L1 R1 f1 a1 H1 locs1 rfl ⟨hC, hM, hdis, J⟩
set_option maxRecDepth 100000 in
set_option maxHeartbeats 4000000 in
theorem law_c16 (C : CallFix p m c cL_law 4 s #[Value.ref b] wsL_law RL) (hcx : cX (lA s) s) (hX : va_X b L0 xs s s.heap) (hbl : b < s.heap.size) (hi : i + 7 ≤ L0) (hL : L0 ≤ 3584) (hw0 : LW D cI cJ cZ cP cS cI2 q q2 K n S L R f a s H locs) (hl : lv_has ls 4 [(0, .ref b), (1, .ref (q 0)), (2, .ref (q2 0)), (3, .int (nI i))]) (hcs : cells + 2 ≤ 600000 ∧ slots + 11 ≤ 7302250)
    (kk : ∀ (q1 : Nat → Nat) (K1 : Nat → Nat) (n1 : Nat) (S1 : Nat → Nat → Int32) (L1 : Nat → Int64) (R1 : Nat → Option Nat) (f1 : Nat → Int32) (a1 : Nat → Nat → Int32) (H1 : Heap) (locs1 : List Loc), q1 0 = q 0 → LW D cI cJ cZ cP cS cI2 q1 q2 K1 n1 S1 L1 R1 f1 a1 s H1 locs1 → W p l e room_1 s m #[Value.ref b] below meth c H1 locs1 (cells + 2) (slots + 11) Q (F0 m 1298 ls [])) :
    W p l e room_1 s m #[Value.ref b] below meth c H locs cells slots Q (F0 m 848 ls []) := by
  obtain ⟨hC, hM, hdis, M, I⟩ := hw0
  have hbA : ¬ lA s b := Nat.not_le.mpr hbl
  have v1 : vp_in (nI i + (1 : Int32)) L0 := by rw [show (1 : Int32) = nI 1 from rfl, nI_add]; exact vp_in_nI (by omega) (by omega)
  have v2 : vp_in (nI i + (2 : Int32)) L0 := by rw [show (2 : Int32) = nI 2 from rfl, nI_add]; exact vp_in_nI (by omega) (by omega)
  have v3 : vp_in (nI i + (3 : Int32)) L0 := by rw [show (3 : Int32) = nI 3 from rfl, nI_add]; exact vp_in_nI (by omega) (by omega)
  have v4 : vp_in (nI i + (4 : Int32)) L0 := by rw [show (4 : Int32) = nI 4 from rfl, nI_add]; exact vp_in_nI (by omega) (by omega)
  refine lv_aload_n C.1 C.2.1 dL_law_848 rfl (lv_at hl 1 rfl) ?_
  refine lv_aload_n C.1 C.2.1 dL_law_849 rfl (lv_at hl 0 rfl) ?_
  refine lv_iload_n C.1 C.2.1 dL_law_850 rfl (lv_at hl 3 rfl) ?_
  refine lv_iconst (v := 1) C.1 C.2.1 dL_law_851 (by decide) ?_
  refine lv_iadd C.1 C.2.1 dL_law_852 ?_
  refine va_sld C.1 C.2.1 hX hbl hbA hC.2.2.2.1 v1 dL_law_853 ?_
  refine lv_aload_n C.1 C.2.1 dL_law_854 rfl (lv_at hl 0 rfl) ?_
  refine lv_iload_n C.1 C.2.1 dL_law_855 rfl (lv_at hl 3 rfl) ?_
  refine lv_iconst (v := 2) C.1 C.2.1 dL_law_856 (by decide) ?_
  refine lv_iadd C.1 C.2.1 dL_law_857 ?_
  refine va_sld C.1 C.2.1 hX hbl hbA hC.2.2.2.1 v2 dL_law_858 ?_
  refine lv_aload_n C.1 C.2.1 dL_law_859 rfl (lv_at hl 0 rfl) ?_
  refine lv_iload_n C.1 C.2.1 dL_law_860 rfl (lv_at hl 3 rfl) ?_
  refine lv_iconst (v := 3) C.1 C.2.1 dL_law_861 (by decide) ?_
  refine lv_iadd C.1 C.2.1 dL_law_862 ?_
  refine va_sld C.1 C.2.1 hX hbl hbA hC.2.2.2.1 v3 dL_law_863 ?_
  refine lv_aload_n C.1 C.2.1 dL_law_864 rfl (lv_at hl 0 rfl) ?_
  refine lv_iload_n C.1 C.2.1 dL_law_865 rfl (lv_at hl 3 rfl) ?_
  refine lv_iconst (v := 4) C.1 C.2.1 dL_law_866 (by decide) ?_
  refine lv_iadd C.1 C.2.1 dL_law_867 ?_
  refine va_sld C.1 C.2.1 hX hbl hbA hC.2.2.2.1 v4 dL_law_868 ?_
  have hv := pr_watch (L := L) I (xs (nI i + (1 : Int32)).toNatClampNeg) (xs (nI i + (2 : Int32)).toNatClampNeg) (xs (nI i + (3 : Int32)).toNatClampNeg) (xs (nI i + (4 : Int32)).toNatClampNeg)
  refine kL_i hC hM hdis (va_runV (As := [.int (xs (nI i + (1 : Int32)).toNatClampNeg), .int (xs (nI i + (2 : Int32)).toNatClampNeg), .int (xs (nI i + (3 : Int32)).toNatClampNeg), .int (xs (nI i + (4 : Int32)).toNatClampNeg)]) (rest := []) C (mtX10_watch l D q cI cJ cZ cP cS K n H.size (xs (nI i + (1 : Int32)).toNatClampNeg) (xs (nI i + (2 : Int32)).toNatClampNeg) (xs (nI i + (3 : Int32)).toNatClampNeg) (xs (nI i + (4 : Int32)).toNatClampNeg) S L R _ hv) (cwV 4 C.2.2.2.2 gL_law_X10_watch rfl rfl rfl (by decide +kernel) ⟨Nat.le_of_ble_eq_true rfl, Nat.le_of_ble_eq_true rfl⟩) ⟨mP_blind cX_B, va_recv hC.1 hC.2.1 (ci := 10) (q0 := 0) rfl (wL_get (by omega)), fun U hU hV => ⟨rfl, hC.pre hU hV (hcx.call hC hU hV)⟩⟩ rfl rfl hl.1 rfl (lv_room (Nat.le_of_ble_eq_true rfl)) dL_law_869 ⟨show cells + 0 ≤ 600000 by omega, show slots + 0 ≤ 7302250 by omega⟩) (fun r u H1 locs1 h hC hM => ?_)
  obtain ⟨S1, L1, R1⟩ := u
  try dsimp only at h hC
  refine lv_aload_n C.1 C.2.1 dL_law_872 rfl (lv_at hl 2 rfl) ?_
  refine lv_aload_n C.1 C.2.1 dL_law_873 rfl (lv_at hl 0 rfl) ?_
  refine lv_iload_n C.1 C.2.1 dL_law_874 rfl (lv_at hl 3 rfl) ?_
  refine lv_iconst (v := 1) C.1 C.2.1 dL_law_875 (by decide) ?_
  refine lv_iadd C.1 C.2.1 dL_law_876 ?_
  refine va_sld C.1 C.2.1 hX hbl hbA hC.2.2.2.1 v1 dL_law_877 ?_
  refine lv_aload_n C.1 C.2.1 dL_law_878 rfl (lv_at hl 0 rfl) ?_
  refine lv_iload_n C.1 C.2.1 dL_law_879 rfl (lv_at hl 3 rfl) ?_
  refine lv_iconst (v := 2) C.1 C.2.1 dL_law_880 (by decide) ?_
  refine lv_iadd C.1 C.2.1 dL_law_881 ?_
  refine va_sld C.1 C.2.1 hX hbl hbA hC.2.2.2.1 v2 dL_law_882 ?_
  refine lv_aload_n C.1 C.2.1 dL_law_883 rfl (lv_at hl 0 rfl) ?_
  refine lv_iload_n C.1 C.2.1 dL_law_884 rfl (lv_at hl 3 rfl) ?_
  refine lv_iconst (v := 3) C.1 C.2.1 dL_law_885 (by decide) ?_
  refine lv_iadd C.1 C.2.1 dL_law_886 ?_
  refine va_sld C.1 C.2.1 hX hbl hbA hC.2.2.2.1 v3 dL_law_887 ?_
  refine lv_aload_n C.1 C.2.1 dL_law_888 rfl (lv_at hl 0 rfl) ?_
  refine lv_iload_n C.1 C.2.1 dL_law_889 rfl (lv_at hl 3 rfl) ?_
  refine lv_iconst (v := 4) C.1 C.2.1 dL_law_890 (by decide) ?_
  refine lv_iadd C.1 C.2.1 dL_law_891 ?_
  refine va_sld C.1 C.2.1 hX hbl hbA hC.2.2.2.1 v4 dL_law_892 ?_
  refine kL_i hM hC (fun i hi j hj e => hdis j hj i hi e.symm) (va_runV (As := [.int (xs (nI i + (1 : Int32)).toNatClampNeg), .int (xs (nI i + (2 : Int32)).toNatClampNeg), .int (xs (nI i + (3 : Int32)).toNatClampNeg), .int (xs (nI i + (4 : Int32)).toNatClampNeg)]) (rest := [.int r]) C (mtX11_watch l D q2 cI2 H1.size (xs (nI i + (1 : Int32)).toNatClampNeg) (xs (nI i + (2 : Int32)).toNatClampNeg) (xs (nI i + (3 : Int32)).toNatClampNeg) (xs (nI i + (4 : Int32)).toNatClampNeg) f a _ h) (cwV 4 C.2.2.2.2 gL_law_X11_watch rfl rfl rfl (by decide +kernel) ⟨Nat.le_of_ble_eq_true rfl, Nat.le_of_ble_eq_true rfl⟩) ⟨mP_blind tX_B, va_recv hM.1 hM.2.1 (ci := 11) (q0 := 0) rfl (wL_get (by decide)), fun U hU hV => ⟨rfl, hM.pre hU hV trivial⟩⟩ rfl rfl hl.1 rfl (lv_room (Nat.le_of_ble_eq_true rfl)) dL_law_893 ⟨show cells + 0 ≤ 600000 by omega, show slots + 0 ≤ 7302250 by omega⟩) (fun r2 u H1 locs1 h hM hC => ?_)
  obtain ⟨f1, a1⟩ := u
  obtain ⟨er, J⟩ := h
  try dsimp only at er J hM
  refine lv_icmp_eq (tgt := 1298) C.1 C.2.1 dL_law_896 (by decide) (fun _ => ?_) (fun ne => absurd er ne)
  · skip
    refine W.widen (k := cells + 2) (n := slots + 11) (by omega) (by omega) ?_
    exact kk q K n S1 L1 R1 f1 a1 H1 locs1 rfl ⟨hC, hM, hdis, J⟩
set_option maxRecDepth 100000 in
set_option maxHeartbeats 4000000 in
theorem law_c17 (C : CallFix p m c cL_law 4 s #[Value.ref b] wsL_law RL) (hcx : cX (lA s) s) (hX : va_X b L0 xs s s.heap) (hbl : b < s.heap.size) (hi : i + 7 ≤ L0) (hL : L0 ≤ 3584) (hw0 : LW D cI cJ cZ cP cS cI2 q q2 K n S L R f a s H locs) (hl : lv_has ls 4 [(0, .ref b), (1, .ref (q 0)), (2, .ref (q2 0)), (3, .int (nI i))]) (hcs : cells + 2 ≤ 600000 ∧ slots + 11 ≤ 7302250)
    (kk : ∀ (q1 : Nat → Nat) (K1 : Nat → Nat) (n1 : Nat) (S1 : Nat → Nat → Int32) (L1 : Nat → Int64) (R1 : Nat → Option Nat) (f1 : Nat → Int32) (a1 : Nat → Nat → Int32) (H1 : Heap) (locs1 : List Loc), q1 0 = q 0 → LW D cI cJ cZ cP cS cI2 q1 q2 K1 n1 S1 L1 R1 f1 a1 s H1 locs1 → W p l e room_1 s m #[Value.ref b] below meth c H1 locs1 (cells + 2) (slots + 11) Q (F0 m 1298 ls [])) :
    W p l e room_1 s m #[Value.ref b] below meth c H locs cells slots Q (F0 m 901 ls []) := by
  obtain ⟨hC, hM, hdis, M, I⟩ := hw0
  have hbA : ¬ lA s b := Nat.not_le.mpr hbl
  have v1 : vp_in (nI i + (1 : Int32)) L0 := by rw [show (1 : Int32) = nI 1 from rfl, nI_add]; exact vp_in_nI (by omega) (by omega)
  have v2 : vp_in (nI i + (2 : Int32)) L0 := by rw [show (2 : Int32) = nI 2 from rfl, nI_add]; exact vp_in_nI (by omega) (by omega)
  have v3 : vp_in (nI i + (3 : Int32)) L0 := by rw [show (3 : Int32) = nI 3 from rfl, nI_add]; exact vp_in_nI (by omega) (by omega)
  have v4 : vp_in (nI i + (4 : Int32)) L0 := by rw [show (4 : Int32) = nI 4 from rfl, nI_add]; exact vp_in_nI (by omega) (by omega)
  refine lv_aload_n C.1 C.2.1 dL_law_901 rfl (lv_at hl 1 rfl) ?_
  refine lv_aload_n C.1 C.2.1 dL_law_902 rfl (lv_at hl 0 rfl) ?_
  refine lv_iload_n C.1 C.2.1 dL_law_903 rfl (lv_at hl 3 rfl) ?_
  refine lv_iconst (v := 1) C.1 C.2.1 dL_law_904 (by decide) ?_
  refine lv_iadd C.1 C.2.1 dL_law_905 ?_
  refine va_sld C.1 C.2.1 hX hbl hbA hC.2.2.2.1 v1 dL_law_906 ?_
  refine lv_aload_n C.1 C.2.1 dL_law_907 rfl (lv_at hl 0 rfl) ?_
  refine lv_iload_n C.1 C.2.1 dL_law_908 rfl (lv_at hl 3 rfl) ?_
  refine lv_iconst (v := 2) C.1 C.2.1 dL_law_909 (by decide) ?_
  refine lv_iadd C.1 C.2.1 dL_law_910 ?_
  refine va_sld C.1 C.2.1 hX hbl hbA hC.2.2.2.1 v2 dL_law_911 ?_
  refine lv_aload_n C.1 C.2.1 dL_law_912 rfl (lv_at hl 0 rfl) ?_
  refine lv_iload_n C.1 C.2.1 dL_law_913 rfl (lv_at hl 3 rfl) ?_
  refine lv_iconst (v := 3) C.1 C.2.1 dL_law_914 (by decide) ?_
  refine lv_iadd C.1 C.2.1 dL_law_915 ?_
  refine va_sld C.1 C.2.1 hX hbl hbA hC.2.2.2.1 v3 dL_law_916 ?_
  refine lv_aload_n C.1 C.2.1 dL_law_917 rfl (lv_at hl 0 rfl) ?_
  refine lv_iload_n C.1 C.2.1 dL_law_918 rfl (lv_at hl 3 rfl) ?_
  refine lv_iconst (v := 4) C.1 C.2.1 dL_law_919 (by decide) ?_
  refine lv_iadd C.1 C.2.1 dL_law_920 ?_
  refine va_sld C.1 C.2.1 hX hbl hbA hC.2.2.2.1 v4 dL_law_921 ?_
  have hv := pr_fits (L := L) I (xs (nI i + (1 : Int32)).toNatClampNeg) (xs (nI i + (2 : Int32)).toNatClampNeg) (xs (nI i + (3 : Int32)).toNatClampNeg) (xs (nI i + (4 : Int32)).toNatClampNeg)
  refine kL_i hC hM hdis (va_runV (As := [.int (xs (nI i + (1 : Int32)).toNatClampNeg), .int (xs (nI i + (2 : Int32)).toNatClampNeg), .int (xs (nI i + (3 : Int32)).toNatClampNeg), .int (xs (nI i + (4 : Int32)).toNatClampNeg)]) (rest := []) C (mtX10_fits l D q cI cJ cZ cP cS K n H.size (xs (nI i + (1 : Int32)).toNatClampNeg) (xs (nI i + (2 : Int32)).toNatClampNeg) (xs (nI i + (3 : Int32)).toNatClampNeg) (xs (nI i + (4 : Int32)).toNatClampNeg) S L R _ hv) (cwV 4 C.2.2.2.2 gL_law_X10_fits rfl rfl rfl (by decide +kernel) ⟨Nat.le_of_ble_eq_true rfl, Nat.le_of_ble_eq_true rfl⟩) ⟨mP_blind cX_B, va_recv hC.1 hC.2.1 (ci := 10) (q0 := 0) rfl (wL_get (by omega)), fun U hU hV => ⟨rfl, hC.pre hU hV (hcx.call hC hU hV)⟩⟩ rfl rfl hl.1 rfl (lv_room (Nat.le_of_ble_eq_true rfl)) dL_law_922 ⟨show cells + 0 ≤ 600000 by omega, show slots + 0 ≤ 7302250 by omega⟩) (fun r u H1 locs1 h hC hM => ?_)
  obtain ⟨S1, L1, R1⟩ := u
  try dsimp only at h hC
  refine lv_aload_n C.1 C.2.1 dL_law_925 rfl (lv_at hl 2 rfl) ?_
  refine lv_aload_n C.1 C.2.1 dL_law_926 rfl (lv_at hl 0 rfl) ?_
  refine lv_iload_n C.1 C.2.1 dL_law_927 rfl (lv_at hl 3 rfl) ?_
  refine lv_iconst (v := 1) C.1 C.2.1 dL_law_928 (by decide) ?_
  refine lv_iadd C.1 C.2.1 dL_law_929 ?_
  refine va_sld C.1 C.2.1 hX hbl hbA hC.2.2.2.1 v1 dL_law_930 ?_
  refine lv_aload_n C.1 C.2.1 dL_law_931 rfl (lv_at hl 0 rfl) ?_
  refine lv_iload_n C.1 C.2.1 dL_law_932 rfl (lv_at hl 3 rfl) ?_
  refine lv_iconst (v := 2) C.1 C.2.1 dL_law_933 (by decide) ?_
  refine lv_iadd C.1 C.2.1 dL_law_934 ?_
  refine va_sld C.1 C.2.1 hX hbl hbA hC.2.2.2.1 v2 dL_law_935 ?_
  refine lv_aload_n C.1 C.2.1 dL_law_936 rfl (lv_at hl 0 rfl) ?_
  refine lv_iload_n C.1 C.2.1 dL_law_937 rfl (lv_at hl 3 rfl) ?_
  refine lv_iconst (v := 3) C.1 C.2.1 dL_law_938 (by decide) ?_
  refine lv_iadd C.1 C.2.1 dL_law_939 ?_
  refine va_sld C.1 C.2.1 hX hbl hbA hC.2.2.2.1 v3 dL_law_940 ?_
  refine lv_aload_n C.1 C.2.1 dL_law_941 rfl (lv_at hl 0 rfl) ?_
  refine lv_iload_n C.1 C.2.1 dL_law_942 rfl (lv_at hl 3 rfl) ?_
  refine lv_iconst (v := 4) C.1 C.2.1 dL_law_943 (by decide) ?_
  refine lv_iadd C.1 C.2.1 dL_law_944 ?_
  refine va_sld C.1 C.2.1 hX hbl hbA hC.2.2.2.1 v4 dL_law_945 ?_
  refine kL_i hM hC (fun i hi j hj e => hdis j hj i hi e.symm) (va_runV (As := [.int (xs (nI i + (1 : Int32)).toNatClampNeg), .int (xs (nI i + (2 : Int32)).toNatClampNeg), .int (xs (nI i + (3 : Int32)).toNatClampNeg), .int (xs (nI i + (4 : Int32)).toNatClampNeg)]) (rest := [.int r]) C (mtX11_fits l D q2 cI2 H1.size (xs (nI i + (1 : Int32)).toNatClampNeg) (xs (nI i + (2 : Int32)).toNatClampNeg) (xs (nI i + (3 : Int32)).toNatClampNeg) (xs (nI i + (4 : Int32)).toNatClampNeg) f a _ h) (cwV 4 C.2.2.2.2 gL_law_X11_fits rfl rfl rfl (by decide +kernel) ⟨Nat.le_of_ble_eq_true rfl, Nat.le_of_ble_eq_true rfl⟩) ⟨mP_blind tX_B, va_recv hM.1 hM.2.1 (ci := 11) (q0 := 0) rfl (wL_get (by decide)), fun U hU hV => ⟨rfl, hM.pre hU hV trivial⟩⟩ rfl rfl hl.1 rfl (lv_room (Nat.le_of_ble_eq_true rfl)) dL_law_946 ⟨show cells + 0 ≤ 600000 by omega, show slots + 0 ≤ 7302250 by omega⟩) (fun r2 u H1 locs1 h hM hC => ?_)
  obtain ⟨f1, a1⟩ := u
  obtain ⟨er, J⟩ := h
  try dsimp only at er J hM
  refine lv_icmp_eq (tgt := 1298) C.1 C.2.1 dL_law_949 (by decide) (fun _ => ?_) (fun ne => absurd er ne)
  · skip
    refine W.widen (k := cells + 2) (n := slots + 11) (by omega) (by omega) ?_
    exact kk q K n S1 L1 R1 f1 a1 H1 locs1 rfl ⟨hC, hM, hdis, J⟩
set_option maxRecDepth 100000 in
set_option maxHeartbeats 4000000 in
theorem law_c18 (C : CallFix p m c cL_law 4 s #[Value.ref b] wsL_law RL) (hcx : cX (lA s) s) (hX : va_X b L0 xs s s.heap) (hbl : b < s.heap.size) (hi : i + 7 ≤ L0) (hL : L0 ≤ 3584) (hw0 : LW D cI cJ cZ cP cS cI2 q q2 K n S L R f a s H locs) (hl : lv_has ls 4 [(0, .ref b), (1, .ref (q 0)), (2, .ref (q2 0)), (3, .int (nI i))]) (hcs : cells + 2 ≤ 600000 ∧ slots + 11 ≤ 7302250)
    (kk : ∀ (q1 : Nat → Nat) (K1 : Nat → Nat) (n1 : Nat) (S1 : Nat → Nat → Int32) (L1 : Nat → Int64) (R1 : Nat → Option Nat) (f1 : Nat → Int32) (a1 : Nat → Nat → Int32) (H1 : Heap) (locs1 : List Loc), q1 0 = q 0 → LW D cI cJ cZ cP cS cI2 q1 q2 K1 n1 S1 L1 R1 f1 a1 s H1 locs1 → W p l e room_1 s m #[Value.ref b] below meth c H1 locs1 (cells + 2) (slots + 11) Q (F0 m 1298 ls [])) :
    W p l e room_1 s m #[Value.ref b] below meth c H locs cells slots Q (F0 m 954 ls []) := by
  obtain ⟨hC, hM, hdis, M, I⟩ := hw0
  have hbA : ¬ lA s b := Nat.not_le.mpr hbl
  have v1 : vp_in (nI i + (1 : Int32)) L0 := by rw [show (1 : Int32) = nI 1 from rfl, nI_add]; exact vp_in_nI (by omega) (by omega)
  have v2 : vp_in (nI i + (2 : Int32)) L0 := by rw [show (2 : Int32) = nI 2 from rfl, nI_add]; exact vp_in_nI (by omega) (by omega)
  have v3 : vp_in (nI i + (3 : Int32)) L0 := by rw [show (3 : Int32) = nI 3 from rfl, nI_add]; exact vp_in_nI (by omega) (by omega)
  refine lv_aload_n C.1 C.2.1 dL_law_954 rfl (lv_at hl 1 rfl) ?_
  refine lv_aload_n C.1 C.2.1 dL_law_955 rfl (lv_at hl 0 rfl) ?_
  refine lv_iload_n C.1 C.2.1 dL_law_956 rfl (lv_at hl 3 rfl) ?_
  refine lv_iconst (v := 1) C.1 C.2.1 dL_law_957 (by decide) ?_
  refine lv_iadd C.1 C.2.1 dL_law_958 ?_
  refine va_sld C.1 C.2.1 hX hbl hbA hC.2.2.2.1 v1 dL_law_959 ?_
  refine lv_aload_n C.1 C.2.1 dL_law_960 rfl (lv_at hl 0 rfl) ?_
  refine lv_iload_n C.1 C.2.1 dL_law_961 rfl (lv_at hl 3 rfl) ?_
  refine lv_iconst (v := 2) C.1 C.2.1 dL_law_962 (by decide) ?_
  refine lv_iadd C.1 C.2.1 dL_law_963 ?_
  refine va_sld C.1 C.2.1 hX hbl hbA hC.2.2.2.1 v2 dL_law_964 ?_
  refine lv_aload_n C.1 C.2.1 dL_law_965 rfl (lv_at hl 0 rfl) ?_
  refine lv_iload_n C.1 C.2.1 dL_law_966 rfl (lv_at hl 3 rfl) ?_
  refine lv_iconst (v := 3) C.1 C.2.1 dL_law_967 (by decide) ?_
  refine lv_iadd C.1 C.2.1 dL_law_968 ?_
  refine va_sld C.1 C.2.1 hX hbl hbA hC.2.2.2.1 v3 dL_law_969 ?_
  have hv := pr_sheet (L := L) I (xs (nI i + (1 : Int32)).toNatClampNeg) (xs (nI i + (2 : Int32)).toNatClampNeg) (xs (nI i + (3 : Int32)).toNatClampNeg)
  refine kL_i hC hM hdis (va_runV (As := [.int (xs (nI i + (1 : Int32)).toNatClampNeg), .int (xs (nI i + (2 : Int32)).toNatClampNeg), .int (xs (nI i + (3 : Int32)).toNatClampNeg)]) (rest := []) C (mtX10_sheet l D q cI cJ cZ cP cS K n H.size (xs (nI i + (1 : Int32)).toNatClampNeg) (xs (nI i + (2 : Int32)).toNatClampNeg) (xs (nI i + (3 : Int32)).toNatClampNeg) S L R _ hv) (cwV 3 C.2.2.2.2 gL_law_X10_sheet rfl rfl rfl (by decide +kernel) ⟨Nat.le_of_ble_eq_true rfl, Nat.le_of_ble_eq_true rfl⟩) ⟨mP_blind cX_B, va_recv hC.1 hC.2.1 (ci := 10) (q0 := 0) rfl (wL_get (by omega)), fun U hU hV => ⟨rfl, hC.pre hU hV (hcx.call hC hU hV)⟩⟩ rfl rfl hl.1 rfl (lv_room (Nat.le_of_ble_eq_true rfl)) dL_law_970 ⟨show cells + 0 ≤ 600000 by omega, show slots + 0 ≤ 7302250 by omega⟩) (fun r u H1 locs1 h hC hM => ?_)
  obtain ⟨S1, L1, R1⟩ := u
  try dsimp only at h hC
  refine lv_aload_n C.1 C.2.1 dL_law_973 rfl (lv_at hl 2 rfl) ?_
  refine lv_aload_n C.1 C.2.1 dL_law_974 rfl (lv_at hl 0 rfl) ?_
  refine lv_iload_n C.1 C.2.1 dL_law_975 rfl (lv_at hl 3 rfl) ?_
  refine lv_iconst (v := 1) C.1 C.2.1 dL_law_976 (by decide) ?_
  refine lv_iadd C.1 C.2.1 dL_law_977 ?_
  refine va_sld C.1 C.2.1 hX hbl hbA hC.2.2.2.1 v1 dL_law_978 ?_
  refine lv_aload_n C.1 C.2.1 dL_law_979 rfl (lv_at hl 0 rfl) ?_
  refine lv_iload_n C.1 C.2.1 dL_law_980 rfl (lv_at hl 3 rfl) ?_
  refine lv_iconst (v := 2) C.1 C.2.1 dL_law_981 (by decide) ?_
  refine lv_iadd C.1 C.2.1 dL_law_982 ?_
  refine va_sld C.1 C.2.1 hX hbl hbA hC.2.2.2.1 v2 dL_law_983 ?_
  refine lv_aload_n C.1 C.2.1 dL_law_984 rfl (lv_at hl 0 rfl) ?_
  refine lv_iload_n C.1 C.2.1 dL_law_985 rfl (lv_at hl 3 rfl) ?_
  refine lv_iconst (v := 3) C.1 C.2.1 dL_law_986 (by decide) ?_
  refine lv_iadd C.1 C.2.1 dL_law_987 ?_
  refine va_sld C.1 C.2.1 hX hbl hbA hC.2.2.2.1 v3 dL_law_988 ?_
  refine kL_i hM hC (fun i hi j hj e => hdis j hj i hi e.symm) (va_runV (As := [.int (xs (nI i + (1 : Int32)).toNatClampNeg), .int (xs (nI i + (2 : Int32)).toNatClampNeg), .int (xs (nI i + (3 : Int32)).toNatClampNeg)]) (rest := [.int r]) C (mtX11_sheet l D q2 cI2 H1.size (xs (nI i + (1 : Int32)).toNatClampNeg) (xs (nI i + (2 : Int32)).toNatClampNeg) (xs (nI i + (3 : Int32)).toNatClampNeg) f a _ h) (cwV 3 C.2.2.2.2 gL_law_X11_sheet rfl rfl rfl (by decide +kernel) ⟨Nat.le_of_ble_eq_true rfl, Nat.le_of_ble_eq_true rfl⟩) ⟨mP_blind tX_B, va_recv hM.1 hM.2.1 (ci := 11) (q0 := 0) rfl (wL_get (by decide)), fun U hU hV => ⟨rfl, hM.pre hU hV trivial⟩⟩ rfl rfl hl.1 rfl (lv_room (Nat.le_of_ble_eq_true rfl)) dL_law_989 ⟨show cells + 0 ≤ 600000 by omega, show slots + 0 ≤ 7302250 by omega⟩) (fun r2 u H1 locs1 h hM hC => ?_)
  obtain ⟨f1, a1⟩ := u
  obtain ⟨er, J⟩ := h
  try dsimp only at er J hM
  refine lv_icmp_eq (tgt := 1298) C.1 C.2.1 dL_law_992 (by decide) (fun _ => ?_) (fun ne => absurd er ne)
  · skip
    refine W.widen (k := cells + 2) (n := slots + 11) (by omega) (by omega) ?_
    exact kk q K n S1 L1 R1 f1 a1 H1 locs1 rfl ⟨hC, hM, hdis, J⟩
set_option maxRecDepth 100000 in
set_option maxHeartbeats 4000000 in
theorem law_c19 (C : CallFix p m c cL_law 4 s #[Value.ref b] wsL_law RL) (hcx : cX (lA s) s) (hX : va_X b L0 xs s s.heap) (hbl : b < s.heap.size) (hi : i + 7 ≤ L0) (hL : L0 ≤ 3584) (hw0 : LW D cI cJ cZ cP cS cI2 q q2 K n S L R f a s H locs) (hl : lv_has ls 4 [(0, .ref b), (1, .ref (q 0)), (2, .ref (q2 0)), (3, .int (nI i))]) (hcs : cells + 2 ≤ 600000 ∧ slots + 11 ≤ 7302250)
    (kk : ∀ (q1 : Nat → Nat) (K1 : Nat → Nat) (n1 : Nat) (S1 : Nat → Nat → Int32) (L1 : Nat → Int64) (R1 : Nat → Option Nat) (f1 : Nat → Int32) (a1 : Nat → Nat → Int32) (H1 : Heap) (locs1 : List Loc), q1 0 = q 0 → LW D cI cJ cZ cP cS cI2 q1 q2 K1 n1 S1 L1 R1 f1 a1 s H1 locs1 → W p l e room_1 s m #[Value.ref b] below meth c H1 locs1 (cells + 2) (slots + 11) Q (F0 m 1298 ls [])) :
    W p l e room_1 s m #[Value.ref b] below meth c H locs cells slots Q (F0 m 997 ls []) := by
  obtain ⟨hC, hM, hdis, M, I⟩ := hw0
  have hbA : ¬ lA s b := Nat.not_le.mpr hbl
  have v1 : vp_in (nI i + (1 : Int32)) L0 := by rw [show (1 : Int32) = nI 1 from rfl, nI_add]; exact vp_in_nI (by omega) (by omega)
  refine lv_aload_n C.1 C.2.1 dL_law_997 rfl (lv_at hl 1 rfl) ?_
  refine lv_aload_n C.1 C.2.1 dL_law_998 rfl (lv_at hl 0 rfl) ?_
  refine lv_iload_n C.1 C.2.1 dL_law_999 rfl (lv_at hl 3 rfl) ?_
  refine lv_iconst (v := 1) C.1 C.2.1 dL_law_1000 (by decide) ?_
  refine lv_iadd C.1 C.2.1 dL_law_1001 ?_
  refine va_sld C.1 C.2.1 hX hbl hbA hC.2.2.2.1 v1 dL_law_1002 ?_
  have hv := pr_lose (L := L) I (xs (nI i + (1 : Int32)).toNatClampNeg)
  refine kL_i hC hM hdis (va_runV (As := [.int (xs (nI i + (1 : Int32)).toNatClampNeg)]) (rest := []) C (mtX10_lose l D q cI cJ cZ cP cS K n H.size (xs (nI i + (1 : Int32)).toNatClampNeg) S L R _ hv) (cwV 1 C.2.2.2.2 gL_law_X10_lose rfl rfl rfl (by decide +kernel) ⟨Nat.le_of_ble_eq_true rfl, Nat.le_of_ble_eq_true rfl⟩) ⟨mP_blind cX_B, va_recv hC.1 hC.2.1 (ci := 10) (q0 := 0) rfl (wL_get (by omega)), fun U hU hV => ⟨rfl, hC.pre hU hV (hcx.call hC hU hV)⟩⟩ rfl rfl hl.1 rfl (lv_room (Nat.le_of_ble_eq_true rfl)) dL_law_1003 ⟨show cells + 0 ≤ 600000 by omega, show slots + 0 ≤ 7302250 by omega⟩) (fun r u H1 locs1 h hC hM => ?_)
  obtain ⟨S1, L1, R1⟩ := u
  try dsimp only at h hC
  refine lv_aload_n C.1 C.2.1 dL_law_1006 rfl (lv_at hl 2 rfl) ?_
  refine lv_aload_n C.1 C.2.1 dL_law_1007 rfl (lv_at hl 0 rfl) ?_
  refine lv_iload_n C.1 C.2.1 dL_law_1008 rfl (lv_at hl 3 rfl) ?_
  refine lv_iconst (v := 1) C.1 C.2.1 dL_law_1009 (by decide) ?_
  refine lv_iadd C.1 C.2.1 dL_law_1010 ?_
  refine va_sld C.1 C.2.1 hX hbl hbA hC.2.2.2.1 v1 dL_law_1011 ?_
  refine kL_i hM hC (fun i hi j hj e => hdis j hj i hi e.symm) (va_runV (As := [.int (xs (nI i + (1 : Int32)).toNatClampNeg)]) (rest := [.int r]) C (mtX11_lose l D q2 cI2 H1.size (xs (nI i + (1 : Int32)).toNatClampNeg) f a _ h) (cwV 1 C.2.2.2.2 gL_law_X11_lose rfl rfl rfl (by decide +kernel) ⟨Nat.le_of_ble_eq_true rfl, Nat.le_of_ble_eq_true rfl⟩) ⟨mP_blind tX_B, va_recv hM.1 hM.2.1 (ci := 11) (q0 := 0) rfl (wL_get (by decide)), fun U hU hV => ⟨rfl, hM.pre hU hV trivial⟩⟩ rfl rfl hl.1 rfl (lv_room (Nat.le_of_ble_eq_true rfl)) dL_law_1012 ⟨show cells + 0 ≤ 600000 by omega, show slots + 0 ≤ 7302250 by omega⟩) (fun r2 u H1 locs1 h hM hC => ?_)
  obtain ⟨f1, a1⟩ := u
  obtain ⟨er, J⟩ := h
  try dsimp only at er J hM
  refine lv_icmp_eq (tgt := 1298) C.1 C.2.1 dL_law_1015 (by decide) (fun _ => ?_) (fun ne => absurd er ne)
  · skip
    refine W.widen (k := cells + 2) (n := slots + 11) (by omega) (by omega) ?_
    exact kk q K n S1 L1 R1 f1 a1 H1 locs1 rfl ⟨hC, hM, hdis, J⟩
end LC
