theorem nI_m7 {L : Nat} (h : L ≤ 3584) : (nI L - 7).toInt = (L : Int) - 7 := by
  rw [Int32.toInt_sub, nI_toInt (by omega), show (7 : Int32).toInt = 7 from rfl, Int.bmod_eq_of_le (by omega) (by omega)]
set_option maxRecDepth 100000 in
set_option maxHeartbeats 4000000 in
/-- the law's loop -/
theorem law_loop {p : Program} {l : Launch} {e : Env} {s : State} {m : MethodId} {below : List Frame} {meth : Method} {c : Code} {b L0 : Nat} {xs : Nat → Int32} {D : va_G} {cI cJ cZ cP cS cI2 : ClassId} {q2 : Nat → Nat} (C : CallFix p m c cL_law 4 s #[Value.ref b] wsL_law RL) (hr : meth.sig.returnType = ret) (hlocks : meth.locks = false) (hcx : cX (lA s) s) (hX : va_X b L0 xs s s.heap) (hbl : b < s.heap.size) (hL : L0 ≤ 3584) :
    ∀ (N i cells slots : Nat) (q : Nat → Nat) (K : Nat → Nat) (n : Nat) (S : Nat → Nat → Int32) (L : Nat → Int64) (R : Nat → Option Nat) (f : Nat → Int32) (a : Nat → Nat → Int32) (H : Heap) (locs : List Loc) (ls : Array Slot), L0 < i + 7 * N → i ≤ 3591 → cells + 2 * N ≤ 600000 → slots + 11 * N ≤ 7302250 → LW D cI cJ cZ cP cS cI2 q q2 K n S L R f a s H locs → lv_has ls 4 [(0, .ref b), (1, .ref (q 0)), (2, .ref (q2 0)), (3, .int (nI i))] → W p l e room_1 s m #[Value.ref b] below meth c H locs cells slots (lw_Z below #[Value.ref b] s) (F0 m 18 ls []) := by
  have hbA : ¬ lA s b := Nat.not_le.mpr hbl
  intro N
  induction N with
  | zero =>
    intro i cells slots q K n S L R f a H locs ls h1 h2 h3 h4 hw hl
    refine lv_iload_n C.1 C.2.1 dL_law_18 rfl (lv_at hl 3 rfl) ?_
    refine lv_aload_n C.1 C.2.1 dL_law_19 rfl (lv_at hl 0 rfl) ?_
    refine va_slen C.1 C.2.1 hX hbl hbA hw.1.2.2.2.1 dL_law_20 ?_
    refine lv_bipush (v := 7) C.1 C.2.1 dL_law_21 (by decide) ?_
    refine lv_isub C.1 C.2.1 dL_law_23 ?_
    refine lv_icmp_gt (tgt := 1304) C.1 C.2.1 dL_law_24 (by decide) (fun c1 => ?_) (fun c1 => ?_)
    · refine lv_iconst (v := 1) C.1 C.2.1 dL_law_1304 (by decide) ?_
      refine va_forget (fun x hx => hw.1.2.2.2.1.2.2 x hx) ?_
      refine W.widen (k := 600000) (n := 7302250) (by omega) (by omega) ?_
      exact lw_ret C.1 C.2.1 hr hlocks dL_law_1305
    · exfalso
      apply c1
      rw [fa_lt, nI_toInt (by omega)]
      have := nI_m7 hL
      have e : (Int32.ofNat L0 - 7).toInt = (L0 : Int) - 7 := this
      rw [e]
      omega
  | succ N ih =>
    intro i cells slots q K n S L R f a H locs ls h1 h2 h3 h4 hw hl
    refine lv_iload_n C.1 C.2.1 dL_law_18 rfl (lv_at hl 3 rfl) ?_
    refine lv_aload_n C.1 C.2.1 dL_law_19 rfl (lv_at hl 0 rfl) ?_
    refine va_slen C.1 C.2.1 hX hbl hbA hw.1.2.2.2.1 dL_law_20 ?_
    refine lv_bipush (v := 7) C.1 C.2.1 dL_law_21 (by decide) ?_
    refine lv_isub C.1 C.2.1 dL_law_23 ?_
    refine lv_icmp_gt (tgt := 1304) C.1 C.2.1 dL_law_24 (by decide) (fun c1 => ?_) (fun c1 => ?_)
    · refine lv_iconst (v := 1) C.1 C.2.1 dL_law_1304 (by decide) ?_
      refine va_forget (fun x hx => hw.1.2.2.2.1.2.2 x hx) ?_
      refine W.widen (k := 600000) (n := 7302250) (by omega) (by omega) ?_
      exact lw_ret C.1 C.2.1 hr hlocks dL_law_1305
    · have hi : i + 7 ≤ L0 := by
        rcases Nat.lt_or_ge L0 (i + 7) with z | z
        · exfalso
          apply c1
          rw [fa_lt, nI_toInt (by omega)]
          have e : (Int32.ofNat L0 - 7).toInt = (L0 : Int) - 7 := nI_m7 hL
          rw [e]
          omega
        · exact z
      have v0 : vp_in (nI i) L0 := vp_in_nI (by omega) (by omega)
      have hcs : cells + 2 ≤ 600000 ∧ slots + 11 ≤ 7302250 := by omega
      have kk : ∀ (q1 : Nat → Nat) (K1 : Nat → Nat) (n1 : Nat) (S1 : Nat → Nat → Int32) (L1 : Nat → Int64) (R1 : Nat → Option Nat) (f1 : Nat → Int32) (a1 : Nat → Nat → Int32) (H1 : Heap) (locs1 : List Loc), q1 0 = q 0 → LW D cI cJ cZ cP cS cI2 q1 q2 K1 n1 S1 L1 R1 f1 a1 s H1 locs1 → W p l e room_1 s m #[Value.ref b] below meth c H1 locs1 (cells + 2) (slots + 11) (lw_Z below #[Value.ref b] s) (F0 m 1298 ls []) := by
        intro q1 K1 n1 S1 L1 R1 f1 a1 H1 locs1 hq hw1
        refine lv_iinc (v := nI (i + 7)) (lv' := [(3, .int (nI (i + 7))), (0, .ref b), (1, .ref (q 0)), (2, .ref (q2 0))]) C.1 C.2.1 dL_law_1298 hl (k := 3) rfl (nI_add i 7) (by decide) rfl (fun ls hl => ?_)
        refine lv_goto (tgt := 18) C.1 C.2.1 dL_law_1301 (by decide) ?_
        refine ih (i + 7) (cells + 2) (slots + 11) q1 K1 n1 S1 L1 R1 f1 a1 H1 locs1 ls (by omega) (by omega) (by omega) (by omega) hw1 ?_
        rw [hq]
        exact lv_sub hl [1, 2, 3, 0] rfl
      refine lv_aload_n C.1 C.2.1 dL_law_27 rfl (lv_at hl 0 rfl) ?_
      refine lv_iload_n C.1 C.2.1 dL_law_28 rfl (lv_at hl 3 rfl) ?_
      refine va_sld C.1 C.2.1 hX hbl hbA hw.1.2.2.2.1 v0 dL_law_29 ?_
      refine lv_bipush (v := 31) C.1 C.2.1 dL_law_30 (by decide) ?_
      refine lv_iand C.1 C.2.1 dL_law_32 ?_
      obtain ⟨j, hj, ej⟩ := pk_andE (xs (nI i).toNatClampNeg) (m := 31) 5 (by decide)
      rw [ej]
      have tj : (nI j).toInt = (j : Int) := nI_toInt (by omega)
      rcases (show j = 0 ∨ j = 1 ∨ j = 2 ∨ j = 3 ∨ j = 4 ∨ j = 5 ∨ j = 6 ∨ j = 7 ∨ j = 8 ∨ j = 9 ∨ j = 10 ∨ j = 11 ∨ j = 12 ∨ j = 13 ∨ j = 14 ∨ j = 15 ∨ j = 16 ∨ j = 17 ∨ j = 18 ∨ j = 19 ∨ j = 20 ∨ j = 21 ∨ j = 22 ∨ j = 23 ∨ j = 24 ∨ j = 25 ∨ j = 26 ∨ j = 27 ∨ j = 28 ∨ 29 ≤ j by omega) with rfl | rfl | rfl | rfl | rfl | rfl | rfl | rfl | rfl | rfl | rfl | rfl | rfl | rfl | rfl | rfl | rfl | rfl | rfl | rfl | rfl | rfl | rfl | rfl | rfl | rfl | rfl | rfl | rfl | hj29
      · refine lv_tableIn (tgt := 164) (off := 131) C.1 C.2.1 dL_law_33 (by decide) (by decide) (by decide) (by decide) ?_
        exact law_c0 C hcx hX hbl hi hL hw hl hcs kk
      · refine lv_tableIn (tgt := 227) (off := 194) C.1 C.2.1 dL_law_33 (by decide) (by decide) (by decide) (by decide) ?_
        exact law_c1 C hcx hX hbl hi hL hw hl hcs kk
      · refine lv_tableIn (tgt := 260) (off := 227) C.1 C.2.1 dL_law_33 (by decide) (by decide) (by decide) (by decide) ?_
        exact law_c2 C hcx hX hbl hi hL hw hl hcs kk
      · refine lv_tableIn (tgt := 303) (off := 270) C.1 C.2.1 dL_law_33 (by decide) (by decide) (by decide) (by decide) ?_
        exact law_c3 C hcx hX hbl hi hL hw hl hcs kk
      · refine lv_tableIn (tgt := 337) (off := 304) C.1 C.2.1 dL_law_33 (by decide) (by decide) (by decide) (by decide) ?_
        exact law_c4 C hcx hX hbl hi hL hw hl hcs kk
      · refine lv_tableIn (tgt := 361) (off := 328) C.1 C.2.1 dL_law_33 (by decide) (by decide) (by decide) (by decide) ?_
        exact law_c5 C hcx hX hbl hi hL hw hl hcs kk
      · refine lv_tableIn (tgt := 384) (off := 351) C.1 C.2.1 dL_law_33 (by decide) (by decide) (by decide) (by decide) ?_
        exact law_c6 C hcx hX hbl hi hL hw hl hcs kk
      · refine lv_tableIn (tgt := 427) (off := 394) C.1 C.2.1 dL_law_33 (by decide) (by decide) (by decide) (by decide) ?_
        exact law_c7 C hcx hX hbl hi hL hw hl hcs kk
      · refine lv_tableIn (tgt := 460) (off := 427) C.1 C.2.1 dL_law_33 (by decide) (by decide) (by decide) (by decide) ?_
        exact law_c8 C hcx hX hbl hi hL hw hl hcs kk
      · refine lv_tableIn (tgt := 504) (off := 471) C.1 C.2.1 dL_law_33 (by decide) (by decide) (by decide) (by decide) ?_
        exact law_c9 C hcx hX hbl hi hL hw hl hcs kk
      · refine lv_tableIn (tgt := 547) (off := 514) C.1 C.2.1 dL_law_33 (by decide) (by decide) (by decide) (by decide) ?_
        exact law_c10 C hcx hX hbl hi hL hw hl hcs kk
      · refine lv_tableIn (tgt := 610) (off := 577) C.1 C.2.1 dL_law_33 (by decide) (by decide) (by decide) (by decide) ?_
        exact law_c11 C hcx hX hbl hi hL hw hl hcs kk
      · refine lv_tableIn (tgt := 685) (off := 652) C.1 C.2.1 dL_law_33 (by decide) (by decide) (by decide) (by decide) ?_
        exact law_c12 C hcx hX hbl hi hL hw hl hcs kk
      · refine lv_tableIn (tgt := 708) (off := 675) C.1 C.2.1 dL_law_33 (by decide) (by decide) (by decide) (by decide) ?_
        exact law_c13 C hcx hX hbl hi hL hw hl hcs kk
      · refine lv_tableIn (tgt := 771) (off := 738) C.1 C.2.1 dL_law_33 (by decide) (by decide) (by decide) (by decide) ?_
        exact law_c14 C hcx hX hbl hi hL hw hl hcs kk
      · refine lv_tableIn (tgt := 815) (off := 782) C.1 C.2.1 dL_law_33 (by decide) (by decide) (by decide) (by decide) ?_
        exact law_c15 C hcx hX hbl hi hL hw hl hcs kk
      · refine lv_tableIn (tgt := 848) (off := 815) C.1 C.2.1 dL_law_33 (by decide) (by decide) (by decide) (by decide) ?_
        exact law_c16 C hcx hX hbl hi hL hw hl hcs kk
      · refine lv_tableIn (tgt := 901) (off := 868) C.1 C.2.1 dL_law_33 (by decide) (by decide) (by decide) (by decide) ?_
        exact law_c17 C hcx hX hbl hi hL hw hl hcs kk
      · refine lv_tableIn (tgt := 954) (off := 921) C.1 C.2.1 dL_law_33 (by decide) (by decide) (by decide) (by decide) ?_
        exact law_c18 C hcx hX hbl hi hL hw hl hcs kk
      · refine lv_tableIn (tgt := 997) (off := 964) C.1 C.2.1 dL_law_33 (by decide) (by decide) (by decide) (by decide) ?_
        exact law_c19 C hcx hX hbl hi hL hw hl hcs kk
      · refine lv_tableIn (tgt := 1020) (off := 987) C.1 C.2.1 dL_law_33 (by decide) (by decide) (by decide) (by decide) ?_
        exact law_c20 C hcx hX hbl hi hL hw hl hcs kk
      · refine lv_tableIn (tgt := 1063) (off := 1030) C.1 C.2.1 dL_law_33 (by decide) (by decide) (by decide) (by decide) ?_
        exact law_c21 C hcx hX hbl hi hL hw hl hcs kk
      · refine lv_tableIn (tgt := 1107) (off := 1074) C.1 C.2.1 dL_law_33 (by decide) (by decide) (by decide) (by decide) ?_
        exact law_c22 C hcx hX hbl hi hL hw hl hcs kk
      · refine lv_tableIn (tgt := 1170) (off := 1137) C.1 C.2.1 dL_law_33 (by decide) (by decide) (by decide) (by decide) ?_
        exact law_c23 C hcx hX hbl hi hL hw hl hcs kk
      · refine lv_tableIn (tgt := 1193) (off := 1160) C.1 C.2.1 dL_law_33 (by decide) (by decide) (by decide) (by decide) ?_
        exact law_c24 C hcx hX hbl hi hL hw hl hcs kk
      · refine lv_tableIn (tgt := 1216) (off := 1183) C.1 C.2.1 dL_law_33 (by decide) (by decide) (by decide) (by decide) ?_
        exact law_c25 C hcx hX hbl hi hL hw hl hcs kk
      · refine lv_tableIn (tgt := 1249) (off := 1216) C.1 C.2.1 dL_law_33 (by decide) (by decide) (by decide) (by decide) ?_
        exact law_c26 C hcx hX hbl hi hL hw hl hcs kk
      · refine lv_tableIn (tgt := 1262) (off := 1229) C.1 C.2.1 dL_law_33 (by decide) (by decide) (by decide) (by decide) ?_
        exact law_c27 C hcx hX hbl hi hL hw hl hcs kk
      · refine lv_tableIn (tgt := 1275) (off := 1242) C.1 C.2.1 dL_law_33 (by decide) (by decide) (by decide) (by decide) ?_
        exact law_c28 C hcx hX hbl hi hL hw hl hcs kk
      · refine lv_tableOut (tgt := 1298) C.1 C.2.1 dL_law_33 (Or.inr (by rw [tj]; omega)) (by decide) ?_
        refine W.widen (k := cells + 2) (n := slots + 11) (by omega) (by omega) ?_
        exact kk q K n S L R f a H locs rfl hw
