abbrev rmX10_greatestCommon : Room := { frames := 0, cells := 0, slots := 0, locals := 0 }
def vX10_greatestCommon_3 (Q : Int64 → Prop) : Nat → Int64 → Int64 → Int32 → Prop
  | 0, _, _, _ => False
  | fu+1, x0, x2, x4 => ((128 : Int32) ≤ x4 → Q x0) ∧ (¬ ((128 : Int32) ≤ x4) → (x2 = (0 : Int64) → Q x0) ∧ (¬ (x2 = (0 : Int64)) → ¬ x2 = 0 ∧ (∀ x5_3 : Int64, x5_3 = x0 - x0 / x2 * x2 → ∀ x4_4 : Int32, x4_4 = x4 + (1 : Int32) → vX10_greatestCommon_3 Q fu x2 x5_3 x4_4)))
def vX10_greatestCommon (x0 : Int64) (x2 : Int64) (Q : Int64 → Prop) : Prop := ∃ n3, vX10_greatestCommon_3 Q n3 x0 x2 (0 : Int32)
set_option maxRecDepth 100000 in
set_option maxHeartbeats 4000000 in
theorem sX10_greatestCommon_3 {p : Program} {l : Launch} {e : Env} {s : State} {m : MethodId} {args : Array Value} {below : List Frame} {meth : Method} {c : Code} {D : va_G} {q : Nat → Nat} {A : Nat → Prop} {tys : List (ClassId × FieldType)} {N : Nat} {g : Nat → va_E} (C : CallFix p m c cX10_greatestCommon 7 s args wsX10_greatestCommon RX10) (hr : meth.sig.returnType = (some .long)) (hlk : meth.locks = false) (Q : Int64 → Prop) : ∀ (fu : Nat) (x0 : Int64) (x2 : Int64) (x4 : Int32) (H : Heap) (locs : List Loc) (ls : Array Slot), vX10_greatestCommon_3 Q fu x0 x2 x4 → hw D tys q N g A s H locs → lv_has ls 7 [(0, .long x0), (2, .long x2), (4, .int x4)] → W p l e (headSpec wsX10_greatestCommon rmX10_greatestCommon).room s m args below meth c H locs 0 0 (MQ below (va_Ql (fun r (_ : Unit) => Q r) (fun _ _ => True) A) args s 0 0 A) (F0 m 3 ls []) := by
  intro fu
  induction fu with
  | zero =>
    intro x0 x2 x4 H locs ls h
    exact h.elim
  | succ fu ih =>
    intro x0 x2 x4 H locs ls h hW hl
    refine lv_iload C.1 C.2.1 dX10_greatestCommon_3 (lv_at hl 2 rfl) ?_
    refine lv_sipush (v := 128) C.1 C.2.1 dX10_greatestCommon_5 (by decide) ?_
    refine lv_icmp_ge (tgt := 33) C.1 C.2.1 dX10_greatestCommon_8 (by decide) (fun c1 => ?_) (fun c1 => ?_)
    · replace h := h.1 c1
      refine lv_lload_n C.1 C.2.1 dX10_greatestCommon_33 rfl (lv_at hl 0 rfl) ?_
      exact t_l C hr hlk (u := ()) hW.2.2.2.1 (fun _ _ => trivial) h dX10_greatestCommon_34
    · replace h := h.2 c1
      refine lv_lload_n C.1 C.2.1 dX10_greatestCommon_11 rfl (lv_at hl 1 rfl) ?_
      refine lv_lconst (v := 0) C.1 C.2.1 dX10_greatestCommon_12 (by decide) ?_
      refine W.lcmp C.1 C.2.1 dX10_greatestCommon_13 ?_
      refine lv_if_eq (tgt := 33) C.1 C.2.1 dX10_greatestCommon_14 (by decide) (fun c2 => ?_) (fun c2 => ?_)
      · replace h := h.1 (lc_eq.mp c2)
        refine lv_lload_n C.1 C.2.1 dX10_greatestCommon_33 rfl (lv_at hl 0 rfl) ?_
        exact t_l C hr hlk (u := ()) hW.2.2.2.1 (fun _ _ => trivial) h dX10_greatestCommon_34
      · replace h := h.2 (fun z => c2 (lc_eq.mpr z))
        refine lv_lload_n C.1 C.2.1 dX10_greatestCommon_17 rfl (lv_at hl 0 rfl) ?_
        refine lv_lload_n C.1 C.2.1 dX10_greatestCommon_18 rfl (lv_at hl 1 rfl) ?_
        obtain ⟨hs5, h⟩ := h
        refine lv_lrem C.1 C.2.1 dX10_greatestCommon_19 hs5 ?_
        refine lv_topl (fun x5_3 ex5_3 => ?_)
        replace h := h x5_3 ex5_3
        refine lv_lstore (lv' := [(5, .long x5_3), (0, .long x0), (2, .long x2), (4, .int x4)]) C.1 C.2.1 dX10_greatestCommon_20 hl (by decide) rfl (fun ls hl => ?_)
        refine lv_lload_n C.1 C.2.1 dX10_greatestCommon_22 rfl (lv_at hl 2 rfl) ?_
        refine lv_lstore_n (lv' := [(0, .long x2), (5, .long x5_3), (2, .long x2), (4, .int x4)]) C.1 C.2.1 dX10_greatestCommon_23 rfl hl (by decide) rfl (fun ls hl => ?_)
        refine lv_lload C.1 C.2.1 dX10_greatestCommon_24 (lv_at hl 1 rfl) ?_
        refine lv_lstore_n (lv' := [(2, .long x5_3), (0, .long x2), (5, .long x5_3), (4, .int x4)]) C.1 C.2.1 dX10_greatestCommon_26 rfl hl (by decide) rfl (fun ls hl => ?_)
        obtain ⟨x4_4, ex4_4⟩ : ∃ z : Int32, z = x4 + (1 : Int32) := ⟨_, rfl⟩
        replace h := h x4_4 ex4_4
        refine lv_iinc (v := x4_4) (lv' := [(4, .int x4_4), (2, .long x5_3), (0, .long x2), (5, .long x5_3)]) C.1 C.2.1 dX10_greatestCommon_27 hl (k := 3) rfl (by rw [ex4_4]; rfl) (by decide) rfl (fun ls hl => ?_)
        refine lv_goto (tgt := 3) C.1 C.2.1 dX10_greatestCommon_30 (by decide) ?_
        exact ih x2 x5_3 x4_4 _ _ _ h hW (lv_sub hl [2, 1, 0] rfl)
set_option maxRecDepth 100000 in
set_option maxHeartbeats 4000000 in
theorem sX10_greatestCommon {p : Program} {l : Launch} {e : Env} {s : State} {m : MethodId} {args : Array Value} {below : List Frame} {meth : Method} {c : Code} {D : va_G} {q : Nat → Nat} {A : Nat → Prop} {tys : List (ClassId × FieldType)} {N : Nat} {g : Nat → va_E} (C : CallFix p m c cX10_greatestCommon 7 s args wsX10_greatestCommon RX10) (hr : meth.sig.returnType = (some .long)) (hlk : meth.locks = false) (Q : Int64 → Prop) : ∀ (x0 : Int64) (x2 : Int64) (H : Heap) (locs : List Loc) (ls : Array Slot), vX10_greatestCommon x0 x2 Q → hw D tys q N g A s H locs → lv_has ls 7 [(0, .long x0), (2, .long x2)] → W p l e (headSpec wsX10_greatestCommon rmX10_greatestCommon).room s m args below meth c H locs 0 0 (MQ below (va_Ql (fun r (_ : Unit) => Q r) (fun _ _ => True) A) args s 0 0 A) (F0 m 0 ls []) := by
  intro x0 x2 H locs ls h hW hl
  unfold vX10_greatestCommon at h
  refine lv_iconst (v := 0) C.1 C.2.1 dX10_greatestCommon_0 (by decide) ?_
  refine lv_istore (lv' := [(4, .int (0 : Int32)), (0, .long x0), (2, .long x2)]) C.1 C.2.1 dX10_greatestCommon_1 hl (by decide) rfl (fun ls hl => ?_)
  obtain ⟨n9, h⟩ := h
  exact sX10_greatestCommon_3 C hr hlk Q n9 x0 x2 (0 : Int32) _ _ _ h hW (lv_sub hl [1, 2, 0] rfl)
set_option maxRecDepth 100000 in
set_option maxHeartbeats 4000000 in
theorem mtX10_greatestCommon (l : Launch) (D : va_G) (q : Nat → Nat) (g : Nat → va_E) (sz : Nat) (x0 : Int64) (x2 : Int64) (Q : Int64 → Prop) (h : vX10_greatestCommon x0 x2 Q) : Met l yX10_greatestCommon wsX10_greatestCommon rmX10_greatestCommon (va_Pc [.long x0, .long x2] (mP D [] q 0 g sz tX)) (va_Ql (fun r (_ : Unit) => Q r) (fun _ _ => True) (aQ q 0 sz)) 0 0 (aQ q 0 sz) := by
  refine met_w (cc := cX10_greatestCommon) (maxL := 7) (ret := (some .long)) (by decide) rfl (Nat.le_of_ble_eq_true rfl) ?_
  intro p e s m below meth c ls C hr hlk hW hX hnm hl
  exact sX10_greatestCommon C hr hlk Q x0 x2 _ _ _ h hW hl
abbrev rmX10_inLeastTerms : Room := { frames := 1, cells := 0, slots := 0, locals := 26 }
def vX10_inLeastTerms (x0 : Int64) (x2 : Int64) (x4 : Int32) (Q : Int64 → Prop) : Prop := vX10_greatestCommon (if 0 < x0 then x0 else -x0) x2 (fun r1 => ((0 : Int64) < r1 → (¬ x4 = 0 → ¬ r1 = 0 ∧ (Q (x2 / r1))) ∧ (x4 = 0 → ¬ r1 = 0 ∧ (Q (x0 / r1)))) ∧ (¬ ((0 : Int64) < r1) → Q (-9223372036854775808 : Int64)))
set_option maxRecDepth 100000 in
set_option maxHeartbeats 4000000 in
theorem sX10_inLeastTerms {p : Program} {l : Launch} {e : Env} {s : State} {m : MethodId} {args : Array Value} {below : List Frame} {meth : Method} {c : Code} {D : va_G} {q : Nat → Nat} {A : Nat → Prop} {tys : List (ClassId × FieldType)} {N : Nat} {g : Nat → va_E} (C : CallFix p m c cX10_inLeastTerms 7 s args wsX10_inLeastTerms RX10) (hr : meth.sig.returnType = (some .long)) (hlk : meth.locks = false) (Q : Int64 → Prop) : ∀ (x0 : Int64) (x2 : Int64) (x4 : Int32) (H : Heap) (locs : List Loc) (ls : Array Slot), vX10_inLeastTerms x0 x2 x4 Q → hw D tys q N g A s H locs → lv_has ls 7 [(0, .long x0), (2, .long x2), (4, .int x4)] → W p l e (headSpec wsX10_inLeastTerms rmX10_inLeastTerms).room s m args below meth c H locs 0 0 (MQ below (va_Ql (fun r (_ : Unit) => Q r) (fun _ _ => True) A) args s 0 0 A) (F0 m 0 ls []) := by
  intro x0 x2 x4 H locs ls h hW hl
  unfold vX10_inLeastTerms at h
  refine lv_lload_n C.1 C.2.1 dX10_inLeastTerms_0 rfl (lv_at hl 0 rfl) ?_
  refine va_mabs_long C.1 C.2.1 (by rw [C.2.2.1, hl.1]) C.2.2.2.1 (C.2.2.2.2 (.methodLink RX10 248 Lib.MathLoose.abs_long.x) (by decide +kernel)) (C.2.2.2.2 (.static Lib.MathLoose.abs_long.x) (by decide +kernel)) (C.2.2.2.2 (.initialized "java/lang/Math") (by decide +kernel)) (C.2.2.2.2 (.code Lib.MathLoose.abs_long.x Lib.MathLoose.abs_long.code 2 (some .long)) (by decide +kernel)) (Nat.le_of_ble_eq_true rfl) (Nat.le_of_ble_eq_true rfl) (Nat.zero_le _) (Nat.zero_le _) dX10_inLeastTerms_1 ?_
  refine lv_lload_n C.1 C.2.1 dX10_inLeastTerms_4 rfl (lv_at hl 1 rfl) ?_
  refine k_pl hW (va_runS (As := [.long (if 0 < x0 then x0 else -x0), .long x2]) (rest := []) C (mtX10_greatestCommon l D q _ H.size (if 0 < x0 then x0 else -x0) x2 _ h) (va_cwS 2 C.2.2.2.2 gX10_inLeastTerms_X10_greatestCommon rfl rfl rfl (by decide +kernel) ⟨Nat.le_of_ble_eq_true rfl, Nat.le_of_ble_eq_true rfl⟩) ⟨mP_blind tX_B, fun U hU hV => ⟨rfl, hW.pre0 hU hV trivial⟩⟩ rfl rfl hl.1 rfl (lv_room (Nat.le_of_ble_eq_true rfl)) dX10_inLeastTerms_5 ⟨Nat.zero_le _, Nat.zero_le _⟩) (fun r1 H locs h hW => ?_)
  refine lv_lstore (lv' := [(5, .long r1), (0, .long x0), (2, .long x2), (4, .int x4)]) C.1 C.2.1 dX10_inLeastTerms_8 hl (by decide) rfl (fun ls hl => ?_)
  refine lv_lload C.1 C.2.1 dX10_inLeastTerms_10 (lv_at hl 0 rfl) ?_
  refine lv_lconst (v := 0) C.1 C.2.1 dX10_inLeastTerms_12 (by decide) ?_
  refine W.lcmp C.1 C.2.1 dX10_inLeastTerms_13 ?_
  refine lv_if_gt (tgt := 21) C.1 C.2.1 dX10_inLeastTerms_14 (by decide) (fun c2 => ?_) (fun c2 => ?_)
  · replace h := h.1 (lc_gt.mp c2)
    refine lv_iload C.1 C.2.1 dX10_inLeastTerms_21 (lv_at hl 3 rfl) ?_
    refine lv_if_ne (tgt := 30) C.1 C.2.1 dX10_inLeastTerms_23 (by decide) (fun c3 => ?_) (fun c3 => ?_)
    · replace h := h.1 c3
      refine lv_lload_n C.1 C.2.1 dX10_inLeastTerms_30 rfl (lv_at hl 2 rfl) ?_
      refine lv_lload C.1 C.2.1 dX10_inLeastTerms_31 (lv_at hl 0 rfl) ?_
      obtain ⟨hs4, h⟩ := h
      refine lv_ldiv C.1 C.2.1 dX10_inLeastTerms_33 hs4 ?_
      exact t_l C hr hlk (u := ()) hW.2.2.2.1 (fun _ _ => trivial) h dX10_inLeastTerms_34
    · replace h := h.2 c3
      refine lv_lload_n C.1 C.2.1 dX10_inLeastTerms_26 rfl (lv_at hl 1 rfl) ?_
      refine lv_goto (tgt := 31) C.1 C.2.1 dX10_inLeastTerms_27 (by decide) ?_
      refine lv_lload C.1 C.2.1 dX10_inLeastTerms_31 (lv_at hl 0 rfl) ?_
      obtain ⟨hs5, h⟩ := h
      refine lv_ldiv C.1 C.2.1 dX10_inLeastTerms_33 hs5 ?_
      exact t_l C hr hlk (u := ()) hW.2.2.2.1 (fun _ _ => trivial) h dX10_inLeastTerms_34
  · replace h := h.2 (fun z => c2 (lc_gt.mpr z))
    refine lv_ldc2 (v := (-9223372036854775808)) C.1 C.2.1 C.2.2.2.1 (C.2.2.2.2 (.constantLong RX10 112 (-9223372036854775808)) (by decide +kernel)) dX10_inLeastTerms_17 ?_
    exact t_l C hr hlk (u := ()) hW.2.2.2.1 (fun _ _ => trivial) h dX10_inLeastTerms_20
set_option maxRecDepth 100000 in
set_option maxHeartbeats 4000000 in
theorem mtX10_inLeastTerms (l : Launch) (D : va_G) (q : Nat → Nat) (g : Nat → va_E) (sz : Nat) (x0 : Int64) (x2 : Int64) (x4 : Int32) (Q : Int64 → Prop) (h : vX10_inLeastTerms x0 x2 x4 Q) : Met l yX10_inLeastTerms wsX10_inLeastTerms rmX10_inLeastTerms (va_Pc [.long x0, .long x2, .int x4] (mP D [] q 0 g sz tX)) (va_Ql (fun r (_ : Unit) => Q r) (fun _ _ => True) (aQ q 0 sz)) 0 0 (aQ q 0 sz) := by
  refine met_w (cc := cX10_inLeastTerms) (maxL := 7) (ret := (some .long)) (by decide) rfl (Nat.le_of_ble_eq_true rfl) ?_
  intro p e s m below meth c ls C hr hlk hW hX hnm hl
  exact sX10_inLeastTerms C hr hlk Q x0 x2 x4 _ _ _ h hW hl
theorem inX10_off_X3 : ∀ w ∈ wsX30, w ∈ wsX10_off := fun _ h => List.mem_cons_of_mem _ (List.mem_append_left _ (List.mem_append_left _ (List.mem_append_left _ (List.mem_append_right _ h))))
theorem inX10_off_X4 : ∀ w ∈ wsX40, w ∈ wsX10_off := fun _ h => List.mem_cons_of_mem _ (List.mem_append_left _ (List.mem_append_left _ (List.mem_append_right _ h)))
theorem inX10_off_X7 : ∀ w ∈ wsX70, w ∈ wsX10_off := fun _ h => List.mem_cons_of_mem _ (List.mem_append_left _ (List.mem_append_right _ h))
theorem inX10_off_X10 : ∀ w ∈ wsX100, w ∈ wsX10_off := fun _ h => List.mem_cons_of_mem _ (List.mem_append_right _ h)
abbrev rmX10_off : Room := { frames := 2, cells := 0, slots := 0, locals := 52 }
def vX10_off_64 (K : Nat → Nat) (n : Nat) (Q : Int64 → (Nat → Nat → Int32) → (Nat → Int64) → (Nat → Option Nat) → Prop) (x3 : Int32) (x5 : Nat) (y0 : Int64) (S : Nat → Nat → Int32) (L : Nat → Int64) (R : Nat → Option Nat) : Prop := x5 < n ∧ (vp_in (1 : Int32) 9 ∧ (vp_in (4 : Int32) 9 ∧ (vp_in (5 : Int32) 9 ∧ (∀ x8_17 : Int64, x8_17 = (((S (30 + 2 * x5) (1 : Int32).toNatClampNeg).toInt64) * ((S (30 + 2 * x5) (4 : Int32).toNatClampNeg).toInt64)) + ((S (30 + 2 * x5) (5 : Int32).toNatClampNeg).toInt64) → vX10_inLeastTerms y0 x8_17 x3 (fun r18 => Q r18 S L R)))))
def vX10_off (K : Nat → Nat) (n : Nat) (x1 : Int32) (x2 : Int32) (x3 : Int32) (S : Nat → Nat → Int32) (L : Nat → Int64) (R : Nat → Option Nat) (Q : Int64 → (Nat → Nat → Int32) → (Nat → Int64) → (Nat → Option Nat) → Prop) : Prop := vX10_millOf K n x1 S L R (fun o1 S2 L3 R4 => (o1 = none → Q (-9223372036854775808 : Int64) S2 L3 R4) ∧ (∀ mi5 : Nat, o1 = some mi5 → vX10_within x2 (-99 : Int32) (99 : Int32) (fun r6 => (r6 = 0 → Q (-9223372036854775808 : Int64) S2 L3 R4) ∧ (¬ (r6 = 0) → vX10_within x3 (0 : Int32) (1 : Int32) (fun r8 => (¬ r8 = 0 → mi5 < n ∧ (vp_in (6 : Int32) 9 ∧ ((¬ (S2 (30 + 2 * mi5) (6 : Int32).toNatClampNeg) = 0 → vX10_off_64 K n Q x3 mi5 (0 : Int64) S2 L3 R4) ∧ ((S2 (30 + 2 * mi5) (6 : Int32).toNatClampNeg) = 0 → vp_in (4 : Int32) 9 ∧ (vX10_off_64 K n Q x3 mi5 ((-x2.toInt64) * ((S2 (30 + 2 * mi5) (4 : Int32).toNatClampNeg).toInt64)) S2 L3 R4))))) ∧ (r8 = 0 → Q (-9223372036854775808 : Int64) S2 L3 R4))))))
set_option maxRecDepth 100000 in
set_option maxHeartbeats 4000000 in
theorem sX10_off_64 {p : Program} {l : Launch} {e : Env} {s : State} {m : MethodId} {args : Array Value} {below : List Frame} {meth : Method} {c : Code} {D : va_G} {q : Nat → Nat} {A : Nat → Prop} {cI cJ cZ cP cS : ClassId} {K : Nat → Nat} {n : Nat} (C : CallFix p m c cX10_off 10 s args wsX10_off RX10) (hr : meth.sig.returnType = (some .long)) (hlk : meth.locks = false) (hX : cX A s) (Q : Int64 → (Nat → Nat → Int32) → (Nat → Int64) → (Nat → Option Nat) → Prop) : ∀ (x3 : Int32) (x5 : Nat) (y0 : Int64) (S : Nat → Nat → Int32) (L : Nat → Int64) (R : Nat → Option Nat) (H : Heap) (locs : List Loc) (ls : Array Slot), vX10_off_64 K n Q x3 x5 y0 S L R → hw D (tyC cI cJ cZ cP cS) q (29 + 2 * n) (gC q cI cJ cZ cP cS K n S L R) A s H locs → lv_has ls 10 [(3, .int x3), (5, .ref (q (30 + 2 * x5)))] → W p l e (headSpec wsX10_off rmX10_off).room s m args below meth c H locs 0 0 (MQ below (QCl D q cI cJ cZ cP cS K n Q A) args s 0 0 A) (F0 m 64 ls [.long y0]) := by
  intro x3 x5 y0 S L R H locs ls h hW hl
  unfold vX10_off_64 at h
  refine lv_lstore (lv' := [(6, .long y0), (3, .int x3), (5, .ref (q (30 + 2 * x5)))]) C.1 C.2.1 dX10_off_64 hl (by decide) rfl (fun ls hl => ?_)
  refine lv_aload C.1 C.2.1 dX10_off_66 (lv_at hl 2 rfl) ?_
  refine lv_iconst (v := 1) C.1 C.2.1 dX10_off_68 (by decide) ?_
  obtain ⟨hb14, h⟩ := h
  obtain ⟨hs13, h⟩ := h
  refine r_iald C hW (cA := cI) (n := 9) (f := S (30 + 2 * x5)) (30 + 2 * x5) 0 (by omega) (gC_nums x5) rfl hs13 dX10_off_69 ?_
  refine lv_i2l C.1 C.2.1 dX10_off_70 rfl ?_
  refine lv_aload C.1 C.2.1 dX10_off_71 (lv_at hl 2 rfl) ?_
  refine lv_iconst (v := 4) C.1 C.2.1 dX10_off_73 (by decide) ?_
  obtain ⟨hs15, h⟩ := h
  refine r_iald C hW (cA := cI) (n := 9) (f := S (30 + 2 * x5)) (30 + 2 * x5) 0 (by omega) (gC_nums x5) rfl hs15 dX10_off_74 ?_
  refine lv_i2l C.1 C.2.1 dX10_off_75 rfl ?_
  refine lv_lmul C.1 C.2.1 dX10_off_76 ?_
  refine lv_aload C.1 C.2.1 dX10_off_77 (lv_at hl 2 rfl) ?_
  refine lv_iconst (v := 5) C.1 C.2.1 dX10_off_79 (by decide) ?_
  obtain ⟨hs16, h⟩ := h
  refine r_iald C hW (cA := cI) (n := 9) (f := S (30 + 2 * x5)) (30 + 2 * x5) 0 (by omega) (gC_nums x5) rfl hs16 dX10_off_80 ?_
  refine lv_i2l C.1 C.2.1 dX10_off_81 rfl ?_
  refine lv_ladd C.1 C.2.1 dX10_off_82 ?_
  refine lv_topl (fun x8_17 ex8_17 => ?_)
  replace h := h x8_17 ex8_17
  refine lv_lstore (lv' := [(8, .long x8_17), (6, .long y0), (3, .int x3), (5, .ref (q (30 + 2 * x5)))]) C.1 C.2.1 dX10_off_83 hl (by decide) rfl (fun ls hl => ?_)
  refine lv_lload C.1 C.2.1 dX10_off_85 (lv_at hl 1 rfl) ?_
  refine lv_lload C.1 C.2.1 dX10_off_87 (lv_at hl 0 rfl) ?_
  refine lv_iload_n C.1 C.2.1 dX10_off_89 rfl (lv_at hl 2 rfl) ?_
  refine k_pl hW (va_runS (As := [.long y0, .long x8_17, .int x3]) (rest := []) C (mtX10_inLeastTerms l D q _ H.size y0 x8_17 x3 _ h) (va_cwS 3 C.2.2.2.2 gX10_off_X10_inLeastTerms rfl rfl rfl (by decide +kernel) ⟨Nat.le_of_ble_eq_true rfl, Nat.le_of_ble_eq_true rfl⟩) ⟨mP_blind tX_B, fun U hU hV => ⟨rfl, hW.pre0 hU hV trivial⟩⟩ rfl rfl hl.1 rfl (lv_room (Nat.le_of_ble_eq_true rfl)) dX10_off_90 ⟨Nat.zero_le _, Nat.zero_le _⟩) (fun r18 H locs h hW => ?_)
  exact t_l C hr hlk (u := (S, L, R)) hW.2.2.2.1 hW.B h dX10_off_93
set_option maxRecDepth 100000 in
set_option maxHeartbeats 4000000 in
theorem sX10_off {p : Program} {l : Launch} {e : Env} {s : State} {m : MethodId} {args : Array Value} {below : List Frame} {meth : Method} {c : Code} {D : va_G} {q : Nat → Nat} {A : Nat → Prop} {cI cJ cZ cP cS : ClassId} {K : Nat → Nat} {n : Nat} (C : CallFix p m c cX10_off 10 s args wsX10_off RX10) (hr : meth.sig.returnType = (some .long)) (hlk : meth.locks = false) (hX : cX A s) (Q : Int64 → (Nat → Nat → Int32) → (Nat → Int64) → (Nat → Option Nat) → Prop) : ∀ (x1 : Int32) (x2 : Int32) (x3 : Int32) (S : Nat → Nat → Int32) (L : Nat → Int64) (R : Nat → Option Nat) (H : Heap) (locs : List Loc) (ls : Array Slot), vX10_off K n x1 x2 x3 S L R Q → hw D (tyC cI cJ cZ cP cS) q (29 + 2 * n) (gC q cI cJ cZ cP cS K n S L R) A s H locs → lv_has ls 10 [(0, .ref (q 0)), (1, .int x1), (2, .int x2), (3, .int x3)] → W p l e (headSpec wsX10_off rmX10_off).room s m args below meth c H locs 0 0 (MQ below (QCl D q cI cJ cZ cP cS K n Q A) args s 0 0 A) (F0 m 0 ls []) := by
  intro x1 x2 x3 S L R H locs ls h hW hl
  unfold vX10_off at h
  refine lv_aload_n C.1 C.2.1 dX10_off_0 rfl (lv_at hl 0 rfl) ?_
  refine lv_iload_n C.1 C.2.1 dX10_off_1 rfl (lv_at hl 1 rfl) ?_
  refine k_q hW (va_runV (As := [.int x1]) (rest := []) C (mtX10_millOf l D q cI cJ cZ cP cS K n H.size x1 S L R _ h) (cwV 1 C.2.2.2.2 gX10_off_X10_millOf rfl rfl rfl (by decide +kernel) ⟨Nat.le_of_ble_eq_true rfl, Nat.le_of_ble_eq_true rfl⟩) ⟨mP_blind cX_B, va_recv hW.1 hW.2.1 (ci := 10) (q0 := 0) rfl (wL_get (by omega)), fun U hU hV => ⟨rfl, hW.pre hU hV (hX.call hW hU hV)⟩⟩ rfl rfl hl.1 rfl (lv_room (Nat.le_of_ble_eq_true rfl)) dX10_off_2 ⟨Nat.zero_le _, Nat.zero_le _⟩) (fun r9 u H locs h hW => ?_)
  obtain ⟨S2, L3, R4⟩ := u
  obtain ⟨o1, rfl, h⟩ := h
  replace hW : hw D (tyC cI cJ cZ cP cS) q (29 + 2 * n) (gC q cI cJ cZ cP cS K n S2 L3 R4) A s H locs := hW
  refine cv_astore (lv' := [(4, va_rf (Option.map (qM q) o1)), (0, .ref (q 0)), (1, .int x1), (2, .int x2), (3, .int x3)]) C.1 C.2.1 dX10_off_5 hl (by decide) rfl (fun ls hl => ?_)
  refine cv_aload C.1 C.2.1 dX10_off_7 (lv_at hl 0 rfl) ?_
  rcases o1 with _ | mi5
  · replace h := h.1 rfl
    replace hl : lv_has ls 10 [(4, .null), (0, .ref (q 0)), (1, .int x1), (2, .int x2), (3, .int x3)] := hl
    refine lv_ifnullN (tgt := 32) C.1 C.2.1 dX10_off_9 (by decide) ?_
    refine lv_ldc2 (v := (-9223372036854775808)) C.1 C.2.1 C.2.2.2.1 (C.2.2.2.2 (.constantLong RX10 112 (-9223372036854775808)) (by decide +kernel)) dX10_off_32 ?_
    exact t_l C hr hlk (u := (S2, L3, R4)) hW.2.2.2.1 hW.B h dX10_off_35
  · replace h := h.2 mi5 rfl
    replace hl : lv_has ls 10 [(4, .ref (q (29 + 2 * mi5))), (0, .ref (q 0)), (1, .int x1), (2, .int x2), (3, .int x3)] := hl
    refine lv_ifnull C.1 C.2.1 dX10_off_9 ?_
    refine lv_iload_n C.1 C.2.1 dX10_off_12 rfl (lv_at hl 3 rfl) ?_
    refine lv_bipush (v := -99) C.1 C.2.1 dX10_off_13 (by decide) ?_
    refine lv_bipush (v := 99) C.1 C.2.1 dX10_off_15 (by decide) ?_
    refine k_pi hW (va_runS (As := [.int x2, .int (-99 : Int32), .int (99 : Int32)]) (rest := []) C (mtX10_within l D q _ H.size x2 (-99 : Int32) (99 : Int32) _ h) (va_cwS 3 C.2.2.2.2 gX10_off_X10_within rfl rfl rfl (by decide +kernel) ⟨Nat.le_of_ble_eq_true rfl, Nat.le_of_ble_eq_true rfl⟩) ⟨mP_blind tX_B, fun U hU hV => ⟨rfl, hW.pre0 hU hV trivial⟩⟩ rfl rfl hl.1 rfl (lv_room (Nat.le_of_ble_eq_true rfl)) dX10_off_17 ⟨Nat.zero_le _, Nat.zero_le _⟩) (fun r6 H locs h hW => ?_)
    refine lv_if_eq (tgt := 32) C.1 C.2.1 dX10_off_20 (by decide) (fun c7 => ?_) (fun c7 => ?_)
    · replace h := h.1 c7
      refine lv_ldc2 (v := (-9223372036854775808)) C.1 C.2.1 C.2.2.2.1 (C.2.2.2.2 (.constantLong RX10 112 (-9223372036854775808)) (by decide +kernel)) dX10_off_32 ?_
      exact t_l C hr hlk (u := (S2, L3, R4)) hW.2.2.2.1 hW.B h dX10_off_35
    · replace h := h.2 c7
      refine lv_iload_n C.1 C.2.1 dX10_off_23 rfl (lv_at hl 4 rfl) ?_
      refine lv_iconst (v := 0) C.1 C.2.1 dX10_off_24 (by decide) ?_
      refine lv_iconst (v := 1) C.1 C.2.1 dX10_off_25 (by decide) ?_
      refine k_pi hW (va_runS (As := [.int x3, .int (0 : Int32), .int (1 : Int32)]) (rest := []) C (mtX10_within l D q _ H.size x3 (0 : Int32) (1 : Int32) _ h) (va_cwS 3 C.2.2.2.2 gX10_off_X10_within rfl rfl rfl (by decide +kernel) ⟨Nat.le_of_ble_eq_true rfl, Nat.le_of_ble_eq_true rfl⟩) ⟨mP_blind tX_B, fun U hU hV => ⟨rfl, hW.pre0 hU hV trivial⟩⟩ rfl rfl hl.1 rfl (lv_room (Nat.le_of_ble_eq_true rfl)) dX10_off_26 ⟨Nat.zero_le _, Nat.zero_le _⟩) (fun r8 H locs h hW => ?_)
      refine lv_if_ne (tgt := 36) C.1 C.2.1 dX10_off_29 (by decide) (fun c9 => ?_) (fun c9 => ?_)
      · replace h := h.1 c9
        refine lv_aload C.1 C.2.1 dX10_off_36 (lv_at hl 0 rfl) ?_
        obtain ⟨hb10, h⟩ := h
        refine c_nums C hW hb10 inX10_off_X3 inX10_off_X4 inX10_off_X7 (ref := "BallMinder$Plain") (by decide +kernel) (fun _ h9 => h9) dX10_off_38 ?_
        refine lv_astore (lv' := [(5, .ref (q (30 + 2 * mi5))), (4, .ref (q (29 + 2 * mi5))), (0, .ref (q 0)), (1, .int x1), (2, .int x2), (3, .int x3)]) C.1 C.2.1 dX10_off_41 hl (by decide) rfl (fun ls hl => ?_)
        refine lv_aload C.1 C.2.1 dX10_off_43 (lv_at hl 0 rfl) ?_
        refine lv_bipush (v := 6) C.1 C.2.1 dX10_off_45 (by decide) ?_
        obtain ⟨hs11, h⟩ := h
        refine r_iald C hW (cA := cI) (n := 9) (f := S2 (30 + 2 * mi5)) (30 + 2 * mi5) 0 (by omega) (gC_nums mi5) rfl hs11 dX10_off_47 ?_
        refine lv_if_ne (tgt := 63) C.1 C.2.1 dX10_off_48 (by decide) (fun c12 => ?_) (fun c12 => ?_)
        · replace h := h.1 c12
          refine lv_lconst (v := 0) C.1 C.2.1 dX10_off_63 (by decide) ?_
          exact sX10_off_64 C hr hlk hX Q x3 mi5 (0 : Int64) S2 L3 R4 _ _ _ h hW (lv_sub hl [5, 0] rfl)
        · replace h := h.2 c12
          refine lv_iload_n C.1 C.2.1 dX10_off_51 rfl (lv_at hl 4 rfl) ?_
          refine lv_i2l C.1 C.2.1 dX10_off_52 rfl ?_
          refine lv_lneg C.1 C.2.1 dX10_off_53 ?_
          refine lv_aload C.1 C.2.1 dX10_off_54 (lv_at hl 0 rfl) ?_
          refine lv_iconst (v := 4) C.1 C.2.1 dX10_off_56 (by decide) ?_
          obtain ⟨hs19, h⟩ := h
          refine r_iald C hW (cA := cI) (n := 9) (f := S2 (30 + 2 * mi5)) (30 + 2 * mi5) 0 (by omega) (gC_nums mi5) rfl hs19 dX10_off_57 ?_
          refine lv_i2l C.1 C.2.1 dX10_off_58 rfl ?_
          refine lv_lmul C.1 C.2.1 dX10_off_59 ?_
          refine lv_goto (tgt := 64) C.1 C.2.1 dX10_off_60 (by decide) ?_
          exact sX10_off_64 C hr hlk hX Q x3 mi5 ((-x2.toInt64) * ((S2 (30 + 2 * mi5) (4 : Int32).toNatClampNeg).toInt64)) S2 L3 R4 _ _ _ h hW (lv_sub hl [5, 0] rfl)
      · replace h := h.2 c9
        refine lv_ldc2 (v := (-9223372036854775808)) C.1 C.2.1 C.2.2.2.1 (C.2.2.2.2 (.constantLong RX10 112 (-9223372036854775808)) (by decide +kernel)) dX10_off_32 ?_
        exact t_l C hr hlk (u := (S2, L3, R4)) hW.2.2.2.1 hW.B h dX10_off_35
set_option maxRecDepth 100000 in
set_option maxHeartbeats 4000000 in
theorem mtX10_off (l : Launch) (D : va_G) (q : Nat → Nat) (cI cJ cZ cP cS : ClassId) (K : Nat → Nat) (n : Nat) (sz : Nat) (x1 : Int32) (x2 : Int32) (x3 : Int32) (S : Nat → Nat → Int32) (L : Nat → Int64) (R : Nat → Option Nat) (Q : Int64 → (Nat → Nat → Int32) → (Nat → Int64) → (Nat → Option Nat) → Prop) (h : vX10_off K n x1 x2 x3 S L R Q) : Met l yX10_off wsX10_off rmX10_off (va_Pc [.ref (q 0), .int x1, .int x2, .int x3] (mP D (tyC cI cJ cZ cP cS) q (29 + 2 * n) (gC q cI cJ cZ cP cS K n S L R) sz (cX (aQ q (29 + 2 * n) sz)))) (QCl D q cI cJ cZ cP cS K n Q (aQ q (29 + 2 * n) sz)) 0 0 (aQ q (29 + 2 * n) sz) := by
  refine met_w (cc := cX10_off) (maxL := 10) (ret := (some .long)) (by decide) rfl (Nat.le_of_ble_eq_true rfl) ?_
  intro p e s m below meth c ls C hr hlk hW hX hnm hl
  exact sX10_off C hr hlk hX Q x1 x2 x3 S L R _ _ _ h hW hl
theorem inX10_years_X3 : ∀ w ∈ wsX30, w ∈ wsX10_years := fun _ h => List.mem_cons_of_mem _ (List.mem_append_left _ (List.mem_append_left _ (List.mem_append_left _ (List.mem_append_left _ (List.mem_append_right _ h)))))
theorem inX10_years_X4 : ∀ w ∈ wsX40, w ∈ wsX10_years := fun _ h => List.mem_cons_of_mem _ (List.mem_append_left _ (List.mem_append_left _ (List.mem_append_left _ (List.mem_append_right _ h))))
theorem inX10_years_X7 : ∀ w ∈ wsX70, w ∈ wsX10_years := fun _ h => List.mem_cons_of_mem _ (List.mem_append_left _ (List.mem_append_left _ (List.mem_append_right _ h)))
theorem inX10_years_X10 : ∀ w ∈ wsX100, w ∈ wsX10_years := fun _ h => List.mem_cons_of_mem _ (List.mem_append_left _ (List.mem_append_right _ h))
theorem inX10_years_X8 : ∀ w ∈ wsX80, w ∈ wsX10_years := fun _ h => List.mem_cons_of_mem _ (List.mem_append_right _ h)
abbrev rmX10_years : Room := { frames := 3, cells := 0, slots := 0, locals := 63 }
def vX10_years_115 (K : Nat → Nat) (n : Nat) (Q : Int32 → (Nat → Nat → Int32) → (Nat → Int64) → (Nat → Option Nat) → Prop) (x2 : Int32) (x4 : Nat) (x5 : Int32) (x6 : Int32) (S : Nat → Nat → Int32) (L : Nat → Int64) (R : Nat → Option Nat) : Prop := x4 < n ∧ (vp_in x2 9 ∧ (∀ S16 : Nat → Nat → Int32, S16 = va_up S (30 + 2 * x4) (upd (S (30 + 2 * x4)) x2.toNatClampNeg x5) → Q x6 S16 L R))
def vX10_years_109 (K : Nat → Nat) (n : Nat) (K54 : Int32 → Int32 → Nat → Int32 → Int32 → Int32 → (Nat → Nat → Int32) → (Nat → Int64) → (Nat → Option Nat) → Prop) (Q : Int32 → (Nat → Nat → Int32) → (Nat → Int64) → (Nat → Option Nat) → Prop) (x2 : Int32) (x3 : Int32) (x4 : Nat) (x5 : Int32) (x6 : Int32) (x7 : Int32) (S : Nat → Nat → Int32) (L : Nat → Int64) (R : Nat → Option Nat) : Prop := ∀ x7_33 : Int32, x7_33 = x7 + (1 : Int32) → K54 x2 x3 x4 x5 x6 x7_33 S L R
def vX10_years_54 (K : Nat → Nat) (n : Nat) (Q : Int32 → (Nat → Nat → Int32) → (Nat → Int64) → (Nat → Option Nat) → Prop) : Nat → Int32 → Int32 → Nat → Int32 → Int32 → Int32 → (Nat → Nat → Int32) → (Nat → Int64) → (Nat → Option Nat) → Prop
  | 0, _, _, _, _, _, _, _, _, _ => False
  | fu+1, x2, x3, x4, x5, x6, x7, S, L, R => ((60 : Int32) < x7 → vX10_years_115 K n Q x2 x4 x5 x6 S L R) ∧ (¬ ((60 : Int32) < x7) → (¬ x6 = (-9 : Int32) → vX10_years_115 K n Q x2 x4 x5 x6 S L R) ∧ (x6 = (-9 : Int32) → x4 < n ∧ (vp_in x2 9 ∧ (vp_in x2 9 ∧ (vX10_bounded (x5 + (x3 * x7)) (leastV x2.toNatClampNeg) (greatestV x2.toNatClampNeg) (fun r25 => vp_in x2 9 ∧ (∀ S27 : Nat → Nat → Int32, S27 = va_up S (30 + 2 * x4) (upd (S (30 + 2 * x4)) x2.toNatClampNeg r25) → vX10_standingOf K n x4 S27 L R (fun r28 S29 L30 R31 => (r28 = (2 : Int32) → vX10_years_109 K n (vX10_years_54 K n Q fu) Q x2 x3 x4 x5 x6 x7 S29 L30 R31) ∧ (¬ (r28 = (2 : Int32)) → vX10_years_109 K n (vX10_years_54 K n Q fu) Q x2 x3 x4 x5 x7 x7 S29 L30 R31)))))))))
def vX10_years (K : Nat → Nat) (n : Nat) (x1 : Int32) (x2 : Int32) (x3 : Int32) (S : Nat → Nat → Int32) (L : Nat → Int64) (R : Nat → Option Nat) (Q : Int32 → (Nat → Nat → Int32) → (Nat → Int64) → (Nat → Option Nat) → Prop) : Prop := vX10_millOf K n x1 S L R (fun o1 S2 L3 R4 => (o1 = none → Q (-1 : Int32) S2 L3 R4) ∧ (∀ mi5 : Nat, o1 = some mi5 → vX10_within x2 (0 : Int32) (6 : Int32) (fun r6 => (¬ r6 = 0 → vX10_within x3 (-9 : Int32) (9 : Int32) (fun r8 => (¬ r8 = 0 → mi5 < n ∧ (vp_in x2 9 ∧ (∀ x5_12 : Int32, x5_12 = S2 (30 + 2 * mi5) x2.toNatClampNeg → ∃ n54, vX10_years_54 K n Q n54 x2 x3 mi5 x5_12 (-9 : Int32) (1 : Int32) S2 L3 R4))) ∧ (r8 = 0 → Q (-2 : Int32) S2 L3 R4))) ∧ (r6 = 0 → Q (-1 : Int32) S2 L3 R4))))
set_option maxRecDepth 100000 in
set_option maxHeartbeats 4000000 in
theorem sX10_years_115 {p : Program} {l : Launch} {e : Env} {s : State} {m : MethodId} {args : Array Value} {below : List Frame} {meth : Method} {c : Code} {D : va_G} {q : Nat → Nat} {A : Nat → Prop} {cI cJ cZ cP cS : ClassId} {K : Nat → Nat} {n : Nat} (C : CallFix p m c cX10_years 8 s args wsX10_years RX10) (hr : meth.sig.returnType = (some .int)) (hlk : meth.locks = false) (hX : cX A s) (Q : Int32 → (Nat → Nat → Int32) → (Nat → Int64) → (Nat → Option Nat) → Prop) : ∀ (x2 : Int32) (x4 : Nat) (x5 : Int32) (x6 : Int32) (S : Nat → Nat → Int32) (L : Nat → Int64) (R : Nat → Option Nat) (H : Heap) (locs : List Loc) (ls : Array Slot), vX10_years_115 K n Q x2 x4 x5 x6 S L R → hw D (tyC cI cJ cZ cP cS) q (29 + 2 * n) (gC q cI cJ cZ cP cS K n S L R) A s H locs → lv_has ls 8 [(2, .int x2), (4, .ref (q (29 + 2 * x4))), (5, .int x5), (6, .int x6)] → W p l e (headSpec wsX10_years rmX10_years).room s m args below meth c H locs 0 0 (MQ below (QCi D q cI cJ cZ cP cS K n Q A) args s 0 0 A) (F0 m 115 ls []) := by
  intro x2 x4 x5 x6 S L R H locs ls h hW hl
  unfold vX10_years_115 at h
  refine lv_aload C.1 C.2.1 dX10_years_115 (lv_at hl 1 rfl) ?_
  obtain ⟨hb14, h⟩ := h
  refine c_nums C hW hb14 inX10_years_X3 inX10_years_X4 inX10_years_X7 (ref := "BallMinder$Plain") (by decide +kernel) (fun _ h9 => h9) dX10_years_117 ?_
  refine lv_iload_n C.1 C.2.1 dX10_years_120 rfl (lv_at hl 0 rfl) ?_
  refine lv_iload C.1 C.2.1 dX10_years_121 (lv_at hl 2 rfl) ?_
  obtain ⟨hs15, h⟩ := h
  refine r_iast C hW (cA := cI) (n := 9) (f := S (30 + 2 * x4)) (30 + 2 * x4) 0 (by omega) (gC_nums x4) rfl hs15 dX10_years_123 (fun H locs hW => ?_)
  replace hW := gC_put (F := upd (S (30 + 2 * x4)) x2.toNatClampNeg x5) (by rw [gC_nums, va_up_self]) hW
  obtain ⟨S16, eS16⟩ : ∃ z : Nat → Nat → Int32, z = va_up S (30 + 2 * x4) (upd (S (30 + 2 * x4)) x2.toNatClampNeg x5) := ⟨_, rfl⟩
  rw [← eS16] at hW
  replace h := h S16 eS16
  refine lv_iload C.1 C.2.1 dX10_years_124 (lv_at hl 3 rfl) ?_
  exact t_i C hr hlk (u := (S16, L, R)) hW.2.2.2.1 hW.B h dX10_years_126
set_option maxRecDepth 100000 in
set_option maxHeartbeats 4000000 in
theorem sX10_years_109 {p : Program} {l : Launch} {e : Env} {s : State} {m : MethodId} {args : Array Value} {below : List Frame} {meth : Method} {c : Code} {D : va_G} {q : Nat → Nat} {A : Nat → Prop} {cI cJ cZ cP cS : ClassId} {K : Nat → Nat} {n : Nat} (C : CallFix p m c cX10_years 8 s args wsX10_years RX10) (hr : meth.sig.returnType = (some .int)) (hlk : meth.locks = false) (hX : cX A s) (Q : Int32 → (Nat → Nat → Int32) → (Nat → Int64) → (Nat → Option Nat) → Prop) (K54 : Int32 → Int32 → Nat → Int32 → Int32 → Int32 → (Nat → Nat → Int32) → (Nat → Int64) → (Nat → Option Nat) → Prop) (hK54 : ∀ (x2 : Int32) (x3 : Int32) (x4 : Nat) (x5 : Int32) (x6 : Int32) (x7 : Int32) (S : Nat → Nat → Int32) (L : Nat → Int64) (R : Nat → Option Nat) (H : Heap) (locs : List Loc) (ls : Array Slot), K54 x2 x3 x4 x5 x6 x7 S L R → hw D (tyC cI cJ cZ cP cS) q (29 + 2 * n) (gC q cI cJ cZ cP cS K n S L R) A s H locs → lv_has ls 8 [(0, .ref (q 0)), (2, .int x2), (3, .int x3), (4, .ref (q (29 + 2 * x4))), (5, .int x5), (6, .int x6), (7, .int x7)] → W p l e (headSpec wsX10_years rmX10_years).room s m args below meth c H locs 0 0 (MQ below (QCi D q cI cJ cZ cP cS K n Q A) args s 0 0 A) (F0 m 54 ls [])) : ∀ (x2 : Int32) (x3 : Int32) (x4 : Nat) (x5 : Int32) (x6 : Int32) (x7 : Int32) (S : Nat → Nat → Int32) (L : Nat → Int64) (R : Nat → Option Nat) (H : Heap) (locs : List Loc) (ls : Array Slot), vX10_years_109 K n K54 Q x2 x3 x4 x5 x6 x7 S L R → hw D (tyC cI cJ cZ cP cS) q (29 + 2 * n) (gC q cI cJ cZ cP cS K n S L R) A s H locs → lv_has ls 8 [(0, .ref (q 0)), (2, .int x2), (3, .int x3), (4, .ref (q (29 + 2 * x4))), (5, .int x5), (6, .int x6), (7, .int x7)] → W p l e (headSpec wsX10_years rmX10_years).room s m args below meth c H locs 0 0 (MQ below (QCi D q cI cJ cZ cP cS K n Q A) args s 0 0 A) (F0 m 109 ls []) := by
  intro x2 x3 x4 x5 x6 x7 S L R H locs ls h hW hl
  unfold vX10_years_109 at h
  obtain ⟨x7_33, ex7_33⟩ : ∃ z : Int32, z = x7 + (1 : Int32) := ⟨_, rfl⟩
  replace h := h x7_33 ex7_33
  refine lv_iinc (v := x7_33) (lv' := [(7, .int x7_33), (0, .ref (q 0)), (2, .int x2), (3, .int x3), (4, .ref (q (29 + 2 * x4))), (5, .int x5), (6, .int x6)]) C.1 C.2.1 dX10_years_109 hl (k := 6) rfl (by rw [ex7_33]; rfl) (by decide) rfl (fun ls hl => ?_)
  refine lv_goto (tgt := 54) C.1 C.2.1 dX10_years_112 (by decide) ?_
  exact hK54 x2 x3 x4 x5 x6 x7_33 S L R _ _ _ h hW (lv_sub hl [1, 2, 3, 4, 5, 6, 0] rfl)
set_option maxRecDepth 100000 in
set_option maxHeartbeats 4000000 in
theorem sX10_years_54 {p : Program} {l : Launch} {e : Env} {s : State} {m : MethodId} {args : Array Value} {below : List Frame} {meth : Method} {c : Code} {D : va_G} {q : Nat → Nat} {A : Nat → Prop} {cI cJ cZ cP cS : ClassId} {K : Nat → Nat} {n : Nat} (C : CallFix p m c cX10_years 8 s args wsX10_years RX10) (hr : meth.sig.returnType = (some .int)) (hlk : meth.locks = false) (hX : cX A s) (Q : Int32 → (Nat → Nat → Int32) → (Nat → Int64) → (Nat → Option Nat) → Prop) : ∀ (fu : Nat) (x2 : Int32) (x3 : Int32) (x4 : Nat) (x5 : Int32) (x6 : Int32) (x7 : Int32) (S : Nat → Nat → Int32) (L : Nat → Int64) (R : Nat → Option Nat) (H : Heap) (locs : List Loc) (ls : Array Slot), vX10_years_54 K n Q fu x2 x3 x4 x5 x6 x7 S L R → hw D (tyC cI cJ cZ cP cS) q (29 + 2 * n) (gC q cI cJ cZ cP cS K n S L R) A s H locs → lv_has ls 8 [(0, .ref (q 0)), (2, .int x2), (3, .int x3), (4, .ref (q (29 + 2 * x4))), (5, .int x5), (6, .int x6), (7, .int x7)] → W p l e (headSpec wsX10_years rmX10_years).room s m args below meth c H locs 0 0 (MQ below (QCi D q cI cJ cZ cP cS K n Q A) args s 0 0 A) (F0 m 54 ls []) := by
  intro fu
  induction fu with
  | zero =>
    intro x2 x3 x4 x5 x6 x7 S L R H locs ls h
    exact h.elim
  | succ fu ih =>
    intro x2 x3 x4 x5 x6 x7 S L R H locs ls h hW hl
    refine lv_iload C.1 C.2.1 dX10_years_54 (lv_at hl 6 rfl) ?_
    refine lv_bipush (v := 60) C.1 C.2.1 dX10_years_56 (by decide) ?_
    refine lv_icmp_gt (tgt := 115) C.1 C.2.1 dX10_years_58 (by decide) (fun c13 => ?_) (fun c13 => ?_)
    · replace h := h.1 c13
      exact sX10_years_115 C hr hlk hX Q x2 x4 x5 x6 S L R _ _ _ h hW (lv_sub hl [1, 3, 4, 5] rfl)
    · replace h := h.2 c13
      refine lv_iload C.1 C.2.1 dX10_years_61 (lv_at hl 5 rfl) ?_
      refine lv_bipush (v := -9) C.1 C.2.1 dX10_years_63 (by decide) ?_
      refine lv_icmp_ne (tgt := 115) C.1 C.2.1 dX10_years_65 (by decide) (fun c17 => ?_) (fun c17 => ?_)
      · replace h := h.1 c17
        exact sX10_years_115 C hr hlk hX Q x2 x4 x5 x6 S L R _ _ _ h hW (lv_sub hl [1, 3, 4, 5] rfl)
      · replace h := h.2 c17
        refine lv_aload C.1 C.2.1 dX10_years_68 (lv_at hl 3 rfl) ?_
        obtain ⟨hb18, h⟩ := h
        refine c_nums C hW hb18 inX10_years_X3 inX10_years_X4 inX10_years_X7 (ref := "BallMinder$Plain") (by decide +kernel) (fun _ h9 => h9) dX10_years_70 ?_
        refine lv_iload_n C.1 C.2.1 dX10_years_73 rfl (lv_at hl 1 rfl) ?_
        refine lv_iload C.1 C.2.1 dX10_years_74 (lv_at hl 4 rfl) ?_
        refine lv_iload_n C.1 C.2.1 dX10_years_76 rfl (lv_at hl 2 rfl) ?_
        refine lv_iload C.1 C.2.1 dX10_years_77 (lv_at hl 6 rfl) ?_
        refine lv_imul C.1 C.2.1 dX10_years_79 ?_
        refine lv_iadd C.1 C.2.1 dX10_years_80 ?_
        refine c_stat C hW hX.2.1 (by decide +kernel) dX10_years_81 (fun t19 hT20 => ?_)
        refine lv_iload_n C.1 C.2.1 dX10_years_84 rfl (lv_at hl 1 rfl) ?_
        obtain ⟨hs21, h⟩ := h
        refine va_ti C.1 C.2.1 hT20 hW.2.2.2.1 hs21 rfl dX10_years_85 ?_
        refine c_stat C hW hX.2.2.1 (by decide +kernel) dX10_years_86 (fun t22 hT23 => ?_)
        refine lv_iload_n C.1 C.2.1 dX10_years_89 rfl (lv_at hl 1 rfl) ?_
        obtain ⟨hs24, h⟩ := h
        refine va_ti C.1 C.2.1 hT23 hW.2.2.2.1 hs24 rfl dX10_years_90 ?_
        refine k_pi hW (va_runS (As := [.int (x5 + (x3 * x7)), .int (leastV x2.toNatClampNeg), .int (greatestV x2.toNatClampNeg)]) (rest := [.int x2, .ref (q (30 + 2 * x4))]) C (mtX10_bounded l D q _ H.size (x5 + (x3 * x7)) (leastV x2.toNatClampNeg) (greatestV x2.toNatClampNeg) _ h) (va_cwS 3 C.2.2.2.2 gX10_years_X10_bounded rfl rfl rfl (by decide +kernel) ⟨Nat.le_of_ble_eq_true rfl, Nat.le_of_ble_eq_true rfl⟩) ⟨mP_blind tX_B, fun U hU hV => ⟨rfl, hW.pre0 hU hV trivial⟩⟩ rfl rfl hl.1 rfl (lv_room (Nat.le_of_ble_eq_true rfl)) dX10_years_91 ⟨Nat.zero_le _, Nat.zero_le _⟩) (fun r25 H locs h hW => ?_)
        obtain ⟨hs26, h⟩ := h
        refine r_iast C hW (cA := cI) (n := 9) (f := S (30 + 2 * x4)) (30 + 2 * x4) 0 (by omega) (gC_nums x4) rfl hs26 dX10_years_94 (fun H locs hW => ?_)
        replace hW := gC_put (F := upd (S (30 + 2 * x4)) x2.toNatClampNeg r25) (by rw [gC_nums, va_up_self]) hW
        obtain ⟨S27, eS27⟩ : ∃ z : Nat → Nat → Int32, z = va_up S (30 + 2 * x4) (upd (S (30 + 2 * x4)) x2.toNatClampNeg r25) := ⟨_, rfl⟩
        rw [← eS27] at hW
        replace h := h S27 eS27
        refine lv_aload_n C.1 C.2.1 dX10_years_95 rfl (lv_at hl 0 rfl) ?_
        refine lv_aload C.1 C.2.1 dX10_years_96 (lv_at hl 3 rfl) ?_
        refine k_i hW (va_runV (As := [.ref (q (29 + 2 * x4))]) (rest := []) C (mtX10_standingOf l D q cI cJ cZ cP cS K n H.size x4 S27 L R _ h) (cwV 1 C.2.2.2.2 gX10_years_X10_standingOf rfl rfl rfl (by decide +kernel) ⟨Nat.le_of_ble_eq_true rfl, Nat.le_of_ble_eq_true rfl⟩) ⟨mP_blind cX_B, va_recv hW.1 hW.2.1 (ci := 10) (q0 := 0) rfl (wL_get (by omega)), fun U hU hV => ⟨rfl, hW.pre hU hV (hX.call hW hU hV)⟩⟩ rfl rfl hl.1 rfl (lv_room (Nat.le_of_ble_eq_true rfl)) dX10_years_98 ⟨Nat.zero_le _, Nat.zero_le _⟩) (fun r28 u H locs h hW => ?_)
        obtain ⟨S29, L30, R31⟩ := u
        replace hW : hw D (tyC cI cJ cZ cP cS) q (29 + 2 * n) (gC q cI cJ cZ cP cS K n S29 L30 R31) A s H locs := hW
        refine lv_iconst (v := 2) C.1 C.2.1 dX10_years_101 (by decide) ?_
        refine lv_icmp_eq (tgt := 109) C.1 C.2.1 dX10_years_102 (by decide) (fun c32 => ?_) (fun c32 => ?_)
        · replace h := h.1 c32
          exact sX10_years_109 C hr hlk hX Q _ ih x2 x3 x4 x5 x6 x7 S29 L30 R31 _ _ _ h hW (lv_sub hl [0, 1, 2, 3, 4, 5, 6] rfl)
        · replace h := h.2 c32
          refine lv_iload C.1 C.2.1 dX10_years_105 (lv_at hl 6 rfl) ?_
          refine lv_istore (lv' := [(6, .int x7), (0, .ref (q 0)), (2, .int x2), (3, .int x3), (4, .ref (q (29 + 2 * x4))), (5, .int x5), (7, .int x7)]) C.1 C.2.1 dX10_years_107 hl (by decide) rfl (fun ls hl => ?_)
          exact sX10_years_109 C hr hlk hX Q _ ih x2 x3 x4 x5 x7 x7 S29 L30 R31 _ _ _ h hW (lv_sub hl [1, 2, 3, 4, 5, 0, 6] rfl)
set_option maxRecDepth 100000 in
set_option maxHeartbeats 4000000 in
theorem sX10_years {p : Program} {l : Launch} {e : Env} {s : State} {m : MethodId} {args : Array Value} {below : List Frame} {meth : Method} {c : Code} {D : va_G} {q : Nat → Nat} {A : Nat → Prop} {cI cJ cZ cP cS : ClassId} {K : Nat → Nat} {n : Nat} (C : CallFix p m c cX10_years 8 s args wsX10_years RX10) (hr : meth.sig.returnType = (some .int)) (hlk : meth.locks = false) (hX : cX A s) (Q : Int32 → (Nat → Nat → Int32) → (Nat → Int64) → (Nat → Option Nat) → Prop) : ∀ (x1 : Int32) (x2 : Int32) (x3 : Int32) (S : Nat → Nat → Int32) (L : Nat → Int64) (R : Nat → Option Nat) (H : Heap) (locs : List Loc) (ls : Array Slot), vX10_years K n x1 x2 x3 S L R Q → hw D (tyC cI cJ cZ cP cS) q (29 + 2 * n) (gC q cI cJ cZ cP cS K n S L R) A s H locs → lv_has ls 8 [(0, .ref (q 0)), (1, .int x1), (2, .int x2), (3, .int x3)] → W p l e (headSpec wsX10_years rmX10_years).room s m args below meth c H locs 0 0 (MQ below (QCi D q cI cJ cZ cP cS K n Q A) args s 0 0 A) (F0 m 0 ls []) := by
  intro x1 x2 x3 S L R H locs ls h hW hl
  unfold vX10_years at h
  refine lv_aload_n C.1 C.2.1 dX10_years_0 rfl (lv_at hl 0 rfl) ?_
  refine lv_iload_n C.1 C.2.1 dX10_years_1 rfl (lv_at hl 1 rfl) ?_
  refine k_q hW (va_runV (As := [.int x1]) (rest := []) C (mtX10_millOf l D q cI cJ cZ cP cS K n H.size x1 S L R _ h) (cwV 1 C.2.2.2.2 gX10_years_X10_millOf rfl rfl rfl (by decide +kernel) ⟨Nat.le_of_ble_eq_true rfl, Nat.le_of_ble_eq_true rfl⟩) ⟨mP_blind cX_B, va_recv hW.1 hW.2.1 (ci := 10) (q0 := 0) rfl (wL_get (by omega)), fun U hU hV => ⟨rfl, hW.pre hU hV (hX.call hW hU hV)⟩⟩ rfl rfl hl.1 rfl (lv_room (Nat.le_of_ble_eq_true rfl)) dX10_years_2 ⟨Nat.zero_le _, Nat.zero_le _⟩) (fun r9 u H locs h hW => ?_)
  obtain ⟨S2, L3, R4⟩ := u
  obtain ⟨o1, rfl, h⟩ := h
  replace hW : hw D (tyC cI cJ cZ cP cS) q (29 + 2 * n) (gC q cI cJ cZ cP cS K n S2 L3 R4) A s H locs := hW
  refine cv_astore (lv' := [(4, va_rf (Option.map (qM q) o1)), (0, .ref (q 0)), (1, .int x1), (2, .int x2), (3, .int x3)]) C.1 C.2.1 dX10_years_5 hl (by decide) rfl (fun ls hl => ?_)
  refine cv_aload C.1 C.2.1 dX10_years_7 (lv_at hl 0 rfl) ?_
  rcases o1 with _ | mi5
  · replace h := h.1 rfl
    replace hl : lv_has ls 8 [(4, .null), (0, .ref (q 0)), (1, .int x1), (2, .int x2), (3, .int x3)] := hl
    refine lv_ifnullN (tgt := 22) C.1 C.2.1 dX10_years_9 (by decide) ?_
    refine lv_iconst (v := -1) C.1 C.2.1 dX10_years_22 (by decide) ?_
    exact t_i C hr hlk (u := (S2, L3, R4)) hW.2.2.2.1 hW.B h dX10_years_23
  · replace h := h.2 mi5 rfl
    replace hl : lv_has ls 8 [(4, .ref (q (29 + 2 * mi5))), (0, .ref (q 0)), (1, .int x1), (2, .int x2), (3, .int x3)] := hl
    refine lv_ifnull C.1 C.2.1 dX10_years_9 ?_
    refine lv_iload_n C.1 C.2.1 dX10_years_12 rfl (lv_at hl 3 rfl) ?_
    refine lv_iconst (v := 0) C.1 C.2.1 dX10_years_13 (by decide) ?_
    refine lv_bipush (v := 6) C.1 C.2.1 dX10_years_14 (by decide) ?_
    refine k_pi hW (va_runS (As := [.int x2, .int (0 : Int32), .int (6 : Int32)]) (rest := []) C (mtX10_within l D q _ H.size x2 (0 : Int32) (6 : Int32) _ h) (va_cwS 3 C.2.2.2.2 gX10_years_X10_within rfl rfl rfl (by decide +kernel) ⟨Nat.le_of_ble_eq_true rfl, Nat.le_of_ble_eq_true rfl⟩) ⟨mP_blind tX_B, fun U hU hV => ⟨rfl, hW.pre0 hU hV trivial⟩⟩ rfl rfl hl.1 rfl (lv_room (Nat.le_of_ble_eq_true rfl)) dX10_years_16 ⟨Nat.zero_le _, Nat.zero_le _⟩) (fun r6 H locs h hW => ?_)
    refine lv_if_ne (tgt := 24) C.1 C.2.1 dX10_years_19 (by decide) (fun c7 => ?_) (fun c7 => ?_)
    · replace h := h.1 c7
      refine lv_iload_n C.1 C.2.1 dX10_years_24 rfl (lv_at hl 4 rfl) ?_
      refine lv_bipush (v := -9) C.1 C.2.1 dX10_years_25 (by decide) ?_
      refine lv_bipush (v := 9) C.1 C.2.1 dX10_years_27 (by decide) ?_
      refine k_pi hW (va_runS (As := [.int x3, .int (-9 : Int32), .int (9 : Int32)]) (rest := []) C (mtX10_within l D q _ H.size x3 (-9 : Int32) (9 : Int32) _ h) (va_cwS 3 C.2.2.2.2 gX10_years_X10_within rfl rfl rfl (by decide +kernel) ⟨Nat.le_of_ble_eq_true rfl, Nat.le_of_ble_eq_true rfl⟩) ⟨mP_blind tX_B, fun U hU hV => ⟨rfl, hW.pre0 hU hV trivial⟩⟩ rfl rfl hl.1 rfl (lv_room (Nat.le_of_ble_eq_true rfl)) dX10_years_29 ⟨Nat.zero_le _, Nat.zero_le _⟩) (fun r8 H locs h hW => ?_)
      refine lv_if_ne (tgt := 38) C.1 C.2.1 dX10_years_32 (by decide) (fun c9 => ?_) (fun c9 => ?_)
      · replace h := h.1 c9
        refine lv_aload C.1 C.2.1 dX10_years_38 (lv_at hl 0 rfl) ?_
        obtain ⟨hb10, h⟩ := h
        refine c_nums C hW hb10 inX10_years_X3 inX10_years_X4 inX10_years_X7 (ref := "BallMinder$Plain") (by decide +kernel) (fun _ h9 => h9) dX10_years_40 ?_
        refine lv_iload_n C.1 C.2.1 dX10_years_43 rfl (lv_at hl 3 rfl) ?_
        obtain ⟨hs11, h⟩ := h
        refine r_iald C hW (cA := cI) (n := 9) (f := S2 (30 + 2 * mi5)) (30 + 2 * mi5) 0 (by omega) (gC_nums mi5) rfl hs11 dX10_years_44 ?_
        refine lv_topi (fun x5_12 ex5_12 => ?_)
        replace h := h x5_12 ex5_12
        refine lv_istore (lv' := [(5, .int x5_12), (4, .ref (q (29 + 2 * mi5))), (0, .ref (q 0)), (1, .int x1), (2, .int x2), (3, .int x3)]) C.1 C.2.1 dX10_years_45 hl (by decide) rfl (fun ls hl => ?_)
        refine lv_bipush (v := -9) C.1 C.2.1 dX10_years_47 (by decide) ?_
        refine lv_istore (lv' := [(6, .int (-9 : Int32)), (5, .int x5_12), (4, .ref (q (29 + 2 * mi5))), (0, .ref (q 0)), (1, .int x1), (2, .int x2), (3, .int x3)]) C.1 C.2.1 dX10_years_49 hl (by decide) rfl (fun ls hl => ?_)
        refine lv_iconst (v := 1) C.1 C.2.1 dX10_years_51 (by decide) ?_
        refine lv_istore (lv' := [(7, .int (1 : Int32)), (6, .int (-9 : Int32)), (5, .int x5_12), (4, .ref (q (29 + 2 * mi5))), (0, .ref (q 0)), (1, .int x1), (2, .int x2), (3, .int x3)]) C.1 C.2.1 dX10_years_52 hl (by decide) rfl (fun ls hl => ?_)
        obtain ⟨n9, h⟩ := h
        exact sX10_years_54 C hr hlk hX Q n9 x2 x3 mi5 x5_12 (-9 : Int32) (1 : Int32) S2 L3 R4 _ _ _ h hW (lv_sub hl [4, 6, 7, 3, 2, 1, 0] rfl)
      · replace h := h.2 c9
        refine lv_bipush (v := -2) C.1 C.2.1 dX10_years_35 (by decide) ?_
        exact t_i C hr hlk (u := (S2, L3, R4)) hW.2.2.2.1 hW.B h dX10_years_37
    · replace h := h.2 c7
      refine lv_iconst (v := -1) C.1 C.2.1 dX10_years_22 (by decide) ?_
      exact t_i C hr hlk (u := (S2, L3, R4)) hW.2.2.2.1 hW.B h dX10_years_23
set_option maxRecDepth 100000 in
set_option maxHeartbeats 4000000 in
theorem mtX10_years (l : Launch) (D : va_G) (q : Nat → Nat) (cI cJ cZ cP cS : ClassId) (K : Nat → Nat) (n : Nat) (sz : Nat) (x1 : Int32) (x2 : Int32) (x3 : Int32) (S : Nat → Nat → Int32) (L : Nat → Int64) (R : Nat → Option Nat) (Q : Int32 → (Nat → Nat → Int32) → (Nat → Int64) → (Nat → Option Nat) → Prop) (h : vX10_years K n x1 x2 x3 S L R Q) : Met l yX10_years wsX10_years rmX10_years (va_Pc [.ref (q 0), .int x1, .int x2, .int x3] (mP D (tyC cI cJ cZ cP cS) q (29 + 2 * n) (gC q cI cJ cZ cP cS K n S L R) sz (cX (aQ q (29 + 2 * n) sz)))) (QCi D q cI cJ cZ cP cS K n Q (aQ q (29 + 2 * n) sz)) 0 0 (aQ q (29 + 2 * n) sz) := by
  refine met_w (cc := cX10_years) (maxL := 8) (ret := (some .int)) (by decide) rfl (Nat.le_of_ble_eq_true rfl) ?_
  intro p e s m below meth c ls C hr hlk hW hX hnm hl
  exact sX10_years C hr hlk hX Q x1 x2 x3 S L R _ _ _ h hW hl
abbrev rmX10_canRun : Room := { frames := 1, cells := 0, slots := 0, locals := 22 }
def vX10_canRun (x0 : Int32) (x1 : Int32) (x2 : Int32) (Q : Int32 → Prop) : Prop := vX10_within x0 (0 : Int32) (999 : Int32) (fun r1 => (r1 = 0 → Q (0 : Int32)) ∧ (¬ (r1 = 0) → vX10_within x1 (0 : Int32) (100 : Int32) (fun r3 => (r3 = 0 → Q (0 : Int32)) ∧ (¬ (r3 = 0) → vX10_within x2 (0 : Int32) (100 : Int32) (fun r5 => (r5 = 0 → Q (0 : Int32)) ∧ (¬ (r5 = 0) → Q (1 : Int32)))))))
set_option maxRecDepth 100000 in
set_option maxHeartbeats 4000000 in
theorem sX10_canRun {p : Program} {l : Launch} {e : Env} {s : State} {m : MethodId} {args : Array Value} {below : List Frame} {meth : Method} {c : Code} {D : va_G} {q : Nat → Nat} {A : Nat → Prop} {tys : List (ClassId × FieldType)} {N : Nat} {g : Nat → va_E} (C : CallFix p m c cX10_canRun 3 s args wsX10_canRun RX10) (hr : meth.sig.returnType = (some .boolean)) (hlk : meth.locks = false) (Q : Int32 → Prop) : ∀ (x0 : Int32) (x1 : Int32) (x2 : Int32) (H : Heap) (locs : List Loc) (ls : Array Slot), vX10_canRun x0 x1 x2 Q → hw D tys q N g A s H locs → lv_has ls 3 [(0, .int x0), (1, .int x1), (2, .int x2)] → W p l e (headSpec wsX10_canRun rmX10_canRun).room s m args below meth c H locs 0 0 (MQ below (va_Qi (fun r (_ : Unit) => Q r) (fun _ _ => True) A) args s 0 0 A) (F0 m 0 ls []) := by
  intro x0 x1 x2 H locs ls h hW hl
  unfold vX10_canRun at h
  refine lv_iload_n C.1 C.2.1 dX10_canRun_0 rfl (lv_at hl 0 rfl) ?_
  refine lv_iconst (v := 0) C.1 C.2.1 dX10_canRun_1 (by decide) ?_
  refine lv_sipush (v := 999) C.1 C.2.1 dX10_canRun_2 (by decide) ?_
  refine k_pi hW (va_runS (As := [.int x0, .int (0 : Int32), .int (999 : Int32)]) (rest := []) C (mtX10_within l D q _ H.size x0 (0 : Int32) (999 : Int32) _ h) (va_cwS 3 C.2.2.2.2 gX10_canRun_X10_within rfl rfl rfl (by decide +kernel) ⟨Nat.le_of_ble_eq_true rfl, Nat.le_of_ble_eq_true rfl⟩) ⟨mP_blind tX_B, fun U hU hV => ⟨rfl, hW.pre0 hU hV trivial⟩⟩ rfl rfl hl.1 rfl (lv_room (Nat.le_of_ble_eq_true rfl)) dX10_canRun_5 ⟨Nat.zero_le _, Nat.zero_le _⟩) (fun r1 H locs h hW => ?_)
  refine lv_if_eq (tgt := 35) C.1 C.2.1 dX10_canRun_8 (by decide) (fun c2 => ?_) (fun c2 => ?_)
  · replace h := h.1 c2
    refine lv_iconst (v := 0) C.1 C.2.1 dX10_canRun_35 (by decide) ?_
    exact t_z C hr hlk (u := ()) (Or.inl rfl) hW.2.2.2.1 (fun _ _ => trivial) h dX10_canRun_36
  · replace h := h.2 c2
    refine lv_iload_n C.1 C.2.1 dX10_canRun_11 rfl (lv_at hl 1 rfl) ?_
    refine lv_iconst (v := 0) C.1 C.2.1 dX10_canRun_12 (by decide) ?_
    refine lv_bipush (v := 100) C.1 C.2.1 dX10_canRun_13 (by decide) ?_
    refine k_pi hW (va_runS (As := [.int x1, .int (0 : Int32), .int (100 : Int32)]) (rest := []) C (mtX10_within l D q _ H.size x1 (0 : Int32) (100 : Int32) _ h) (va_cwS 3 C.2.2.2.2 gX10_canRun_X10_within rfl rfl rfl (by decide +kernel) ⟨Nat.le_of_ble_eq_true rfl, Nat.le_of_ble_eq_true rfl⟩) ⟨mP_blind tX_B, fun U hU hV => ⟨rfl, hW.pre0 hU hV trivial⟩⟩ rfl rfl hl.1 rfl (lv_room (Nat.le_of_ble_eq_true rfl)) dX10_canRun_15 ⟨Nat.zero_le _, Nat.zero_le _⟩) (fun r3 H locs h hW => ?_)
    refine lv_if_eq (tgt := 35) C.1 C.2.1 dX10_canRun_18 (by decide) (fun c4 => ?_) (fun c4 => ?_)
    · replace h := h.1 c4
      refine lv_iconst (v := 0) C.1 C.2.1 dX10_canRun_35 (by decide) ?_
      exact t_z C hr hlk (u := ()) (Or.inl rfl) hW.2.2.2.1 (fun _ _ => trivial) h dX10_canRun_36
    · replace h := h.2 c4
      refine lv_iload_n C.1 C.2.1 dX10_canRun_21 rfl (lv_at hl 2 rfl) ?_
      refine lv_iconst (v := 0) C.1 C.2.1 dX10_canRun_22 (by decide) ?_
      refine lv_bipush (v := 100) C.1 C.2.1 dX10_canRun_23 (by decide) ?_
      refine k_pi hW (va_runS (As := [.int x2, .int (0 : Int32), .int (100 : Int32)]) (rest := []) C (mtX10_within l D q _ H.size x2 (0 : Int32) (100 : Int32) _ h) (va_cwS 3 C.2.2.2.2 gX10_canRun_X10_within rfl rfl rfl (by decide +kernel) ⟨Nat.le_of_ble_eq_true rfl, Nat.le_of_ble_eq_true rfl⟩) ⟨mP_blind tX_B, fun U hU hV => ⟨rfl, hW.pre0 hU hV trivial⟩⟩ rfl rfl hl.1 rfl (lv_room (Nat.le_of_ble_eq_true rfl)) dX10_canRun_25 ⟨Nat.zero_le _, Nat.zero_le _⟩) (fun r5 H locs h hW => ?_)
      refine lv_if_eq (tgt := 35) C.1 C.2.1 dX10_canRun_28 (by decide) (fun c6 => ?_) (fun c6 => ?_)
      · replace h := h.1 c6
        refine lv_iconst (v := 0) C.1 C.2.1 dX10_canRun_35 (by decide) ?_
        exact t_z C hr hlk (u := ()) (Or.inl rfl) hW.2.2.2.1 (fun _ _ => trivial) h dX10_canRun_36
      · replace h := h.2 c6
        refine lv_iconst (v := 1) C.1 C.2.1 dX10_canRun_31 (by decide) ?_
        refine lv_goto (tgt := 36) C.1 C.2.1 dX10_canRun_32 (by decide) ?_
        exact t_z C hr hlk (u := ()) (Or.inr rfl) hW.2.2.2.1 (fun _ _ => trivial) h dX10_canRun_36
set_option maxRecDepth 100000 in
set_option maxHeartbeats 4000000 in
theorem mtX10_canRun (l : Launch) (D : va_G) (q : Nat → Nat) (g : Nat → va_E) (sz : Nat) (x0 : Int32) (x1 : Int32) (x2 : Int32) (Q : Int32 → Prop) (h : vX10_canRun x0 x1 x2 Q) : Met l yX10_canRun wsX10_canRun rmX10_canRun (va_Pc [.int x0, .int x1, .int x2] (mP D [] q 0 g sz tX)) (va_Qi (fun r (_ : Unit) => Q r) (fun _ _ => True) (aQ q 0 sz)) 0 0 (aQ q 0 sz) := by
  refine met_w (cc := cX10_canRun) (maxL := 3) (ret := (some .boolean)) (by decide) rfl (Nat.le_of_ble_eq_true rfl) ?_
  intro p e s m below meth c ls C hr hlk hW hX hnm hl
  exact sX10_canRun C hr hlk Q x0 x1 x2 _ _ _ h hW hl
theorem inX2_begin_X2 : ∀ w ∈ wsX20, w ∈ wsX2_begin := fun _ h => List.mem_cons_of_mem _ (List.mem_append_right _ h)
abbrev rmX2_begin : Room := { frames := 0, cells := 0, slots := 0, locals := 0 }
def vX2_begin_19 (K : Nat → Nat) (n : Nat) (g : Nat) (Q : (Nat → Nat → Int32) → (Nat → Int64) → (Nat → Option Nat) → Prop) (y0 : Int32) (y1 : Int32) (S : Nat → Nat → Int32) (L : Nat → Int64) (R : Nat → Option Nat) : Prop := vp_in y1 301 ∧ (∀ S4 : Nat → Nat → Int32, S4 = va_up S (16 + 3 * g) (upd (S (16 + 3 * g)) y1.toNatClampNeg y0) → vp_in (0 : Int32) 301 ∧ (∀ S6 : Nat → Nat → Int32, S6 = va_up S4 (17 + 3 * g) (upd (S4 (17 + 3 * g)) (0 : Int32).toNatClampNeg (0 : Int32)) → Q S6 L R))
def vX2_begin (K : Nat → Nat) (n : Nat) (g : Nat) (x1 : Option Nat) (x2 : Int32) (S : Nat → Nat → Int32) (L : Nat → Int64) (R : Nat → Option Nat) (Q : (Nat → Nat → Int32) → (Nat → Int64) → (Nat → Option Nat) → Prop) : Prop := ∀ R1 : Nat → Option Nat, R1 = va_up R (15 + 3 * g) x1 → (x1 = none → vX2_begin_19 K n g Q (0 : Int32) (0 : Int32) S L R1) ∧ (∀ mi2 : Nat, x1 = some mi2 → vX2_begin_19 K n g Q x2 (0 : Int32) S L R1)
set_option maxRecDepth 100000 in
set_option maxHeartbeats 4000000 in
theorem sX2_begin_19 {p : Program} {l : Launch} {e : Env} {s : State} {m : MethodId} {args : Array Value} {below : List Frame} {meth : Method} {c : Code} {D : va_G} {q : Nat → Nat} {A : Nat → Prop} {cI cJ cZ cP cS : ClassId} {K : Nat → Nat} {n : Nat} (C : CallFix p m c cX2_begin 3 s args wsX2_begin RX2) (hr : meth.sig.returnType = none) (hlk : meth.locks = false) (hX : cX A s) (g : Nat) (hg : g < 2) (Q : (Nat → Nat → Int32) → (Nat → Int64) → (Nat → Option Nat) → Prop) : ∀ (y0 : Int32) (y1 : Int32) (S : Nat → Nat → Int32) (L : Nat → Int64) (R : Nat → Option Nat) (H : Heap) (locs : List Loc) (ls : Array Slot), vX2_begin_19 K n g Q y0 y1 S L R → hw D (tyC cI cJ cZ cP cS) q (29 + 2 * n) (gC q cI cJ cZ cP cS K n S L R) A s H locs → lv_has ls 3 [(0, .ref (q (15 + 3 * g)))] → W p l e (headSpec wsX2_begin rmX2_begin).room s m args below meth c H locs 0 0 (MQ below (QCv D q cI cJ cZ cP cS K n Q A) args s 0 0 A) (F0 m 19 ls [.int y0, .int y1, .ref (q (16 + 3 * g))]) := by
  intro y0 y1 S L R H locs ls h hW hl
  unfold vX2_begin_19 at h
  obtain ⟨hs3, h⟩ := h
  refine r_iast C hW (cA := cI) (n := 301) (f := S (16 + 3 * g)) (16 + 3 * g) 0 (by omega) (gC_valves hg) rfl hs3 dX2_begin_19 (fun H locs hW => ?_)
  replace hW := gC_put (F := upd (S (16 + 3 * g)) y1.toNatClampNeg y0) (by rw [gC_valves hg, va_up_self]) hW
  obtain ⟨S4, eS4⟩ : ∃ z : Nat → Nat → Int32, z = va_up S (16 + 3 * g) (upd (S (16 + 3 * g)) y1.toNatClampNeg y0) := ⟨_, rfl⟩
  rw [← eS4] at hW
  replace h := h S4 eS4
  refine lv_aload_n C.1 C.2.1 dX2_begin_20 rfl (lv_at hl 0 rfl) ?_
  refine r_get C hW (ci := 2) (T := TX2) (n := 3) (ref := "BallMinder$Gate") (v := .ref (q (17 + 3 * g))) (15 + 3 * g) (by omega) (gC_gate hg) rfl 1 (by decide) inX2_begin_X2 (by decide +kernel) (fun _ h9 => h9) rfl dX2_begin_21 ?_
  refine lv_iconst (v := 0) C.1 C.2.1 dX2_begin_24 (by decide) ?_
  refine lv_iconst (v := 0) C.1 C.2.1 dX2_begin_25 (by decide) ?_
  obtain ⟨hs5, h⟩ := h
  refine r_iast C hW (cA := cI) (n := 301) (f := S4 (17 + 3 * g)) (17 + 3 * g) 0 (by omega) (gC_missed hg) rfl hs5 dX2_begin_26 (fun H locs hW => ?_)
  replace hW := gC_put (F := upd (S4 (17 + 3 * g)) (0 : Int32).toNatClampNeg (0 : Int32)) (by rw [gC_missed hg, va_up_self]) hW
  obtain ⟨S6, eS6⟩ : ∃ z : Nat → Nat → Int32, z = va_up S4 (17 + 3 * g) (upd (S4 (17 + 3 * g)) (0 : Int32).toNatClampNeg (0 : Int32)) := ⟨_, rfl⟩
  rw [← eS6] at hW
  replace h := h S6 eS6
  exact t_v C hr hlk (u := (S6, L, R)) hW.2.2.2.1 hW.B h dX2_begin_27
set_option maxRecDepth 100000 in
set_option maxHeartbeats 4000000 in
theorem sX2_begin {p : Program} {l : Launch} {e : Env} {s : State} {m : MethodId} {args : Array Value} {below : List Frame} {meth : Method} {c : Code} {D : va_G} {q : Nat → Nat} {A : Nat → Prop} {cI cJ cZ cP cS : ClassId} {K : Nat → Nat} {n : Nat} (C : CallFix p m c cX2_begin 3 s args wsX2_begin RX2) (hr : meth.sig.returnType = none) (hlk : meth.locks = false) (hX : cX A s) (g : Nat) (hg : g < 2) (Q : (Nat → Nat → Int32) → (Nat → Int64) → (Nat → Option Nat) → Prop) : ∀ (x1 : Option Nat) (x2 : Int32) (S : Nat → Nat → Int32) (L : Nat → Int64) (R : Nat → Option Nat) (H : Heap) (locs : List Loc) (ls : Array Slot), vX2_begin K n g x1 x2 S L R Q → hw D (tyC cI cJ cZ cP cS) q (29 + 2 * n) (gC q cI cJ cZ cP cS K n S L R) A s H locs → lv_has ls 3 [(0, .ref (q (15 + 3 * g))), (1, va_rf (Option.map (qM q) x1)), (2, .int x2)] → W p l e (headSpec wsX2_begin rmX2_begin).room s m args below meth c H locs 0 0 (MQ below (QCv D q cI cJ cZ cP cS K n Q A) args s 0 0 A) (F0 m 0 ls []) := by
  intro x1 x2 S L R H locs ls h hW hl
  unfold vX2_begin at h
  refine lv_aload_n C.1 C.2.1 dX2_begin_0 rfl (lv_at hl 0 rfl) ?_
  refine cv_aload_n C.1 C.2.1 dX2_begin_1 rfl (lv_at hl 1 rfl) ?_
  refine r_put C hW (ci := 2) (T := TX2) (n := 3) (ref := "BallMinder$Gate") (15 + 3 * g) (by omega) (gC_gate hg) rfl 2 (by decide) inX2_begin_X2 tyX2 tyX2_ok nmX2 (by decide +kernel) (fun _ h9 => h9) rfl (nar_o _) (fit_o _) (Nat.le_of_ble_eq_true rfl) dX2_begin_2 (fun H locs hW => ?_)
  replace hW := gC_putR (o := x1) (by rw [gC_gate hg, va_up_self]; rfl) hW
  obtain ⟨R1, eR1⟩ : ∃ z : Nat → Option Nat, z = va_up R (15 + 3 * g) x1 := ⟨_, rfl⟩
  rw [← eR1] at hW
  replace h := h R1 eR1
  refine lv_aload_n C.1 C.2.1 dX2_begin_5 rfl (lv_at hl 0 rfl) ?_
  refine r_get C hW (ci := 2) (T := TX2) (n := 3) (ref := "BallMinder$Gate") (v := .ref (q (16 + 3 * g))) (15 + 3 * g) (by omega) (gC_gate hg) rfl 0 (by decide) inX2_begin_X2 (by decide +kernel) (fun _ h9 => h9) rfl dX2_begin_6 ?_
  refine lv_iconst (v := 0) C.1 C.2.1 dX2_begin_9 (by decide) ?_
  refine cv_aload_n C.1 C.2.1 dX2_begin_10 rfl (lv_at hl 1 rfl) ?_
  rcases x1 with _ | mi2
  · replace h := h.1 rfl
    replace hl : lv_has ls 3 [(0, .ref (q (15 + 3 * g))), (1, .null), (2, .int x2)] := hl
    refine lv_ifnonnullN C.1 C.2.1 dX2_begin_11 ?_
    refine lv_iconst (v := 0) C.1 C.2.1 dX2_begin_14 (by decide) ?_
    refine lv_goto (tgt := 19) C.1 C.2.1 dX2_begin_15 (by decide) ?_
    exact sX2_begin_19 C hr hlk hX g hg Q (0 : Int32) (0 : Int32) S L R1 _ _ _ h hW (lv_sub hl [0] rfl)
  · replace h := h.2 mi2 rfl
    replace hl : lv_has ls 3 [(0, .ref (q (15 + 3 * g))), (1, .ref (q (29 + 2 * mi2))), (2, .int x2)] := hl
    refine lv_ifnonnull (tgt := 18) C.1 C.2.1 dX2_begin_11 (by decide) ?_
    refine lv_iload_n C.1 C.2.1 dX2_begin_18 rfl (lv_at hl 2 rfl) ?_
    exact sX2_begin_19 C hr hlk hX g hg Q x2 (0 : Int32) S L R1 _ _ _ h hW (lv_sub hl [0] rfl)
set_option maxRecDepth 100000 in
set_option maxHeartbeats 4000000 in
theorem mtX2_begin (l : Launch) (D : va_G) (q : Nat → Nat) (cI cJ cZ cP cS : ClassId) (K : Nat → Nat) (n : Nat) (g : Nat) (hg : g < 2) (sz : Nat) (x1 : Option Nat) (x2 : Int32) (S : Nat → Nat → Int32) (L : Nat → Int64) (R : Nat → Option Nat) (Q : (Nat → Nat → Int32) → (Nat → Int64) → (Nat → Option Nat) → Prop) (h : vX2_begin K n g x1 x2 S L R Q) : Met l yX2_begin wsX2_begin rmX2_begin (va_Pc [.ref (q (15 + 3 * g)), va_rf (Option.map (qM q) x1), .int x2] (mP D (tyC cI cJ cZ cP cS) q (29 + 2 * n) (gC q cI cJ cZ cP cS K n S L R) sz (cX (aQ q (29 + 2 * n) sz)))) (QCv D q cI cJ cZ cP cS K n Q (aQ q (29 + 2 * n) sz)) 0 0 (aQ q (29 + 2 * n) sz) := by
  refine met_w (cc := cX2_begin) (maxL := 3) (ret := none) (by decide) rfl (by rcases x1 with _ | _ <;> exact Nat.le_of_ble_eq_true rfl) ?_
  intro p e s m below meth c ls C hr hlk hW hX hnm hl
  replace hl : lv_has ls 3 [(0, .ref (q (15 + 3 * g))), (1, va_rf (Option.map (qM q) x1)), (2, .int x2)] := by rcases x1 with _ | _ <;> exact hl
  exact sX2_begin C hr hlk hX g hg Q x1 x2 S L R _ _ _ h hW hl
theorem inX2_number_X2 : ∀ w ∈ wsX20, w ∈ wsX2_number := fun _ h => List.mem_cons_of_mem _ (List.mem_append_left _ (List.mem_append_left _ (List.mem_append_left _ (List.mem_append_right _ h))))
theorem inX2_number_X3 : ∀ w ∈ wsX30, w ∈ wsX2_number := fun _ h => List.mem_cons_of_mem _ (List.mem_append_left _ (List.mem_append_left _ (List.mem_append_right _ h)))
theorem inX2_number_X4 : ∀ w ∈ wsX40, w ∈ wsX2_number := fun _ h => List.mem_cons_of_mem _ (List.mem_append_left _ (List.mem_append_right _ h))
theorem inX2_number_X7 : ∀ w ∈ wsX70, w ∈ wsX2_number := fun _ h => List.mem_cons_of_mem _ (List.mem_append_right _ h)
abbrev rmX2_number : Room := { frames := 0, cells := 0, slots := 0, locals := 0 }
def vX2_number (K : Nat → Nat) (n : Nat) (g : Nat) (x1 : Int32) (S : Nat → Nat → Int32) (L : Nat → Int64) (R : Nat → Option Nat) (Q : Int32 → (Nat → Nat → Int32) → (Nat → Int64) → (Nat → Option Nat) → Prop) : Prop := ∀ o1 : Option Nat, o1 = R (15 + 3 * g) → (o1 = none → Q (0 : Int32) S L R) ∧ (∀ mi2 : Nat, o1 = some mi2 → ∀ o3 : Option Nat, o3 = R (15 + 3 * g) → ∃ mi4 : Nat, o3 = some mi4 ∧ (mi4 < n ∧ (vp_in x1 9 ∧ (Q (S (30 + 2 * mi4) x1.toNatClampNeg) S L R))))
set_option maxRecDepth 100000 in
set_option maxHeartbeats 4000000 in
theorem sX2_number {p : Program} {l : Launch} {e : Env} {s : State} {m : MethodId} {args : Array Value} {below : List Frame} {meth : Method} {c : Code} {D : va_G} {q : Nat → Nat} {A : Nat → Prop} {cI cJ cZ cP cS : ClassId} {K : Nat → Nat} {n : Nat} (C : CallFix p m c cX2_number 2 s args wsX2_number RX2) (hr : meth.sig.returnType = (some .int)) (hlk : meth.locks = false) (hX : cX A s) (g : Nat) (hg : g < 2) (Q : Int32 → (Nat → Nat → Int32) → (Nat → Int64) → (Nat → Option Nat) → Prop) : ∀ (x1 : Int32) (S : Nat → Nat → Int32) (L : Nat → Int64) (R : Nat → Option Nat) (H : Heap) (locs : List Loc) (ls : Array Slot), vX2_number K n g x1 S L R Q → hw D (tyC cI cJ cZ cP cS) q (29 + 2 * n) (gC q cI cJ cZ cP cS K n S L R) A s H locs → lv_has ls 2 [(0, .ref (q (15 + 3 * g))), (1, .int x1)] → W p l e (headSpec wsX2_number rmX2_number).room s m args below meth c H locs 0 0 (MQ below (QCi D q cI cJ cZ cP cS K n Q A) args s 0 0 A) (F0 m 0 ls []) := by
  intro x1 S L R H locs ls h hW hl
  unfold vX2_number at h
  refine lv_aload_n C.1 C.2.1 dX2_number_0 rfl (lv_at hl 0 rfl) ?_
  refine r_get C hW (ci := 2) (T := TX2) (n := 3) (ref := "BallMinder$Gate") (v := va_rf (Option.map (qM q) (R (15 + 3 * g)))) (15 + 3 * g) (by omega) (gC_gate hg) rfl 2 (by decide) inX2_number_X2 (by decide +kernel) (fun _ h9 => h9) rfl dX2_number_1 ?_
  obtain ⟨o1, eo1⟩ : ∃ z : Option Nat, z = R (15 + 3 * g) := ⟨_, rfl⟩
  rw [← eo1]
  replace h := h o1 eo1
  rcases o1 with _ | mi2
  · replace h := h.1 rfl
    replace hl : lv_has ls 2 [(0, .ref (q (15 + 3 * g))), (1, .int x1)] := hl
    refine lv_ifnonnullN C.1 C.2.1 dX2_number_4 ?_
    refine lv_iconst (v := 0) C.1 C.2.1 dX2_number_7 (by decide) ?_
    refine lv_goto (tgt := 20) C.1 C.2.1 dX2_number_8 (by decide) ?_
    exact t_i C hr hlk (u := (S, L, R)) hW.2.2.2.1 hW.B h dX2_number_20
  · replace h := h.2 mi2 rfl
    replace hl : lv_has ls 2 [(0, .ref (q (15 + 3 * g))), (1, .int x1)] := hl
    refine lv_ifnonnull (tgt := 11) C.1 C.2.1 dX2_number_4 (by decide) ?_
    refine lv_aload_n C.1 C.2.1 dX2_number_11 rfl (lv_at hl 0 rfl) ?_
    refine r_get C hW (ci := 2) (T := TX2) (n := 3) (ref := "BallMinder$Gate") (v := va_rf (Option.map (qM q) (R (15 + 3 * g)))) (15 + 3 * g) (by omega) (gC_gate hg) rfl 2 (by decide) inX2_number_X2 (by decide +kernel) (fun _ h9 => h9) rfl dX2_number_12 ?_
    obtain ⟨o3, eo3⟩ : ∃ z : Option Nat, z = R (15 + 3 * g) := ⟨_, rfl⟩
    rw [← eo3]
    replace h := h o3 eo3
    obtain ⟨mi4, zmi4, hmi4⟩ := h
    subst zmi4
    replace h := hmi4
    clear hmi4
    replace hl : lv_has ls 2 [(0, .ref (q (15 + 3 * g))), (1, .int x1)] := hl
    obtain ⟨hb5, h⟩ := h
    refine c_nums C hW hb5 inX2_number_X3 inX2_number_X4 inX2_number_X7 (ref := "BallMinder$Plain") (by decide +kernel) (fun _ h9 => h9) dX2_number_15 ?_
    refine lv_iload_n C.1 C.2.1 dX2_number_18 rfl (lv_at hl 1 rfl) ?_
    obtain ⟨hs6, h⟩ := h
    refine r_iald C hW (cA := cI) (n := 9) (f := S (30 + 2 * mi4)) (30 + 2 * mi4) 0 (by omega) (gC_nums mi4) rfl hs6 dX2_number_19 ?_
    exact t_i C hr hlk (u := (S, L, R)) hW.2.2.2.1 hW.B h dX2_number_20
set_option maxRecDepth 100000 in
set_option maxHeartbeats 4000000 in
theorem mtX2_number (l : Launch) (D : va_G) (q : Nat → Nat) (cI cJ cZ cP cS : ClassId) (K : Nat → Nat) (n : Nat) (g : Nat) (hg : g < 2) (sz : Nat) (x1 : Int32) (S : Nat → Nat → Int32) (L : Nat → Int64) (R : Nat → Option Nat) (Q : Int32 → (Nat → Nat → Int32) → (Nat → Int64) → (Nat → Option Nat) → Prop) (h : vX2_number K n g x1 S L R Q) : Met l yX2_number wsX2_number rmX2_number (va_Pc [.ref (q (15 + 3 * g)), .int x1] (mP D (tyC cI cJ cZ cP cS) q (29 + 2 * n) (gC q cI cJ cZ cP cS K n S L R) sz (cX (aQ q (29 + 2 * n) sz)))) (QCi D q cI cJ cZ cP cS K n Q (aQ q (29 + 2 * n) sz)) 0 0 (aQ q (29 + 2 * n) sz) := by
  refine met_w (cc := cX2_number) (maxL := 2) (ret := (some .int)) (by decide) rfl (Nat.le_of_ble_eq_true rfl) ?_
  intro p e s m below meth c ls C hr hlk hW hX hnm hl
  exact sX2_number C hr hlk hX g hg Q x1 S L R _ _ _ h hW hl
