theorem inX10_best_X10 : ∀ w ∈ wsX100, w ∈ wsX10_best := fun _ h => List.mem_cons_of_mem _ (List.mem_append_left _ (List.mem_append_left _ (List.mem_append_left _ (List.mem_append_left _ (List.mem_append_left _ (List.mem_append_right _ h))))))
theorem inX10_best_X5 : ∀ w ∈ wsX50, w ∈ wsX10_best := fun _ h => List.mem_cons_of_mem _ (List.mem_append_left _ (List.mem_append_left _ (List.mem_append_left _ (List.mem_append_left _ (List.mem_append_right _ h)))))
theorem inX10_best_X2 : ∀ w ∈ wsX20, w ∈ wsX10_best := fun _ h => List.mem_cons_of_mem _ (List.mem_append_left _ (List.mem_append_left _ (List.mem_append_left _ (List.mem_append_right _ h))))
theorem inX10_best_X3 : ∀ w ∈ wsX30, w ∈ wsX10_best := fun _ h => List.mem_cons_of_mem _ (List.mem_append_left _ (List.mem_append_left _ (List.mem_append_right _ h)))
theorem inX10_best_X4 : ∀ w ∈ wsX40, w ∈ wsX10_best := fun _ h => List.mem_cons_of_mem _ (List.mem_append_left _ (List.mem_append_right _ h))
theorem inX10_best_X7 : ∀ w ∈ wsX70, w ∈ wsX10_best := fun _ h => List.mem_cons_of_mem _ (List.mem_append_right _ h)
abbrev rmX10_best : Room := { frames := 6, cells := 0, slots := 0, locals := 135 }
def vX10_best_109 (K : Nat → Nat) (n : Nat) (K31 : Int32 → Int32 → Int32 → Int32 → Int32 → (Nat → Nat → Int32) → (Nat → Int64) → (Nat → Option Nat) → Prop) (Q : Int32 → (Nat → Nat → Int32) → (Nat → Int64) → (Nat → Option Nat) → Prop) (x1 : Int32) (x2 : Int32) (x3 : Int32) (x4 : Int32) (x5 : Int32) (S : Nat → Nat → Int32) (L : Nat → Int64) (R : Nat → Option Nat) : Prop := ∀ x5_16 : Int32, x5_16 = x5 + (1 : Int32) → K31 x1 x2 x3 x4 x5_16 S L R
def vX10_best_97 (K : Nat → Nat) (n : Nat) (K31 : Int32 → Int32 → Int32 → Int32 → Int32 → (Nat → Nat → Int32) → (Nat → Int64) → (Nat → Option Nat) → Prop) (Q : Int32 → (Nat → Nat → Int32) → (Nat → Int64) → (Nat → Option Nat) → Prop) (x1 : Int32) (x2 : Int32) (x5 : Int32) (S : Nat → Nat → Int32) (L : Nat → Int64) (R : Nat → Option Nat) : Prop := ∀ x4_15 : Int32, x4_15 = S 9 11 → vX10_best_109 K n K31 Q x1 x2 x5 x4_15 x5 S L R
def vX10_best_31 (K : Nat → Nat) (n : Nat) (Q : Int32 → (Nat → Nat → Int32) → (Nat → Int64) → (Nat → Option Nat) → Prop) : Nat → Int32 → Int32 → Int32 → Int32 → Int32 → (Nat → Nat → Int32) → (Nat → Int64) → (Nat → Option Nat) → Prop
  | 0, _, _, _, _, _, _, _, _ => False
  | fu+1, x1, x2, x3, x4, x5, S, L, R => ((S 0 8) ≤ x5 → Q x3 S L R) ∧ (¬ ((S 0 8) ≤ x5) → (¬ (((x1.toUInt32 >>> (x5.toUInt32 &&& Int32.toUInt32 31)).toInt32) &&& (1 : Int32)) = 0 → vp_in x5 8 ∧ (∀ o7 : Option Nat, o7 = (if x5.toNatClampNeg < n then some x5.toNatClampNeg else none) → vX5_begin K n o7 none (100 : Int32) (50 : Int32) x2 S L R (fun S8 L9 R10 => vX5_runTillRound K n  S8 L9 R10 (fun S11 L12 R13 => (x3 = (-9 : Int32) → vX10_best_97 K n (vX10_best_31 K n Q fu) Q x1 x2 x5 S11 L12 R13) ∧ (¬ (x3 = (-9 : Int32)) → ((S11 9 11) ≤ x4 → vX10_best_109 K n (vX10_best_31 K n Q fu) Q x1 x2 x3 x4 x5 S11 L12 R13) ∧ (¬ ((S11 9 11) ≤ x4) → vX10_best_97 K n (vX10_best_31 K n Q fu) Q x1 x2 x5 S11 L12 R13)))))) ∧ ((((x1.toUInt32 >>> (x5.toUInt32 &&& Int32.toUInt32 31)).toInt32) &&& (1 : Int32)) = 0 → vX10_best_109 K n (vX10_best_31 K n Q fu) Q x1 x2 x3 x4 x5 S L R))
def vX10_best (K : Nat → Nat) (n : Nat) (x1 : Int32) (x2 : Int32) (S : Nat → Nat → Int32) (L : Nat → Int64) (R : Nat → Option Nat) (Q : Int32 → (Nat → Nat → Int32) → (Nat → Int64) → (Nat → Option Nat) → Prop) : Prop := (¬ ((x1.toUInt32 >>> ((S 0 8).toUInt32 &&& Int32.toUInt32 31)).toInt32) = 0 → Q (-2 : Int32) S L R) ∧ (((x1.toUInt32 >>> ((S 0 8).toUInt32 &&& Int32.toUInt32 31)).toInt32) = 0 → vX10_within x2 (0 : Int32) (100 : Int32) (fun r2 => (¬ r2 = 0 → ∃ n31, vX10_best_31 K n Q n31 x1 x2 (-9 : Int32) (0 : Int32) (0 : Int32) S L R) ∧ (r2 = 0 → Q (-2 : Int32) S L R)))
set_option maxRecDepth 100000 in
set_option maxHeartbeats 4000000 in
theorem sX10_best_109 {p : Program} {l : Launch} {e : Env} {s : State} {m : MethodId} {args : Array Value} {below : List Frame} {meth : Method} {c : Code} {D : va_G} {q : Nat → Nat} {A : Nat → Prop} {cI cJ cZ cP cS : ClassId} {K : Nat → Nat} {n : Nat} (C : CallFix p m c cX10_best 6 s args wsX10_best RX10) (hr : meth.sig.returnType = (some .int)) (hlk : meth.locks = false) (hX : cX A s) (Q : Int32 → (Nat → Nat → Int32) → (Nat → Int64) → (Nat → Option Nat) → Prop) (K31 : Int32 → Int32 → Int32 → Int32 → Int32 → (Nat → Nat → Int32) → (Nat → Int64) → (Nat → Option Nat) → Prop) (hK31 : ∀ (x1 : Int32) (x2 : Int32) (x3 : Int32) (x4 : Int32) (x5 : Int32) (S : Nat → Nat → Int32) (L : Nat → Int64) (R : Nat → Option Nat) (H : Heap) (locs : List Loc) (ls : Array Slot), K31 x1 x2 x3 x4 x5 S L R → hw D (tyC cI cJ cZ cP cS) q (29 + 2 * n) (gC q cI cJ cZ cP cS K n S L R) A s H locs → lv_has ls 6 [(0, .ref (q 0)), (1, .int x1), (2, .int x2), (3, .int x3), (4, .int x4), (5, .int x5)] → W p l e (headSpec wsX10_best rmX10_best).room s m args below meth c H locs 0 0 (MQ below (QCi D q cI cJ cZ cP cS K n Q A) args s 0 0 A) (F0 m 31 ls [])) : ∀ (x1 : Int32) (x2 : Int32) (x3 : Int32) (x4 : Int32) (x5 : Int32) (S : Nat → Nat → Int32) (L : Nat → Int64) (R : Nat → Option Nat) (H : Heap) (locs : List Loc) (ls : Array Slot), vX10_best_109 K n K31 Q x1 x2 x3 x4 x5 S L R → hw D (tyC cI cJ cZ cP cS) q (29 + 2 * n) (gC q cI cJ cZ cP cS K n S L R) A s H locs → lv_has ls 6 [(0, .ref (q 0)), (1, .int x1), (2, .int x2), (3, .int x3), (4, .int x4), (5, .int x5)] → W p l e (headSpec wsX10_best rmX10_best).room s m args below meth c H locs 0 0 (MQ below (QCi D q cI cJ cZ cP cS K n Q A) args s 0 0 A) (F0 m 109 ls []) := by
  intro x1 x2 x3 x4 x5 S L R H locs ls h hW hl
  unfold vX10_best_109 at h
  obtain ⟨x5_16, ex5_16⟩ : ∃ z : Int32, z = x5 + (1 : Int32) := ⟨_, rfl⟩
  replace h := h x5_16 ex5_16
  refine lv_iinc (v := x5_16) (lv' := [(5, .int x5_16), (0, .ref (q 0)), (1, .int x1), (2, .int x2), (3, .int x3), (4, .int x4)]) C.1 C.2.1 dX10_best_109 hl (k := 5) rfl (by rw [ex5_16]; rfl) (by decide) rfl (fun ls hl => ?_)
  refine lv_goto (tgt := 31) C.1 C.2.1 dX10_best_112 (by decide) ?_
  exact hK31 x1 x2 x3 x4 x5_16 S L R _ _ _ h hW (lv_sub hl [1, 2, 3, 4, 5, 0] rfl)
set_option maxRecDepth 100000 in
set_option maxHeartbeats 4000000 in
theorem sX10_best_97 {p : Program} {l : Launch} {e : Env} {s : State} {m : MethodId} {args : Array Value} {below : List Frame} {meth : Method} {c : Code} {D : va_G} {q : Nat → Nat} {A : Nat → Prop} {cI cJ cZ cP cS : ClassId} {K : Nat → Nat} {n : Nat} (C : CallFix p m c cX10_best 6 s args wsX10_best RX10) (hr : meth.sig.returnType = (some .int)) (hlk : meth.locks = false) (hX : cX A s) (Q : Int32 → (Nat → Nat → Int32) → (Nat → Int64) → (Nat → Option Nat) → Prop) (K31 : Int32 → Int32 → Int32 → Int32 → Int32 → (Nat → Nat → Int32) → (Nat → Int64) → (Nat → Option Nat) → Prop) (hK31 : ∀ (x1 : Int32) (x2 : Int32) (x3 : Int32) (x4 : Int32) (x5 : Int32) (S : Nat → Nat → Int32) (L : Nat → Int64) (R : Nat → Option Nat) (H : Heap) (locs : List Loc) (ls : Array Slot), K31 x1 x2 x3 x4 x5 S L R → hw D (tyC cI cJ cZ cP cS) q (29 + 2 * n) (gC q cI cJ cZ cP cS K n S L R) A s H locs → lv_has ls 6 [(0, .ref (q 0)), (1, .int x1), (2, .int x2), (3, .int x3), (4, .int x4), (5, .int x5)] → W p l e (headSpec wsX10_best rmX10_best).room s m args below meth c H locs 0 0 (MQ below (QCi D q cI cJ cZ cP cS K n Q A) args s 0 0 A) (F0 m 31 ls [])) : ∀ (x1 : Int32) (x2 : Int32) (x5 : Int32) (S : Nat → Nat → Int32) (L : Nat → Int64) (R : Nat → Option Nat) (H : Heap) (locs : List Loc) (ls : Array Slot), vX10_best_97 K n K31 Q x1 x2 x5 S L R → hw D (tyC cI cJ cZ cP cS) q (29 + 2 * n) (gC q cI cJ cZ cP cS K n S L R) A s H locs → lv_has ls 6 [(0, .ref (q 0)), (1, .int x1), (2, .int x2), (5, .int x5)] → W p l e (headSpec wsX10_best rmX10_best).room s m args below meth c H locs 0 0 (MQ below (QCi D q cI cJ cZ cP cS K n Q A) args s 0 0 A) (F0 m 97 ls []) := by
  intro x1 x2 x5 S L R H locs ls h hW hl
  unfold vX10_best_97 at h
  refine lv_iload C.1 C.2.1 dX10_best_97 (lv_at hl 3 rfl) ?_
  refine lv_istore_n (lv' := [(3, .int x5), (0, .ref (q 0)), (1, .int x1), (2, .int x2), (5, .int x5)]) C.1 C.2.1 dX10_best_99 rfl hl (by decide) rfl (fun ls hl => ?_)
  refine lv_aload_n C.1 C.2.1 dX10_best_100 rfl (lv_at hl 1 rfl) ?_
  refine r_get C hW (ci := 10) (T := TX10) (n := 11) (ref := "BallMinder") (v := .ref (q 9)) (0) (by omega) rfl rfl 5 (by decide) inX10_best_X10 (by decide +kernel) (fun _ h9 => h9) rfl dX10_best_101 ?_
  refine r_getN C hW (ci := 5) (T := TX5) (n := 13) (ref := "BallMinder$Shaft") (host := "BallMinder") (v := .int (S 9 11)) (9) (by omega) rfl rfl 11 (by decide) inX10_best_X5 (hX.1 _ (by decide +kernel)) (fun _ h9 => h9) rfl dX10_best_104 ?_
  refine lv_topi (fun x4_15 ex4_15 => ?_)
  replace h := h x4_15 ex4_15
  refine lv_istore (lv' := [(4, .int x4_15), (3, .int x5), (0, .ref (q 0)), (1, .int x1), (2, .int x2), (5, .int x5)]) C.1 C.2.1 dX10_best_107 hl (by decide) rfl (fun ls hl => ?_)
  exact sX10_best_109 C hr hlk hX Q K31 hK31 x1 x2 x5 x4_15 x5 S L R _ _ _ h hW (lv_sub hl [2, 3, 4, 1, 0, 5] rfl)
set_option maxRecDepth 100000 in
set_option maxHeartbeats 4000000 in
theorem sX10_best_31 {p : Program} {l : Launch} {e : Env} {s : State} {m : MethodId} {args : Array Value} {below : List Frame} {meth : Method} {c : Code} {D : va_G} {q : Nat → Nat} {A : Nat → Prop} {cI cJ cZ cP cS : ClassId} {K : Nat → Nat} {n : Nat} (C : CallFix p m c cX10_best 6 s args wsX10_best RX10) (hr : meth.sig.returnType = (some .int)) (hlk : meth.locks = false) (hX : cX A s) (Q : Int32 → (Nat → Nat → Int32) → (Nat → Int64) → (Nat → Option Nat) → Prop) : ∀ (fu : Nat) (x1 : Int32) (x2 : Int32) (x3 : Int32) (x4 : Int32) (x5 : Int32) (S : Nat → Nat → Int32) (L : Nat → Int64) (R : Nat → Option Nat) (H : Heap) (locs : List Loc) (ls : Array Slot), vX10_best_31 K n Q fu x1 x2 x3 x4 x5 S L R → hw D (tyC cI cJ cZ cP cS) q (29 + 2 * n) (gC q cI cJ cZ cP cS K n S L R) A s H locs → lv_has ls 6 [(0, .ref (q 0)), (1, .int x1), (2, .int x2), (3, .int x3), (4, .int x4), (5, .int x5)] → W p l e (headSpec wsX10_best rmX10_best).room s m args below meth c H locs 0 0 (MQ below (QCi D q cI cJ cZ cP cS K n Q A) args s 0 0 A) (F0 m 31 ls []) := by
  intro fu
  induction fu with
  | zero =>
    intro x1 x2 x3 x4 x5 S L R H locs ls h
    exact h.elim
  | succ fu ih =>
    intro x1 x2 x3 x4 x5 S L R H locs ls h hW hl
    refine lv_iload C.1 C.2.1 dX10_best_31 (lv_at hl 5 rfl) ?_
    refine lv_aload_n C.1 C.2.1 dX10_best_33 rfl (lv_at hl 0 rfl) ?_
    refine r_get C hW (ci := 10) (T := TX10) (n := 11) (ref := "BallMinder") (v := .int (S 0 8)) (0) (by omega) rfl rfl 8 (by decide) inX10_best_X10 (by decide +kernel) (fun _ h9 => h9) rfl dX10_best_34 ?_
    refine lv_icmp_ge (tgt := 115) C.1 C.2.1 dX10_best_37 (by decide) (fun c4 => ?_) (fun c4 => ?_)
    · replace h := h.1 c4
      refine lv_iload_n C.1 C.2.1 dX10_best_115 rfl (lv_at hl 3 rfl) ?_
      exact t_i C hr hlk (u := (S, L, R)) hW.2.2.2.1 hW.B h dX10_best_116
    · replace h := h.2 c4
      refine lv_iload_n C.1 C.2.1 dX10_best_40 rfl (lv_at hl 1 rfl) ?_
      refine lv_iload C.1 C.2.1 dX10_best_41 (lv_at hl 5 rfl) ?_
      refine lv_iushr C.1 C.2.1 dX10_best_43 rfl ?_
      refine lv_iconst (v := 1) C.1 C.2.1 dX10_best_44 (by decide) ?_
      refine lv_iand C.1 C.2.1 dX10_best_45 ?_
      refine lv_if_ne (tgt := 52) C.1 C.2.1 dX10_best_46 (by decide) (fun c5 => ?_) (fun c5 => ?_)
      · replace h := h.1 c5
        refine lv_aload_n C.1 C.2.1 dX10_best_52 rfl (lv_at hl 0 rfl) ?_
        refine r_get C hW (ci := 10) (T := TX10) (n := 11) (ref := "BallMinder") (v := .ref (q 9)) (0) (by omega) rfl rfl 5 (by decide) inX10_best_X10 (by decide +kernel) (fun _ h9 => h9) rfl dX10_best_53 ?_
        refine lv_aload_n C.1 C.2.1 dX10_best_56 rfl (lv_at hl 0 rfl) ?_
        refine r_get C hW (ci := 10) (T := TX10) (n := 11) (ref := "BallMinder") (v := .ref (q 1)) (0) (by omega) rfl rfl 0 (by decide) inX10_best_X10 (by decide +kernel) (fun _ h9 => h9) rfl dX10_best_57 ?_
        refine lv_iload C.1 C.2.1 dX10_best_60 (lv_at hl 5 rfl) ?_
        obtain ⟨hs6, h⟩ := h
        refine c_millAt C hW hs6 dX10_best_62 (fun o7 eo7 => ?_)
        replace h := h o7 eo7
        refine lv_null C.1 C.2.1 dX10_best_63 ?_
        refine lv_bipush (v := 100) C.1 C.2.1 dX10_best_64 (by decide) ?_
        refine lv_bipush (v := 50) C.1 C.2.1 dX10_best_66 (by decide) ?_
        refine lv_iload_n C.1 C.2.1 dX10_best_68 rfl (lv_at hl 2 rfl) ?_
        refine k_v hW (va_runV (As := [va_rf (Option.map (qM q) o7), .null, .int (100 : Int32), .int (50 : Int32), .int x2]) (rest := []) C (mtX5_begin l D q cI cJ cZ cP cS K n H.size o7 none (100 : Int32) (50 : Int32) x2 S L R _ h) (cwV 5 C.2.2.2.2 gX10_best_X5_begin rfl rfl rfl (by decide +kernel) ⟨Nat.le_of_ble_eq_true rfl, Nat.le_of_ble_eq_true rfl⟩) ⟨mP_blind cX_B, va_recv hW.1 hW.2.1 (ci := 5) (q0 := 9) rfl (wL_get (by omega)), fun U hU hV => ⟨rfl, hW.pre hU hV (hX.call hW hU hV)⟩⟩ rfl rfl hl.1 rfl (lv_room (Nat.le_of_ble_eq_true rfl)) dX10_best_69 ⟨Nat.zero_le _, Nat.zero_le _⟩) (fun u H locs h hW => ?_)
        obtain ⟨S8, L9, R10⟩ := u
        replace hW : hw D (tyC cI cJ cZ cP cS) q (29 + 2 * n) (gC q cI cJ cZ cP cS K n S8 L9 R10) A s H locs := hW
        refine lv_aload_n C.1 C.2.1 dX10_best_72 rfl (lv_at hl 0 rfl) ?_
        refine r_get C hW (ci := 10) (T := TX10) (n := 11) (ref := "BallMinder") (v := .ref (q 9)) (0) (by omega) rfl rfl 5 (by decide) inX10_best_X10 (by decide +kernel) (fun _ h9 => h9) rfl dX10_best_73 ?_
        refine k_v hW (va_runV (As := []) (rest := []) C (mtX5_runTillRound l D q cI cJ cZ cP cS K n H.size  S8 L9 R10 _ h) (cwV 0 C.2.2.2.2 gX10_best_X5_runTillRound rfl rfl rfl (by decide +kernel) ⟨Nat.le_of_ble_eq_true rfl, Nat.le_of_ble_eq_true rfl⟩) ⟨mP_blind cX_B, va_recv hW.1 hW.2.1 (ci := 5) (q0 := 9) rfl (wL_get (by omega)), fun U hU hV => ⟨rfl, hW.pre hU hV (hX.call hW hU hV)⟩⟩ rfl rfl hl.1 rfl (lv_room (Nat.le_of_ble_eq_true rfl)) dX10_best_76 ⟨Nat.zero_le _, Nat.zero_le _⟩) (fun u H locs h hW => ?_)
        obtain ⟨S11, L12, R13⟩ := u
        replace hW : hw D (tyC cI cJ cZ cP cS) q (29 + 2 * n) (gC q cI cJ cZ cP cS K n S11 L12 R13) A s H locs := hW
        refine lv_iload_n C.1 C.2.1 dX10_best_79 rfl (lv_at hl 3 rfl) ?_
        refine lv_bipush (v := -9) C.1 C.2.1 dX10_best_80 (by decide) ?_
        refine lv_icmp_eq (tgt := 97) C.1 C.2.1 dX10_best_82 (by decide) (fun c14 => ?_) (fun c14 => ?_)
        · replace h := h.1 c14
          exact sX10_best_97 C hr hlk hX Q _ ih x1 x2 x5 S11 L12 R13 _ _ _ h hW (lv_sub hl [0, 1, 2, 5] rfl)
        · replace h := h.2 c14
          refine lv_aload_n C.1 C.2.1 dX10_best_85 rfl (lv_at hl 0 rfl) ?_
          refine r_get C hW (ci := 10) (T := TX10) (n := 11) (ref := "BallMinder") (v := .ref (q 9)) (0) (by omega) rfl rfl 5 (by decide) inX10_best_X10 (by decide +kernel) (fun _ h9 => h9) rfl dX10_best_86 ?_
          refine r_getN C hW (ci := 5) (T := TX5) (n := 13) (ref := "BallMinder$Shaft") (host := "BallMinder") (v := .int (S11 9 11)) (9) (by omega) rfl rfl 11 (by decide) inX10_best_X5 (hX.1 _ (by decide +kernel)) (fun _ h9 => h9) rfl dX10_best_89 ?_
          refine lv_iload C.1 C.2.1 dX10_best_92 (lv_at hl 4 rfl) ?_
          refine lv_icmp_le (tgt := 109) C.1 C.2.1 dX10_best_94 (by decide) (fun c17 => ?_) (fun c17 => ?_)
          · replace h := h.1 c17
            exact sX10_best_109 C hr hlk hX Q _ ih x1 x2 x3 x4 x5 S11 L12 R13 _ _ _ h hW (lv_sub hl [0, 1, 2, 3, 4, 5] rfl)
          · replace h := h.2 c17
            exact sX10_best_97 C hr hlk hX Q _ ih x1 x2 x5 S11 L12 R13 _ _ _ h hW (lv_sub hl [0, 1, 2, 5] rfl)
      · replace h := h.2 c5
        refine lv_goto (tgt := 109) C.1 C.2.1 dX10_best_49 (by decide) ?_
        exact sX10_best_109 C hr hlk hX Q _ ih x1 x2 x3 x4 x5 S L R _ _ _ h hW (lv_sub hl [0, 1, 2, 3, 4, 5] rfl)
set_option maxRecDepth 100000 in
set_option maxHeartbeats 4000000 in
theorem sX10_best {p : Program} {l : Launch} {e : Env} {s : State} {m : MethodId} {args : Array Value} {below : List Frame} {meth : Method} {c : Code} {D : va_G} {q : Nat → Nat} {A : Nat → Prop} {cI cJ cZ cP cS : ClassId} {K : Nat → Nat} {n : Nat} (C : CallFix p m c cX10_best 6 s args wsX10_best RX10) (hr : meth.sig.returnType = (some .int)) (hlk : meth.locks = false) (hX : cX A s) (Q : Int32 → (Nat → Nat → Int32) → (Nat → Int64) → (Nat → Option Nat) → Prop) : ∀ (x1 : Int32) (x2 : Int32) (S : Nat → Nat → Int32) (L : Nat → Int64) (R : Nat → Option Nat) (H : Heap) (locs : List Loc) (ls : Array Slot), vX10_best K n x1 x2 S L R Q → hw D (tyC cI cJ cZ cP cS) q (29 + 2 * n) (gC q cI cJ cZ cP cS K n S L R) A s H locs → lv_has ls 6 [(0, .ref (q 0)), (1, .int x1), (2, .int x2)] → W p l e (headSpec wsX10_best rmX10_best).room s m args below meth c H locs 0 0 (MQ below (QCi D q cI cJ cZ cP cS K n Q A) args s 0 0 A) (F0 m 0 ls []) := by
  intro x1 x2 S L R H locs ls h hW hl
  unfold vX10_best at h
  refine lv_iload_n C.1 C.2.1 dX10_best_0 rfl (lv_at hl 1 rfl) ?_
  refine lv_aload_n C.1 C.2.1 dX10_best_1 rfl (lv_at hl 0 rfl) ?_
  refine r_get C hW (ci := 10) (T := TX10) (n := 11) (ref := "BallMinder") (v := .int (S 0 8)) (0) (by omega) rfl rfl 8 (by decide) inX10_best_X10 (by decide +kernel) (fun _ h9 => h9) rfl dX10_best_2 ?_
  refine lv_iushr C.1 C.2.1 dX10_best_5 rfl ?_
  refine lv_if_ne (tgt := 19) C.1 C.2.1 dX10_best_6 (by decide) (fun c1 => ?_) (fun c1 => ?_)
  · replace h := h.1 c1
    refine lv_bipush (v := -2) C.1 C.2.1 dX10_best_19 (by decide) ?_
    exact t_i C hr hlk (u := (S, L, R)) hW.2.2.2.1 hW.B h dX10_best_21
  · replace h := h.2 c1
    refine lv_iload_n C.1 C.2.1 dX10_best_9 rfl (lv_at hl 2 rfl) ?_
    refine lv_iconst (v := 0) C.1 C.2.1 dX10_best_10 (by decide) ?_
    refine lv_bipush (v := 100) C.1 C.2.1 dX10_best_11 (by decide) ?_
    refine k_pi hW (va_runS (As := [.int x2, .int (0 : Int32), .int (100 : Int32)]) (rest := []) C (mtX10_within l D q _ H.size x2 (0 : Int32) (100 : Int32) _ h) (va_cwS 3 C.2.2.2.2 gX10_best_X10_within rfl rfl rfl (by decide +kernel) ⟨Nat.le_of_ble_eq_true rfl, Nat.le_of_ble_eq_true rfl⟩) ⟨mP_blind tX_B, fun U hU hV => ⟨rfl, hW.pre0 hU hV trivial⟩⟩ rfl rfl hl.1 rfl (lv_room (Nat.le_of_ble_eq_true rfl)) dX10_best_13 ⟨Nat.zero_le _, Nat.zero_le _⟩) (fun r2 H locs h hW => ?_)
    refine lv_if_ne (tgt := 22) C.1 C.2.1 dX10_best_16 (by decide) (fun c3 => ?_) (fun c3 => ?_)
    · replace h := h.1 c3
      refine lv_bipush (v := -9) C.1 C.2.1 dX10_best_22 (by decide) ?_
      refine lv_istore_n (lv' := [(3, .int (-9 : Int32)), (0, .ref (q 0)), (1, .int x1), (2, .int x2)]) C.1 C.2.1 dX10_best_24 rfl hl (by decide) rfl (fun ls hl => ?_)
      refine lv_iconst (v := 0) C.1 C.2.1 dX10_best_25 (by decide) ?_
      refine lv_istore (lv' := [(4, .int (0 : Int32)), (3, .int (-9 : Int32)), (0, .ref (q 0)), (1, .int x1), (2, .int x2)]) C.1 C.2.1 dX10_best_26 hl (by decide) rfl (fun ls hl => ?_)
      refine lv_iconst (v := 0) C.1 C.2.1 dX10_best_28 (by decide) ?_
      refine lv_istore (lv' := [(5, .int (0 : Int32)), (4, .int (0 : Int32)), (3, .int (-9 : Int32)), (0, .ref (q 0)), (1, .int x1), (2, .int x2)]) C.1 C.2.1 dX10_best_29 hl (by decide) rfl (fun ls hl => ?_)
      obtain ⟨n9, h⟩ := h
      exact sX10_best_31 C hr hlk hX Q n9 x1 x2 (-9 : Int32) (0 : Int32) (0 : Int32) S L R _ _ _ h hW (lv_sub hl [3, 4, 5, 2, 1, 0] rfl)
    · replace h := h.2 c3
      refine lv_bipush (v := -2) C.1 C.2.1 dX10_best_19 (by decide) ?_
      exact t_i C hr hlk (u := (S, L, R)) hW.2.2.2.1 hW.B h dX10_best_21
set_option maxRecDepth 100000 in
set_option maxHeartbeats 4000000 in
theorem mtX10_best (l : Launch) (D : va_G) (q : Nat → Nat) (cI cJ cZ cP cS : ClassId) (K : Nat → Nat) (n : Nat) (sz : Nat) (x1 : Int32) (x2 : Int32) (S : Nat → Nat → Int32) (L : Nat → Int64) (R : Nat → Option Nat) (Q : Int32 → (Nat → Nat → Int32) → (Nat → Int64) → (Nat → Option Nat) → Prop) (h : vX10_best K n x1 x2 S L R Q) : Met l yX10_best wsX10_best rmX10_best (va_Pc [.ref (q 0), .int x1, .int x2] (mP D (tyC cI cJ cZ cP cS) q (29 + 2 * n) (gC q cI cJ cZ cP cS K n S L R) sz (cX (aQ q (29 + 2 * n) sz)))) (QCi D q cI cJ cZ cP cS K n Q (aQ q (29 + 2 * n) sz)) 0 0 (aQ q (29 + 2 * n) sz) := by
  refine met_w (cc := cX10_best) (maxL := 6) (ret := (some .int)) (by decide) rfl (Nat.le_of_ble_eq_true rfl) ?_
  intro p e s m below meth c ls C hr hlk hW hX hnm hl
  exact sX10_best C hr hlk hX Q x1 x2 S L R _ _ _ h hW hl
theorem inX10_sheetOf_X10 : ∀ w ∈ wsX100, w ∈ wsX10_sheetOf := fun _ h => List.mem_cons_of_mem _ (List.mem_append_right _ h)
abbrev rmX10_sheetOf : Room := { frames := 1, cells := 0, slots := 0, locals := 22 }
def vX10_sheetOf (K : Nat → Nat) (n : Nat) (x1 : Int32) (S : Nat → Nat → Int32) (L : Nat → Int64) (R : Nat → Option Nat) (Q : Option Nat → (Nat → Nat → Int32) → (Nat → Int64) → (Nat → Option Nat) → Prop) : Prop := vX10_within x1 (0 : Int32) (3 : Int32) (fun r1 => (r1 = 0 → Q none S L R) ∧ (¬ (r1 = 0) → vp_in x1 4 ∧ (Q (some x1.toNatClampNeg) S L R)))
set_option maxRecDepth 100000 in
set_option maxHeartbeats 4000000 in
theorem sX10_sheetOf {p : Program} {l : Launch} {e : Env} {s : State} {m : MethodId} {args : Array Value} {below : List Frame} {meth : Method} {c : Code} {D : va_G} {q : Nat → Nat} {A : Nat → Prop} {cI cJ cZ cP cS : ClassId} {K : Nat → Nat} {n : Nat} (C : CallFix p m c cX10_sheetOf 2 s args wsX10_sheetOf RX10) (hr : meth.sig.returnType = (some (.object "BallMinder$Sheet"))) (hlk : meth.locks = false) (hX : cX A s) (Q : Option Nat → (Nat → Nat → Int32) → (Nat → Int64) → (Nat → Option Nat) → Prop) : ∀ (x1 : Int32) (S : Nat → Nat → Int32) (L : Nat → Int64) (R : Nat → Option Nat) (H : Heap) (locs : List Loc) (ls : Array Slot), vX10_sheetOf K n x1 S L R Q → hw D (tyC cI cJ cZ cP cS) q (29 + 2 * n) (gC q cI cJ cZ cP cS K n S L R) A s H locs → lv_has ls 2 [(0, .ref (q 0)), (1, .int x1)] → W p l e (headSpec wsX10_sheetOf rmX10_sheetOf).room s m args below meth c H locs 0 0 (MQ below (QCs D q cI cJ cZ cP cS K n Q A) args s 0 0 A) (F0 m 0 ls []) := by
  intro x1 S L R H locs ls h hW hl
  unfold vX10_sheetOf at h
  refine lv_iload_n C.1 C.2.1 dX10_sheetOf_0 rfl (lv_at hl 1 rfl) ?_
  refine lv_iconst (v := 0) C.1 C.2.1 dX10_sheetOf_1 (by decide) ?_
  refine lv_iconst (v := 3) C.1 C.2.1 dX10_sheetOf_2 (by decide) ?_
  refine k_pi hW (va_runS (As := [.int x1, .int (0 : Int32), .int (3 : Int32)]) (rest := []) C (mtX10_within l D q _ H.size x1 (0 : Int32) (3 : Int32) _ h) (va_cwS 3 C.2.2.2.2 gX10_sheetOf_X10_within rfl rfl rfl (by decide +kernel) ⟨Nat.le_of_ble_eq_true rfl, Nat.le_of_ble_eq_true rfl⟩) ⟨mP_blind tX_B, fun U hU hV => ⟨rfl, hW.pre0 hU hV trivial⟩⟩ rfl rfl hl.1 rfl (lv_room (Nat.le_of_ble_eq_true rfl)) dX10_sheetOf_3 ⟨Nat.zero_le _, Nat.zero_le _⟩) (fun r1 H locs h hW => ?_)
  refine lv_if_eq (tgt := 18) C.1 C.2.1 dX10_sheetOf_6 (by decide) (fun c2 => ?_) (fun c2 => ?_)
  · replace h := h.1 c2
    refine lv_null C.1 C.2.1 dX10_sheetOf_18 ?_
    exact t_q C hr hlk (v := none) (u := (S, L, R)) hW.2.2.2.1 hW.B ⟨none, rfl, h⟩ dX10_sheetOf_19
  · replace h := h.2 c2
    refine lv_aload_n C.1 C.2.1 dX10_sheetOf_9 rfl (lv_at hl 0 rfl) ?_
    refine r_get C hW (ci := 10) (T := TX10) (n := 11) (ref := "BallMinder") (v := .ref (q 2)) (0) (by omega) rfl rfl 1 (by decide) inX10_sheetOf_X10 (by decide +kernel) (fun _ h9 => h9) rfl dX10_sheetOf_10 ?_
    refine lv_iload_n C.1 C.2.1 dX10_sheetOf_13 rfl (lv_at hl 1 rfl) ?_
    obtain ⟨hs3, h⟩ := h
    have hb4 := vp_lt hs3
    refine c_sheetAt C hW hs3 dX10_sheetOf_14 ?_
    refine lv_goto (tgt := 19) C.1 C.2.1 dX10_sheetOf_15 (by decide) ?_
    exact t_q C hr hlk (v := some (q (21 + 2 * x1.toNatClampNeg))) (u := (S, L, R)) hW.2.2.2.1 hW.B ⟨some x1.toNatClampNeg, rfl, h⟩ dX10_sheetOf_19
set_option maxRecDepth 100000 in
set_option maxHeartbeats 4000000 in
theorem mtX10_sheetOf (l : Launch) (D : va_G) (q : Nat → Nat) (cI cJ cZ cP cS : ClassId) (K : Nat → Nat) (n : Nat) (sz : Nat) (x1 : Int32) (S : Nat → Nat → Int32) (L : Nat → Int64) (R : Nat → Option Nat) (Q : Option Nat → (Nat → Nat → Int32) → (Nat → Int64) → (Nat → Option Nat) → Prop) (h : vX10_sheetOf K n x1 S L R Q) : Met l yX10_sheetOf wsX10_sheetOf rmX10_sheetOf (va_Pc [.ref (q 0), .int x1] (mP D (tyC cI cJ cZ cP cS) q (29 + 2 * n) (gC q cI cJ cZ cP cS K n S L R) sz (cX (aQ q (29 + 2 * n) sz)))) (QCs D q cI cJ cZ cP cS K n Q (aQ q (29 + 2 * n) sz)) 0 0 (aQ q (29 + 2 * n) sz) := by
  refine met_w (cc := cX10_sheetOf) (maxL := 2) (ret := (some (.object "BallMinder$Sheet"))) (by decide) rfl (Nat.le_of_ble_eq_true rfl) ?_
  intro p e s m below meth c ls C hr hlk hW hX hnm hl
  exact sX10_sheetOf C hr hlk hX Q x1 S L R _ _ _ h hW hl
theorem inX6_faultOfTakingAs_X6 : ∀ w ∈ wsX60, w ∈ wsX6_faultOfTakingAs := fun _ h => List.mem_cons_of_mem _ (List.mem_append_right _ h)
abbrev rmX6_faultOfTakingAs : Room := { frames := 0, cells := 0, slots := 0, locals := 0 }
def vX6_faultOfTakingAs (K : Nat → Nat) (n : Nat) (k : Nat) (x1 : Int32) (S : Nat → Nat → Int32) (L : Nat → Int64) (R : Nat → Option Nat) (Q : Int32 → (Nat → Nat → Int32) → (Nat → Int64) → (Nat → Option Nat) → Prop) : Prop := (¬ (S (21 + 2 * k) 1) = 0 → (¬ (S (21 + 2 * k) 2) = x1 → Q (2 : Int32) S L R) ∧ ((S (21 + 2 * k) 2) = x1 → Q (0 : Int32) S L R)) ∧ ((S (21 + 2 * k) 1) = 0 → Q (1 : Int32) S L R)
set_option maxRecDepth 100000 in
set_option maxHeartbeats 4000000 in
theorem sX6_faultOfTakingAs {p : Program} {l : Launch} {e : Env} {s : State} {m : MethodId} {args : Array Value} {below : List Frame} {meth : Method} {c : Code} {D : va_G} {q : Nat → Nat} {A : Nat → Prop} {cI cJ cZ cP cS : ClassId} {K : Nat → Nat} {n : Nat} (C : CallFix p m c cX6_faultOfTakingAs 2 s args wsX6_faultOfTakingAs RX6) (hr : meth.sig.returnType = (some .int)) (hlk : meth.locks = false) (hX : cX A s) (k : Nat) (hk : k < 4) (Q : Int32 → (Nat → Nat → Int32) → (Nat → Int64) → (Nat → Option Nat) → Prop) : ∀ (x1 : Int32) (S : Nat → Nat → Int32) (L : Nat → Int64) (R : Nat → Option Nat) (H : Heap) (locs : List Loc) (ls : Array Slot), vX6_faultOfTakingAs K n k x1 S L R Q → hw D (tyC cI cJ cZ cP cS) q (29 + 2 * n) (gC q cI cJ cZ cP cS K n S L R) A s H locs → lv_has ls 2 [(0, .ref (q (21 + 2 * k))), (1, .int x1)] → W p l e (headSpec wsX6_faultOfTakingAs rmX6_faultOfTakingAs).room s m args below meth c H locs 0 0 (MQ below (QCi D q cI cJ cZ cP cS K n Q A) args s 0 0 A) (F0 m 0 ls []) := by
  intro x1 S L R H locs ls h hW hl
  unfold vX6_faultOfTakingAs at h
  refine lv_aload_n C.1 C.2.1 dX6_faultOfTakingAs_0 rfl (lv_at hl 0 rfl) ?_
  refine r_get C hW (ci := 6) (T := TX6) (n := 4) (ref := "BallMinder$Sheet") (v := .int (S (21 + 2 * k) 1)) (21 + 2 * k) (by omega) (gC_sheet hk) rfl 1 (by decide) inX6_faultOfTakingAs_X6 (by decide +kernel) (fun _ h9 => h9) rfl dX6_faultOfTakingAs_1 ?_
  refine lv_if_ne (tgt := 9) C.1 C.2.1 dX6_faultOfTakingAs_4 (by decide) (fun c1 => ?_) (fun c1 => ?_)
  · replace h := h.1 c1
    refine lv_aload_n C.1 C.2.1 dX6_faultOfTakingAs_9 rfl (lv_at hl 0 rfl) ?_
    refine r_get C hW (ci := 6) (T := TX6) (n := 4) (ref := "BallMinder$Sheet") (v := .int (S (21 + 2 * k) 2)) (21 + 2 * k) (by omega) (gC_sheet hk) rfl 2 (by decide) inX6_faultOfTakingAs_X6 (by decide +kernel) (fun _ h9 => h9) rfl dX6_faultOfTakingAs_10 ?_
    refine lv_iload_n C.1 C.2.1 dX6_faultOfTakingAs_13 rfl (lv_at hl 1 rfl) ?_
    refine lv_icmp_ne (tgt := 21) C.1 C.2.1 dX6_faultOfTakingAs_14 (by decide) (fun c2 => ?_) (fun c2 => ?_)
    · replace h := h.1 c2
      refine lv_iconst (v := 2) C.1 C.2.1 dX6_faultOfTakingAs_21 (by decide) ?_
      exact t_i C hr hlk (u := (S, L, R)) hW.2.2.2.1 hW.B h dX6_faultOfTakingAs_22
    · replace h := h.2 c2
      refine lv_iconst (v := 0) C.1 C.2.1 dX6_faultOfTakingAs_17 (by decide) ?_
      refine lv_goto (tgt := 22) C.1 C.2.1 dX6_faultOfTakingAs_18 (by decide) ?_
      exact t_i C hr hlk (u := (S, L, R)) hW.2.2.2.1 hW.B h dX6_faultOfTakingAs_22
  · replace h := h.2 c1
    refine lv_iconst (v := 1) C.1 C.2.1 dX6_faultOfTakingAs_7 (by decide) ?_
    exact t_i C hr hlk (u := (S, L, R)) hW.2.2.2.1 hW.B h dX6_faultOfTakingAs_8
set_option maxRecDepth 100000 in
set_option maxHeartbeats 4000000 in
theorem mtX6_faultOfTakingAs (l : Launch) (D : va_G) (q : Nat → Nat) (cI cJ cZ cP cS : ClassId) (K : Nat → Nat) (n : Nat) (k : Nat) (hk : k < 4) (sz : Nat) (x1 : Int32) (S : Nat → Nat → Int32) (L : Nat → Int64) (R : Nat → Option Nat) (Q : Int32 → (Nat → Nat → Int32) → (Nat → Int64) → (Nat → Option Nat) → Prop) (h : vX6_faultOfTakingAs K n k x1 S L R Q) : Met l yX6_faultOfTakingAs wsX6_faultOfTakingAs rmX6_faultOfTakingAs (va_Pc [.ref (q (21 + 2 * k)), .int x1] (mP D (tyC cI cJ cZ cP cS) q (29 + 2 * n) (gC q cI cJ cZ cP cS K n S L R) sz (cX (aQ q (29 + 2 * n) sz)))) (QCi D q cI cJ cZ cP cS K n Q (aQ q (29 + 2 * n) sz)) 0 0 (aQ q (29 + 2 * n) sz) := by
  refine met_w (cc := cX6_faultOfTakingAs) (maxL := 2) (ret := (some .int)) (by decide) rfl (Nat.le_of_ble_eq_true rfl) ?_
  intro p e s m below meth c ls C hr hlk hW hX hnm hl
  exact sX6_faultOfTakingAs C hr hlk hX k hk Q x1 S L R _ _ _ h hW hl
theorem inX6_spans_X6 : ∀ w ∈ wsX60, w ∈ wsX6_spans := fun _ h => List.mem_cons_of_mem _ (List.mem_append_right _ h)
abbrev rmX6_spans : Room := { frames := 1, cells := 0, slots := 0, locals := 22 }
def vX6_spans (K : Nat → Nat) (n : Nat) (k : Nat) (x1 : Int32) (x2 : Int32) (S : Nat → Nat → Int32) (L : Nat → Int64) (R : Nat → Option Nat) (Q : Int32 → (Nat → Nat → Int32) → (Nat → Int64) → (Nat → Option Nat) → Prop) : Prop := (x2 < 0 → Q (0 : Int32) S L R) ∧ (¬ (x2 < 0) → vX10_within x1 (0 : Int32) (S (21 + 2 * k) 3) (fun r2 => (r2 = 0 → Q (0 : Int32) S L R) ∧ (¬ (r2 = 0) → (((S (21 + 2 * k) 3) - x1) < x2 → Q (0 : Int32) S L R) ∧ (¬ (((S (21 + 2 * k) 3) - x1) < x2) → Q (1 : Int32) S L R))))
set_option maxRecDepth 100000 in
set_option maxHeartbeats 4000000 in
theorem sX6_spans {p : Program} {l : Launch} {e : Env} {s : State} {m : MethodId} {args : Array Value} {below : List Frame} {meth : Method} {c : Code} {D : va_G} {q : Nat → Nat} {A : Nat → Prop} {cI cJ cZ cP cS : ClassId} {K : Nat → Nat} {n : Nat} (C : CallFix p m c cX6_spans 3 s args wsX6_spans RX6) (hr : meth.sig.returnType = (some .boolean)) (hlk : meth.locks = false) (hX : cX A s) (k : Nat) (hk : k < 4) (Q : Int32 → (Nat → Nat → Int32) → (Nat → Int64) → (Nat → Option Nat) → Prop) : ∀ (x1 : Int32) (x2 : Int32) (S : Nat → Nat → Int32) (L : Nat → Int64) (R : Nat → Option Nat) (H : Heap) (locs : List Loc) (ls : Array Slot), vX6_spans K n k x1 x2 S L R Q → hw D (tyC cI cJ cZ cP cS) q (29 + 2 * n) (gC q cI cJ cZ cP cS K n S L R) A s H locs → lv_has ls 3 [(0, .ref (q (21 + 2 * k))), (1, .int x1), (2, .int x2)] → W p l e (headSpec wsX6_spans rmX6_spans).room s m args below meth c H locs 0 0 (MQ below (QCi D q cI cJ cZ cP cS K n Q A) args s 0 0 A) (F0 m 0 ls []) := by
  intro x1 x2 S L R H locs ls h hW hl
  unfold vX6_spans at h
  refine lv_iload_n C.1 C.2.1 dX6_spans_0 rfl (lv_at hl 2 rfl) ?_
  refine lv_if_lt (tgt := 30) C.1 C.2.1 dX6_spans_1 (by decide) (fun c1 => ?_) (fun c1 => ?_)
  · replace h := h.1 c1
    refine lv_iconst (v := 0) C.1 C.2.1 dX6_spans_30 (by decide) ?_
    exact t_z C hr hlk (u := (S, L, R)) (Or.inl rfl) hW.2.2.2.1 hW.B h dX6_spans_31
  · replace h := h.2 c1
    refine lv_iload_n C.1 C.2.1 dX6_spans_4 rfl (lv_at hl 1 rfl) ?_
    refine lv_iconst (v := 0) C.1 C.2.1 dX6_spans_5 (by decide) ?_
    refine lv_aload_n C.1 C.2.1 dX6_spans_6 rfl (lv_at hl 0 rfl) ?_
    refine r_get C hW (ci := 6) (T := TX6) (n := 4) (ref := "BallMinder$Sheet") (v := .int (S (21 + 2 * k) 3)) (21 + 2 * k) (by omega) (gC_sheet hk) rfl 3 (by decide) inX6_spans_X6 (by decide +kernel) (fun _ h9 => h9) rfl dX6_spans_7 ?_
    refine k_pi hW (va_runSN (As := [.int x1, .int (0 : Int32), .int (S (21 + 2 * k) 3)]) (rest := []) C (mtX10_within l D q _ H.size x1 (0 : Int32) (S (21 + 2 * k) 3) _ h) ⟨va_cnB 3 C.2.2.2.2 gX6_spans_X10_within_n32 rfl rfl rfl (hX.1 (.methodLinkNest RX6 32 yX10_within "BallMinder") (by decide +kernel)) (C.2.2.2.2 (.initialized RX10) (by decide +kernel)) (by decide +kernel) ⟨Nat.le_of_ble_eq_true rfl, Nat.le_of_ble_eq_true rfl⟩, (C.2.2.2.2 (.static yX10_within) (by decide +kernel)), trivial⟩ ⟨mP_blind tX_B, fun U hU hV => ⟨rfl, hW.pre0 hU hV trivial⟩⟩ rfl rfl hl.1 rfl (lv_room (Nat.le_of_ble_eq_true rfl)) dX6_spans_10 ⟨Nat.zero_le _, Nat.zero_le _⟩) (fun r2 H locs h hW => ?_)
    refine lv_if_eq (tgt := 30) C.1 C.2.1 dX6_spans_13 (by decide) (fun c3 => ?_) (fun c3 => ?_)
    · replace h := h.1 c3
      refine lv_iconst (v := 0) C.1 C.2.1 dX6_spans_30 (by decide) ?_
      exact t_z C hr hlk (u := (S, L, R)) (Or.inl rfl) hW.2.2.2.1 hW.B h dX6_spans_31
    · replace h := h.2 c3
      refine lv_iload_n C.1 C.2.1 dX6_spans_16 rfl (lv_at hl 2 rfl) ?_
      refine lv_aload_n C.1 C.2.1 dX6_spans_17 rfl (lv_at hl 0 rfl) ?_
      refine r_get C hW (ci := 6) (T := TX6) (n := 4) (ref := "BallMinder$Sheet") (v := .int (S (21 + 2 * k) 3)) (21 + 2 * k) (by omega) (gC_sheet hk) rfl 3 (by decide) inX6_spans_X6 (by decide +kernel) (fun _ h9 => h9) rfl dX6_spans_18 ?_
      refine lv_iload_n C.1 C.2.1 dX6_spans_21 rfl (lv_at hl 1 rfl) ?_
      refine lv_isub C.1 C.2.1 dX6_spans_22 ?_
      refine lv_icmp_gt (tgt := 30) C.1 C.2.1 dX6_spans_23 (by decide) (fun c4 => ?_) (fun c4 => ?_)
      · replace h := h.1 c4
        refine lv_iconst (v := 0) C.1 C.2.1 dX6_spans_30 (by decide) ?_
        exact t_z C hr hlk (u := (S, L, R)) (Or.inl rfl) hW.2.2.2.1 hW.B h dX6_spans_31
      · replace h := h.2 c4
        refine lv_iconst (v := 1) C.1 C.2.1 dX6_spans_26 (by decide) ?_
        refine lv_goto (tgt := 31) C.1 C.2.1 dX6_spans_27 (by decide) ?_
        exact t_z C hr hlk (u := (S, L, R)) (Or.inr rfl) hW.2.2.2.1 hW.B h dX6_spans_31
set_option maxRecDepth 100000 in
set_option maxHeartbeats 4000000 in
theorem mtX6_spans (l : Launch) (D : va_G) (q : Nat → Nat) (cI cJ cZ cP cS : ClassId) (K : Nat → Nat) (n : Nat) (k : Nat) (hk : k < 4) (sz : Nat) (x1 : Int32) (x2 : Int32) (S : Nat → Nat → Int32) (L : Nat → Int64) (R : Nat → Option Nat) (Q : Int32 → (Nat → Nat → Int32) → (Nat → Int64) → (Nat → Option Nat) → Prop) (h : vX6_spans K n k x1 x2 S L R Q) : Met l yX6_spans wsX6_spans rmX6_spans (va_Pc [.ref (q (21 + 2 * k)), .int x1, .int x2] (mP D (tyC cI cJ cZ cP cS) q (29 + 2 * n) (gC q cI cJ cZ cP cS K n S L R) sz (cX (aQ q (29 + 2 * n) sz)))) (QCi D q cI cJ cZ cP cS K n Q (aQ q (29 + 2 * n) sz)) 0 0 (aQ q (29 + 2 * n) sz) := by
  refine met_w (cc := cX6_spans) (maxL := 3) (ret := (some .boolean)) (by decide) rfl (Nat.le_of_ble_eq_true rfl) ?_
  intro p e s m below meth c ls C hr hlk hW hX hnm hl
  exact sX6_spans C hr hlk hX k hk Q x1 x2 S L R _ _ _ h hW hl
theorem inX6_faultOfTaking_X6 : ∀ w ∈ wsX60, w ∈ wsX6_faultOfTaking := fun _ h => List.mem_cons_of_mem _ (List.mem_append_right _ h)
abbrev rmX6_faultOfTaking : Room := { frames := 2, cells := 0, slots := 0, locals := 44 }
def vX6_faultOfTaking (K : Nat → Nat) (n : Nat) (k : Nat) (x1 : Int32) (x2 : Int32) (x3 : Int32) (S : Nat → Nat → Int32) (L : Nat → Int64) (R : Nat → Option Nat) (Q : Int32 → (Nat → Nat → Int32) → (Nat → Int64) → (Nat → Option Nat) → Prop) : Prop := vX6_faultOfTakingAs K n k x1 S L R (fun r1 S2 L3 R4 => (r1 = 0 → (0 ≤ x3 → vX6_spans K n k x2 x3 S2 L3 R4 (fun r7 S8 L9 R10 => (r7 = 0 → Q (3 : Int32) S8 L9 R10) ∧ (¬ (r7 = 0) → Q (0 : Int32) S8 L9 R10))) ∧ (¬ (0 ≤ x3) → Q (4 : Int32) S2 L3 R4)) ∧ (¬ (r1 = 0) → Q r1 S2 L3 R4))
set_option maxRecDepth 100000 in
set_option maxHeartbeats 4000000 in
theorem sX6_faultOfTaking {p : Program} {l : Launch} {e : Env} {s : State} {m : MethodId} {args : Array Value} {below : List Frame} {meth : Method} {c : Code} {D : va_G} {q : Nat → Nat} {A : Nat → Prop} {cI cJ cZ cP cS : ClassId} {K : Nat → Nat} {n : Nat} (C : CallFix p m c cX6_faultOfTaking 5 s args wsX6_faultOfTaking RX6) (hr : meth.sig.returnType = (some .int)) (hlk : meth.locks = false) (hX : cX A s) (k : Nat) (hk : k < 4) (Q : Int32 → (Nat → Nat → Int32) → (Nat → Int64) → (Nat → Option Nat) → Prop) : ∀ (x1 : Int32) (x2 : Int32) (x3 : Int32) (S : Nat → Nat → Int32) (L : Nat → Int64) (R : Nat → Option Nat) (H : Heap) (locs : List Loc) (ls : Array Slot), vX6_faultOfTaking K n k x1 x2 x3 S L R Q → hw D (tyC cI cJ cZ cP cS) q (29 + 2 * n) (gC q cI cJ cZ cP cS K n S L R) A s H locs → lv_has ls 5 [(0, .ref (q (21 + 2 * k))), (1, .int x1), (2, .int x2), (3, .int x3)] → W p l e (headSpec wsX6_faultOfTaking rmX6_faultOfTaking).room s m args below meth c H locs 0 0 (MQ below (QCi D q cI cJ cZ cP cS K n Q A) args s 0 0 A) (F0 m 0 ls []) := by
  intro x1 x2 x3 S L R H locs ls h hW hl
  unfold vX6_faultOfTaking at h
  refine lv_aload_n C.1 C.2.1 dX6_faultOfTaking_0 rfl (lv_at hl 0 rfl) ?_
  refine lv_iload_n C.1 C.2.1 dX6_faultOfTaking_1 rfl (lv_at hl 1 rfl) ?_
  refine k_i hW (va_runV (As := [.int x1]) (rest := []) C (mtX6_faultOfTakingAs l D q cI cJ cZ cP cS K n k hk H.size x1 S L R _ h) (cwV 1 C.2.2.2.2 gX6_faultOfTaking_X6_faultOfTakingAs rfl rfl rfl (by decide +kernel) ⟨Nat.le_of_ble_eq_true rfl, Nat.le_of_ble_eq_true rfl⟩) ⟨mP_blind cX_B, va_recv hW.1 hW.2.1 (ci := 6) (q0 := 21 + 2 * k) rfl (by rw [wL_get (by omega), gC_sheet hk]), fun U hU hV => ⟨rfl, hW.pre hU hV (hX.call hW hU hV)⟩⟩ rfl rfl hl.1 rfl (lv_room (Nat.le_of_ble_eq_true rfl)) dX6_faultOfTaking_2 ⟨Nat.zero_le _, Nat.zero_le _⟩) (fun r1 u H locs h hW => ?_)
  obtain ⟨S2, L3, R4⟩ := u
  replace hW : hw D (tyC cI cJ cZ cP cS) q (29 + 2 * n) (gC q cI cJ cZ cP cS K n S2 L3 R4) A s H locs := hW
  refine lv_istore (lv' := [(4, .int r1), (0, .ref (q (21 + 2 * k))), (1, .int x1), (2, .int x2), (3, .int x3)]) C.1 C.2.1 dX6_faultOfTaking_5 hl (by decide) rfl (fun ls hl => ?_)
  refine lv_iload C.1 C.2.1 dX6_faultOfTaking_7 (lv_at hl 0 rfl) ?_
  refine lv_if_eq (tgt := 15) C.1 C.2.1 dX6_faultOfTaking_9 (by decide) (fun c5 => ?_) (fun c5 => ?_)
  · replace h := h.1 c5
    refine lv_iload_n C.1 C.2.1 dX6_faultOfTaking_15 rfl (lv_at hl 4 rfl) ?_
    refine lv_if_ge (tgt := 21) C.1 C.2.1 dX6_faultOfTaking_16 (by decide) (fun c6 => ?_) (fun c6 => ?_)
    · replace h := h.1 c6
      refine lv_aload_n C.1 C.2.1 dX6_faultOfTaking_21 rfl (lv_at hl 1 rfl) ?_
      refine lv_iload_n C.1 C.2.1 dX6_faultOfTaking_22 rfl (lv_at hl 3 rfl) ?_
      refine lv_iload_n C.1 C.2.1 dX6_faultOfTaking_23 rfl (lv_at hl 4 rfl) ?_
      refine k_i hW (va_runV (As := [.int x2, .int x3]) (rest := []) C (mtX6_spans l D q cI cJ cZ cP cS K n k hk H.size x2 x3 S2 L3 R4 _ h) (cwV 2 C.2.2.2.2 gX6_faultOfTaking_X6_spans rfl rfl rfl (by decide +kernel) ⟨Nat.le_of_ble_eq_true rfl, Nat.le_of_ble_eq_true rfl⟩) ⟨mP_blind cX_B, va_recv hW.1 hW.2.1 (ci := 6) (q0 := 21 + 2 * k) rfl (by rw [wL_get (by omega), gC_sheet hk]), fun U hU hV => ⟨rfl, hW.pre hU hV (hX.call hW hU hV)⟩⟩ rfl rfl hl.1 rfl (lv_room (Nat.le_of_ble_eq_true rfl)) dX6_faultOfTaking_24 ⟨Nat.zero_le _, Nat.zero_le _⟩) (fun r7 u H locs h hW => ?_)
      obtain ⟨S8, L9, R10⟩ := u
      replace hW : hw D (tyC cI cJ cZ cP cS) q (29 + 2 * n) (gC q cI cJ cZ cP cS K n S8 L9 R10) A s H locs := hW
      refine lv_if_eq (tgt := 34) C.1 C.2.1 dX6_faultOfTaking_27 (by decide) (fun c11 => ?_) (fun c11 => ?_)
      · replace h := h.1 c11
        refine lv_iconst (v := 3) C.1 C.2.1 dX6_faultOfTaking_34 (by decide) ?_
        exact t_i C hr hlk (u := (S8, L9, R10)) hW.2.2.2.1 hW.B h dX6_faultOfTaking_35
      · replace h := h.2 c11
        refine lv_iconst (v := 0) C.1 C.2.1 dX6_faultOfTaking_30 (by decide) ?_
        refine lv_goto (tgt := 35) C.1 C.2.1 dX6_faultOfTaking_31 (by decide) ?_
        exact t_i C hr hlk (u := (S8, L9, R10)) hW.2.2.2.1 hW.B h dX6_faultOfTaking_35
    · replace h := h.2 c6
      refine lv_iconst (v := 4) C.1 C.2.1 dX6_faultOfTaking_19 (by decide) ?_
      exact t_i C hr hlk (u := (S2, L3, R4)) hW.2.2.2.1 hW.B h dX6_faultOfTaking_20
  · replace h := h.2 c5
    refine lv_iload C.1 C.2.1 dX6_faultOfTaking_12 (lv_at hl 0 rfl) ?_
    exact t_i C hr hlk (u := (S2, L3, R4)) hW.2.2.2.1 hW.B h dX6_faultOfTaking_14
set_option maxRecDepth 100000 in
set_option maxHeartbeats 4000000 in
theorem mtX6_faultOfTaking (l : Launch) (D : va_G) (q : Nat → Nat) (cI cJ cZ cP cS : ClassId) (K : Nat → Nat) (n : Nat) (k : Nat) (hk : k < 4) (sz : Nat) (x1 : Int32) (x2 : Int32) (x3 : Int32) (S : Nat → Nat → Int32) (L : Nat → Int64) (R : Nat → Option Nat) (Q : Int32 → (Nat → Nat → Int32) → (Nat → Int64) → (Nat → Option Nat) → Prop) (h : vX6_faultOfTaking K n k x1 x2 x3 S L R Q) : Met l yX6_faultOfTaking wsX6_faultOfTaking rmX6_faultOfTaking (va_Pc [.ref (q (21 + 2 * k)), .int x1, .int x2, .int x3] (mP D (tyC cI cJ cZ cP cS) q (29 + 2 * n) (gC q cI cJ cZ cP cS K n S L R) sz (cX (aQ q (29 + 2 * n) sz)))) (QCi D q cI cJ cZ cP cS K n Q (aQ q (29 + 2 * n) sz)) 0 0 (aQ q (29 + 2 * n) sz) := by
  refine met_w (cc := cX6_faultOfTaking) (maxL := 5) (ret := (some .int)) (by decide) rfl (Nat.le_of_ble_eq_true rfl) ?_
  intro p e s m below meth c ls C hr hlk hW hX hnm hl
  exact sX6_faultOfTaking C hr hlk hX k hk Q x1 x2 x3 S L R _ _ _ h hW hl
theorem inX10_faulted_X10 : ∀ w ∈ wsX100, w ∈ wsX10_faulted := fun _ h => List.mem_cons_of_mem _ (List.mem_append_right _ h)
abbrev rmX10_faulted : Room := { frames := 0, cells := 0, slots := 0, locals := 0 }
def vX10_faulted (K : Nat → Nat) (n : Nat) (x1 : Int32) (S : Nat → Nat → Int32) (L : Nat → Int64) (R : Nat → Option Nat) (Q : Int32 → (Nat → Nat → Int32) → (Nat → Int64) → (Nat → Option Nat) → Prop) : Prop := ∀ S1 : Nat → Nat → Int32, S1 = va_up S 0 (upd (S 0) 10 x1) → Q ((-10 : Int32) - x1) S1 L R
set_option maxRecDepth 100000 in
set_option maxHeartbeats 4000000 in
theorem sX10_faulted {p : Program} {l : Launch} {e : Env} {s : State} {m : MethodId} {args : Array Value} {below : List Frame} {meth : Method} {c : Code} {D : va_G} {q : Nat → Nat} {A : Nat → Prop} {cI cJ cZ cP cS : ClassId} {K : Nat → Nat} {n : Nat} (C : CallFix p m c cX10_faulted 2 s args wsX10_faulted RX10) (hr : meth.sig.returnType = (some .int)) (hlk : meth.locks = false) (hX : cX A s) (Q : Int32 → (Nat → Nat → Int32) → (Nat → Int64) → (Nat → Option Nat) → Prop) : ∀ (x1 : Int32) (S : Nat → Nat → Int32) (L : Nat → Int64) (R : Nat → Option Nat) (H : Heap) (locs : List Loc) (ls : Array Slot), vX10_faulted K n x1 S L R Q → hw D (tyC cI cJ cZ cP cS) q (29 + 2 * n) (gC q cI cJ cZ cP cS K n S L R) A s H locs → lv_has ls 2 [(0, .ref (q 0)), (1, .int x1)] → W p l e (headSpec wsX10_faulted rmX10_faulted).room s m args below meth c H locs 0 0 (MQ below (QCi D q cI cJ cZ cP cS K n Q A) args s 0 0 A) (F0 m 0 ls []) := by
  intro x1 S L R H locs ls h hW hl
  unfold vX10_faulted at h
  refine lv_aload_n C.1 C.2.1 dX10_faulted_0 rfl (lv_at hl 0 rfl) ?_
  refine lv_iload_n C.1 C.2.1 dX10_faulted_1 rfl (lv_at hl 1 rfl) ?_
  refine r_put C hW (ci := 10) (T := TX10) (n := 11) (ref := "BallMinder") (0) (by omega) rfl rfl 10 (by decide) inX10_faulted_X10 tyX10 tyX10_ok nmX10 (by decide +kernel) (fun _ h9 => h9) rfl rfl rfl (Nat.le_of_ble_eq_true rfl) dX10_faulted_2 (fun H locs hW => ?_)
  replace hW := gC_put (F := upd (S 0) 10 x1) rfl hW
  obtain ⟨S1, eS1⟩ : ∃ z : Nat → Nat → Int32, z = va_up S 0 (upd (S 0) 10 x1) := ⟨_, rfl⟩
  rw [← eS1] at hW
  replace h := h S1 eS1
  refine lv_bipush (v := -10) C.1 C.2.1 dX10_faulted_5 (by decide) ?_
  refine lv_iload_n C.1 C.2.1 dX10_faulted_7 rfl (lv_at hl 1 rfl) ?_
  refine lv_isub C.1 C.2.1 dX10_faulted_8 ?_
  exact t_i C hr hlk (u := (S1, L, R)) hW.2.2.2.1 hW.B h dX10_faulted_9
set_option maxRecDepth 100000 in
set_option maxHeartbeats 4000000 in
theorem mtX10_faulted (l : Launch) (D : va_G) (q : Nat → Nat) (cI cJ cZ cP cS : ClassId) (K : Nat → Nat) (n : Nat) (sz : Nat) (x1 : Int32) (S : Nat → Nat → Int32) (L : Nat → Int64) (R : Nat → Option Nat) (Q : Int32 → (Nat → Nat → Int32) → (Nat → Int64) → (Nat → Option Nat) → Prop) (h : vX10_faulted K n x1 S L R Q) : Met l yX10_faulted wsX10_faulted rmX10_faulted (va_Pc [.ref (q 0), .int x1] (mP D (tyC cI cJ cZ cP cS) q (29 + 2 * n) (gC q cI cJ cZ cP cS K n S L R) sz (cX (aQ q (29 + 2 * n) sz)))) (QCi D q cI cJ cZ cP cS K n Q (aQ q (29 + 2 * n) sz)) 0 0 (aQ q (29 + 2 * n) sz) := by
  refine met_w (cc := cX10_faulted) (maxL := 2) (ret := (some .int)) (by decide) rfl (Nat.le_of_ble_eq_true rfl) ?_
  intro p e s m below meth c ls C hr hlk hW hX hnm hl
  exact sX10_faulted C hr hlk hX Q x1 S L R _ _ _ h hW hl
theorem inX6_hasCell_X6 : ∀ w ∈ wsX60, w ∈ wsX6_hasCell := fun _ h => List.mem_cons_of_mem _ (List.mem_append_right _ h)
abbrev rmX6_hasCell : Room := { frames := 1, cells := 0, slots := 0, locals := 22 }
def vX6_hasCell (K : Nat → Nat) (n : Nat) (k : Nat) (x1 : Int32) (S : Nat → Nat → Int32) (L : Nat → Int64) (R : Nat → Option Nat) (Q : Int32 → (Nat → Nat → Int32) → (Nat → Int64) → (Nat → Option Nat) → Prop) : Prop := vX10_within x1 (0 : Int32) ((S (21 + 2 * k) 3) - (1 : Int32)) (fun r1 => (r1 = 0 ∨ r1 = 1) ∧ Q r1 S L R)
set_option maxRecDepth 100000 in
set_option maxHeartbeats 4000000 in
theorem sX6_hasCell {p : Program} {l : Launch} {e : Env} {s : State} {m : MethodId} {args : Array Value} {below : List Frame} {meth : Method} {c : Code} {D : va_G} {q : Nat → Nat} {A : Nat → Prop} {cI cJ cZ cP cS : ClassId} {K : Nat → Nat} {n : Nat} (C : CallFix p m c cX6_hasCell 2 s args wsX6_hasCell RX6) (hr : meth.sig.returnType = (some .boolean)) (hlk : meth.locks = false) (hX : cX A s) (k : Nat) (hk : k < 4) (Q : Int32 → (Nat → Nat → Int32) → (Nat → Int64) → (Nat → Option Nat) → Prop) : ∀ (x1 : Int32) (S : Nat → Nat → Int32) (L : Nat → Int64) (R : Nat → Option Nat) (H : Heap) (locs : List Loc) (ls : Array Slot), vX6_hasCell K n k x1 S L R Q → hw D (tyC cI cJ cZ cP cS) q (29 + 2 * n) (gC q cI cJ cZ cP cS K n S L R) A s H locs → lv_has ls 2 [(0, .ref (q (21 + 2 * k))), (1, .int x1)] → W p l e (headSpec wsX6_hasCell rmX6_hasCell).room s m args below meth c H locs 0 0 (MQ below (QCi D q cI cJ cZ cP cS K n Q A) args s 0 0 A) (F0 m 0 ls []) := by
  intro x1 S L R H locs ls h hW hl
  unfold vX6_hasCell at h
  refine lv_iload_n C.1 C.2.1 dX6_hasCell_0 rfl (lv_at hl 1 rfl) ?_
  refine lv_iconst (v := 0) C.1 C.2.1 dX6_hasCell_1 (by decide) ?_
  refine lv_aload_n C.1 C.2.1 dX6_hasCell_2 rfl (lv_at hl 0 rfl) ?_
  refine r_get C hW (ci := 6) (T := TX6) (n := 4) (ref := "BallMinder$Sheet") (v := .int (S (21 + 2 * k) 3)) (21 + 2 * k) (by omega) (gC_sheet hk) rfl 3 (by decide) inX6_hasCell_X6 (by decide +kernel) (fun _ h9 => h9) rfl dX6_hasCell_3 ?_
  refine lv_iconst (v := 1) C.1 C.2.1 dX6_hasCell_6 (by decide) ?_
  refine lv_isub C.1 C.2.1 dX6_hasCell_7 ?_
  refine k_pi hW (va_runSN (As := [.int x1, .int (0 : Int32), .int ((S (21 + 2 * k) 3) - (1 : Int32))]) (rest := []) C (mtX10_within l D q _ H.size x1 (0 : Int32) ((S (21 + 2 * k) 3) - (1 : Int32)) _ h) ⟨va_cnB 3 C.2.2.2.2 gX6_hasCell_X10_within_n32 rfl rfl rfl (hX.1 (.methodLinkNest RX6 32 yX10_within "BallMinder") (by decide +kernel)) (C.2.2.2.2 (.initialized RX10) (by decide +kernel)) (by decide +kernel) ⟨Nat.le_of_ble_eq_true rfl, Nat.le_of_ble_eq_true rfl⟩, (C.2.2.2.2 (.static yX10_within) (by decide +kernel)), trivial⟩ ⟨mP_blind tX_B, fun U hU hV => ⟨rfl, hW.pre0 hU hV trivial⟩⟩ rfl rfl hl.1 rfl (lv_room (Nat.le_of_ble_eq_true rfl)) dX6_hasCell_8 ⟨Nat.zero_le _, Nat.zero_le _⟩) (fun r1 H locs h hW => ?_)
  exact t_z C hr hlk (u := (S, L, R)) h.1 hW.2.2.2.1 hW.B h.2 dX6_hasCell_11
set_option maxRecDepth 100000 in
set_option maxHeartbeats 4000000 in
theorem mtX6_hasCell (l : Launch) (D : va_G) (q : Nat → Nat) (cI cJ cZ cP cS : ClassId) (K : Nat → Nat) (n : Nat) (k : Nat) (hk : k < 4) (sz : Nat) (x1 : Int32) (S : Nat → Nat → Int32) (L : Nat → Int64) (R : Nat → Option Nat) (Q : Int32 → (Nat → Nat → Int32) → (Nat → Int64) → (Nat → Option Nat) → Prop) (h : vX6_hasCell K n k x1 S L R Q) : Met l yX6_hasCell wsX6_hasCell rmX6_hasCell (va_Pc [.ref (q (21 + 2 * k)), .int x1] (mP D (tyC cI cJ cZ cP cS) q (29 + 2 * n) (gC q cI cJ cZ cP cS K n S L R) sz (cX (aQ q (29 + 2 * n) sz)))) (QCi D q cI cJ cZ cP cS K n Q (aQ q (29 + 2 * n) sz)) 0 0 (aQ q (29 + 2 * n) sz) := by
  refine met_w (cc := cX6_hasCell) (maxL := 2) (ret := (some .boolean)) (by decide) rfl (Nat.le_of_ble_eq_true rfl) ?_
  intro p e s m below meth c ls C hr hlk hW hX hnm hl
  exact sX6_hasCell C hr hlk hX k hk Q x1 S L R _ _ _ h hW hl
theorem inX6_at_X6 : ∀ w ∈ wsX60, w ∈ wsX6_at := fun _ h => List.mem_cons_of_mem _ (List.mem_append_right _ h)
abbrev rmX6_at : Room := { frames := 2, cells := 0, slots := 0, locals := 43 }
def vX6_at (K : Nat → Nat) (n : Nat) (k : Nat) (x1 : Int32) (S : Nat → Nat → Int32) (L : Nat → Int64) (R : Nat → Option Nat) (Q : Int32 → (Nat → Nat → Int32) → (Nat → Int64) → (Nat → Option Nat) → Prop) : Prop := vX6_hasCell K n k x1 S L R (fun r1 S2 L3 R4 => (r1 = 0 → Q (0 : Int32) S2 L3 R4) ∧ (¬ (r1 = 0) → vp_in x1 60 ∧ (Q (S2 (22 + 2 * k) x1.toNatClampNeg) S2 L3 R4)))
set_option maxRecDepth 100000 in
set_option maxHeartbeats 4000000 in
theorem sX6_at {p : Program} {l : Launch} {e : Env} {s : State} {m : MethodId} {args : Array Value} {below : List Frame} {meth : Method} {c : Code} {D : va_G} {q : Nat → Nat} {A : Nat → Prop} {cI cJ cZ cP cS : ClassId} {K : Nat → Nat} {n : Nat} (C : CallFix p m c cX6_at 2 s args wsX6_at RX6) (hr : meth.sig.returnType = (some .int)) (hlk : meth.locks = false) (hX : cX A s) (k : Nat) (hk : k < 4) (Q : Int32 → (Nat → Nat → Int32) → (Nat → Int64) → (Nat → Option Nat) → Prop) : ∀ (x1 : Int32) (S : Nat → Nat → Int32) (L : Nat → Int64) (R : Nat → Option Nat) (H : Heap) (locs : List Loc) (ls : Array Slot), vX6_at K n k x1 S L R Q → hw D (tyC cI cJ cZ cP cS) q (29 + 2 * n) (gC q cI cJ cZ cP cS K n S L R) A s H locs → lv_has ls 2 [(0, .ref (q (21 + 2 * k))), (1, .int x1)] → W p l e (headSpec wsX6_at rmX6_at).room s m args below meth c H locs 0 0 (MQ below (QCi D q cI cJ cZ cP cS K n Q A) args s 0 0 A) (F0 m 0 ls []) := by
  intro x1 S L R H locs ls h hW hl
  unfold vX6_at at h
  refine lv_aload_n C.1 C.2.1 dX6_at_0 rfl (lv_at hl 0 rfl) ?_
  refine lv_iload_n C.1 C.2.1 dX6_at_1 rfl (lv_at hl 1 rfl) ?_
  refine k_i hW (va_runV (As := [.int x1]) (rest := []) C (mtX6_hasCell l D q cI cJ cZ cP cS K n k hk H.size x1 S L R _ h) (cwV 1 C.2.2.2.2 gX6_at_X6_hasCell rfl rfl rfl (by decide +kernel) ⟨Nat.le_of_ble_eq_true rfl, Nat.le_of_ble_eq_true rfl⟩) ⟨mP_blind cX_B, va_recv hW.1 hW.2.1 (ci := 6) (q0 := 21 + 2 * k) rfl (by rw [wL_get (by omega), gC_sheet hk]), fun U hU hV => ⟨rfl, hW.pre hU hV (hX.call hW hU hV)⟩⟩ rfl rfl hl.1 rfl (lv_room (Nat.le_of_ble_eq_true rfl)) dX6_at_2 ⟨Nat.zero_le _, Nat.zero_le _⟩) (fun r1 u H locs h hW => ?_)
  obtain ⟨S2, L3, R4⟩ := u
  replace hW : hw D (tyC cI cJ cZ cP cS) q (29 + 2 * n) (gC q cI cJ cZ cP cS K n S2 L3 R4) A s H locs := hW
  refine lv_if_eq (tgt := 17) C.1 C.2.1 dX6_at_5 (by decide) (fun c5 => ?_) (fun c5 => ?_)
  · replace h := h.1 c5
    refine lv_iconst (v := 0) C.1 C.2.1 dX6_at_17 (by decide) ?_
    exact t_i C hr hlk (u := (S2, L3, R4)) hW.2.2.2.1 hW.B h dX6_at_18
  · replace h := h.2 c5
    refine lv_aload_n C.1 C.2.1 dX6_at_8 rfl (lv_at hl 0 rfl) ?_
    refine r_get C hW (ci := 6) (T := TX6) (n := 4) (ref := "BallMinder$Sheet") (v := .ref (q (22 + 2 * k))) (21 + 2 * k) (by omega) (gC_sheet hk) rfl 0 (by decide) inX6_at_X6 (by decide +kernel) (fun _ h9 => h9) rfl dX6_at_9 ?_
    refine lv_iload_n C.1 C.2.1 dX6_at_12 rfl (lv_at hl 1 rfl) ?_
    obtain ⟨hs6, h⟩ := h
    refine r_iald C hW (cA := cI) (n := 60) (f := S2 (22 + 2 * k)) (22 + 2 * k) 0 (by omega) (gC_cells hk) rfl hs6 dX6_at_13 ?_
    refine lv_goto (tgt := 18) C.1 C.2.1 dX6_at_14 (by decide) ?_
    exact t_i C hr hlk (u := (S2, L3, R4)) hW.2.2.2.1 hW.B h dX6_at_18
set_option maxRecDepth 100000 in
set_option maxHeartbeats 4000000 in
theorem mtX6_at (l : Launch) (D : va_G) (q : Nat → Nat) (cI cJ cZ cP cS : ClassId) (K : Nat → Nat) (n : Nat) (k : Nat) (hk : k < 4) (sz : Nat) (x1 : Int32) (S : Nat → Nat → Int32) (L : Nat → Int64) (R : Nat → Option Nat) (Q : Int32 → (Nat → Nat → Int32) → (Nat → Int64) → (Nat → Option Nat) → Prop) (h : vX6_at K n k x1 S L R Q) : Met l yX6_at wsX6_at rmX6_at (va_Pc [.ref (q (21 + 2 * k)), .int x1] (mP D (tyC cI cJ cZ cP cS) q (29 + 2 * n) (gC q cI cJ cZ cP cS K n S L R) sz (cX (aQ q (29 + 2 * n) sz)))) (QCi D q cI cJ cZ cP cS K n Q (aQ q (29 + 2 * n) sz)) 0 0 (aQ q (29 + 2 * n) sz) := by
  refine met_w (cc := cX6_at) (maxL := 2) (ret := (some .int)) (by decide) rfl (Nat.le_of_ble_eq_true rfl) ?_
  intro p e s m below meth c ls C hr hlk hW hX hnm hl
  exact sX6_at C hr hlk hX k hk Q x1 S L R _ _ _ h hW hl
theorem inX10_areBeats_X6 : ∀ w ∈ wsX60, w ∈ wsX10_areBeats := fun _ h => List.mem_cons_of_mem _ (List.mem_append_right _ h)
abbrev rmX10_areBeats : Room := { frames := 3, cells := 0, slots := 0, locals := 64 }
def vX10_areBeats_2 (K : Nat → Nat) (n : Nat) (Q : Int32 → (Nat → Nat → Int32) → (Nat → Int64) → (Nat → Option Nat) → Prop) : Nat → Nat → Int32 → Int32 → Int32 → (Nat → Nat → Int32) → (Nat → Int64) → (Nat → Option Nat) → Prop
  | 0, _, _, _, _, _, _, _ => False
  | fu+1, x0, x1, x2, x3, S, L, R => (x2 ≤ x3 → Q (1 : Int32) S L R) ∧ (¬ (x2 ≤ x3) → x0 < 4 ∧ (vX6_at K n x0 (x1 + x3) S L R (fun r2 S3 L4 R5 => vX10_within r2 (0 : Int32) (999 : Int32) (fun r7 => (¬ r7 = 0 → ∀ x3_9 : Int32, x3_9 = x3 + (1 : Int32) → vX10_areBeats_2 K n Q fu x0 x1 x2 x3_9 S3 L4 R5) ∧ (r7 = 0 → Q (0 : Int32) S3 L4 R5)))))
def vX10_areBeats (K : Nat → Nat) (n : Nat) (x0 : Nat) (x1 : Int32) (x2 : Int32) (S : Nat → Nat → Int32) (L : Nat → Int64) (R : Nat → Option Nat) (Q : Int32 → (Nat → Nat → Int32) → (Nat → Int64) → (Nat → Option Nat) → Prop) : Prop := ∃ n2, vX10_areBeats_2 K n Q n2 x0 x1 x2 (0 : Int32) S L R
set_option maxRecDepth 100000 in
set_option maxHeartbeats 4000000 in
theorem sX10_areBeats_2 {p : Program} {l : Launch} {e : Env} {s : State} {m : MethodId} {args : Array Value} {below : List Frame} {meth : Method} {c : Code} {D : va_G} {q : Nat → Nat} {A : Nat → Prop} {cI cJ cZ cP cS : ClassId} {K : Nat → Nat} {n : Nat} (C : CallFix p m c cX10_areBeats 4 s args wsX10_areBeats RX10) (hr : meth.sig.returnType = (some .boolean)) (hlk : meth.locks = false) (hX : cX A s) (Q : Int32 → (Nat → Nat → Int32) → (Nat → Int64) → (Nat → Option Nat) → Prop) : ∀ (fu : Nat) (x0 : Nat) (x1 : Int32) (x2 : Int32) (x3 : Int32) (S : Nat → Nat → Int32) (L : Nat → Int64) (R : Nat → Option Nat) (H : Heap) (locs : List Loc) (ls : Array Slot), vX10_areBeats_2 K n Q fu x0 x1 x2 x3 S L R → hw D (tyC cI cJ cZ cP cS) q (29 + 2 * n) (gC q cI cJ cZ cP cS K n S L R) A s H locs → lv_has ls 4 [(0, .ref (q (21 + 2 * x0))), (1, .int x1), (2, .int x2), (3, .int x3)] → W p l e (headSpec wsX10_areBeats rmX10_areBeats).room s m args below meth c H locs 0 0 (MQ below (QCi D q cI cJ cZ cP cS K n Q A) args s 0 0 A) (F0 m 2 ls []) := by
  intro fu
  induction fu with
  | zero =>
    intro x0 x1 x2 x3 S L R H locs ls h
    exact h.elim
  | succ fu ih =>
    intro x0 x1 x2 x3 S L R H locs ls h hW hl
    refine lv_iload_n C.1 C.2.1 dX10_areBeats_2 rfl (lv_at hl 3 rfl) ?_
    refine lv_iload_n C.1 C.2.1 dX10_areBeats_3 rfl (lv_at hl 2 rfl) ?_
    refine lv_icmp_ge (tgt := 32) C.1 C.2.1 dX10_areBeats_4 (by decide) (fun c1 => ?_) (fun c1 => ?_)
    · replace h := h.1 c1
      refine lv_iconst (v := 1) C.1 C.2.1 dX10_areBeats_32 (by decide) ?_
      exact t_z C hr hlk (u := (S, L, R)) (Or.inr rfl) hW.2.2.2.1 hW.B h dX10_areBeats_33
    · replace h := h.2 c1
      refine lv_aload_n C.1 C.2.1 dX10_areBeats_7 rfl (lv_at hl 0 rfl) ?_
      refine lv_iload_n C.1 C.2.1 dX10_areBeats_8 rfl (lv_at hl 1 rfl) ?_
      refine lv_iload_n C.1 C.2.1 dX10_areBeats_9 rfl (lv_at hl 3 rfl) ?_
      refine lv_iadd C.1 C.2.1 dX10_areBeats_10 ?_
      obtain ⟨hb6, h⟩ := h
      refine k_i hW (va_runV (As := [.int (x1 + x3)]) (rest := []) C (mtX6_at l D q cI cJ cZ cP cS K n x0 hb6 H.size (x1 + x3) S L R _ h) (cwV 1 C.2.2.2.2 gX10_areBeats_X6_at rfl rfl rfl (by decide +kernel) ⟨Nat.le_of_ble_eq_true rfl, Nat.le_of_ble_eq_true rfl⟩) ⟨mP_blind cX_B, va_recv hW.1 hW.2.1 (ci := 6) (q0 := 21 + 2 * x0) rfl (by rw [wL_get (by omega), gC_sheet hb6]), fun U hU hV => ⟨rfl, hW.pre hU hV (hX.call hW hU hV)⟩⟩ rfl rfl hl.1 rfl (lv_room (Nat.le_of_ble_eq_true rfl)) dX10_areBeats_11 ⟨Nat.zero_le _, Nat.zero_le _⟩) (fun r2 u H locs h hW => ?_)
      obtain ⟨S3, L4, R5⟩ := u
      replace hW : hw D (tyC cI cJ cZ cP cS) q (29 + 2 * n) (gC q cI cJ cZ cP cS K n S3 L4 R5) A s H locs := hW
      refine lv_iconst (v := 0) C.1 C.2.1 dX10_areBeats_14 (by decide) ?_
      refine lv_sipush (v := 999) C.1 C.2.1 dX10_areBeats_15 (by decide) ?_
      refine k_pi hW (va_runS (As := [.int r2, .int (0 : Int32), .int (999 : Int32)]) (rest := []) C (mtX10_within l D q _ H.size r2 (0 : Int32) (999 : Int32) _ h) (va_cwS 3 C.2.2.2.2 gX10_areBeats_X10_within rfl rfl rfl (by decide +kernel) ⟨Nat.le_of_ble_eq_true rfl, Nat.le_of_ble_eq_true rfl⟩) ⟨mP_blind tX_B, fun U hU hV => ⟨rfl, hW.pre0 hU hV trivial⟩⟩ rfl rfl hl.1 rfl (lv_room (Nat.le_of_ble_eq_true rfl)) dX10_areBeats_18 ⟨Nat.zero_le _, Nat.zero_le _⟩) (fun r7 H locs h hW => ?_)
      refine lv_if_ne (tgt := 26) C.1 C.2.1 dX10_areBeats_21 (by decide) (fun c8 => ?_) (fun c8 => ?_)
      · replace h := h.1 c8
        obtain ⟨x3_9, ex3_9⟩ : ∃ z : Int32, z = x3 + (1 : Int32) := ⟨_, rfl⟩
        replace h := h x3_9 ex3_9
        refine lv_iinc (v := x3_9) (lv' := [(3, .int x3_9), (0, .ref (q (21 + 2 * x0))), (1, .int x1), (2, .int x2)]) C.1 C.2.1 dX10_areBeats_26 hl (k := 3) rfl (by rw [ex3_9]; rfl) (by decide) rfl (fun ls hl => ?_)
        refine lv_goto (tgt := 2) C.1 C.2.1 dX10_areBeats_29 (by decide) ?_
        exact ih x0 x1 x2 x3_9 S3 L4 R5 _ _ _ h hW (lv_sub hl [1, 2, 3, 0] rfl)
      · replace h := h.2 c8
        refine lv_iconst (v := 0) C.1 C.2.1 dX10_areBeats_24 (by decide) ?_
        exact t_z C hr hlk (u := (S3, L4, R5)) (Or.inl rfl) hW.2.2.2.1 hW.B h dX10_areBeats_25
set_option maxRecDepth 100000 in
set_option maxHeartbeats 4000000 in
theorem sX10_areBeats {p : Program} {l : Launch} {e : Env} {s : State} {m : MethodId} {args : Array Value} {below : List Frame} {meth : Method} {c : Code} {D : va_G} {q : Nat → Nat} {A : Nat → Prop} {cI cJ cZ cP cS : ClassId} {K : Nat → Nat} {n : Nat} (C : CallFix p m c cX10_areBeats 4 s args wsX10_areBeats RX10) (hr : meth.sig.returnType = (some .boolean)) (hlk : meth.locks = false) (hX : cX A s) (Q : Int32 → (Nat → Nat → Int32) → (Nat → Int64) → (Nat → Option Nat) → Prop) : ∀ (x0 : Nat) (x1 : Int32) (x2 : Int32) (S : Nat → Nat → Int32) (L : Nat → Int64) (R : Nat → Option Nat) (H : Heap) (locs : List Loc) (ls : Array Slot), vX10_areBeats K n x0 x1 x2 S L R Q → hw D (tyC cI cJ cZ cP cS) q (29 + 2 * n) (gC q cI cJ cZ cP cS K n S L R) A s H locs → lv_has ls 4 [(0, .ref (q (21 + 2 * x0))), (1, .int x1), (2, .int x2)] → W p l e (headSpec wsX10_areBeats rmX10_areBeats).room s m args below meth c H locs 0 0 (MQ below (QCi D q cI cJ cZ cP cS K n Q A) args s 0 0 A) (F0 m 0 ls []) := by
  intro x0 x1 x2 S L R H locs ls h hW hl
  unfold vX10_areBeats at h
  refine lv_iconst (v := 0) C.1 C.2.1 dX10_areBeats_0 (by decide) ?_
  refine lv_istore_n (lv' := [(3, .int (0 : Int32)), (0, .ref (q (21 + 2 * x0))), (1, .int x1), (2, .int x2)]) C.1 C.2.1 dX10_areBeats_1 rfl hl (by decide) rfl (fun ls hl => ?_)
  obtain ⟨n9, h⟩ := h
  exact sX10_areBeats_2 C hr hlk hX Q n9 x0 x1 x2 (0 : Int32) S L R _ _ _ h hW (lv_sub hl [1, 2, 3, 0] rfl)
set_option maxRecDepth 100000 in
set_option maxHeartbeats 4000000 in
theorem mtX10_areBeats (l : Launch) (D : va_G) (q : Nat → Nat) (cI cJ cZ cP cS : ClassId) (K : Nat → Nat) (n : Nat) (sz : Nat) (x0 : Nat) (x1 : Int32) (x2 : Int32) (S : Nat → Nat → Int32) (L : Nat → Int64) (R : Nat → Option Nat) (Q : Int32 → (Nat → Nat → Int32) → (Nat → Int64) → (Nat → Option Nat) → Prop) (h : vX10_areBeats K n x0 x1 x2 S L R Q) : Met l yX10_areBeats wsX10_areBeats rmX10_areBeats (va_Pc [.ref (q (21 + 2 * x0)), .int x1, .int x2] (mP D (tyC cI cJ cZ cP cS) q (29 + 2 * n) (gC q cI cJ cZ cP cS K n S L R) sz (cX (aQ q (29 + 2 * n) sz)))) (QCi D q cI cJ cZ cP cS K n Q (aQ q (29 + 2 * n) sz)) 0 0 (aQ q (29 + 2 * n) sz) := by
  refine met_w (cc := cX10_areBeats) (maxL := 4) (ret := (some .boolean)) (by decide) rfl (Nat.le_of_ble_eq_true rfl) ?_
  intro p e s m below meth c ls C hr hlk hW hX hnm hl
  exact sX10_areBeats C hr hlk hX Q x0 x1 x2 S L R _ _ _ h hW hl
theorem inX10_watch_X10 : ∀ w ∈ wsX100, w ∈ wsX10_watch := fun _ h => List.mem_cons_of_mem _ (List.mem_append_left _ (List.mem_append_right _ h))
theorem inX10_watch_X6 : ∀ w ∈ wsX60, w ∈ wsX10_watch := fun _ h => List.mem_cons_of_mem _ (List.mem_append_right _ h)
abbrev rmX10_watch : Room := { frames := 4, cells := 0, slots := 0, locals := 87 }
def vX10_watch_82 (K : Nat → Nat) (n : Nat) (Q : Int32 → (Nat → Nat → Int32) → (Nat → Int64) → (Nat → Option Nat) → Prop) : Nat → Int32 → Int32 → Nat → Int32 → (Nat → Nat → Int32) → (Nat → Int64) → (Nat → Option Nat) → Prop
  | 0, _, _, _, _, _, _, _ => False
  | fu+1, x3, x4, x5, x7, S, L, R => (x4 ≤ x7 → ∀ S23 : Nat → Nat → Int32, S23 = va_up S 0 (upd (S 0) 9 x4) → Q x4 S23 L R) ∧ (¬ (x4 ≤ x7) → x5 < 4 ∧ (vX6_at K n x5 (x3 + x7) S L R (fun r24 S25 L26 R27 => vp_in x7 30 ∧ (∀ S30 : Nat → Nat → Int32, S30 = va_up S25 3 (upd (S25 3) x7.toNatClampNeg r24) → ∀ x7_31 : Int32, x7_31 = x7 + (1 : Int32) → vX10_watch_82 K n Q fu x3 x4 x5 x7_31 S30 L26 R27))))
def vX10_watch (K : Nat → Nat) (n : Nat) (x1 : Int32) (x2 : Int32) (x3 : Int32) (x4 : Int32) (S : Nat → Nat → Int32) (L : Nat → Int64) (R : Nat → Option Nat) (Q : Int32 → (Nat → Nat → Int32) → (Nat → Int64) → (Nat → Option Nat) → Prop) : Prop := ∀ S1 : Nat → Nat → Int32, S1 = va_up S 0 (upd (S 0) 10 (0 : Int32)) → vX10_sheetOf K n x1 S1 L R (fun o2 S3 L4 R5 => (o2 = none → Q (-1 : Int32) S3 L4 R5) ∧ (∀ mi6 : Nat, o2 = some mi6 → vX10_within x2 (0 : Int32) (2 : Int32) (fun r7 => (¬ r7 = 0 → mi6 < 4 ∧ (vX6_faultOfTaking K n mi6 x2 x3 x4 S3 L4 R5 (fun r9 S10 L11 R12 => (r9 = 0 → vX10_within x4 (2 : Int32) (30 : Int32) (fun r15 => (r15 = 0 → Q (-2 : Int32) S10 L11 R12) ∧ (¬ (r15 = 0) → vX10_areBeats K n mi6 x3 x4 S10 L11 R12 (fun r17 S18 L19 R20 => (¬ r17 = 0 → ∃ n82, vX10_watch_82 K n Q n82 x3 x4 mi6 (0 : Int32) S18 L19 R20) ∧ (r17 = 0 → Q (-2 : Int32) S18 L19 R20))))) ∧ (¬ (r9 = 0) → vX10_faulted K n r9 S10 L11 R12 (fun r32 S33 L34 R35 => Q r32 S33 L34 R35))))) ∧ (r7 = 0 → Q (-2 : Int32) S3 L4 R5))))
set_option maxRecDepth 100000 in
set_option maxHeartbeats 4000000 in
theorem sX10_watch_82 {p : Program} {l : Launch} {e : Env} {s : State} {m : MethodId} {args : Array Value} {below : List Frame} {meth : Method} {c : Code} {D : va_G} {q : Nat → Nat} {A : Nat → Prop} {cI cJ cZ cP cS : ClassId} {K : Nat → Nat} {n : Nat} (C : CallFix p m c cX10_watch 8 s args wsX10_watch RX10) (hr : meth.sig.returnType = (some .int)) (hlk : meth.locks = false) (hX : cX A s) (Q : Int32 → (Nat → Nat → Int32) → (Nat → Int64) → (Nat → Option Nat) → Prop) : ∀ (fu : Nat) (x3 : Int32) (x4 : Int32) (x5 : Nat) (x7 : Int32) (S : Nat → Nat → Int32) (L : Nat → Int64) (R : Nat → Option Nat) (H : Heap) (locs : List Loc) (ls : Array Slot), vX10_watch_82 K n Q fu x3 x4 x5 x7 S L R → hw D (tyC cI cJ cZ cP cS) q (29 + 2 * n) (gC q cI cJ cZ cP cS K n S L R) A s H locs → lv_has ls 8 [(0, .ref (q 0)), (3, .int x3), (4, .int x4), (5, .ref (q (21 + 2 * x5))), (7, .int x7)] → W p l e (headSpec wsX10_watch rmX10_watch).room s m args below meth c H locs 0 0 (MQ below (QCi D q cI cJ cZ cP cS K n Q A) args s 0 0 A) (F0 m 82 ls []) := by
  intro fu
  induction fu with
  | zero =>
    intro x3 x4 x5 x7 S L R H locs ls h
    exact h.elim
  | succ fu ih =>
    intro x3 x4 x5 x7 S L R H locs ls h hW hl
    refine lv_iload C.1 C.2.1 dX10_watch_82 (lv_at hl 4 rfl) ?_
    refine lv_iload C.1 C.2.1 dX10_watch_84 (lv_at hl 2 rfl) ?_
    refine lv_icmp_ge (tgt := 111) C.1 C.2.1 dX10_watch_86 (by decide) (fun c22 => ?_) (fun c22 => ?_)
    · replace h := h.1 c22
      refine lv_aload_n C.1 C.2.1 dX10_watch_111 rfl (lv_at hl 0 rfl) ?_
      refine lv_iload C.1 C.2.1 dX10_watch_112 (lv_at hl 2 rfl) ?_
      refine r_put C hW (ci := 10) (T := TX10) (n := 11) (ref := "BallMinder") (0) (by omega) rfl rfl 9 (by decide) inX10_watch_X10 tyX10 tyX10_ok nmX10 (by decide +kernel) (fun _ h9 => h9) rfl rfl rfl (Nat.le_of_ble_eq_true rfl) dX10_watch_114 (fun H locs hW => ?_)
      replace hW := gC_put (F := upd (S 0) 9 x4) rfl hW
      obtain ⟨S23, eS23⟩ : ∃ z : Nat → Nat → Int32, z = va_up S 0 (upd (S 0) 9 x4) := ⟨_, rfl⟩
      rw [← eS23] at hW
      replace h := h S23 eS23
      refine lv_iload C.1 C.2.1 dX10_watch_117 (lv_at hl 2 rfl) ?_
      exact t_i C hr hlk (u := (S23, L, R)) hW.2.2.2.1 hW.B h dX10_watch_119
    · replace h := h.2 c22
      refine lv_aload_n C.1 C.2.1 dX10_watch_89 rfl (lv_at hl 0 rfl) ?_
      refine r_get C hW (ci := 10) (T := TX10) (n := 11) (ref := "BallMinder") (v := .ref (q 3)) (0) (by omega) rfl rfl 2 (by decide) inX10_watch_X10 (by decide +kernel) (fun _ h9 => h9) rfl dX10_watch_90 ?_
      refine lv_iload C.1 C.2.1 dX10_watch_93 (lv_at hl 4 rfl) ?_
      refine lv_aload C.1 C.2.1 dX10_watch_95 (lv_at hl 3 rfl) ?_
      refine lv_iload_n C.1 C.2.1 dX10_watch_97 rfl (lv_at hl 1 rfl) ?_
      refine lv_iload C.1 C.2.1 dX10_watch_98 (lv_at hl 4 rfl) ?_
      refine lv_iadd C.1 C.2.1 dX10_watch_100 ?_
      obtain ⟨hb28, h⟩ := h
      refine k_i hW (va_runV (As := [.int (x3 + x7)]) (rest := [.int x7, .ref (q 3)]) C (mtX6_at l D q cI cJ cZ cP cS K n x5 hb28 H.size (x3 + x7) S L R _ h) (cwV 1 C.2.2.2.2 gX10_watch_X6_at rfl rfl rfl (by decide +kernel) ⟨Nat.le_of_ble_eq_true rfl, Nat.le_of_ble_eq_true rfl⟩) ⟨mP_blind cX_B, va_recv hW.1 hW.2.1 (ci := 6) (q0 := 21 + 2 * x5) rfl (by rw [wL_get (by omega), gC_sheet hb28]), fun U hU hV => ⟨rfl, hW.pre hU hV (hX.call hW hU hV)⟩⟩ rfl rfl hl.1 rfl (lv_room (Nat.le_of_ble_eq_true rfl)) dX10_watch_101 ⟨Nat.zero_le _, Nat.zero_le _⟩) (fun r24 u H locs h hW => ?_)
      obtain ⟨S25, L26, R27⟩ := u
      replace hW : hw D (tyC cI cJ cZ cP cS) q (29 + 2 * n) (gC q cI cJ cZ cP cS K n S25 L26 R27) A s H locs := hW
      obtain ⟨hs29, h⟩ := h
      refine r_iast C hW (cA := cI) (n := 30) (f := S25 3) (3) 0 (by omega) rfl rfl hs29 dX10_watch_104 (fun H locs hW => ?_)
      replace hW := gC_put (F := upd (S25 3) x7.toNatClampNeg r24) rfl hW
      obtain ⟨S30, eS30⟩ : ∃ z : Nat → Nat → Int32, z = va_up S25 3 (upd (S25 3) x7.toNatClampNeg r24) := ⟨_, rfl⟩
      rw [← eS30] at hW
      replace h := h S30 eS30
      obtain ⟨x7_31, ex7_31⟩ : ∃ z : Int32, z = x7 + (1 : Int32) := ⟨_, rfl⟩
      replace h := h x7_31 ex7_31
      refine lv_iinc (v := x7_31) (lv' := [(7, .int x7_31), (0, .ref (q 0)), (3, .int x3), (4, .int x4), (5, .ref (q (21 + 2 * x5)))]) C.1 C.2.1 dX10_watch_105 hl (k := 4) rfl (by rw [ex7_31]; rfl) (by decide) rfl (fun ls hl => ?_)
      refine lv_goto (tgt := 82) C.1 C.2.1 dX10_watch_108 (by decide) ?_
      exact ih x3 x4 x5 x7_31 S30 L26 R27 _ _ _ h hW (lv_sub hl [1, 2, 3, 4, 0] rfl)
set_option maxRecDepth 100000 in
set_option maxHeartbeats 4000000 in
theorem sX10_watch {p : Program} {l : Launch} {e : Env} {s : State} {m : MethodId} {args : Array Value} {below : List Frame} {meth : Method} {c : Code} {D : va_G} {q : Nat → Nat} {A : Nat → Prop} {cI cJ cZ cP cS : ClassId} {K : Nat → Nat} {n : Nat} (C : CallFix p m c cX10_watch 8 s args wsX10_watch RX10) (hr : meth.sig.returnType = (some .int)) (hlk : meth.locks = false) (hX : cX A s) (Q : Int32 → (Nat → Nat → Int32) → (Nat → Int64) → (Nat → Option Nat) → Prop) : ∀ (x1 : Int32) (x2 : Int32) (x3 : Int32) (x4 : Int32) (S : Nat → Nat → Int32) (L : Nat → Int64) (R : Nat → Option Nat) (H : Heap) (locs : List Loc) (ls : Array Slot), vX10_watch K n x1 x2 x3 x4 S L R Q → hw D (tyC cI cJ cZ cP cS) q (29 + 2 * n) (gC q cI cJ cZ cP cS K n S L R) A s H locs → lv_has ls 8 [(0, .ref (q 0)), (1, .int x1), (2, .int x2), (3, .int x3), (4, .int x4)] → W p l e (headSpec wsX10_watch rmX10_watch).room s m args below meth c H locs 0 0 (MQ below (QCi D q cI cJ cZ cP cS K n Q A) args s 0 0 A) (F0 m 0 ls []) := by
  intro x1 x2 x3 x4 S L R H locs ls h hW hl
  unfold vX10_watch at h
  refine lv_aload_n C.1 C.2.1 dX10_watch_0 rfl (lv_at hl 0 rfl) ?_
  refine lv_iconst (v := 0) C.1 C.2.1 dX10_watch_1 (by decide) ?_
  refine r_put C hW (ci := 10) (T := TX10) (n := 11) (ref := "BallMinder") (0) (by omega) rfl rfl 10 (by decide) inX10_watch_X10 tyX10 tyX10_ok nmX10 (by decide +kernel) (fun _ h9 => h9) rfl rfl rfl (Nat.le_of_ble_eq_true rfl) dX10_watch_2 (fun H locs hW => ?_)
  replace hW := gC_put (F := upd (S 0) 10 (0 : Int32)) rfl hW
  obtain ⟨S1, eS1⟩ : ∃ z : Nat → Nat → Int32, z = va_up S 0 (upd (S 0) 10 (0 : Int32)) := ⟨_, rfl⟩
  rw [← eS1] at hW
  replace h := h S1 eS1
  refine lv_aload_n C.1 C.2.1 dX10_watch_5 rfl (lv_at hl 0 rfl) ?_
  refine lv_iload_n C.1 C.2.1 dX10_watch_6 rfl (lv_at hl 1 rfl) ?_
  refine k_q hW (va_runV (As := [.int x1]) (rest := []) C (mtX10_sheetOf l D q cI cJ cZ cP cS K n H.size x1 S1 L R _ h) (cwV 1 C.2.2.2.2 gX10_watch_X10_sheetOf rfl rfl rfl (by decide +kernel) ⟨Nat.le_of_ble_eq_true rfl, Nat.le_of_ble_eq_true rfl⟩) ⟨mP_blind cX_B, va_recv hW.1 hW.2.1 (ci := 10) (q0 := 0) rfl (wL_get (by omega)), fun U hU hV => ⟨rfl, hW.pre hU hV (hX.call hW hU hV)⟩⟩ rfl rfl hl.1 rfl (lv_room (Nat.le_of_ble_eq_true rfl)) dX10_watch_7 ⟨Nat.zero_le _, Nat.zero_le _⟩) (fun r9 u H locs h hW => ?_)
  obtain ⟨S3, L4, R5⟩ := u
  obtain ⟨o2, rfl, h⟩ := h
  replace hW : hw D (tyC cI cJ cZ cP cS) q (29 + 2 * n) (gC q cI cJ cZ cP cS K n S3 L4 R5) A s H locs := hW
  refine cv_astore (lv' := [(5, va_rf (Option.map (qS q) o2)), (0, .ref (q 0)), (1, .int x1), (2, .int x2), (3, .int x3), (4, .int x4)]) C.1 C.2.1 dX10_watch_10 hl (by decide) rfl (fun ls hl => ?_)
  refine cv_aload C.1 C.2.1 dX10_watch_12 (lv_at hl 0 rfl) ?_
  rcases o2 with _ | mi6
  · replace h := h.1 rfl
    replace hl : lv_has ls 8 [(5, .null), (0, .ref (q 0)), (1, .int x1), (2, .int x2), (3, .int x3), (4, .int x4)] := hl
    refine lv_ifnonnullN C.1 C.2.1 dX10_watch_14 ?_
    refine lv_iconst (v := -1) C.1 C.2.1 dX10_watch_17 (by decide) ?_
    exact t_i C hr hlk (u := (S3, L4, R5)) hW.2.2.2.1 hW.B h dX10_watch_18
  · replace h := h.2 mi6 rfl
    replace hl : lv_has ls 8 [(5, .ref (q (21 + 2 * mi6))), (0, .ref (q 0)), (1, .int x1), (2, .int x2), (3, .int x3), (4, .int x4)] := hl
    refine lv_ifnonnull (tgt := 19) C.1 C.2.1 dX10_watch_14 (by decide) ?_
    refine lv_iload_n C.1 C.2.1 dX10_watch_19 rfl (lv_at hl 3 rfl) ?_
    refine lv_iconst (v := 0) C.1 C.2.1 dX10_watch_20 (by decide) ?_
    refine lv_iconst (v := 2) C.1 C.2.1 dX10_watch_21 (by decide) ?_
    refine k_pi hW (va_runS (As := [.int x2, .int (0 : Int32), .int (2 : Int32)]) (rest := []) C (mtX10_within l D q _ H.size x2 (0 : Int32) (2 : Int32) _ h) (va_cwS 3 C.2.2.2.2 gX10_watch_X10_within rfl rfl rfl (by decide +kernel) ⟨Nat.le_of_ble_eq_true rfl, Nat.le_of_ble_eq_true rfl⟩) ⟨mP_blind tX_B, fun U hU hV => ⟨rfl, hW.pre0 hU hV trivial⟩⟩ rfl rfl hl.1 rfl (lv_room (Nat.le_of_ble_eq_true rfl)) dX10_watch_22 ⟨Nat.zero_le _, Nat.zero_le _⟩) (fun r7 H locs h hW => ?_)
    refine lv_if_ne (tgt := 31) C.1 C.2.1 dX10_watch_25 (by decide) (fun c8 => ?_) (fun c8 => ?_)
    · replace h := h.1 c8
      refine lv_aload C.1 C.2.1 dX10_watch_31 (lv_at hl 0 rfl) ?_
      refine lv_iload_n C.1 C.2.1 dX10_watch_33 rfl (lv_at hl 3 rfl) ?_
      refine lv_iload_n C.1 C.2.1 dX10_watch_34 rfl (lv_at hl 4 rfl) ?_
      refine lv_iload C.1 C.2.1 dX10_watch_35 (lv_at hl 5 rfl) ?_
      obtain ⟨hb13, h⟩ := h
      refine k_i hW (va_runV (As := [.int x2, .int x3, .int x4]) (rest := []) C (mtX6_faultOfTaking l D q cI cJ cZ cP cS K n mi6 hb13 H.size x2 x3 x4 S3 L4 R5 _ h) (cwV 3 C.2.2.2.2 gX10_watch_X6_faultOfTaking rfl rfl rfl (by decide +kernel) ⟨Nat.le_of_ble_eq_true rfl, Nat.le_of_ble_eq_true rfl⟩) ⟨mP_blind cX_B, va_recv hW.1 hW.2.1 (ci := 6) (q0 := 21 + 2 * mi6) rfl (by rw [wL_get (by omega), gC_sheet hb13]), fun U hU hV => ⟨rfl, hW.pre hU hV (hX.call hW hU hV)⟩⟩ rfl rfl hl.1 rfl (lv_room (Nat.le_of_ble_eq_true rfl)) dX10_watch_37 ⟨Nat.zero_le _, Nat.zero_le _⟩) (fun r9 u H locs h hW => ?_)
      obtain ⟨S10, L11, R12⟩ := u
      replace hW : hw D (tyC cI cJ cZ cP cS) q (29 + 2 * n) (gC q cI cJ cZ cP cS K n S10 L11 R12) A s H locs := hW
      refine lv_istore (lv' := [(6, .int r9), (5, .ref (q (21 + 2 * mi6))), (0, .ref (q 0)), (1, .int x1), (2, .int x2), (3, .int x3), (4, .int x4)]) C.1 C.2.1 dX10_watch_40 hl (by decide) rfl (fun ls hl => ?_)
      refine lv_iload C.1 C.2.1 dX10_watch_42 (lv_at hl 0 rfl) ?_
      refine lv_if_eq (tgt := 54) C.1 C.2.1 dX10_watch_44 (by decide) (fun c14 => ?_) (fun c14 => ?_)
      · replace h := h.1 c14
        refine lv_iload C.1 C.2.1 dX10_watch_54 (lv_at hl 6 rfl) ?_
        refine lv_iconst (v := 2) C.1 C.2.1 dX10_watch_56 (by decide) ?_
        refine lv_bipush (v := 30) C.1 C.2.1 dX10_watch_57 (by decide) ?_
        refine k_pi hW (va_runS (As := [.int x4, .int (2 : Int32), .int (30 : Int32)]) (rest := []) C (mtX10_within l D q _ H.size x4 (2 : Int32) (30 : Int32) _ h) (va_cwS 3 C.2.2.2.2 gX10_watch_X10_within rfl rfl rfl (by decide +kernel) ⟨Nat.le_of_ble_eq_true rfl, Nat.le_of_ble_eq_true rfl⟩) ⟨mP_blind tX_B, fun U hU hV => ⟨rfl, hW.pre0 hU hV trivial⟩⟩ rfl rfl hl.1 rfl (lv_room (Nat.le_of_ble_eq_true rfl)) dX10_watch_59 ⟨Nat.zero_le _, Nat.zero_le _⟩) (fun r15 H locs h hW => ?_)
        refine lv_if_eq (tgt := 76) C.1 C.2.1 dX10_watch_62 (by decide) (fun c16 => ?_) (fun c16 => ?_)
        · replace h := h.1 c16
          refine lv_bipush (v := -2) C.1 C.2.1 dX10_watch_76 (by decide) ?_
          exact t_i C hr hlk (u := (S10, L11, R12)) hW.2.2.2.1 hW.B h dX10_watch_78
        · replace h := h.2 c16
          refine lv_aload C.1 C.2.1 dX10_watch_65 (lv_at hl 1 rfl) ?_
          refine lv_iload_n C.1 C.2.1 dX10_watch_67 rfl (lv_at hl 5 rfl) ?_
          refine lv_iload C.1 C.2.1 dX10_watch_68 (lv_at hl 6 rfl) ?_
          refine k_i hW (va_runS (As := [.ref (q (21 + 2 * mi6)), .int x3, .int x4]) (rest := []) C (mtX10_areBeats l D q cI cJ cZ cP cS K n H.size mi6 x3 x4 S10 L11 R12 _ h) (va_cwS 3 C.2.2.2.2 gX10_watch_X10_areBeats rfl rfl rfl (by decide +kernel) ⟨Nat.le_of_ble_eq_true rfl, Nat.le_of_ble_eq_true rfl⟩) ⟨mP_blind cX_B, fun U hU hV => ⟨rfl, hW.pre hU hV (hX.call hW hU hV)⟩⟩ rfl rfl hl.1 rfl (lv_room (Nat.le_of_ble_eq_true rfl)) dX10_watch_70 ⟨Nat.zero_le _, Nat.zero_le _⟩) (fun r17 u H locs h hW => ?_)
          obtain ⟨S18, L19, R20⟩ := u
          replace hW : hw D (tyC cI cJ cZ cP cS) q (29 + 2 * n) (gC q cI cJ cZ cP cS K n S18 L19 R20) A s H locs := hW
          refine lv_if_ne (tgt := 79) C.1 C.2.1 dX10_watch_73 (by decide) (fun c21 => ?_) (fun c21 => ?_)
          · replace h := h.1 c21
            refine lv_iconst (v := 0) C.1 C.2.1 dX10_watch_79 (by decide) ?_
            refine lv_istore (lv' := [(7, .int (0 : Int32)), (6, .int r9), (5, .ref (q (21 + 2 * mi6))), (0, .ref (q 0)), (1, .int x1), (2, .int x2), (3, .int x3), (4, .int x4)]) C.1 C.2.1 dX10_watch_80 hl (by decide) rfl (fun ls hl => ?_)
            obtain ⟨n9, h⟩ := h
            exact sX10_watch_82 C hr hlk hX Q n9 x3 x4 mi6 (0 : Int32) S18 L19 R20 _ _ _ h hW (lv_sub hl [3, 6, 7, 2, 0] rfl)
          · replace h := h.2 c21
            refine lv_bipush (v := -2) C.1 C.2.1 dX10_watch_76 (by decide) ?_
            exact t_i C hr hlk (u := (S18, L19, R20)) hW.2.2.2.1 hW.B h dX10_watch_78
      · replace h := h.2 c14
        refine lv_aload_n C.1 C.2.1 dX10_watch_47 rfl (lv_at hl 2 rfl) ?_
        refine lv_iload C.1 C.2.1 dX10_watch_48 (lv_at hl 0 rfl) ?_
        refine k_i hW (va_runV (As := [.int r9]) (rest := []) C (mtX10_faulted l D q cI cJ cZ cP cS K n H.size r9 S10 L11 R12 _ h) (cwV 1 C.2.2.2.2 gX10_watch_X10_faulted rfl rfl rfl (by decide +kernel) ⟨Nat.le_of_ble_eq_true rfl, Nat.le_of_ble_eq_true rfl⟩) ⟨mP_blind cX_B, va_recv hW.1 hW.2.1 (ci := 10) (q0 := 0) rfl (wL_get (by omega)), fun U hU hV => ⟨rfl, hW.pre hU hV (hX.call hW hU hV)⟩⟩ rfl rfl hl.1 rfl (lv_room (Nat.le_of_ble_eq_true rfl)) dX10_watch_50 ⟨Nat.zero_le _, Nat.zero_le _⟩) (fun r32 u H locs h hW => ?_)
        obtain ⟨S33, L34, R35⟩ := u
        replace hW : hw D (tyC cI cJ cZ cP cS) q (29 + 2 * n) (gC q cI cJ cZ cP cS K n S33 L34 R35) A s H locs := hW
        exact t_i C hr hlk (u := (S33, L34, R35)) hW.2.2.2.1 hW.B h dX10_watch_53
    · replace h := h.2 c8
      refine lv_bipush (v := -2) C.1 C.2.1 dX10_watch_28 (by decide) ?_
      exact t_i C hr hlk (u := (S3, L4, R5)) hW.2.2.2.1 hW.B h dX10_watch_30
set_option maxRecDepth 100000 in
set_option maxHeartbeats 4000000 in
theorem mtX10_watch (l : Launch) (D : va_G) (q : Nat → Nat) (cI cJ cZ cP cS : ClassId) (K : Nat → Nat) (n : Nat) (sz : Nat) (x1 : Int32) (x2 : Int32) (x3 : Int32) (x4 : Int32) (S : Nat → Nat → Int32) (L : Nat → Int64) (R : Nat → Option Nat) (Q : Int32 → (Nat → Nat → Int32) → (Nat → Int64) → (Nat → Option Nat) → Prop) (h : vX10_watch K n x1 x2 x3 x4 S L R Q) : Met l yX10_watch wsX10_watch rmX10_watch (va_Pc [.ref (q 0), .int x1, .int x2, .int x3, .int x4] (mP D (tyC cI cJ cZ cP cS) q (29 + 2 * n) (gC q cI cJ cZ cP cS K n S L R) sz (cX (aQ q (29 + 2 * n) sz)))) (QCi D q cI cJ cZ cP cS K n Q (aQ q (29 + 2 * n) sz)) 0 0 (aQ q (29 + 2 * n) sz) := by
  refine met_w (cc := cX10_watch) (maxL := 8) (ret := (some .int)) (by decide) rfl (Nat.le_of_ble_eq_true rfl) ?_
  intro p e s m below meth c ls C hr hlk hW hX hnm hl
  exact sX10_watch C hr hlk hX Q x1 x2 x3 x4 S L R _ _ _ h hW hl
