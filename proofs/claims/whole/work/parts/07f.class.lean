theorem inX2_isAlike_X2 : ∀ w ∈ wsX20, w ∈ wsX2_isAlike := fun _ h => List.mem_cons_of_mem _ (List.mem_append_right _ h)
abbrev rmX2_isAlike : Room := { frames := 0, cells := 0, slots := 0, locals := 0 }
def vX2_isAlike (K : Nat → Nat) (n : Nat) (g : Nat) (x1 : Int32) (x2 : Int32) (S : Nat → Nat → Int32) (L : Nat → Int64) (R : Nat → Option Nat) (Q : Int32 → (Nat → Nat → Int32) → (Nat → Int64) → (Nat → Option Nat) → Prop) : Prop := vp_in x1 301 ∧ (vp_in x2 301 ∧ ((¬ (S (16 + 3 * g) x1.toNatClampNeg) = (S (16 + 3 * g) x2.toNatClampNeg) → Q (0 : Int32) S L R) ∧ ((S (16 + 3 * g) x1.toNatClampNeg) = (S (16 + 3 * g) x2.toNatClampNeg) → vp_in x1 301 ∧ (vp_in x2 301 ∧ ((¬ (S (17 + 3 * g) x1.toNatClampNeg) = (S (17 + 3 * g) x2.toNatClampNeg) → Q (0 : Int32) S L R) ∧ ((S (17 + 3 * g) x1.toNatClampNeg) = (S (17 + 3 * g) x2.toNatClampNeg) → Q (1 : Int32) S L R))))))
set_option maxRecDepth 100000 in
set_option maxHeartbeats 4000000 in
theorem sX2_isAlike {p : Program} {l : Launch} {e : Env} {s : State} {m : MethodId} {args : Array Value} {below : List Frame} {meth : Method} {c : Code} {D : va_G} {q : Nat → Nat} {A : Nat → Prop} {cI cJ cZ cP cS : ClassId} {K : Nat → Nat} {n : Nat} (C : CallFix p m c cX2_isAlike 3 s args wsX2_isAlike RX2) (hr : meth.sig.returnType = (some .boolean)) (hlk : meth.locks = false) (hX : cX A s) (g : Nat) (hg : g < 2) (Q : Int32 → (Nat → Nat → Int32) → (Nat → Int64) → (Nat → Option Nat) → Prop) : ∀ (x1 : Int32) (x2 : Int32) (S : Nat → Nat → Int32) (L : Nat → Int64) (R : Nat → Option Nat) (H : Heap) (locs : List Loc) (ls : Array Slot), vX2_isAlike K n g x1 x2 S L R Q → hw D (tyC cI cJ cZ cP cS) q (29 + 2 * n) (gC q cI cJ cZ cP cS K n S L R) A s H locs → lv_has ls 3 [(0, .ref (q (15 + 3 * g))), (1, .int x1), (2, .int x2)] → W p l e (headSpec wsX2_isAlike rmX2_isAlike).room s m args below meth c H locs 0 0 (MQ below (QCi D q cI cJ cZ cP cS K n Q A) args s 0 0 A) (F0 m 0 ls []) := by
  intro x1 x2 S L R H locs ls h hW hl
  unfold vX2_isAlike at h
  refine lv_aload_n C.1 C.2.1 dX2_isAlike_0 rfl (lv_at hl 0 rfl) ?_
  refine r_get C hW (ci := 2) (T := TX2) (n := 3) (ref := "BallMinder$Gate") (v := .ref (q (16 + 3 * g))) (15 + 3 * g) (by omega) (gC_gate hg) rfl 0 (by decide) inX2_isAlike_X2 (by decide +kernel) (fun _ h9 => h9) rfl dX2_isAlike_1 ?_
  refine lv_iload_n C.1 C.2.1 dX2_isAlike_4 rfl (lv_at hl 1 rfl) ?_
  obtain ⟨hs1, h⟩ := h
  refine r_iald C hW (cA := cI) (n := 301) (f := S (16 + 3 * g)) (16 + 3 * g) 0 (by omega) (gC_valves hg) rfl hs1 dX2_isAlike_5 ?_
  refine lv_aload_n C.1 C.2.1 dX2_isAlike_6 rfl (lv_at hl 0 rfl) ?_
  refine r_get C hW (ci := 2) (T := TX2) (n := 3) (ref := "BallMinder$Gate") (v := .ref (q (16 + 3 * g))) (15 + 3 * g) (by omega) (gC_gate hg) rfl 0 (by decide) inX2_isAlike_X2 (by decide +kernel) (fun _ h9 => h9) rfl dX2_isAlike_7 ?_
  refine lv_iload_n C.1 C.2.1 dX2_isAlike_10 rfl (lv_at hl 2 rfl) ?_
  obtain ⟨hs2, h⟩ := h
  refine r_iald C hW (cA := cI) (n := 301) (f := S (16 + 3 * g)) (16 + 3 * g) 0 (by omega) (gC_valves hg) rfl hs2 dX2_isAlike_11 ?_
  refine lv_icmp_ne (tgt := 34) C.1 C.2.1 dX2_isAlike_12 (by decide) (fun c3 => ?_) (fun c3 => ?_)
  · replace h := h.1 c3
    refine lv_iconst (v := 0) C.1 C.2.1 dX2_isAlike_34 (by decide) ?_
    exact t_z C hr hlk (u := (S, L, R)) (Or.inl rfl) hW.2.2.2.1 hW.B h dX2_isAlike_35
  · replace h := h.2 c3
    refine lv_aload_n C.1 C.2.1 dX2_isAlike_15 rfl (lv_at hl 0 rfl) ?_
    refine r_get C hW (ci := 2) (T := TX2) (n := 3) (ref := "BallMinder$Gate") (v := .ref (q (17 + 3 * g))) (15 + 3 * g) (by omega) (gC_gate hg) rfl 1 (by decide) inX2_isAlike_X2 (by decide +kernel) (fun _ h9 => h9) rfl dX2_isAlike_16 ?_
    refine lv_iload_n C.1 C.2.1 dX2_isAlike_19 rfl (lv_at hl 1 rfl) ?_
    obtain ⟨hs4, h⟩ := h
    refine r_iald C hW (cA := cI) (n := 301) (f := S (17 + 3 * g)) (17 + 3 * g) 0 (by omega) (gC_missed hg) rfl hs4 dX2_isAlike_20 ?_
    refine lv_aload_n C.1 C.2.1 dX2_isAlike_21 rfl (lv_at hl 0 rfl) ?_
    refine r_get C hW (ci := 2) (T := TX2) (n := 3) (ref := "BallMinder$Gate") (v := .ref (q (17 + 3 * g))) (15 + 3 * g) (by omega) (gC_gate hg) rfl 1 (by decide) inX2_isAlike_X2 (by decide +kernel) (fun _ h9 => h9) rfl dX2_isAlike_22 ?_
    refine lv_iload_n C.1 C.2.1 dX2_isAlike_25 rfl (lv_at hl 2 rfl) ?_
    obtain ⟨hs5, h⟩ := h
    refine r_iald C hW (cA := cI) (n := 301) (f := S (17 + 3 * g)) (17 + 3 * g) 0 (by omega) (gC_missed hg) rfl hs5 dX2_isAlike_26 ?_
    refine lv_icmp_ne (tgt := 34) C.1 C.2.1 dX2_isAlike_27 (by decide) (fun c6 => ?_) (fun c6 => ?_)
    · replace h := h.1 c6
      refine lv_iconst (v := 0) C.1 C.2.1 dX2_isAlike_34 (by decide) ?_
      exact t_z C hr hlk (u := (S, L, R)) (Or.inl rfl) hW.2.2.2.1 hW.B h dX2_isAlike_35
    · replace h := h.2 c6
      refine lv_iconst (v := 1) C.1 C.2.1 dX2_isAlike_30 (by decide) ?_
      refine lv_goto (tgt := 35) C.1 C.2.1 dX2_isAlike_31 (by decide) ?_
      exact t_z C hr hlk (u := (S, L, R)) (Or.inr rfl) hW.2.2.2.1 hW.B h dX2_isAlike_35
set_option maxRecDepth 100000 in
set_option maxHeartbeats 4000000 in
theorem mtX2_isAlike (l : Launch) (D : va_G) (q : Nat → Nat) (cI cJ cZ cP cS : ClassId) (K : Nat → Nat) (n : Nat) (g : Nat) (hg : g < 2) (sz : Nat) (x1 : Int32) (x2 : Int32) (S : Nat → Nat → Int32) (L : Nat → Int64) (R : Nat → Option Nat) (Q : Int32 → (Nat → Nat → Int32) → (Nat → Int64) → (Nat → Option Nat) → Prop) (h : vX2_isAlike K n g x1 x2 S L R Q) : Met l yX2_isAlike wsX2_isAlike rmX2_isAlike (va_Pc [.ref (q (15 + 3 * g)), .int x1, .int x2] (mP D (tyC cI cJ cZ cP cS) q (29 + 2 * n) (gC q cI cJ cZ cP cS K n S L R) sz (cX (aQ q (29 + 2 * n) sz)))) (QCi D q cI cJ cZ cP cS K n Q (aQ q (29 + 2 * n) sz)) 0 0 (aQ q (29 + 2 * n) sz) := by
  refine met_w (cc := cX2_isAlike) (maxL := 3) (ret := (some .boolean)) (by decide) rfl (Nat.le_of_ble_eq_true rfl) ?_
  intro p e s m below meth c ls C hr hlk hW hX hnm hl
  exact sX2_isAlike C hr hlk hX g hg Q x1 x2 S L R _ _ _ h hW hl
theorem inX5_isAlike_X5 : ∀ w ∈ wsX50, w ∈ wsX5_isAlike := fun _ h => List.mem_cons_of_mem _ (List.mem_append_left _ (List.mem_append_right _ h))
theorem inX5_isAlike_X2 : ∀ w ∈ wsX20, w ∈ wsX5_isAlike := fun _ h => List.mem_cons_of_mem _ (List.mem_append_right _ h)
abbrev rmX5_isAlike : Room := { frames := 1, cells := 0, slots := 0, locals := 22 }
def vX5_isAlike_2 (K : Nat → Nat) (n : Nat) (Q : Int32 → (Nat → Nat → Int32) → (Nat → Int64) → (Nat → Option Nat) → Prop) : Nat → Int32 → Int32 → Int32 → (Nat → Nat → Int32) → (Nat → Int64) → (Nat → Option Nat) → Prop
  | 0, _, _, _, _, _, _ => False
  | fu+1, x1, x2, x3, S, L, R => ((S 9 6) < x3 → vX2_isAlike K n 0 x1 x2 S L R (fun r2 S3 L4 R5 => (r2 = 0 → Q (0 : Int32) S3 L4 R5) ∧ (¬ (r2 = 0) → vX2_isAlike K n 1 x1 x2 S3 L4 R5 (fun r7 S8 L9 R10 => (r7 = 0 → Q (0 : Int32) S8 L9 R10) ∧ (¬ (r7 = 0) → Q (1 : Int32) S8 L9 R10))))) ∧ (¬ ((S 9 6) < x3) → vX5_beatAt K n (x1 - x3) S L R (fun r12 S13 L14 R15 => vX5_beatAt K n (x2 - x3) S13 L14 R15 (fun r16 S17 L18 R19 => (r12 = r16 → ∀ x3_21 : Int32, x3_21 = x3 + (1 : Int32) → vX5_isAlike_2 K n Q fu x1 x2 x3_21 S17 L18 R19) ∧ (¬ (r12 = r16) → Q (0 : Int32) S17 L18 R19))))
def vX5_isAlike (K : Nat → Nat) (n : Nat) (x1 : Int32) (x2 : Int32) (S : Nat → Nat → Int32) (L : Nat → Int64) (R : Nat → Option Nat) (Q : Int32 → (Nat → Nat → Int32) → (Nat → Int64) → (Nat → Option Nat) → Prop) : Prop := ∃ n2, vX5_isAlike_2 K n Q n2 x1 x2 (0 : Int32) S L R
set_option maxRecDepth 100000 in
set_option maxHeartbeats 4000000 in
theorem sX5_isAlike_2 {p : Program} {l : Launch} {e : Env} {s : State} {m : MethodId} {args : Array Value} {below : List Frame} {meth : Method} {c : Code} {D : va_G} {q : Nat → Nat} {A : Nat → Prop} {cI cJ cZ cP cS : ClassId} {K : Nat → Nat} {n : Nat} (C : CallFix p m c cX5_isAlike 4 s args wsX5_isAlike RX5) (hr : meth.sig.returnType = (some .boolean)) (hlk : meth.locks = false) (hX : cX A s) (Q : Int32 → (Nat → Nat → Int32) → (Nat → Int64) → (Nat → Option Nat) → Prop) : ∀ (fu : Nat) (x1 : Int32) (x2 : Int32) (x3 : Int32) (S : Nat → Nat → Int32) (L : Nat → Int64) (R : Nat → Option Nat) (H : Heap) (locs : List Loc) (ls : Array Slot), vX5_isAlike_2 K n Q fu x1 x2 x3 S L R → hw D (tyC cI cJ cZ cP cS) q (29 + 2 * n) (gC q cI cJ cZ cP cS K n S L R) A s H locs → lv_has ls 4 [(0, .ref (q 9)), (1, .int x1), (2, .int x2), (3, .int x3)] → W p l e (headSpec wsX5_isAlike rmX5_isAlike).room s m args below meth c H locs 0 0 (MQ below (QCi D q cI cJ cZ cP cS K n Q A) args s 0 0 A) (F0 m 2 ls []) := by
  intro fu
  induction fu with
  | zero =>
    intro x1 x2 x3 S L R H locs ls h
    exact h.elim
  | succ fu ih =>
    intro x1 x2 x3 S L R H locs ls h hW hl
    refine lv_iload_n C.1 C.2.1 dX5_isAlike_2 rfl (lv_at hl 3 rfl) ?_
    refine lv_aload_n C.1 C.2.1 dX5_isAlike_3 rfl (lv_at hl 0 rfl) ?_
    refine r_get C hW (ci := 5) (T := TX5) (n := 13) (ref := "BallMinder$Shaft") (v := .int (S 9 6)) (9) (by omega) rfl rfl 6 (by decide) inX5_isAlike_X5 (by decide +kernel) (fun _ h9 => h9) rfl dX5_isAlike_4 ?_
    refine lv_icmp_gt (tgt := 35) C.1 C.2.1 dX5_isAlike_7 (by decide) (fun c1 => ?_) (fun c1 => ?_)
    · replace h := h.1 c1
      refine lv_aload_n C.1 C.2.1 dX5_isAlike_35 rfl (lv_at hl 0 rfl) ?_
      refine r_get C hW (ci := 5) (T := TX5) (n := 13) (ref := "BallMinder$Shaft") (v := .ref (q (15 + 3 * 0))) (9) (by omega) rfl rfl 1 (by decide) inX5_isAlike_X5 (by decide +kernel) (fun _ h9 => h9) rfl dX5_isAlike_36 ?_
      refine lv_iload_n C.1 C.2.1 dX5_isAlike_39 rfl (lv_at hl 1 rfl) ?_
      refine lv_iload_n C.1 C.2.1 dX5_isAlike_40 rfl (lv_at hl 2 rfl) ?_
      refine k_i hW (va_runV (As := [.int x1, .int x2]) (rest := []) C (mtX2_isAlike l D q cI cJ cZ cP cS K n 0 (by decide) H.size x1 x2 S L R _ h) (cwV 2 C.2.2.2.2 gX5_isAlike_X2_isAlike rfl rfl rfl (by decide +kernel) ⟨Nat.le_of_ble_eq_true rfl, Nat.le_of_ble_eq_true rfl⟩) ⟨mP_blind cX_B, va_recv hW.1 hW.2.1 (ci := 2) (q0 := 15 + 3 * 0) rfl (by rw [wL_get (by omega), gC_gate (by decide)]), fun U hU hV => ⟨rfl, hW.pre hU hV (hX.call hW hU hV)⟩⟩ rfl rfl hl.1 rfl (lv_room (Nat.le_of_ble_eq_true rfl)) dX5_isAlike_41 ⟨Nat.zero_le _, Nat.zero_le _⟩) (fun r2 u H locs h hW => ?_)
      obtain ⟨S3, L4, R5⟩ := u
      replace hW : hw D (tyC cI cJ cZ cP cS) q (29 + 2 * n) (gC q cI cJ cZ cP cS K n S3 L4 R5) A s H locs := hW
      refine lv_if_eq (tgt := 63) C.1 C.2.1 dX5_isAlike_44 (by decide) (fun c6 => ?_) (fun c6 => ?_)
      · replace h := h.1 c6
        refine lv_iconst (v := 0) C.1 C.2.1 dX5_isAlike_63 (by decide) ?_
        exact t_z C hr hlk (u := (S3, L4, R5)) (Or.inl rfl) hW.2.2.2.1 hW.B h dX5_isAlike_64
      · replace h := h.2 c6
        refine lv_aload_n C.1 C.2.1 dX5_isAlike_47 rfl (lv_at hl 0 rfl) ?_
        refine r_get C hW (ci := 5) (T := TX5) (n := 13) (ref := "BallMinder$Shaft") (v := .ref (q (15 + 3 * 1))) (9) (by omega) rfl rfl 2 (by decide) inX5_isAlike_X5 (by decide +kernel) (fun _ h9 => h9) rfl dX5_isAlike_48 ?_
        refine lv_iload_n C.1 C.2.1 dX5_isAlike_51 rfl (lv_at hl 1 rfl) ?_
        refine lv_iload_n C.1 C.2.1 dX5_isAlike_52 rfl (lv_at hl 2 rfl) ?_
        refine k_i hW (va_runV (As := [.int x1, .int x2]) (rest := []) C (mtX2_isAlike l D q cI cJ cZ cP cS K n 1 (by decide) H.size x1 x2 S3 L4 R5 _ h) (cwV 2 C.2.2.2.2 gX5_isAlike_X2_isAlike rfl rfl rfl (by decide +kernel) ⟨Nat.le_of_ble_eq_true rfl, Nat.le_of_ble_eq_true rfl⟩) ⟨mP_blind cX_B, va_recv hW.1 hW.2.1 (ci := 2) (q0 := 15 + 3 * 1) rfl (by rw [wL_get (by omega), gC_gate (by decide)]), fun U hU hV => ⟨rfl, hW.pre hU hV (hX.call hW hU hV)⟩⟩ rfl rfl hl.1 rfl (lv_room (Nat.le_of_ble_eq_true rfl)) dX5_isAlike_53 ⟨Nat.zero_le _, Nat.zero_le _⟩) (fun r7 u H locs h hW => ?_)
        obtain ⟨S8, L9, R10⟩ := u
        replace hW : hw D (tyC cI cJ cZ cP cS) q (29 + 2 * n) (gC q cI cJ cZ cP cS K n S8 L9 R10) A s H locs := hW
        refine lv_if_eq (tgt := 63) C.1 C.2.1 dX5_isAlike_56 (by decide) (fun c11 => ?_) (fun c11 => ?_)
        · replace h := h.1 c11
          refine lv_iconst (v := 0) C.1 C.2.1 dX5_isAlike_63 (by decide) ?_
          exact t_z C hr hlk (u := (S8, L9, R10)) (Or.inl rfl) hW.2.2.2.1 hW.B h dX5_isAlike_64
        · replace h := h.2 c11
          refine lv_iconst (v := 1) C.1 C.2.1 dX5_isAlike_59 (by decide) ?_
          refine lv_goto (tgt := 64) C.1 C.2.1 dX5_isAlike_60 (by decide) ?_
          exact t_z C hr hlk (u := (S8, L9, R10)) (Or.inr rfl) hW.2.2.2.1 hW.B h dX5_isAlike_64
    · replace h := h.2 c1
      refine lv_aload_n C.1 C.2.1 dX5_isAlike_10 rfl (lv_at hl 0 rfl) ?_
      refine lv_iload_n C.1 C.2.1 dX5_isAlike_11 rfl (lv_at hl 1 rfl) ?_
      refine lv_iload_n C.1 C.2.1 dX5_isAlike_12 rfl (lv_at hl 3 rfl) ?_
      refine lv_isub C.1 C.2.1 dX5_isAlike_13 ?_
      refine k_i hW (va_runV (As := [.int (x1 - x3)]) (rest := []) C (mtX5_beatAt l D q cI cJ cZ cP cS K n H.size (x1 - x3) S L R _ h) (cwV 1 C.2.2.2.2 gX5_isAlike_X5_beatAt rfl rfl rfl (by decide +kernel) ⟨Nat.le_of_ble_eq_true rfl, Nat.le_of_ble_eq_true rfl⟩) ⟨mP_blind cX_B, va_recv hW.1 hW.2.1 (ci := 5) (q0 := 9) rfl (wL_get (by omega)), fun U hU hV => ⟨rfl, hW.pre hU hV (hX.call hW hU hV)⟩⟩ rfl rfl hl.1 rfl (lv_room (Nat.le_of_ble_eq_true rfl)) dX5_isAlike_14 ⟨Nat.zero_le _, Nat.zero_le _⟩) (fun r12 u H locs h hW => ?_)
      obtain ⟨S13, L14, R15⟩ := u
      replace hW : hw D (tyC cI cJ cZ cP cS) q (29 + 2 * n) (gC q cI cJ cZ cP cS K n S13 L14 R15) A s H locs := hW
      refine lv_aload_n C.1 C.2.1 dX5_isAlike_17 rfl (lv_at hl 0 rfl) ?_
      refine lv_iload_n C.1 C.2.1 dX5_isAlike_18 rfl (lv_at hl 2 rfl) ?_
      refine lv_iload_n C.1 C.2.1 dX5_isAlike_19 rfl (lv_at hl 3 rfl) ?_
      refine lv_isub C.1 C.2.1 dX5_isAlike_20 ?_
      refine k_i hW (va_runV (As := [.int (x2 - x3)]) (rest := [.int r12]) C (mtX5_beatAt l D q cI cJ cZ cP cS K n H.size (x2 - x3) S13 L14 R15 _ h) (cwV 1 C.2.2.2.2 gX5_isAlike_X5_beatAt rfl rfl rfl (by decide +kernel) ⟨Nat.le_of_ble_eq_true rfl, Nat.le_of_ble_eq_true rfl⟩) ⟨mP_blind cX_B, va_recv hW.1 hW.2.1 (ci := 5) (q0 := 9) rfl (wL_get (by omega)), fun U hU hV => ⟨rfl, hW.pre hU hV (hX.call hW hU hV)⟩⟩ rfl rfl hl.1 rfl (lv_room (Nat.le_of_ble_eq_true rfl)) dX5_isAlike_21 ⟨Nat.zero_le _, Nat.zero_le _⟩) (fun r16 u H locs h hW => ?_)
      obtain ⟨S17, L18, R19⟩ := u
      replace hW : hw D (tyC cI cJ cZ cP cS) q (29 + 2 * n) (gC q cI cJ cZ cP cS K n S17 L18 R19) A s H locs := hW
      refine lv_icmp_eq (tgt := 29) C.1 C.2.1 dX5_isAlike_24 (by decide) (fun c20 => ?_) (fun c20 => ?_)
      · replace h := h.1 c20
        obtain ⟨x3_21, ex3_21⟩ : ∃ z : Int32, z = x3 + (1 : Int32) := ⟨_, rfl⟩
        replace h := h x3_21 ex3_21
        refine lv_iinc (v := x3_21) (lv' := [(3, .int x3_21), (0, .ref (q 9)), (1, .int x1), (2, .int x2)]) C.1 C.2.1 dX5_isAlike_29 hl (k := 3) rfl (by rw [ex3_21]; rfl) (by decide) rfl (fun ls hl => ?_)
        refine lv_goto (tgt := 2) C.1 C.2.1 dX5_isAlike_32 (by decide) ?_
        exact ih x1 x2 x3_21 S17 L18 R19 _ _ _ h hW (lv_sub hl [1, 2, 3, 0] rfl)
      · replace h := h.2 c20
        refine lv_iconst (v := 0) C.1 C.2.1 dX5_isAlike_27 (by decide) ?_
        exact t_z C hr hlk (u := (S17, L18, R19)) (Or.inl rfl) hW.2.2.2.1 hW.B h dX5_isAlike_28
set_option maxRecDepth 100000 in
set_option maxHeartbeats 4000000 in
theorem sX5_isAlike {p : Program} {l : Launch} {e : Env} {s : State} {m : MethodId} {args : Array Value} {below : List Frame} {meth : Method} {c : Code} {D : va_G} {q : Nat → Nat} {A : Nat → Prop} {cI cJ cZ cP cS : ClassId} {K : Nat → Nat} {n : Nat} (C : CallFix p m c cX5_isAlike 4 s args wsX5_isAlike RX5) (hr : meth.sig.returnType = (some .boolean)) (hlk : meth.locks = false) (hX : cX A s) (Q : Int32 → (Nat → Nat → Int32) → (Nat → Int64) → (Nat → Option Nat) → Prop) : ∀ (x1 : Int32) (x2 : Int32) (S : Nat → Nat → Int32) (L : Nat → Int64) (R : Nat → Option Nat) (H : Heap) (locs : List Loc) (ls : Array Slot), vX5_isAlike K n x1 x2 S L R Q → hw D (tyC cI cJ cZ cP cS) q (29 + 2 * n) (gC q cI cJ cZ cP cS K n S L R) A s H locs → lv_has ls 4 [(0, .ref (q 9)), (1, .int x1), (2, .int x2)] → W p l e (headSpec wsX5_isAlike rmX5_isAlike).room s m args below meth c H locs 0 0 (MQ below (QCi D q cI cJ cZ cP cS K n Q A) args s 0 0 A) (F0 m 0 ls []) := by
  intro x1 x2 S L R H locs ls h hW hl
  unfold vX5_isAlike at h
  refine lv_iconst (v := 0) C.1 C.2.1 dX5_isAlike_0 (by decide) ?_
  refine lv_istore_n (lv' := [(3, .int (0 : Int32)), (0, .ref (q 9)), (1, .int x1), (2, .int x2)]) C.1 C.2.1 dX5_isAlike_1 rfl hl (by decide) rfl (fun ls hl => ?_)
  obtain ⟨n9, h⟩ := h
  exact sX5_isAlike_2 C hr hlk hX Q n9 x1 x2 (0 : Int32) S L R _ _ _ h hW (lv_sub hl [1, 2, 3, 0] rfl)
set_option maxRecDepth 100000 in
set_option maxHeartbeats 4000000 in
theorem mtX5_isAlike (l : Launch) (D : va_G) (q : Nat → Nat) (cI cJ cZ cP cS : ClassId) (K : Nat → Nat) (n : Nat) (sz : Nat) (x1 : Int32) (x2 : Int32) (S : Nat → Nat → Int32) (L : Nat → Int64) (R : Nat → Option Nat) (Q : Int32 → (Nat → Nat → Int32) → (Nat → Int64) → (Nat → Option Nat) → Prop) (h : vX5_isAlike K n x1 x2 S L R Q) : Met l yX5_isAlike wsX5_isAlike rmX5_isAlike (va_Pc [.ref (q 9), .int x1, .int x2] (mP D (tyC cI cJ cZ cP cS) q (29 + 2 * n) (gC q cI cJ cZ cP cS K n S L R) sz (cX (aQ q (29 + 2 * n) sz)))) (QCi D q cI cJ cZ cP cS K n Q (aQ q (29 + 2 * n) sz)) 0 0 (aQ q (29 + 2 * n) sz) := by
  refine met_w (cc := cX5_isAlike) (maxL := 4) (ret := (some .boolean)) (by decide) rfl (Nat.le_of_ble_eq_true rfl) ?_
  intro p e s m below meth c ls C hr hlk hW hX hnm hl
  exact sX5_isAlike C hr hlk hX Q x1 x2 S L R _ _ _ h hW hl
theorem inX5_tickLike_X5 : ∀ w ∈ wsX50, w ∈ wsX5_tickLike := fun _ h => List.mem_cons_of_mem _ (List.mem_append_left _ (List.mem_append_right _ h))
theorem inX5_tickLike_X2 : ∀ w ∈ wsX20, w ∈ wsX5_tickLike := fun _ h => List.mem_cons_of_mem _ (List.mem_append_right _ h)
abbrev rmX5_tickLike : Room := { frames := 2, cells := 0, slots := 0, locals := 45 }
def vX5_tickLike_13 (K : Nat → Nat) (n : Nat) (Q : Int32 → (Nat → Nat → Int32) → (Nat → Int64) → (Nat → Option Nat) → Prop) : Nat → Int32 → Int32 → Int32 → (Nat → Nat → Int32) → (Nat → Int64) → (Nat → Option Nat) → Prop
  | 0, _, _, _, _, _, _ => False
  | fu+1, x1, x2, x3, S, L, R => ((300 : Int32) < x3 → Q (-1 : Int32) S L R) ∧ (¬ ((300 : Int32) < x3) → (x2 = (-1 : Int32) → Q (-1 : Int32) S L R) ∧ (¬ (x2 = (-1 : Int32)) → vX5_isAlike K n x2 x1 S L R (fun r9 S10 L11 R12 => (r9 = 0 → vp_in x2 301 ∧ (∀ x2_15 : Int32, x2_15 = S10 12 x2.toNatClampNeg → ∀ x3_16 : Int32, x3_16 = x3 + (1 : Int32) → vX5_tickLike_13 K n Q fu x1 x2_15 x3_16 S10 L11 R12)) ∧ (¬ (r9 = 0) → Q x2 S10 L11 R12))))
def vX5_tickLike (K : Nat → Nat) (n : Nat) (x1 : Int32) (S : Nat → Nat → Int32) (L : Nat → Int64) (R : Nat → Option Nat) (Q : Int32 → (Nat → Nat → Int32) → (Nat → Int64) → (Nat → Option Nat) → Prop) : Prop := vX5_bucketOf K n x1 S L R (fun r1 S2 L3 R4 => vp_in r1 256 ∧ (∀ x2_6 : Int32, x2_6 = S2 11 r1.toNatClampNeg → ∃ n13, vX5_tickLike_13 K n Q n13 x1 x2_6 (0 : Int32) S2 L3 R4))
set_option maxRecDepth 100000 in
set_option maxHeartbeats 4000000 in
theorem sX5_tickLike_13 {p : Program} {l : Launch} {e : Env} {s : State} {m : MethodId} {args : Array Value} {below : List Frame} {meth : Method} {c : Code} {D : va_G} {q : Nat → Nat} {A : Nat → Prop} {cI cJ cZ cP cS : ClassId} {K : Nat → Nat} {n : Nat} (C : CallFix p m c cX5_tickLike 4 s args wsX5_tickLike RX5) (hr : meth.sig.returnType = (some .int)) (hlk : meth.locks = false) (hX : cX A s) (Q : Int32 → (Nat → Nat → Int32) → (Nat → Int64) → (Nat → Option Nat) → Prop) : ∀ (fu : Nat) (x1 : Int32) (x2 : Int32) (x3 : Int32) (S : Nat → Nat → Int32) (L : Nat → Int64) (R : Nat → Option Nat) (H : Heap) (locs : List Loc) (ls : Array Slot), vX5_tickLike_13 K n Q fu x1 x2 x3 S L R → hw D (tyC cI cJ cZ cP cS) q (29 + 2 * n) (gC q cI cJ cZ cP cS K n S L R) A s H locs → lv_has ls 4 [(0, .ref (q 9)), (1, .int x1), (2, .int x2), (3, .int x3)] → W p l e (headSpec wsX5_tickLike rmX5_tickLike).room s m args below meth c H locs 0 0 (MQ below (QCi D q cI cJ cZ cP cS K n Q A) args s 0 0 A) (F0 m 13 ls []) := by
  intro fu
  induction fu with
  | zero =>
    intro x1 x2 x3 S L R H locs ls h
    exact h.elim
  | succ fu ih =>
    intro x1 x2 x3 S L R H locs ls h hW hl
    refine lv_iload_n C.1 C.2.1 dX5_tickLike_13 rfl (lv_at hl 3 rfl) ?_
    refine lv_sipush (v := 300) C.1 C.2.1 dX5_tickLike_14 (by decide) ?_
    refine lv_icmp_gt (tgt := 49) C.1 C.2.1 dX5_tickLike_17 (by decide) (fun c7 => ?_) (fun c7 => ?_)
    · replace h := h.1 c7
      refine lv_iconst (v := -1) C.1 C.2.1 dX5_tickLike_49 (by decide) ?_
      exact t_i C hr hlk (u := (S, L, R)) hW.2.2.2.1 hW.B h dX5_tickLike_50
    · replace h := h.2 c7
      refine lv_iload_n C.1 C.2.1 dX5_tickLike_20 rfl (lv_at hl 2 rfl) ?_
      refine lv_iconst (v := -1) C.1 C.2.1 dX5_tickLike_21 (by decide) ?_
      refine lv_icmp_eq (tgt := 49) C.1 C.2.1 dX5_tickLike_22 (by decide) (fun c8 => ?_) (fun c8 => ?_)
      · replace h := h.1 c8
        refine lv_iconst (v := -1) C.1 C.2.1 dX5_tickLike_49 (by decide) ?_
        exact t_i C hr hlk (u := (S, L, R)) hW.2.2.2.1 hW.B h dX5_tickLike_50
      · replace h := h.2 c8
        refine lv_aload_n C.1 C.2.1 dX5_tickLike_25 rfl (lv_at hl 0 rfl) ?_
        refine lv_iload_n C.1 C.2.1 dX5_tickLike_26 rfl (lv_at hl 2 rfl) ?_
        refine lv_iload_n C.1 C.2.1 dX5_tickLike_27 rfl (lv_at hl 1 rfl) ?_
        refine k_i hW (va_runV (As := [.int x2, .int x1]) (rest := []) C (mtX5_isAlike l D q cI cJ cZ cP cS K n H.size x2 x1 S L R _ h) (cwV 2 C.2.2.2.2 gX5_tickLike_X5_isAlike rfl rfl rfl (by decide +kernel) ⟨Nat.le_of_ble_eq_true rfl, Nat.le_of_ble_eq_true rfl⟩) ⟨mP_blind cX_B, va_recv hW.1 hW.2.1 (ci := 5) (q0 := 9) rfl (wL_get (by omega)), fun U hU hV => ⟨rfl, hW.pre hU hV (hX.call hW hU hV)⟩⟩ rfl rfl hl.1 rfl (lv_room (Nat.le_of_ble_eq_true rfl)) dX5_tickLike_28 ⟨Nat.zero_le _, Nat.zero_le _⟩) (fun r9 u H locs h hW => ?_)
        obtain ⟨S10, L11, R12⟩ := u
        replace hW : hw D (tyC cI cJ cZ cP cS) q (29 + 2 * n) (gC q cI cJ cZ cP cS K n S10 L11 R12) A s H locs := hW
        refine lv_if_eq (tgt := 36) C.1 C.2.1 dX5_tickLike_31 (by decide) (fun c13 => ?_) (fun c13 => ?_)
        · replace h := h.1 c13
          refine lv_aload_n C.1 C.2.1 dX5_tickLike_36 rfl (lv_at hl 0 rfl) ?_
          refine r_get C hW (ci := 5) (T := TX5) (n := 13) (ref := "BallMinder$Shaft") (v := .ref (q 12)) (9) (by omega) rfl rfl 4 (by decide) inX5_tickLike_X5 (by decide +kernel) (fun _ h9 => h9) rfl dX5_tickLike_37 ?_
          refine lv_iload_n C.1 C.2.1 dX5_tickLike_40 rfl (lv_at hl 2 rfl) ?_
          obtain ⟨hs14, h⟩ := h
          refine r_iald C hW (cA := cI) (n := 301) (f := S10 12) (12) 0 (by omega) rfl rfl hs14 dX5_tickLike_41 ?_
          refine lv_topi (fun x2_15 ex2_15 => ?_)
          replace h := h x2_15 ex2_15
          refine lv_istore_n (lv' := [(2, .int x2_15), (0, .ref (q 9)), (1, .int x1), (3, .int x3)]) C.1 C.2.1 dX5_tickLike_42 rfl hl (by decide) rfl (fun ls hl => ?_)
          obtain ⟨x3_16, ex3_16⟩ : ∃ z : Int32, z = x3 + (1 : Int32) := ⟨_, rfl⟩
          replace h := h x3_16 ex3_16
          refine lv_iinc (v := x3_16) (lv' := [(3, .int x3_16), (2, .int x2_15), (0, .ref (q 9)), (1, .int x1)]) C.1 C.2.1 dX5_tickLike_43 hl (k := 3) rfl (by rw [ex3_16]; rfl) (by decide) rfl (fun ls hl => ?_)
          refine lv_goto (tgt := 13) C.1 C.2.1 dX5_tickLike_46 (by decide) ?_
          exact ih x1 x2_15 x3_16 S10 L11 R12 _ _ _ h hW (lv_sub hl [2, 3, 1, 0] rfl)
        · replace h := h.2 c13
          refine lv_iload_n C.1 C.2.1 dX5_tickLike_34 rfl (lv_at hl 2 rfl) ?_
          exact t_i C hr hlk (u := (S10, L11, R12)) hW.2.2.2.1 hW.B h dX5_tickLike_35
set_option maxRecDepth 100000 in
set_option maxHeartbeats 4000000 in
theorem sX5_tickLike {p : Program} {l : Launch} {e : Env} {s : State} {m : MethodId} {args : Array Value} {below : List Frame} {meth : Method} {c : Code} {D : va_G} {q : Nat → Nat} {A : Nat → Prop} {cI cJ cZ cP cS : ClassId} {K : Nat → Nat} {n : Nat} (C : CallFix p m c cX5_tickLike 4 s args wsX5_tickLike RX5) (hr : meth.sig.returnType = (some .int)) (hlk : meth.locks = false) (hX : cX A s) (Q : Int32 → (Nat → Nat → Int32) → (Nat → Int64) → (Nat → Option Nat) → Prop) : ∀ (x1 : Int32) (S : Nat → Nat → Int32) (L : Nat → Int64) (R : Nat → Option Nat) (H : Heap) (locs : List Loc) (ls : Array Slot), vX5_tickLike K n x1 S L R Q → hw D (tyC cI cJ cZ cP cS) q (29 + 2 * n) (gC q cI cJ cZ cP cS K n S L R) A s H locs → lv_has ls 4 [(0, .ref (q 9)), (1, .int x1)] → W p l e (headSpec wsX5_tickLike rmX5_tickLike).room s m args below meth c H locs 0 0 (MQ below (QCi D q cI cJ cZ cP cS K n Q A) args s 0 0 A) (F0 m 0 ls []) := by
  intro x1 S L R H locs ls h hW hl
  unfold vX5_tickLike at h
  refine lv_aload_n C.1 C.2.1 dX5_tickLike_0 rfl (lv_at hl 0 rfl) ?_
  refine r_get C hW (ci := 5) (T := TX5) (n := 13) (ref := "BallMinder$Shaft") (v := .ref (q 11)) (9) (by omega) rfl rfl 3 (by decide) inX5_tickLike_X5 (by decide +kernel) (fun _ h9 => h9) rfl dX5_tickLike_1 ?_
  refine lv_aload_n C.1 C.2.1 dX5_tickLike_4 rfl (lv_at hl 0 rfl) ?_
  refine lv_iload_n C.1 C.2.1 dX5_tickLike_5 rfl (lv_at hl 1 rfl) ?_
  refine k_i hW (va_runV (As := [.int x1]) (rest := [.ref (q 11)]) C (mtX5_bucketOf l D q cI cJ cZ cP cS K n H.size x1 S L R _ h) (cwV 1 C.2.2.2.2 gX5_tickLike_X5_bucketOf rfl rfl rfl (by decide +kernel) ⟨Nat.le_of_ble_eq_true rfl, Nat.le_of_ble_eq_true rfl⟩) ⟨mP_blind cX_B, va_recv hW.1 hW.2.1 (ci := 5) (q0 := 9) rfl (wL_get (by omega)), fun U hU hV => ⟨rfl, hW.pre hU hV (hX.call hW hU hV)⟩⟩ rfl rfl hl.1 rfl (lv_room (Nat.le_of_ble_eq_true rfl)) dX5_tickLike_6 ⟨Nat.zero_le _, Nat.zero_le _⟩) (fun r1 u H locs h hW => ?_)
  obtain ⟨S2, L3, R4⟩ := u
  replace hW : hw D (tyC cI cJ cZ cP cS) q (29 + 2 * n) (gC q cI cJ cZ cP cS K n S2 L3 R4) A s H locs := hW
  obtain ⟨hs5, h⟩ := h
  refine r_iald C hW (cA := cI) (n := 256) (f := S2 11) (11) 0 (by omega) rfl rfl hs5 dX5_tickLike_9 ?_
  refine lv_topi (fun x2_6 ex2_6 => ?_)
  replace h := h x2_6 ex2_6
  refine lv_istore_n (lv' := [(2, .int x2_6), (0, .ref (q 9)), (1, .int x1)]) C.1 C.2.1 dX5_tickLike_10 rfl hl (by decide) rfl (fun ls hl => ?_)
  refine lv_iconst (v := 0) C.1 C.2.1 dX5_tickLike_11 (by decide) ?_
  refine lv_istore_n (lv' := [(3, .int (0 : Int32)), (2, .int x2_6), (0, .ref (q 9)), (1, .int x1)]) C.1 C.2.1 dX5_tickLike_12 rfl hl (by decide) rfl (fun ls hl => ?_)
  obtain ⟨n9, h⟩ := h
  exact sX5_tickLike_13 C hr hlk hX Q n9 x1 x2_6 (0 : Int32) S2 L3 R4 _ _ _ h hW (lv_sub hl [2, 3, 1, 0] rfl)
set_option maxRecDepth 100000 in
set_option maxHeartbeats 4000000 in
theorem mtX5_tickLike (l : Launch) (D : va_G) (q : Nat → Nat) (cI cJ cZ cP cS : ClassId) (K : Nat → Nat) (n : Nat) (sz : Nat) (x1 : Int32) (S : Nat → Nat → Int32) (L : Nat → Int64) (R : Nat → Option Nat) (Q : Int32 → (Nat → Nat → Int32) → (Nat → Int64) → (Nat → Option Nat) → Prop) (h : vX5_tickLike K n x1 S L R Q) : Met l yX5_tickLike wsX5_tickLike rmX5_tickLike (va_Pc [.ref (q 9), .int x1] (mP D (tyC cI cJ cZ cP cS) q (29 + 2 * n) (gC q cI cJ cZ cP cS K n S L R) sz (cX (aQ q (29 + 2 * n) sz)))) (QCi D q cI cJ cZ cP cS K n Q (aQ q (29 + 2 * n) sz)) 0 0 (aQ q (29 + 2 * n) sz) := by
  refine met_w (cc := cX5_tickLike) (maxL := 4) (ret := (some .int)) (by decide) rfl (Nat.le_of_ble_eq_true rfl) ?_
  intro p e s m below meth c ls C hr hlk hW hX hnm hl
  exact sX5_tickLike C hr hlk hX Q x1 S L R _ _ _ h hW hl
theorem inX5_runTillRound_X5 : ∀ w ∈ wsX50, w ∈ wsX5_runTillRound := fun _ h => List.mem_cons_of_mem _ (List.mem_append_left _ (List.mem_append_left _ (List.mem_append_left _ (List.mem_append_left _ (List.mem_append_right _ h)))))
theorem inX5_runTillRound_X2 : ∀ w ∈ wsX20, w ∈ wsX5_runTillRound := fun _ h => List.mem_cons_of_mem _ (List.mem_append_left _ (List.mem_append_left _ (List.mem_append_left _ (List.mem_append_right _ h))))
theorem inX5_runTillRound_X3 : ∀ w ∈ wsX30, w ∈ wsX5_runTillRound := fun _ h => List.mem_cons_of_mem _ (List.mem_append_left _ (List.mem_append_left _ (List.mem_append_right _ h)))
theorem inX5_runTillRound_X4 : ∀ w ∈ wsX40, w ∈ wsX5_runTillRound := fun _ h => List.mem_cons_of_mem _ (List.mem_append_left _ (List.mem_append_right _ h))
theorem inX5_runTillRound_X7 : ∀ w ∈ wsX70, w ∈ wsX5_runTillRound := fun _ h => List.mem_cons_of_mem _ (List.mem_append_right _ h)
abbrev rmX5_runTillRound : Room := { frames := 5, cells := 0, slots := 0, locals := 113 }
def vX5_runTillRound_122 (K : Nat → Nat) (n : Nat) (K38 : Int32 → (Nat → Nat → Int32) → (Nat → Int64) → (Nat → Option Nat) → Prop) (Q : (Nat → Nat → Int32) → (Nat → Int64) → (Nat → Option Nat) → Prop) (x1 : Int32) (S : Nat → Nat → Int32) (L : Nat → Int64) (R : Nat → Option Nat) : Prop := ∀ x1_38 : Int32, x1_38 = x1 + (1 : Int32) → K38 x1_38 S L R
def vX5_runTillRound_38 (K : Nat → Nat) (n : Nat) (Q : (Nat → Nat → Int32) → (Nat → Int64) → (Nat → Option Nat) → Prop) : Nat → Int32 → (Nat → Nat → Int32) → (Nat → Int64) → (Nat → Option Nat) → Prop
  | 0, _, _, _, _ => False
  | fu+1, x1, S, L, R => ((300 : Int32) < x1 → Q S L R) ∧ (¬ ((300 : Int32) < x1) → (¬ (S 9 10) = 0 → Q S L R) ∧ ((S 9 10) = 0 → vX5_tick K n (x1 - (1 : Int32)) S L R (fun S18 L19 R20 => ∀ S21 : Nat → Nat → Int32, S21 = va_up S18 9 (upd (S18 9) 9 x1) → vX5_beatAt K n x1 S21 L19 R20 (fun r22 S23 L24 R25 => ∀ S26 : Nat → Nat → Int32, S26 = va_up S23 9 (upd (S23 9) 11 (if r22 < (S21 9 11) then r22 else (S21 9 11))) → vX5_beatAt K n x1 S26 L24 R25 (fun r27 S28 L29 R30 => ∀ S31 : Nat → Nat → Int32, S31 = va_up S28 9 (upd (S28 9) 12 (if (S26 9 12) < r27 then r27 else (S26 9 12))) → vX5_tickLike K n x1 S31 L29 R30 (fun r32 S33 L34 R35 => (¬ r32 = (-1 : Int32) → ∀ S37 : Nat → Nat → Int32, S37 = va_up S33 9 (upd (S33 9) 10 (x1 - r32)) → vX5_runTillRound_122 K n (vX5_runTillRound_38 K n Q fu) Q x1 S37 L34 R35) ∧ (r32 = (-1 : Int32) → vX5_remember K n x1 S33 L34 R35 (fun S39 L40 R41 => vX5_runTillRound_122 K n (vX5_runTillRound_38 K n Q fu) Q x1 S39 L40 R41))))))))
def vX5_runTillRound (K : Nat → Nat) (n : Nat) (S : Nat → Nat → Int32) (L : Nat → Int64) (R : Nat → Option Nat) (Q : (Nat → Nat → Int32) → (Nat → Int64) → (Nat → Option Nat) → Prop) : Prop := ∀ S1 : Nat → Nat → Int32, S1 = va_up S 11 (fillF (S 11) 256 (-1 : Int32)) → ∀ S2 : Nat → Nat → Int32, S2 = va_up S1 9 (upd (S1 9) 10 (0 : Int32)) → vX5_beatAt K n (0 : Int32) S2 L R (fun r3 S4 L5 R6 => ∀ S7 : Nat → Nat → Int32, S7 = va_up S4 9 (upd (S4 9) 11 r3) → vX5_beatAt K n (0 : Int32) S7 L5 R6 (fun r8 S9 L10 R11 => ∀ S12 : Nat → Nat → Int32, S12 = va_up S9 9 (upd (S9 9) 12 r8) → vX5_remember K n (0 : Int32) S12 L10 R11 (fun S13 L14 R15 => ∃ n38, vX5_runTillRound_38 K n Q n38 (1 : Int32) S13 L14 R15)))
set_option maxRecDepth 100000 in
set_option maxHeartbeats 4000000 in
theorem sX5_runTillRound_122 {p : Program} {l : Launch} {e : Env} {s : State} {m : MethodId} {args : Array Value} {below : List Frame} {meth : Method} {c : Code} {D : va_G} {q : Nat → Nat} {A : Nat → Prop} {cI cJ cZ cP cS : ClassId} {K : Nat → Nat} {n : Nat} (C : CallFix p m c cX5_runTillRound 3 s args wsX5_runTillRound RX5) (hr : meth.sig.returnType = none) (hlk : meth.locks = false) (hX : cX A s) (Q : (Nat → Nat → Int32) → (Nat → Int64) → (Nat → Option Nat) → Prop) (K38 : Int32 → (Nat → Nat → Int32) → (Nat → Int64) → (Nat → Option Nat) → Prop) (hK38 : ∀ (x1 : Int32) (S : Nat → Nat → Int32) (L : Nat → Int64) (R : Nat → Option Nat) (H : Heap) (locs : List Loc) (ls : Array Slot), K38 x1 S L R → hw D (tyC cI cJ cZ cP cS) q (29 + 2 * n) (gC q cI cJ cZ cP cS K n S L R) A s H locs → lv_has ls 3 [(0, .ref (q 9)), (1, .int x1)] → W p l e (headSpec wsX5_runTillRound rmX5_runTillRound).room s m args below meth c H locs 0 0 (MQ below (QCv D q cI cJ cZ cP cS K n Q A) args s 0 0 A) (F0 m 38 ls [])) : ∀ (x1 : Int32) (S : Nat → Nat → Int32) (L : Nat → Int64) (R : Nat → Option Nat) (H : Heap) (locs : List Loc) (ls : Array Slot), vX5_runTillRound_122 K n K38 Q x1 S L R → hw D (tyC cI cJ cZ cP cS) q (29 + 2 * n) (gC q cI cJ cZ cP cS K n S L R) A s H locs → lv_has ls 3 [(0, .ref (q 9)), (1, .int x1)] → W p l e (headSpec wsX5_runTillRound rmX5_runTillRound).room s m args below meth c H locs 0 0 (MQ below (QCv D q cI cJ cZ cP cS K n Q A) args s 0 0 A) (F0 m 122 ls []) := by
  intro x1 S L R H locs ls h hW hl
  unfold vX5_runTillRound_122 at h
  obtain ⟨x1_38, ex1_38⟩ : ∃ z : Int32, z = x1 + (1 : Int32) := ⟨_, rfl⟩
  replace h := h x1_38 ex1_38
  refine lv_iinc (v := x1_38) (lv' := [(1, .int x1_38), (0, .ref (q 9))]) C.1 C.2.1 dX5_runTillRound_122 hl (k := 1) rfl (by rw [ex1_38]; rfl) (by decide) rfl (fun ls hl => ?_)
  refine lv_goto (tgt := 38) C.1 C.2.1 dX5_runTillRound_125 (by decide) ?_
  exact hK38 x1_38 S L R _ _ _ h hW (lv_sub hl [1, 0] rfl)
set_option maxRecDepth 100000 in
set_option maxHeartbeats 4000000 in
theorem sX5_runTillRound_38 {p : Program} {l : Launch} {e : Env} {s : State} {m : MethodId} {args : Array Value} {below : List Frame} {meth : Method} {c : Code} {D : va_G} {q : Nat → Nat} {A : Nat → Prop} {cI cJ cZ cP cS : ClassId} {K : Nat → Nat} {n : Nat} (C : CallFix p m c cX5_runTillRound 3 s args wsX5_runTillRound RX5) (hr : meth.sig.returnType = none) (hlk : meth.locks = false) (hX : cX A s) (Q : (Nat → Nat → Int32) → (Nat → Int64) → (Nat → Option Nat) → Prop) : ∀ (fu : Nat) (x1 : Int32) (S : Nat → Nat → Int32) (L : Nat → Int64) (R : Nat → Option Nat) (H : Heap) (locs : List Loc) (ls : Array Slot), vX5_runTillRound_38 K n Q fu x1 S L R → hw D (tyC cI cJ cZ cP cS) q (29 + 2 * n) (gC q cI cJ cZ cP cS K n S L R) A s H locs → lv_has ls 3 [(0, .ref (q 9)), (1, .int x1)] → W p l e (headSpec wsX5_runTillRound rmX5_runTillRound).room s m args below meth c H locs 0 0 (MQ below (QCv D q cI cJ cZ cP cS K n Q A) args s 0 0 A) (F0 m 38 ls []) := by
  intro fu
  induction fu with
  | zero =>
    intro x1 S L R H locs ls h
    exact h.elim
  | succ fu ih =>
    intro x1 S L R H locs ls h hW hl
    refine lv_iload_n C.1 C.2.1 dX5_runTillRound_38 rfl (lv_at hl 1 rfl) ?_
    refine lv_sipush (v := 300) C.1 C.2.1 dX5_runTillRound_39 (by decide) ?_
    refine lv_icmp_gt (tgt := 128) C.1 C.2.1 dX5_runTillRound_42 (by decide) (fun c16 => ?_) (fun c16 => ?_)
    · replace h := h.1 c16
      exact t_v C hr hlk (u := (S, L, R)) hW.2.2.2.1 hW.B h dX5_runTillRound_128
    · replace h := h.2 c16
      refine lv_aload_n C.1 C.2.1 dX5_runTillRound_45 rfl (lv_at hl 0 rfl) ?_
      refine r_get C hW (ci := 5) (T := TX5) (n := 13) (ref := "BallMinder$Shaft") (v := .int (S 9 10)) (9) (by omega) rfl rfl 10 (by decide) inX5_runTillRound_X5 (by decide +kernel) (fun _ h9 => h9) rfl dX5_runTillRound_46 ?_
      refine lv_if_ne (tgt := 128) C.1 C.2.1 dX5_runTillRound_49 (by decide) (fun c17 => ?_) (fun c17 => ?_)
      · replace h := h.1 c17
        exact t_v C hr hlk (u := (S, L, R)) hW.2.2.2.1 hW.B h dX5_runTillRound_128
      · replace h := h.2 c17
        refine lv_aload_n C.1 C.2.1 dX5_runTillRound_52 rfl (lv_at hl 0 rfl) ?_
        refine lv_iload_n C.1 C.2.1 dX5_runTillRound_53 rfl (lv_at hl 1 rfl) ?_
        refine lv_iconst (v := 1) C.1 C.2.1 dX5_runTillRound_54 (by decide) ?_
        refine lv_isub C.1 C.2.1 dX5_runTillRound_55 ?_
        refine k_v hW (va_runV (As := [.int (x1 - (1 : Int32))]) (rest := []) C (mtX5_tick l D q cI cJ cZ cP cS K n H.size (x1 - (1 : Int32)) S L R _ h) (cwV 1 C.2.2.2.2 gX5_runTillRound_X5_tick rfl rfl rfl (by decide +kernel) ⟨Nat.le_of_ble_eq_true rfl, Nat.le_of_ble_eq_true rfl⟩) ⟨mP_blind cX_B, va_recv hW.1 hW.2.1 (ci := 5) (q0 := 9) rfl (wL_get (by omega)), fun U hU hV => ⟨rfl, hW.pre hU hV (hX.call hW hU hV)⟩⟩ rfl rfl hl.1 rfl (lv_room (Nat.le_of_ble_eq_true rfl)) dX5_runTillRound_56 ⟨Nat.zero_le _, Nat.zero_le _⟩) (fun u H locs h hW => ?_)
        obtain ⟨S18, L19, R20⟩ := u
        replace hW : hw D (tyC cI cJ cZ cP cS) q (29 + 2 * n) (gC q cI cJ cZ cP cS K n S18 L19 R20) A s H locs := hW
        refine lv_aload_n C.1 C.2.1 dX5_runTillRound_59 rfl (lv_at hl 0 rfl) ?_
        refine lv_iload_n C.1 C.2.1 dX5_runTillRound_60 rfl (lv_at hl 1 rfl) ?_
        refine r_put C hW (ci := 5) (T := TX5) (n := 13) (ref := "BallMinder$Shaft") (9) (by omega) rfl rfl 9 (by decide) inX5_runTillRound_X5 tyX5 tyX5_ok nmX5 (by decide +kernel) (fun _ h9 => h9) rfl rfl rfl (Nat.le_of_ble_eq_true rfl) dX5_runTillRound_61 (fun H locs hW => ?_)
        replace hW := gC_put (F := upd (S18 9) 9 x1) rfl hW
        obtain ⟨S21, eS21⟩ : ∃ z : Nat → Nat → Int32, z = va_up S18 9 (upd (S18 9) 9 x1) := ⟨_, rfl⟩
        rw [← eS21] at hW
        replace h := h S21 eS21
        refine lv_aload_n C.1 C.2.1 dX5_runTillRound_64 rfl (lv_at hl 0 rfl) ?_
        refine lv_aload_n C.1 C.2.1 dX5_runTillRound_65 rfl (lv_at hl 0 rfl) ?_
        refine r_get C hW (ci := 5) (T := TX5) (n := 13) (ref := "BallMinder$Shaft") (v := .int (S21 9 11)) (9) (by omega) rfl rfl 11 (by decide) inX5_runTillRound_X5 (by decide +kernel) (fun _ h9 => h9) rfl dX5_runTillRound_66 ?_
        refine lv_aload_n C.1 C.2.1 dX5_runTillRound_69 rfl (lv_at hl 0 rfl) ?_
        refine lv_iload_n C.1 C.2.1 dX5_runTillRound_70 rfl (lv_at hl 1 rfl) ?_
        refine k_i hW (va_runV (As := [.int x1]) (rest := [.int (S21 9 11), .ref (q 9)]) C (mtX5_beatAt l D q cI cJ cZ cP cS K n H.size x1 S21 L19 R20 _ h) (cwV 1 C.2.2.2.2 gX5_runTillRound_X5_beatAt rfl rfl rfl (by decide +kernel) ⟨Nat.le_of_ble_eq_true rfl, Nat.le_of_ble_eq_true rfl⟩) ⟨mP_blind cX_B, va_recv hW.1 hW.2.1 (ci := 5) (q0 := 9) rfl (wL_get (by omega)), fun U hU hV => ⟨rfl, hW.pre hU hV (hX.call hW hU hV)⟩⟩ rfl rfl hl.1 rfl (lv_room (Nat.le_of_ble_eq_true rfl)) dX5_runTillRound_71 ⟨Nat.zero_le _, Nat.zero_le _⟩) (fun r22 u H locs h hW => ?_)
        obtain ⟨S23, L24, R25⟩ := u
        replace hW : hw D (tyC cI cJ cZ cP cS) q (29 + 2 * n) (gC q cI cJ cZ cP cS K n S23 L24 R25) A s H locs := hW
        refine va_mmin C.1 C.2.1 (by rw [C.2.2.1, hl.1]) C.2.2.2.1 (C.2.2.2.2 (.methodLink RX5 103 Lib.Math.min.name) (by decide +kernel)) (C.2.2.2.2 (.static Lib.Math.min.name) (by decide +kernel)) (C.2.2.2.2 (.initialized "java/lang/Math") (by decide +kernel)) (C.2.2.2.2 (.code Lib.Math.min.name Lib.Math.min.code 2 (some .int)) (by decide +kernel)) (Nat.le_of_ble_eq_true rfl) (Nat.le_of_ble_eq_true rfl) (Nat.zero_le _) (Nat.zero_le _) dX5_runTillRound_74 ?_
        refine r_put C hW (ci := 5) (T := TX5) (n := 13) (ref := "BallMinder$Shaft") (9) (by omega) rfl rfl 11 (by decide) inX5_runTillRound_X5 tyX5 tyX5_ok nmX5 (by decide +kernel) (fun _ h9 => h9) rfl rfl rfl (Nat.le_of_ble_eq_true rfl) dX5_runTillRound_77 (fun H locs hW => ?_)
        replace hW := gC_put (F := upd (S23 9) 11 (if r22 < (S21 9 11) then r22 else (S21 9 11))) rfl hW
        obtain ⟨S26, eS26⟩ : ∃ z : Nat → Nat → Int32, z = va_up S23 9 (upd (S23 9) 11 (if r22 < (S21 9 11) then r22 else (S21 9 11))) := ⟨_, rfl⟩
        rw [← eS26] at hW
        replace h := h S26 eS26
        refine lv_aload_n C.1 C.2.1 dX5_runTillRound_80 rfl (lv_at hl 0 rfl) ?_
        refine lv_aload_n C.1 C.2.1 dX5_runTillRound_81 rfl (lv_at hl 0 rfl) ?_
        refine r_get C hW (ci := 5) (T := TX5) (n := 13) (ref := "BallMinder$Shaft") (v := .int (S26 9 12)) (9) (by omega) rfl rfl 12 (by decide) inX5_runTillRound_X5 (by decide +kernel) (fun _ h9 => h9) rfl dX5_runTillRound_82 ?_
        refine lv_aload_n C.1 C.2.1 dX5_runTillRound_85 rfl (lv_at hl 0 rfl) ?_
        refine lv_iload_n C.1 C.2.1 dX5_runTillRound_86 rfl (lv_at hl 1 rfl) ?_
        refine k_i hW (va_runV (As := [.int x1]) (rest := [.int (S26 9 12), .ref (q 9)]) C (mtX5_beatAt l D q cI cJ cZ cP cS K n H.size x1 S26 L24 R25 _ h) (cwV 1 C.2.2.2.2 gX5_runTillRound_X5_beatAt rfl rfl rfl (by decide +kernel) ⟨Nat.le_of_ble_eq_true rfl, Nat.le_of_ble_eq_true rfl⟩) ⟨mP_blind cX_B, va_recv hW.1 hW.2.1 (ci := 5) (q0 := 9) rfl (wL_get (by omega)), fun U hU hV => ⟨rfl, hW.pre hU hV (hX.call hW hU hV)⟩⟩ rfl rfl hl.1 rfl (lv_room (Nat.le_of_ble_eq_true rfl)) dX5_runTillRound_87 ⟨Nat.zero_le _, Nat.zero_le _⟩) (fun r27 u H locs h hW => ?_)
        obtain ⟨S28, L29, R30⟩ := u
        replace hW : hw D (tyC cI cJ cZ cP cS) q (29 + 2 * n) (gC q cI cJ cZ cP cS K n S28 L29 R30) A s H locs := hW
        refine va_mmax C.1 C.2.1 (by rw [C.2.2.1, hl.1]) C.2.2.2.1 (C.2.2.2.2 (.methodLink RX5 43 Lib.Math.max.name) (by decide +kernel)) (C.2.2.2.2 (.static Lib.Math.max.name) (by decide +kernel)) (C.2.2.2.2 (.initialized "java/lang/Math") (by decide +kernel)) (C.2.2.2.2 (.code Lib.Math.max.name Lib.Math.max.code 2 (some .int)) (by decide +kernel)) (Nat.le_of_ble_eq_true rfl) (Nat.le_of_ble_eq_true rfl) (Nat.zero_le _) (Nat.zero_le _) dX5_runTillRound_90 ?_
        refine r_put C hW (ci := 5) (T := TX5) (n := 13) (ref := "BallMinder$Shaft") (9) (by omega) rfl rfl 12 (by decide) inX5_runTillRound_X5 tyX5 tyX5_ok nmX5 (by decide +kernel) (fun _ h9 => h9) rfl rfl rfl (Nat.le_of_ble_eq_true rfl) dX5_runTillRound_93 (fun H locs hW => ?_)
        replace hW := gC_put (F := upd (S28 9) 12 (if (S26 9 12) < r27 then r27 else (S26 9 12))) rfl hW
        obtain ⟨S31, eS31⟩ : ∃ z : Nat → Nat → Int32, z = va_up S28 9 (upd (S28 9) 12 (if (S26 9 12) < r27 then r27 else (S26 9 12))) := ⟨_, rfl⟩
        rw [← eS31] at hW
        replace h := h S31 eS31
        refine lv_aload_n C.1 C.2.1 dX5_runTillRound_96 rfl (lv_at hl 0 rfl) ?_
        refine lv_iload_n C.1 C.2.1 dX5_runTillRound_97 rfl (lv_at hl 1 rfl) ?_
        refine k_i hW (va_runV (As := [.int x1]) (rest := []) C (mtX5_tickLike l D q cI cJ cZ cP cS K n H.size x1 S31 L29 R30 _ h) (cwV 1 C.2.2.2.2 gX5_runTillRound_X5_tickLike rfl rfl rfl (by decide +kernel) ⟨Nat.le_of_ble_eq_true rfl, Nat.le_of_ble_eq_true rfl⟩) ⟨mP_blind cX_B, va_recv hW.1 hW.2.1 (ci := 5) (q0 := 9) rfl (wL_get (by omega)), fun U hU hV => ⟨rfl, hW.pre hU hV (hX.call hW hU hV)⟩⟩ rfl rfl hl.1 rfl (lv_room (Nat.le_of_ble_eq_true rfl)) dX5_runTillRound_98 ⟨Nat.zero_le _, Nat.zero_le _⟩) (fun r32 u H locs h hW => ?_)
        obtain ⟨S33, L34, R35⟩ := u
        replace hW : hw D (tyC cI cJ cZ cP cS) q (29 + 2 * n) (gC q cI cJ cZ cP cS K n S33 L34 R35) A s H locs := hW
        refine lv_istore_n (lv' := [(2, .int r32), (0, .ref (q 9)), (1, .int x1)]) C.1 C.2.1 dX5_runTillRound_101 rfl hl (by decide) rfl (fun ls hl => ?_)
        refine lv_iload_n C.1 C.2.1 dX5_runTillRound_102 rfl (lv_at hl 0 rfl) ?_
        refine lv_iconst (v := -1) C.1 C.2.1 dX5_runTillRound_103 (by decide) ?_
        refine lv_icmp_ne (tgt := 115) C.1 C.2.1 dX5_runTillRound_104 (by decide) (fun c36 => ?_) (fun c36 => ?_)
        · replace h := h.1 c36
          refine lv_aload_n C.1 C.2.1 dX5_runTillRound_115 rfl (lv_at hl 1 rfl) ?_
          refine lv_iload_n C.1 C.2.1 dX5_runTillRound_116 rfl (lv_at hl 2 rfl) ?_
          refine lv_iload_n C.1 C.2.1 dX5_runTillRound_117 rfl (lv_at hl 0 rfl) ?_
          refine lv_isub C.1 C.2.1 dX5_runTillRound_118 ?_
          refine r_put C hW (ci := 5) (T := TX5) (n := 13) (ref := "BallMinder$Shaft") (9) (by omega) rfl rfl 10 (by decide) inX5_runTillRound_X5 tyX5 tyX5_ok nmX5 (by decide +kernel) (fun _ h9 => h9) rfl rfl rfl (Nat.le_of_ble_eq_true rfl) dX5_runTillRound_119 (fun H locs hW => ?_)
          replace hW := gC_put (F := upd (S33 9) 10 (x1 - r32)) rfl hW
          obtain ⟨S37, eS37⟩ : ∃ z : Nat → Nat → Int32, z = va_up S33 9 (upd (S33 9) 10 (x1 - r32)) := ⟨_, rfl⟩
          rw [← eS37] at hW
          replace h := h S37 eS37
          exact sX5_runTillRound_122 C hr hlk hX Q _ ih x1 S37 L34 R35 _ _ _ h hW (lv_sub hl [1, 2] rfl)
        · replace h := h.2 c36
          refine lv_aload_n C.1 C.2.1 dX5_runTillRound_107 rfl (lv_at hl 1 rfl) ?_
          refine lv_iload_n C.1 C.2.1 dX5_runTillRound_108 rfl (lv_at hl 2 rfl) ?_
          refine k_v hW (va_runV (As := [.int x1]) (rest := []) C (mtX5_remember l D q cI cJ cZ cP cS K n H.size x1 S33 L34 R35 _ h) (cwV 1 C.2.2.2.2 gX5_runTillRound_X5_remember rfl rfl rfl (by decide +kernel) ⟨Nat.le_of_ble_eq_true rfl, Nat.le_of_ble_eq_true rfl⟩) ⟨mP_blind cX_B, va_recv hW.1 hW.2.1 (ci := 5) (q0 := 9) rfl (wL_get (by omega)), fun U hU hV => ⟨rfl, hW.pre hU hV (hX.call hW hU hV)⟩⟩ rfl rfl hl.1 rfl (lv_room (Nat.le_of_ble_eq_true rfl)) dX5_runTillRound_109 ⟨Nat.zero_le _, Nat.zero_le _⟩) (fun u H locs h hW => ?_)
          obtain ⟨S39, L40, R41⟩ := u
          replace hW : hw D (tyC cI cJ cZ cP cS) q (29 + 2 * n) (gC q cI cJ cZ cP cS K n S39 L40 R41) A s H locs := hW
          refine lv_goto (tgt := 122) C.1 C.2.1 dX5_runTillRound_112 (by decide) ?_
          exact sX5_runTillRound_122 C hr hlk hX Q _ ih x1 S39 L40 R41 _ _ _ h hW (lv_sub hl [1, 2] rfl)
set_option maxRecDepth 100000 in
set_option maxHeartbeats 4000000 in
theorem sX5_runTillRound {p : Program} {l : Launch} {e : Env} {s : State} {m : MethodId} {args : Array Value} {below : List Frame} {meth : Method} {c : Code} {D : va_G} {q : Nat → Nat} {A : Nat → Prop} {cI cJ cZ cP cS : ClassId} {K : Nat → Nat} {n : Nat} (C : CallFix p m c cX5_runTillRound 3 s args wsX5_runTillRound RX5) (hr : meth.sig.returnType = none) (hlk : meth.locks = false) (hX : cX A s) (Q : (Nat → Nat → Int32) → (Nat → Int64) → (Nat → Option Nat) → Prop) : ∀ (S : Nat → Nat → Int32) (L : Nat → Int64) (R : Nat → Option Nat) (H : Heap) (locs : List Loc) (ls : Array Slot), vX5_runTillRound K n S L R Q → hw D (tyC cI cJ cZ cP cS) q (29 + 2 * n) (gC q cI cJ cZ cP cS K n S L R) A s H locs → lv_has ls 3 [(0, .ref (q 9))] → W p l e (headSpec wsX5_runTillRound rmX5_runTillRound).room s m args below meth c H locs 0 0 (MQ below (QCv D q cI cJ cZ cP cS K n Q A) args s 0 0 A) (F0 m 0 ls []) := by
  intro S L R H locs ls h hW hl
  unfold vX5_runTillRound at h
  refine lv_aload_n C.1 C.2.1 dX5_runTillRound_0 rfl (lv_at hl 0 rfl) ?_
  refine r_get C hW (ci := 5) (T := TX5) (n := 13) (ref := "BallMinder$Shaft") (v := .ref (q 11)) (9) (by omega) rfl rfl 3 (by decide) inX5_runTillRound_X5 (by decide +kernel) (fun _ h9 => h9) rfl dX5_runTillRound_1 ?_
  refine lv_iconst (v := -1) C.1 C.2.1 dX5_runTillRound_4 (by decide) ?_
  refine c_fill C hW (i := 11) (mm := 256) (v := (-1 : Int32)) (by omega) (fun _ => rfl) (by decide) gX5_runTillRound_J7_fill_53178 ⟨Nat.le_of_ble_eq_true rfl, Nat.le_of_ble_eq_true rfl⟩ hl.1 (lv_room (Nat.le_of_ble_eq_true rfl)) dX5_runTillRound_5 (fun H locs hW => ?_)
  obtain ⟨S1, eS1⟩ : ∃ z : Nat → Nat → Int32, z = va_up S 11 (fillF (S 11) 256 (-1 : Int32)) := ⟨_, rfl⟩
  rw [← eS1] at hW
  replace h := h S1 eS1
  refine lv_aload_n C.1 C.2.1 dX5_runTillRound_8 rfl (lv_at hl 0 rfl) ?_
  refine lv_iconst (v := 0) C.1 C.2.1 dX5_runTillRound_9 (by decide) ?_
  refine r_put C hW (ci := 5) (T := TX5) (n := 13) (ref := "BallMinder$Shaft") (9) (by omega) rfl rfl 10 (by decide) inX5_runTillRound_X5 tyX5 tyX5_ok nmX5 (by decide +kernel) (fun _ h9 => h9) rfl rfl rfl (Nat.le_of_ble_eq_true rfl) dX5_runTillRound_10 (fun H locs hW => ?_)
  replace hW := gC_put (F := upd (S1 9) 10 (0 : Int32)) rfl hW
  obtain ⟨S2, eS2⟩ : ∃ z : Nat → Nat → Int32, z = va_up S1 9 (upd (S1 9) 10 (0 : Int32)) := ⟨_, rfl⟩
  rw [← eS2] at hW
  replace h := h S2 eS2
  refine lv_aload_n C.1 C.2.1 dX5_runTillRound_13 rfl (lv_at hl 0 rfl) ?_
  refine lv_aload_n C.1 C.2.1 dX5_runTillRound_14 rfl (lv_at hl 0 rfl) ?_
  refine lv_iconst (v := 0) C.1 C.2.1 dX5_runTillRound_15 (by decide) ?_
  refine k_i hW (va_runV (As := [.int (0 : Int32)]) (rest := [.ref (q 9)]) C (mtX5_beatAt l D q cI cJ cZ cP cS K n H.size (0 : Int32) S2 L R _ h) (cwV 1 C.2.2.2.2 gX5_runTillRound_X5_beatAt rfl rfl rfl (by decide +kernel) ⟨Nat.le_of_ble_eq_true rfl, Nat.le_of_ble_eq_true rfl⟩) ⟨mP_blind cX_B, va_recv hW.1 hW.2.1 (ci := 5) (q0 := 9) rfl (wL_get (by omega)), fun U hU hV => ⟨rfl, hW.pre hU hV (hX.call hW hU hV)⟩⟩ rfl rfl hl.1 rfl (lv_room (Nat.le_of_ble_eq_true rfl)) dX5_runTillRound_16 ⟨Nat.zero_le _, Nat.zero_le _⟩) (fun r3 u H locs h hW => ?_)
  obtain ⟨S4, L5, R6⟩ := u
  replace hW : hw D (tyC cI cJ cZ cP cS) q (29 + 2 * n) (gC q cI cJ cZ cP cS K n S4 L5 R6) A s H locs := hW
  refine r_put C hW (ci := 5) (T := TX5) (n := 13) (ref := "BallMinder$Shaft") (9) (by omega) rfl rfl 11 (by decide) inX5_runTillRound_X5 tyX5 tyX5_ok nmX5 (by decide +kernel) (fun _ h9 => h9) rfl rfl rfl (Nat.le_of_ble_eq_true rfl) dX5_runTillRound_19 (fun H locs hW => ?_)
  replace hW := gC_put (F := upd (S4 9) 11 r3) rfl hW
  obtain ⟨S7, eS7⟩ : ∃ z : Nat → Nat → Int32, z = va_up S4 9 (upd (S4 9) 11 r3) := ⟨_, rfl⟩
  rw [← eS7] at hW
  replace h := h S7 eS7
  refine lv_aload_n C.1 C.2.1 dX5_runTillRound_22 rfl (lv_at hl 0 rfl) ?_
  refine lv_aload_n C.1 C.2.1 dX5_runTillRound_23 rfl (lv_at hl 0 rfl) ?_
  refine lv_iconst (v := 0) C.1 C.2.1 dX5_runTillRound_24 (by decide) ?_
  refine k_i hW (va_runV (As := [.int (0 : Int32)]) (rest := [.ref (q 9)]) C (mtX5_beatAt l D q cI cJ cZ cP cS K n H.size (0 : Int32) S7 L5 R6 _ h) (cwV 1 C.2.2.2.2 gX5_runTillRound_X5_beatAt rfl rfl rfl (by decide +kernel) ⟨Nat.le_of_ble_eq_true rfl, Nat.le_of_ble_eq_true rfl⟩) ⟨mP_blind cX_B, va_recv hW.1 hW.2.1 (ci := 5) (q0 := 9) rfl (wL_get (by omega)), fun U hU hV => ⟨rfl, hW.pre hU hV (hX.call hW hU hV)⟩⟩ rfl rfl hl.1 rfl (lv_room (Nat.le_of_ble_eq_true rfl)) dX5_runTillRound_25 ⟨Nat.zero_le _, Nat.zero_le _⟩) (fun r8 u H locs h hW => ?_)
  obtain ⟨S9, L10, R11⟩ := u
  replace hW : hw D (tyC cI cJ cZ cP cS) q (29 + 2 * n) (gC q cI cJ cZ cP cS K n S9 L10 R11) A s H locs := hW
  refine r_put C hW (ci := 5) (T := TX5) (n := 13) (ref := "BallMinder$Shaft") (9) (by omega) rfl rfl 12 (by decide) inX5_runTillRound_X5 tyX5 tyX5_ok nmX5 (by decide +kernel) (fun _ h9 => h9) rfl rfl rfl (Nat.le_of_ble_eq_true rfl) dX5_runTillRound_28 (fun H locs hW => ?_)
  replace hW := gC_put (F := upd (S9 9) 12 r8) rfl hW
  obtain ⟨S12, eS12⟩ : ∃ z : Nat → Nat → Int32, z = va_up S9 9 (upd (S9 9) 12 r8) := ⟨_, rfl⟩
  rw [← eS12] at hW
  replace h := h S12 eS12
  refine lv_aload_n C.1 C.2.1 dX5_runTillRound_31 rfl (lv_at hl 0 rfl) ?_
  refine lv_iconst (v := 0) C.1 C.2.1 dX5_runTillRound_32 (by decide) ?_
  refine k_v hW (va_runV (As := [.int (0 : Int32)]) (rest := []) C (mtX5_remember l D q cI cJ cZ cP cS K n H.size (0 : Int32) S12 L10 R11 _ h) (cwV 1 C.2.2.2.2 gX5_runTillRound_X5_remember rfl rfl rfl (by decide +kernel) ⟨Nat.le_of_ble_eq_true rfl, Nat.le_of_ble_eq_true rfl⟩) ⟨mP_blind cX_B, va_recv hW.1 hW.2.1 (ci := 5) (q0 := 9) rfl (wL_get (by omega)), fun U hU hV => ⟨rfl, hW.pre hU hV (hX.call hW hU hV)⟩⟩ rfl rfl hl.1 rfl (lv_room (Nat.le_of_ble_eq_true rfl)) dX5_runTillRound_33 ⟨Nat.zero_le _, Nat.zero_le _⟩) (fun u H locs h hW => ?_)
  obtain ⟨S13, L14, R15⟩ := u
  replace hW : hw D (tyC cI cJ cZ cP cS) q (29 + 2 * n) (gC q cI cJ cZ cP cS K n S13 L14 R15) A s H locs := hW
  refine lv_iconst (v := 1) C.1 C.2.1 dX5_runTillRound_36 (by decide) ?_
  refine lv_istore_n (lv' := [(1, .int (1 : Int32)), (0, .ref (q 9))]) C.1 C.2.1 dX5_runTillRound_37 rfl hl (by decide) rfl (fun ls hl => ?_)
  obtain ⟨n9, h⟩ := h
  exact sX5_runTillRound_38 C hr hlk hX Q n9 (1 : Int32) S13 L14 R15 _ _ _ h hW (lv_sub hl [1, 0] rfl)
set_option maxRecDepth 100000 in
set_option maxHeartbeats 4000000 in
theorem mtX5_runTillRound (l : Launch) (D : va_G) (q : Nat → Nat) (cI cJ cZ cP cS : ClassId) (K : Nat → Nat) (n : Nat) (sz : Nat) (S : Nat → Nat → Int32) (L : Nat → Int64) (R : Nat → Option Nat) (Q : (Nat → Nat → Int32) → (Nat → Int64) → (Nat → Option Nat) → Prop) (h : vX5_runTillRound K n S L R Q) : Met l yX5_runTillRound wsX5_runTillRound rmX5_runTillRound (va_Pc [.ref (q 9)] (mP D (tyC cI cJ cZ cP cS) q (29 + 2 * n) (gC q cI cJ cZ cP cS K n S L R) sz (cX (aQ q (29 + 2 * n) sz)))) (QCv D q cI cJ cZ cP cS K n Q (aQ q (29 + 2 * n) sz)) 0 0 (aQ q (29 + 2 * n) sz) := by
  refine met_w (cc := cX5_runTillRound) (maxL := 3) (ret := none) (by decide) rfl (Nat.le_of_ble_eq_true rfl) ?_
  intro p e s m below meth c ls C hr hlk hW hX hnm hl
  exact sX5_runTillRound C hr hlk hX Q S L R _ _ _ h hW hl
theorem inX5_ending_X5 : ∀ w ∈ wsX50, w ∈ wsX5_ending := fun _ h => List.mem_cons_of_mem _ (List.mem_append_right _ h)
abbrev rmX5_ending : Room := { frames := 0, cells := 0, slots := 0, locals := 0 }
def vX5_ending (K : Nat → Nat) (n : Nat) (S : Nat → Nat → Int32) (L : Nat → Int64) (R : Nat → Option Nat) (Q : Int32 → (Nat → Nat → Int32) → (Nat → Int64) → (Nat → Option Nat) → Prop) : Prop := (¬ (S 9 10) = 0 → (¬ (S 9 10) = (1 : Int32) → Q (1 : Int32) S L R) ∧ ((S 9 10) = (1 : Int32) → Q (0 : Int32) S L R)) ∧ ((S 9 10) = 0 → Q (2 : Int32) S L R)
set_option maxRecDepth 100000 in
set_option maxHeartbeats 4000000 in
theorem sX5_ending {p : Program} {l : Launch} {e : Env} {s : State} {m : MethodId} {args : Array Value} {below : List Frame} {meth : Method} {c : Code} {D : va_G} {q : Nat → Nat} {A : Nat → Prop} {cI cJ cZ cP cS : ClassId} {K : Nat → Nat} {n : Nat} (C : CallFix p m c cX5_ending 1 s args wsX5_ending RX5) (hr : meth.sig.returnType = (some .int)) (hlk : meth.locks = false) (hX : cX A s) (Q : Int32 → (Nat → Nat → Int32) → (Nat → Int64) → (Nat → Option Nat) → Prop) : ∀ (S : Nat → Nat → Int32) (L : Nat → Int64) (R : Nat → Option Nat) (H : Heap) (locs : List Loc) (ls : Array Slot), vX5_ending K n S L R Q → hw D (tyC cI cJ cZ cP cS) q (29 + 2 * n) (gC q cI cJ cZ cP cS K n S L R) A s H locs → lv_has ls 1 [(0, .ref (q 9))] → W p l e (headSpec wsX5_ending rmX5_ending).room s m args below meth c H locs 0 0 (MQ below (QCi D q cI cJ cZ cP cS K n Q A) args s 0 0 A) (F0 m 0 ls []) := by
  intro S L R H locs ls h hW hl
  unfold vX5_ending at h
  refine lv_aload_n C.1 C.2.1 dX5_ending_0 rfl (lv_at hl 0 rfl) ?_
  refine r_get C hW (ci := 5) (T := TX5) (n := 13) (ref := "BallMinder$Shaft") (v := .int (S 9 10)) (9) (by omega) rfl rfl 10 (by decide) inX5_ending_X5 (by decide +kernel) (fun _ h9 => h9) rfl dX5_ending_1 ?_
  refine lv_if_ne (tgt := 9) C.1 C.2.1 dX5_ending_4 (by decide) (fun c1 => ?_) (fun c1 => ?_)
  · replace h := h.1 c1
    refine lv_aload_n C.1 C.2.1 dX5_ending_9 rfl (lv_at hl 0 rfl) ?_
    refine r_get C hW (ci := 5) (T := TX5) (n := 13) (ref := "BallMinder$Shaft") (v := .int (S 9 10)) (9) (by omega) rfl rfl 10 (by decide) inX5_ending_X5 (by decide +kernel) (fun _ h9 => h9) rfl dX5_ending_10 ?_
    refine lv_iconst (v := 1) C.1 C.2.1 dX5_ending_13 (by decide) ?_
    refine lv_icmp_ne (tgt := 21) C.1 C.2.1 dX5_ending_14 (by decide) (fun c2 => ?_) (fun c2 => ?_)
    · replace h := h.1 c2
      refine lv_iconst (v := 1) C.1 C.2.1 dX5_ending_21 (by decide) ?_
      exact t_i C hr hlk (u := (S, L, R)) hW.2.2.2.1 hW.B h dX5_ending_22
    · replace h := h.2 c2
      refine lv_iconst (v := 0) C.1 C.2.1 dX5_ending_17 (by decide) ?_
      refine lv_goto (tgt := 22) C.1 C.2.1 dX5_ending_18 (by decide) ?_
      exact t_i C hr hlk (u := (S, L, R)) hW.2.2.2.1 hW.B h dX5_ending_22
  · replace h := h.2 c1
    refine lv_iconst (v := 2) C.1 C.2.1 dX5_ending_7 (by decide) ?_
    exact t_i C hr hlk (u := (S, L, R)) hW.2.2.2.1 hW.B h dX5_ending_8
set_option maxRecDepth 100000 in
set_option maxHeartbeats 4000000 in
theorem mtX5_ending (l : Launch) (D : va_G) (q : Nat → Nat) (cI cJ cZ cP cS : ClassId) (K : Nat → Nat) (n : Nat) (sz : Nat) (S : Nat → Nat → Int32) (L : Nat → Int64) (R : Nat → Option Nat) (Q : Int32 → (Nat → Nat → Int32) → (Nat → Int64) → (Nat → Option Nat) → Prop) (h : vX5_ending K n S L R Q) : Met l yX5_ending wsX5_ending rmX5_ending (va_Pc [.ref (q 9)] (mP D (tyC cI cJ cZ cP cS) q (29 + 2 * n) (gC q cI cJ cZ cP cS K n S L R) sz (cX (aQ q (29 + 2 * n) sz)))) (QCi D q cI cJ cZ cP cS K n Q (aQ q (29 + 2 * n) sz)) 0 0 (aQ q (29 + 2 * n) sz) := by
  refine met_w (cc := cX5_ending) (maxL := 1) (ret := (some .int)) (by decide) rfl (Nat.le_of_ble_eq_true rfl) ?_
  intro p e s m below meth c ls C hr hlk hW hX hnm hl
  exact sX5_ending C hr hlk hX Q S L R _ _ _ h hW hl
theorem inX5_told_X5 : ∀ w ∈ wsX50, w ∈ wsX5_told := fun _ h => List.mem_cons_of_mem _ (List.mem_append_left _ (List.mem_append_right _ h))
theorem inX5_told_X2 : ∀ w ∈ wsX20, w ∈ wsX5_told := fun _ h => List.mem_cons_of_mem _ (List.mem_append_right _ h)
abbrev rmX5_told : Room := { frames := 1, cells := 0, slots := 0, locals := 20 }
def vX5_told (K : Nat → Nat) (n : Nat) (x1 : Int32) (S : Nat → Nat → Int32) (L : Nat → Int64) (R : Nat → Option Nat) (Q : Int32 → (Nat → Nat → Int32) → (Nat → Int64) → (Nat → Option Nat) → Prop) : Prop := (x1 = 0 → vX5_ending K n  S L R (fun r2 S3 L4 R5 => Q r2 S3 L4 R5)) ∧ (x1 = 1 → (¬ (S 9 10) = 0 → Q (S 9 9) S L R) ∧ ((S 9 10) = 0 → Q (-9 : Int32) S L R)) ∧ (x1 = 2 → (¬ (S 9 10) = 0 → Q (S 9 10) S L R) ∧ ((S 9 10) = 0 → Q (-9 : Int32) S L R)) ∧ (x1 = 3 → Q (S 9 11) S L R) ∧ (x1 = 4 → Q (S 9 12) S L R) ∧ (x1 = 5 → vp_in (S 9 9) 301 ∧ (Q (S (16 + 3 * 0) (S 9 9).toNatClampNeg) S L R)) ∧ (¬ x1 = 0 → ¬ x1 = 1 → ¬ x1 = 2 → ¬ x1 = 3 → ¬ x1 = 4 → ¬ x1 = 5 → vp_in (S 9 9) 301 ∧ (Q (S (16 + 3 * 1) (S 9 9).toNatClampNeg) S L R))
set_option maxRecDepth 100000 in
set_option maxHeartbeats 4000000 in
theorem sX5_told {p : Program} {l : Launch} {e : Env} {s : State} {m : MethodId} {args : Array Value} {below : List Frame} {meth : Method} {c : Code} {D : va_G} {q : Nat → Nat} {A : Nat → Prop} {cI cJ cZ cP cS : ClassId} {K : Nat → Nat} {n : Nat} (C : CallFix p m c cX5_told 2 s args wsX5_told RX5) (hr : meth.sig.returnType = (some .int)) (hlk : meth.locks = false) (hX : cX A s) (Q : Int32 → (Nat → Nat → Int32) → (Nat → Int64) → (Nat → Option Nat) → Prop) : ∀ (x1 : Int32) (S : Nat → Nat → Int32) (L : Nat → Int64) (R : Nat → Option Nat) (H : Heap) (locs : List Loc) (ls : Array Slot), vX5_told K n x1 S L R Q → hw D (tyC cI cJ cZ cP cS) q (29 + 2 * n) (gC q cI cJ cZ cP cS K n S L R) A s H locs → lv_has ls 2 [(0, .ref (q 9)), (1, .int x1)] → W p l e (headSpec wsX5_told rmX5_told).room s m args below meth c H locs 0 0 (MQ below (QCi D q cI cJ cZ cP cS K n Q A) args s 0 0 A) (F0 m 0 ls []) := by
  intro x1 S L R H locs ls h hW hl
  unfold vX5_told at h
  refine lv_iload_n C.1 C.2.1 dX5_told_0 rfl (lv_at hl 1 rfl) ?_
  by_cases c0 : x1 = 0
  · replace h := h.1 c0
    refine lv_tableIn (tgt := 40) C.1 C.2.1 dX5_told_1 (by rw [c0]; decide) (by rw [c0]; decide) (by rw [c0]; rfl) (by decide) ?_
    refine lv_aload_n C.1 C.2.1 dX5_told_40 rfl (lv_at hl 0 rfl) ?_
    refine k_i hW (va_runV (As := []) (rest := []) C (mtX5_ending l D q cI cJ cZ cP cS K n H.size  S L R _ h) (cwV 0 C.2.2.2.2 gX5_told_X5_ending rfl rfl rfl (by decide +kernel) ⟨Nat.le_of_ble_eq_true rfl, Nat.le_of_ble_eq_true rfl⟩) ⟨mP_blind cX_B, va_recv hW.1 hW.2.1 (ci := 5) (q0 := 9) rfl (wL_get (by omega)), fun U hU hV => ⟨rfl, hW.pre hU hV (hX.call hW hU hV)⟩⟩ rfl rfl hl.1 rfl (lv_room (Nat.le_of_ble_eq_true rfl)) dX5_told_41 ⟨Nat.zero_le _, Nat.zero_le _⟩) (fun r2 u H locs h hW => ?_)
    obtain ⟨S3, L4, R5⟩ := u
    replace hW : hw D (tyC cI cJ cZ cP cS) q (29 + 2 * n) (gC q cI cJ cZ cP cS K n S3 L4 R5) A s H locs := hW
    exact t_i C hr hlk (u := (S3, L4, R5)) hW.2.2.2.1 hW.B h dX5_told_44
  by_cases c1 : x1 = 1
  · replace h := h.2.1 c1
    refine lv_tableIn (tgt := 45) C.1 C.2.1 dX5_told_1 (by rw [c1]; decide) (by rw [c1]; decide) (by rw [c1]; rfl) (by decide) ?_
    refine lv_aload_n C.1 C.2.1 dX5_told_45 rfl (lv_at hl 0 rfl) ?_
    refine r_get C hW (ci := 5) (T := TX5) (n := 13) (ref := "BallMinder$Shaft") (v := .int (S 9 10)) (9) (by omega) rfl rfl 10 (by decide) inX5_told_X5 (by decide +kernel) (fun _ h9 => h9) rfl dX5_told_46 ?_
    refine lv_if_ne (tgt := 57) C.1 C.2.1 dX5_told_49 (by decide) (fun c6 => ?_) (fun c6 => ?_)
    · replace h := h.1 c6
      refine lv_aload_n C.1 C.2.1 dX5_told_57 rfl (lv_at hl 0 rfl) ?_
      refine r_get C hW (ci := 5) (T := TX5) (n := 13) (ref := "BallMinder$Shaft") (v := .int (S 9 9)) (9) (by omega) rfl rfl 9 (by decide) inX5_told_X5 (by decide +kernel) (fun _ h9 => h9) rfl dX5_told_58 ?_
      exact t_i C hr hlk (u := (S, L, R)) hW.2.2.2.1 hW.B h dX5_told_61
    · replace h := h.2 c6
      refine lv_bipush (v := -9) C.1 C.2.1 dX5_told_52 (by decide) ?_
      refine lv_goto (tgt := 61) C.1 C.2.1 dX5_told_54 (by decide) ?_
      exact t_i C hr hlk (u := (S, L, R)) hW.2.2.2.1 hW.B h dX5_told_61
  by_cases c2 : x1 = 2
  · replace h := h.2.2.1 c2
    refine lv_tableIn (tgt := 62) C.1 C.2.1 dX5_told_1 (by rw [c2]; decide) (by rw [c2]; decide) (by rw [c2]; rfl) (by decide) ?_
    refine lv_aload_n C.1 C.2.1 dX5_told_62 rfl (lv_at hl 0 rfl) ?_
    refine r_get C hW (ci := 5) (T := TX5) (n := 13) (ref := "BallMinder$Shaft") (v := .int (S 9 10)) (9) (by omega) rfl rfl 10 (by decide) inX5_told_X5 (by decide +kernel) (fun _ h9 => h9) rfl dX5_told_63 ?_
    refine lv_if_ne (tgt := 74) C.1 C.2.1 dX5_told_66 (by decide) (fun c7 => ?_) (fun c7 => ?_)
    · replace h := h.1 c7
      refine lv_aload_n C.1 C.2.1 dX5_told_74 rfl (lv_at hl 0 rfl) ?_
      refine r_get C hW (ci := 5) (T := TX5) (n := 13) (ref := "BallMinder$Shaft") (v := .int (S 9 10)) (9) (by omega) rfl rfl 10 (by decide) inX5_told_X5 (by decide +kernel) (fun _ h9 => h9) rfl dX5_told_75 ?_
      exact t_i C hr hlk (u := (S, L, R)) hW.2.2.2.1 hW.B h dX5_told_78
    · replace h := h.2 c7
      refine lv_bipush (v := -9) C.1 C.2.1 dX5_told_69 (by decide) ?_
      refine lv_goto (tgt := 78) C.1 C.2.1 dX5_told_71 (by decide) ?_
      exact t_i C hr hlk (u := (S, L, R)) hW.2.2.2.1 hW.B h dX5_told_78
  by_cases c3 : x1 = 3
  · replace h := h.2.2.2.1 c3
    refine lv_tableIn (tgt := 79) C.1 C.2.1 dX5_told_1 (by rw [c3]; decide) (by rw [c3]; decide) (by rw [c3]; rfl) (by decide) ?_
    refine lv_aload_n C.1 C.2.1 dX5_told_79 rfl (lv_at hl 0 rfl) ?_
    refine r_get C hW (ci := 5) (T := TX5) (n := 13) (ref := "BallMinder$Shaft") (v := .int (S 9 11)) (9) (by omega) rfl rfl 11 (by decide) inX5_told_X5 (by decide +kernel) (fun _ h9 => h9) rfl dX5_told_80 ?_
    exact t_i C hr hlk (u := (S, L, R)) hW.2.2.2.1 hW.B h dX5_told_83
  by_cases c4 : x1 = 4
  · replace h := h.2.2.2.2.1 c4
    refine lv_tableIn (tgt := 84) C.1 C.2.1 dX5_told_1 (by rw [c4]; decide) (by rw [c4]; decide) (by rw [c4]; rfl) (by decide) ?_
    refine lv_aload_n C.1 C.2.1 dX5_told_84 rfl (lv_at hl 0 rfl) ?_
    refine r_get C hW (ci := 5) (T := TX5) (n := 13) (ref := "BallMinder$Shaft") (v := .int (S 9 12)) (9) (by omega) rfl rfl 12 (by decide) inX5_told_X5 (by decide +kernel) (fun _ h9 => h9) rfl dX5_told_85 ?_
    exact t_i C hr hlk (u := (S, L, R)) hW.2.2.2.1 hW.B h dX5_told_88
  by_cases c5 : x1 = 5
  · replace h := h.2.2.2.2.2.1 c5
    refine lv_tableIn (tgt := 89) C.1 C.2.1 dX5_told_1 (by rw [c5]; decide) (by rw [c5]; decide) (by rw [c5]; rfl) (by decide) ?_
    refine lv_aload_n C.1 C.2.1 dX5_told_89 rfl (lv_at hl 0 rfl) ?_
    refine r_get C hW (ci := 5) (T := TX5) (n := 13) (ref := "BallMinder$Shaft") (v := .ref (q (15 + 3 * 0))) (9) (by omega) rfl rfl 1 (by decide) inX5_told_X5 (by decide +kernel) (fun _ h9 => h9) rfl dX5_told_90 ?_
    refine r_getN C hW (ci := 2) (T := TX2) (n := 3) (ref := "BallMinder$Gate") (host := "BallMinder") (v := .ref (q (16 + 3 * 0))) (15 + 3 * 0) (by omega) (gC_gate (by decide)) rfl 0 (by decide) inX5_told_X2 (hX.1 _ (by decide +kernel)) (fun _ h9 => h9) rfl dX5_told_93 ?_
    refine lv_aload_n C.1 C.2.1 dX5_told_96 rfl (lv_at hl 0 rfl) ?_
    refine r_get C hW (ci := 5) (T := TX5) (n := 13) (ref := "BallMinder$Shaft") (v := .int (S 9 9)) (9) (by omega) rfl rfl 9 (by decide) inX5_told_X5 (by decide +kernel) (fun _ h9 => h9) rfl dX5_told_97 ?_
    obtain ⟨hs8, h⟩ := h
    refine r_iald C hW (cA := cI) (n := 301) (f := S (16 + 3 * 0)) (16 + 3 * 0) 0 (by omega) (gC_valves (by decide)) rfl hs8 dX5_told_100 ?_
    exact t_i C hr hlk (u := (S, L, R)) hW.2.2.2.1 hW.B h dX5_told_101
  replace h := h.2.2.2.2.2.2 c0 c1 c2 c3 c4 c5
  have kd : W p l e (headSpec wsX5_told rmX5_told).room s m args below meth c H locs 0 0 (MQ below (QCi D q cI cJ cZ cP cS K n Q A) args s 0 0 A) (F0 m 102 ls []) := by
    refine lv_aload_n C.1 C.2.1 dX5_told_102 rfl (lv_at hl 0 rfl) ?_
    refine r_get C hW (ci := 5) (T := TX5) (n := 13) (ref := "BallMinder$Shaft") (v := .ref (q (15 + 3 * 1))) (9) (by omega) rfl rfl 2 (by decide) inX5_told_X5 (by decide +kernel) (fun _ h9 => h9) rfl dX5_told_103 ?_
    refine r_getN C hW (ci := 2) (T := TX2) (n := 3) (ref := "BallMinder$Gate") (host := "BallMinder") (v := .ref (q (16 + 3 * 1))) (15 + 3 * 1) (by omega) (gC_gate (by decide)) rfl 0 (by decide) inX5_told_X2 (hX.1 _ (by decide +kernel)) (fun _ h9 => h9) rfl dX5_told_106 ?_
    refine lv_aload_n C.1 C.2.1 dX5_told_109 rfl (lv_at hl 0 rfl) ?_
    refine r_get C hW (ci := 5) (T := TX5) (n := 13) (ref := "BallMinder$Shaft") (v := .int (S 9 9)) (9) (by omega) rfl rfl 9 (by decide) inX5_told_X5 (by decide +kernel) (fun _ h9 => h9) rfl dX5_told_110 ?_
    obtain ⟨hs1, h⟩ := h
    refine r_iald C hW (cA := cI) (n := 301) (f := S (16 + 3 * 1)) (16 + 3 * 1) 0 (by omega) (gC_valves (by decide)) rfl hs1 dX5_told_113 ?_
    exact t_i C hr hlk (u := (S, L, R)) hW.2.2.2.1 hW.B h dX5_told_114
  by_cases g1 : x1.toInt < 0
  · exact lv_tableOut (tgt := 102) C.1 C.2.1 dX5_told_1 (Or.inl g1) (by decide) kd
  by_cases g2 : 5 < x1.toInt
  · exact lv_tableOut (tgt := 102) C.1 C.2.1 dX5_told_1 (Or.inr g2) (by decide) kd
  have n0 : ¬ x1.toInt = 0 := lv_neT c0 (by decide)
  have n1 : ¬ x1.toInt = 1 := lv_neT c1 (by decide)
  have n2 : ¬ x1.toInt = 2 := lv_neT c2 (by decide)
  have n3 : ¬ x1.toInt = 3 := lv_neT c3 (by decide)
  have n4 : ¬ x1.toInt = 4 := lv_neT c4 (by decide)
  have n5 : ¬ x1.toInt = 5 := lv_neT c5 (by decide)
  exfalso; omega
set_option maxRecDepth 100000 in
set_option maxHeartbeats 4000000 in
theorem mtX5_told (l : Launch) (D : va_G) (q : Nat → Nat) (cI cJ cZ cP cS : ClassId) (K : Nat → Nat) (n : Nat) (sz : Nat) (x1 : Int32) (S : Nat → Nat → Int32) (L : Nat → Int64) (R : Nat → Option Nat) (Q : Int32 → (Nat → Nat → Int32) → (Nat → Int64) → (Nat → Option Nat) → Prop) (h : vX5_told K n x1 S L R Q) : Met l yX5_told wsX5_told rmX5_told (va_Pc [.ref (q 9), .int x1] (mP D (tyC cI cJ cZ cP cS) q (29 + 2 * n) (gC q cI cJ cZ cP cS K n S L R) sz (cX (aQ q (29 + 2 * n) sz)))) (QCi D q cI cJ cZ cP cS K n Q (aQ q (29 + 2 * n) sz)) 0 0 (aQ q (29 + 2 * n) sz) := by
  refine met_w (cc := cX5_told) (maxL := 2) (ret := (some .int)) (by decide) rfl (Nat.le_of_ble_eq_true rfl) ?_
  intro p e s m below meth c ls C hr hlk hW hX hnm hl
  exact sX5_told C hr hlk hX Q x1 S L R _ _ _ h hW hl
