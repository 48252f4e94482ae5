theorem inX11_stepValve : ∀ w ∈ wsX110, w ∈ wsX11_stepValve := fun _ h => List.mem_cons_of_mem _ (List.mem_append_right _ h)
abbrev rmX11_stepValve : Room := { frames := 2, cells := 0, slots := 0, locals := 47 }
def vX11_stepValve_114 (Q : (Nat → Int32) → (Nat → Nat → Int32) → Prop) (x1 : Int32) (x2 : Int32) (x3 : Int32) (x6 : Int32) (y0 : Int32) (y1 : Int32) (f : Nat → Int32) (a : Nat → Nat → Int32) : Prop := vp_in y1 602 ∧ (∀ a23 : Nat → Nat → Int32, a23 = va_up a 6 (upd (a 6) y1.toNatClampNeg y0) → vp_in (x2 + x3) 602 ∧ (vX11_towards x1 (a23 5 (x2 + x3).toNatClampNeg) x6 f a23 (fun r25 f26 a27 => vp_in ((x2 + x3) + (1 : Int32)) 602 ∧ (∀ a29 : Nat → Nat → Int32, a29 = va_up a27 5 (upd (a27 5) ((x2 + x3) + (1 : Int32)).toNatClampNeg r25) → Q f26 a29))))
def vX11_stepValve (x1 : Int32) (x2 : Int32) (x3 : Int32) (f : Nat → Int32) (a : Nat → Nat → Int32) (Q : (Nat → Int32) → (Nat → Nat → Int32) → Prop) : Prop := vX11_of x1 (7 : Int32) f a (fun r1 f2 a3 => vX11_beatAgo x3 r1 f2 a3 (fun r4 f5 a6 => ∀ x4_7 : Int32, x4_7 = r4 - (100 : Int32) → vX11_of x1 (6 : Int32) f5 a6 (fun r8 f9 a10 => vp_in (x2 + x3) 602 ∧ (∀ x5_12 : Int32, x5_12 = (r8 * (a10 6 (x2 + x3).toNatClampNeg)) / (10 : Int32) → vX11_of x1 (5 : Int32) f9 a10 (fun r13 f14 a15 => vX11_held ((50 : Int32) - (((r13 * x4_7) + x5_12) / (10 : Int32))) (0 : Int32) (100 : Int32) (fun r16 => vX11_of x1 (6 : Int32) f14 a15 (fun r17 f18 a19 => (r17 ≤ 0 → vp_in (x2 + x3) 602 ∧ (vX11_stepValve_114 Q x1 x2 x3 r16 (a19 6 (x2 + x3).toNatClampNeg) ((x2 + x3) + (1 : Int32)) f18 a19)) ∧ (¬ (r17 ≤ 0) → vp_in (x2 + x3) 602 ∧ (vX11_held ((a19 6 (x2 + x3).toNatClampNeg) + x4_7) (-9999 : Int32) (9999 : Int32) (fun r31 => vX11_stepValve_114 Q x1 x2 x3 r16 r31 ((x2 + x3) + (1 : Int32)) f18 a19))))))))))
set_option maxRecDepth 100000 in
set_option maxHeartbeats 4000000 in
theorem sX11_stepValve_114 {p : Program} {l : Launch} {e : Env} {s : State} {m : MethodId} {args : Array Value} {below : List Frame} {meth : Method} {c : Code} {D : va_G} {q : Nat → Nat} {A : Nat → Prop} {cI : ClassId} (C : CallFix p m c cX11_stepValve 7 s args wsX11_stepValve RX11) (hr : meth.sig.returnType = none) (hlk : meth.locks = false) (Q : (Nat → Int32) → (Nat → Nat → Int32) → Prop) : ∀ (x1 : Int32) (x2 : Int32) (x3 : Int32) (x6 : Int32) (y0 : Int32) (y1 : Int32) (f : Nat → Int32) (a : Nat → Nat → Int32) (H : Heap) (locs : List Loc) (ls : Array Slot), vX11_stepValve_114 Q x1 x2 x3 x6 y0 y1 f a → hw D [(cI, .int)] q 12 (gM q cI f a) A s H locs → lv_has ls 7 [(0, .ref (q 0)), (1, .int x1), (2, .int x2), (3, .int x3), (6, .int x6)] → W p l e (headSpec wsX11_stepValve rmX11_stepValve).room s m args below meth c H locs 0 0 (MQ below (QMv D q cI Q A) args s 0 0 A) (F0 m 114 ls [.int y0, .int y1, .ref (q 6)]) := by
  intro x1 x2 x3 x6 y0 y1 f a H locs ls h hW hl
  unfold vX11_stepValve_114 at h
  obtain ⟨hs22, h⟩ := h
  refine r_iast C hW (cA := cI) (n := 602) (f := a 6) 6 0 (by decide) rfl rfl hs22 dX11_stepValve_114 (fun H locs hW => ?_)
  replace hW := gM_ast (k := 6) (n := 602) (by decide) rfl hW
  obtain ⟨a23, ea23⟩ : ∃ z : Nat → Nat → Int32, z = va_up a 6 (upd (a 6) y1.toNatClampNeg y0) := ⟨_, rfl⟩
  rw [← ea23] at hW
  replace h := h a23 ea23
  refine lv_aload_n C.1 C.2.1 dX11_stepValve_115 rfl (lv_at hl 0 rfl) ?_
  refine r_get C hW (ci := 11) (T := TX11) (n := 21) (ref := "BallMinderModel") (v := .ref (q 5)) 0 (by decide) rfl rfl 10 (by decide) inX11_stepValve (by decide +kernel) (fun _ h9 => h9) rfl dX11_stepValve_116 ?_
  refine lv_iload_n C.1 C.2.1 dX11_stepValve_119 rfl (lv_at hl 2 rfl) ?_
  refine lv_iload_n C.1 C.2.1 dX11_stepValve_120 rfl (lv_at hl 3 rfl) ?_
  refine lv_iadd C.1 C.2.1 dX11_stepValve_121 ?_
  refine lv_iconst (v := 1) C.1 C.2.1 dX11_stepValve_122 (by decide) ?_
  refine lv_iadd C.1 C.2.1 dX11_stepValve_123 ?_
  refine lv_aload_n C.1 C.2.1 dX11_stepValve_124 rfl (lv_at hl 0 rfl) ?_
  refine lv_iload_n C.1 C.2.1 dX11_stepValve_125 rfl (lv_at hl 1 rfl) ?_
  refine lv_aload_n C.1 C.2.1 dX11_stepValve_126 rfl (lv_at hl 0 rfl) ?_
  refine r_get C hW (ci := 11) (T := TX11) (n := 21) (ref := "BallMinderModel") (v := .ref (q 5)) 0 (by decide) rfl rfl 10 (by decide) inX11_stepValve (by decide +kernel) (fun _ h9 => h9) rfl dX11_stepValve_127 ?_
  refine lv_iload_n C.1 C.2.1 dX11_stepValve_130 rfl (lv_at hl 2 rfl) ?_
  refine lv_iload_n C.1 C.2.1 dX11_stepValve_131 rfl (lv_at hl 3 rfl) ?_
  refine lv_iadd C.1 C.2.1 dX11_stepValve_132 ?_
  obtain ⟨hs24, h⟩ := h
  refine r_iald C hW (cA := cI) (n := 602) (f := a23 5) 5 0 (by decide) rfl rfl hs24 dX11_stepValve_133 ?_
  refine lv_iload C.1 C.2.1 dX11_stepValve_134 (lv_at hl 4 rfl) ?_
  refine k_i hW (va_runV (As := [.int x1, .int (a23 5 (x2 + x3).toNatClampNeg), .int x6]) (rest := [.int ((x2 + x3) + (1 : Int32)), .ref (q 5)]) C (mtX11_towards l D q cI H.size x1 (a23 5 (x2 + x3).toNatClampNeg) x6 f a23 _ h) (cwV 3 C.2.2.2.2 gX11_stepValve_X11_towards rfl rfl rfl (by decide +kernel) ⟨Nat.le_of_ble_eq_true rfl, Nat.le_of_ble_eq_true rfl⟩) ⟨mP_blind tX_B, va_recv hW.1 hW.2.1 (ci := 11) (q0 := 0) rfl (wL_get (by decide)), fun U hU hV => ⟨rfl, hW.pre hU hV trivial⟩⟩ rfl rfl hl.1 rfl (lv_room (Nat.le_of_ble_eq_true rfl)) dX11_stepValve_136 ⟨Nat.zero_le _, Nat.zero_le _⟩) (fun r25 u H locs h hW => ?_)
  obtain ⟨f26, a27⟩ := u
  replace hW : hw D [(cI, .int)] q 12 (gM q cI f26 a27) A s H locs := hW
  obtain ⟨hs28, h⟩ := h
  refine r_iast C hW (cA := cI) (n := 602) (f := a27 5) 5 0 (by decide) rfl rfl hs28 dX11_stepValve_139 (fun H locs hW => ?_)
  replace hW := gM_ast (k := 5) (n := 602) (by decide) rfl hW
  obtain ⟨a29, ea29⟩ : ∃ z : Nat → Nat → Int32, z = va_up a27 5 (upd (a27 5) ((x2 + x3) + (1 : Int32)).toNatClampNeg r25) := ⟨_, rfl⟩
  rw [← ea29] at hW
  replace h := h a29 ea29
  exact t_v C hr hlk (u := (f26, a29)) hW.2.2.2.1 hW.B h dX11_stepValve_140
set_option maxRecDepth 100000 in
set_option maxHeartbeats 4000000 in
theorem sX11_stepValve {p : Program} {l : Launch} {e : Env} {s : State} {m : MethodId} {args : Array Value} {below : List Frame} {meth : Method} {c : Code} {D : va_G} {q : Nat → Nat} {A : Nat → Prop} {cI : ClassId} (C : CallFix p m c cX11_stepValve 7 s args wsX11_stepValve RX11) (hr : meth.sig.returnType = none) (hlk : meth.locks = false) (Q : (Nat → Int32) → (Nat → Nat → Int32) → Prop) : ∀ (x1 : Int32) (x2 : Int32) (x3 : Int32) (f : Nat → Int32) (a : Nat → Nat → Int32) (H : Heap) (locs : List Loc) (ls : Array Slot), vX11_stepValve x1 x2 x3 f a Q → hw D [(cI, .int)] q 12 (gM q cI f a) A s H locs → lv_has ls 7 [(0, .ref (q 0)), (1, .int x1), (2, .int x2), (3, .int x3)] → W p l e (headSpec wsX11_stepValve rmX11_stepValve).room s m args below meth c H locs 0 0 (MQ below (QMv D q cI Q A) args s 0 0 A) (F0 m 0 ls []) := by
  intro x1 x2 x3 f a H locs ls h hW hl
  unfold vX11_stepValve at h
  refine lv_aload_n C.1 C.2.1 dX11_stepValve_0 rfl (lv_at hl 0 rfl) ?_
  refine lv_iload_n C.1 C.2.1 dX11_stepValve_1 rfl (lv_at hl 3 rfl) ?_
  refine lv_aload_n C.1 C.2.1 dX11_stepValve_2 rfl (lv_at hl 0 rfl) ?_
  refine lv_iload_n C.1 C.2.1 dX11_stepValve_3 rfl (lv_at hl 1 rfl) ?_
  refine lv_bipush (v := 7) C.1 C.2.1 dX11_stepValve_4 (by decide) ?_
  refine k_i hW (va_runV (As := [.int x1, .int (7 : Int32)]) (rest := [.int x3, .ref (q 0)]) C (mtX11_of l D q cI H.size x1 (7 : Int32) f a _ h) (cwV 2 C.2.2.2.2 gX11_stepValve_X11_of rfl rfl rfl (by decide +kernel) ⟨Nat.le_of_ble_eq_true rfl, Nat.le_of_ble_eq_true rfl⟩) ⟨mP_blind tX_B, va_recv hW.1 hW.2.1 (ci := 11) (q0 := 0) rfl (wL_get (by decide)), fun U hU hV => ⟨rfl, hW.pre hU hV trivial⟩⟩ rfl rfl hl.1 rfl (lv_room (Nat.le_of_ble_eq_true rfl)) dX11_stepValve_6 ⟨Nat.zero_le _, Nat.zero_le _⟩) (fun r1 u H locs h hW => ?_)
  obtain ⟨f2, a3⟩ := u
  replace hW : hw D [(cI, .int)] q 12 (gM q cI f2 a3) A s H locs := hW
  refine k_i hW (va_runV (As := [.int x3, .int r1]) (rest := []) C (mtX11_beatAgo l D q cI H.size x3 r1 f2 a3 _ h) (cwV 2 C.2.2.2.2 gX11_stepValve_X11_beatAgo rfl rfl rfl (by decide +kernel) ⟨Nat.le_of_ble_eq_true rfl, Nat.le_of_ble_eq_true rfl⟩) ⟨mP_blind tX_B, va_recv hW.1 hW.2.1 (ci := 11) (q0 := 0) rfl (wL_get (by decide)), fun U hU hV => ⟨rfl, hW.pre hU hV trivial⟩⟩ rfl rfl hl.1 rfl (lv_room (Nat.le_of_ble_eq_true rfl)) dX11_stepValve_9 ⟨Nat.zero_le _, Nat.zero_le _⟩) (fun r4 u H locs h hW => ?_)
  obtain ⟨f5, a6⟩ := u
  replace hW : hw D [(cI, .int)] q 12 (gM q cI f5 a6) A s H locs := hW
  refine lv_bipush (v := 100) C.1 C.2.1 dX11_stepValve_12 (by decide) ?_
  refine lv_isub C.1 C.2.1 dX11_stepValve_14 ?_
  refine lv_topi (fun x4_7 ex4_7 => ?_)
  replace h := h x4_7 ex4_7
  refine lv_istore (lv' := [(4, .int x4_7), (0, .ref (q 0)), (1, .int x1), (2, .int x2), (3, .int x3)]) C.1 C.2.1 dX11_stepValve_15 hl (by decide) rfl (fun ls hl => ?_)
  refine lv_aload_n C.1 C.2.1 dX11_stepValve_17 rfl (lv_at hl 1 rfl) ?_
  refine lv_iload_n C.1 C.2.1 dX11_stepValve_18 rfl (lv_at hl 2 rfl) ?_
  refine lv_bipush (v := 6) C.1 C.2.1 dX11_stepValve_19 (by decide) ?_
  refine k_i hW (va_runV (As := [.int x1, .int (6 : Int32)]) (rest := []) C (mtX11_of l D q cI H.size x1 (6 : Int32) f5 a6 _ h) (cwV 2 C.2.2.2.2 gX11_stepValve_X11_of rfl rfl rfl (by decide +kernel) ⟨Nat.le_of_ble_eq_true rfl, Nat.le_of_ble_eq_true rfl⟩) ⟨mP_blind tX_B, va_recv hW.1 hW.2.1 (ci := 11) (q0 := 0) rfl (wL_get (by decide)), fun U hU hV => ⟨rfl, hW.pre hU hV trivial⟩⟩ rfl rfl hl.1 rfl (lv_room (Nat.le_of_ble_eq_true rfl)) dX11_stepValve_21 ⟨Nat.zero_le _, Nat.zero_le _⟩) (fun r8 u H locs h hW => ?_)
  obtain ⟨f9, a10⟩ := u
  replace hW : hw D [(cI, .int)] q 12 (gM q cI f9 a10) A s H locs := hW
  refine lv_aload_n C.1 C.2.1 dX11_stepValve_24 rfl (lv_at hl 1 rfl) ?_
  refine r_get C hW (ci := 11) (T := TX11) (n := 21) (ref := "BallMinderModel") (v := .ref (q 6)) 0 (by decide) rfl rfl 11 (by decide) inX11_stepValve (by decide +kernel) (fun _ h9 => h9) rfl dX11_stepValve_25 ?_
  refine lv_iload_n C.1 C.2.1 dX11_stepValve_28 rfl (lv_at hl 3 rfl) ?_
  refine lv_iload_n C.1 C.2.1 dX11_stepValve_29 rfl (lv_at hl 4 rfl) ?_
  refine lv_iadd C.1 C.2.1 dX11_stepValve_30 ?_
  obtain ⟨hs11, h⟩ := h
  refine r_iald C hW (cA := cI) (n := 602) (f := a10 6) 6 0 (by decide) rfl rfl hs11 dX11_stepValve_31 ?_
  refine lv_imul C.1 C.2.1 dX11_stepValve_32 ?_
  refine lv_bipush (v := 10) C.1 C.2.1 dX11_stepValve_33 (by decide) ?_
  refine lv_idiv C.1 C.2.1 dX11_stepValve_35 (by decide) ?_
  refine lv_topi (fun x5_12 ex5_12 => ?_)
  replace h := h x5_12 ex5_12
  refine lv_istore (lv' := [(5, .int x5_12), (4, .int x4_7), (0, .ref (q 0)), (1, .int x1), (2, .int x2), (3, .int x3)]) C.1 C.2.1 dX11_stepValve_36 hl (by decide) rfl (fun ls hl => ?_)
  refine lv_bipush (v := 50) C.1 C.2.1 dX11_stepValve_38 (by decide) ?_
  refine lv_aload_n C.1 C.2.1 dX11_stepValve_40 rfl (lv_at hl 2 rfl) ?_
  refine lv_iload_n C.1 C.2.1 dX11_stepValve_41 rfl (lv_at hl 3 rfl) ?_
  refine lv_iconst (v := 5) C.1 C.2.1 dX11_stepValve_42 (by decide) ?_
  refine k_i hW (va_runV (As := [.int x1, .int (5 : Int32)]) (rest := [.int (50 : Int32)]) C (mtX11_of l D q cI H.size x1 (5 : Int32) f9 a10 _ h) (cwV 2 C.2.2.2.2 gX11_stepValve_X11_of rfl rfl rfl (by decide +kernel) ⟨Nat.le_of_ble_eq_true rfl, Nat.le_of_ble_eq_true rfl⟩) ⟨mP_blind tX_B, va_recv hW.1 hW.2.1 (ci := 11) (q0 := 0) rfl (wL_get (by decide)), fun U hU hV => ⟨rfl, hW.pre hU hV trivial⟩⟩ rfl rfl hl.1 rfl (lv_room (Nat.le_of_ble_eq_true rfl)) dX11_stepValve_43 ⟨Nat.zero_le _, Nat.zero_le _⟩) (fun r13 u H locs h hW => ?_)
  obtain ⟨f14, a15⟩ := u
  replace hW : hw D [(cI, .int)] q 12 (gM q cI f14 a15) A s H locs := hW
  refine lv_iload C.1 C.2.1 dX11_stepValve_46 (lv_at hl 1 rfl) ?_
  refine lv_imul C.1 C.2.1 dX11_stepValve_48 ?_
  refine lv_iload C.1 C.2.1 dX11_stepValve_49 (lv_at hl 0 rfl) ?_
  refine lv_iadd C.1 C.2.1 dX11_stepValve_51 ?_
  refine lv_bipush (v := 10) C.1 C.2.1 dX11_stepValve_52 (by decide) ?_
  refine lv_idiv C.1 C.2.1 dX11_stepValve_54 (by decide) ?_
  refine lv_isub C.1 C.2.1 dX11_stepValve_55 ?_
  refine lv_iconst (v := 0) C.1 C.2.1 dX11_stepValve_56 (by decide) ?_
  refine lv_bipush (v := 100) C.1 C.2.1 dX11_stepValve_57 (by decide) ?_
  refine k_pi hW (va_runS (As := [.int ((50 : Int32) - (((r13 * x4_7) + x5_12) / (10 : Int32))), .int (0 : Int32), .int (100 : Int32)]) (rest := []) C (mtX11_held l D q _ H.size ((50 : Int32) - (((r13 * x4_7) + x5_12) / (10 : Int32))) (0 : Int32) (100 : Int32) _ h) (va_cwS 3 C.2.2.2.2 gX11_stepValve_X11_held rfl rfl rfl (by decide +kernel) ⟨Nat.le_of_ble_eq_true rfl, Nat.le_of_ble_eq_true rfl⟩) ⟨mP_blind tX_B, fun U hU hV => ⟨rfl, hW.pre0 hU hV trivial⟩⟩ rfl rfl hl.1 rfl (lv_room (Nat.le_of_ble_eq_true rfl)) dX11_stepValve_59 ⟨Nat.zero_le _, Nat.zero_le _⟩) (fun r16 H locs h hW => ?_)
  refine lv_istore (lv' := [(6, .int r16), (5, .int x5_12), (4, .int x4_7), (0, .ref (q 0)), (1, .int x1), (2, .int x2), (3, .int x3)]) C.1 C.2.1 dX11_stepValve_62 hl (by decide) rfl (fun ls hl => ?_)
  refine lv_aload_n C.1 C.2.1 dX11_stepValve_64 rfl (lv_at hl 3 rfl) ?_
  refine r_get C hW (ci := 11) (T := TX11) (n := 21) (ref := "BallMinderModel") (v := .ref (q 6)) 0 (by decide) rfl rfl 11 (by decide) inX11_stepValve (by decide +kernel) (fun _ h9 => h9) rfl dX11_stepValve_65 ?_
  refine lv_iload_n C.1 C.2.1 dX11_stepValve_68 rfl (lv_at hl 5 rfl) ?_
  refine lv_iload_n C.1 C.2.1 dX11_stepValve_69 rfl (lv_at hl 6 rfl) ?_
  refine lv_iadd C.1 C.2.1 dX11_stepValve_70 ?_
  refine lv_iconst (v := 1) C.1 C.2.1 dX11_stepValve_71 (by decide) ?_
  refine lv_iadd C.1 C.2.1 dX11_stepValve_72 ?_
  refine lv_aload_n C.1 C.2.1 dX11_stepValve_73 rfl (lv_at hl 3 rfl) ?_
  refine lv_iload_n C.1 C.2.1 dX11_stepValve_74 rfl (lv_at hl 4 rfl) ?_
  refine lv_bipush (v := 6) C.1 C.2.1 dX11_stepValve_75 (by decide) ?_
  refine k_i hW (va_runV (As := [.int x1, .int (6 : Int32)]) (rest := [.int ((x2 + x3) + (1 : Int32)), .ref (q 6)]) C (mtX11_of l D q cI H.size x1 (6 : Int32) f14 a15 _ h) (cwV 2 C.2.2.2.2 gX11_stepValve_X11_of rfl rfl rfl (by decide +kernel) ⟨Nat.le_of_ble_eq_true rfl, Nat.le_of_ble_eq_true rfl⟩) ⟨mP_blind tX_B, va_recv hW.1 hW.2.1 (ci := 11) (q0 := 0) rfl (wL_get (by decide)), fun U hU hV => ⟨rfl, hW.pre hU hV trivial⟩⟩ rfl rfl hl.1 rfl (lv_room (Nat.le_of_ble_eq_true rfl)) dX11_stepValve_77 ⟨Nat.zero_le _, Nat.zero_le _⟩) (fun r17 u H locs h hW => ?_)
  obtain ⟨f18, a19⟩ := u
  replace hW : hw D [(cI, .int)] q 12 (gM q cI f18 a19) A s H locs := hW
  refine lv_if_le (tgt := 106) C.1 C.2.1 dX11_stepValve_80 (by decide) (fun c20 => ?_) (fun c20 => ?_)
  · replace h := h.1 c20
    refine lv_aload_n C.1 C.2.1 dX11_stepValve_106 rfl (lv_at hl 3 rfl) ?_
    refine r_get C hW (ci := 11) (T := TX11) (n := 21) (ref := "BallMinderModel") (v := .ref (q 6)) 0 (by decide) rfl rfl 11 (by decide) inX11_stepValve (by decide +kernel) (fun _ h9 => h9) rfl dX11_stepValve_107 ?_
    refine lv_iload_n C.1 C.2.1 dX11_stepValve_110 rfl (lv_at hl 5 rfl) ?_
    refine lv_iload_n C.1 C.2.1 dX11_stepValve_111 rfl (lv_at hl 6 rfl) ?_
    refine lv_iadd C.1 C.2.1 dX11_stepValve_112 ?_
    obtain ⟨hs21, h⟩ := h
    refine r_iald C hW (cA := cI) (n := 602) (f := a19 6) 6 0 (by decide) rfl rfl hs21 dX11_stepValve_113 ?_
    exact sX11_stepValve_114 C hr hlk Q x1 x2 x3 r16 (a19 6 (x2 + x3).toNatClampNeg) ((x2 + x3) + (1 : Int32)) f18 a19 _ _ _ h hW (lv_sub hl [3, 4, 5, 6, 0] rfl)
  · replace h := h.2 c20
    refine lv_aload_n C.1 C.2.1 dX11_stepValve_83 rfl (lv_at hl 3 rfl) ?_
    refine r_get C hW (ci := 11) (T := TX11) (n := 21) (ref := "BallMinderModel") (v := .ref (q 6)) 0 (by decide) rfl rfl 11 (by decide) inX11_stepValve (by decide +kernel) (fun _ h9 => h9) rfl dX11_stepValve_84 ?_
    refine lv_iload_n C.1 C.2.1 dX11_stepValve_87 rfl (lv_at hl 5 rfl) ?_
    refine lv_iload_n C.1 C.2.1 dX11_stepValve_88 rfl (lv_at hl 6 rfl) ?_
    refine lv_iadd C.1 C.2.1 dX11_stepValve_89 ?_
    obtain ⟨hs30, h⟩ := h
    refine r_iald C hW (cA := cI) (n := 602) (f := a19 6) 6 0 (by decide) rfl rfl hs30 dX11_stepValve_90 ?_
    refine lv_iload C.1 C.2.1 dX11_stepValve_91 (lv_at hl 2 rfl) ?_
    refine lv_iadd C.1 C.2.1 dX11_stepValve_93 ?_
    refine lv_sipush (v := -9999) C.1 C.2.1 dX11_stepValve_94 (by decide) ?_
    refine lv_sipush (v := 9999) C.1 C.2.1 dX11_stepValve_97 (by decide) ?_
    refine k_pi hW (va_runS (As := [.int ((a19 6 (x2 + x3).toNatClampNeg) + x4_7), .int (-9999 : Int32), .int (9999 : Int32)]) (rest := [.int ((x2 + x3) + (1 : Int32)), .ref (q 6)]) C (mtX11_held l D q _ H.size ((a19 6 (x2 + x3).toNatClampNeg) + x4_7) (-9999 : Int32) (9999 : Int32) _ h) (va_cwS 3 C.2.2.2.2 gX11_stepValve_X11_held rfl rfl rfl (by decide +kernel) ⟨Nat.le_of_ble_eq_true rfl, Nat.le_of_ble_eq_true rfl⟩) ⟨mP_blind tX_B, fun U hU hV => ⟨rfl, hW.pre0 hU hV trivial⟩⟩ rfl rfl hl.1 rfl (lv_room (Nat.le_of_ble_eq_true rfl)) dX11_stepValve_100 ⟨Nat.zero_le _, Nat.zero_le _⟩) (fun r31 H locs h hW => ?_)
    refine lv_goto (tgt := 114) C.1 C.2.1 dX11_stepValve_103 (by decide) ?_
    exact sX11_stepValve_114 C hr hlk Q x1 x2 x3 r16 r31 ((x2 + x3) + (1 : Int32)) f18 a19 _ _ _ h hW (lv_sub hl [3, 4, 5, 6, 0] rfl)
set_option maxRecDepth 100000 in
set_option maxHeartbeats 4000000 in
theorem mtX11_stepValve (l : Launch) (D : va_G) (q : Nat → Nat) (cI : ClassId) (sz : Nat) (x1 : Int32) (x2 : Int32) (x3 : Int32) (f : Nat → Int32) (a : Nat → Nat → Int32) (Q : (Nat → Int32) → (Nat → Nat → Int32) → Prop) (h : vX11_stepValve x1 x2 x3 f a Q) : Met l yX11_stepValve wsX11_stepValve rmX11_stepValve (va_Pc [.ref (q 0), .int x1, .int x2, .int x3] (mP D [(cI, .int)] q 12 (gM q cI f a) sz tX)) (QMv D q cI Q (aQ q 12 sz)) 0 0 (aQ q 12 sz) := by
  refine met_w (cc := cX11_stepValve) (maxL := 7) (ret := none) (by decide) rfl (Nat.le_of_ble_eq_true rfl) ?_
  intro p e s m below meth c ls C hr hlk hW hX hnm hl
  exact sX11_stepValve C hr hlk Q x1 x2 x3 f a _ _ _ h hW hl
theorem inX11_stepOn : ∀ w ∈ wsX110, w ∈ wsX11_stepOn := fun _ h => List.mem_cons_of_mem _ (List.mem_append_right _ h)
abbrev rmX11_stepOn : Room := { frames := 3, cells := 0, slots := 0, locals := 73 }
def vX11_stepOn_129 (Q : (Nat → Int32) → (Nat → Nat → Int32) → Prop) (x1 : Int32) (x2 : Int32) (x3 : Int32) (x4 : Int32) (f : Nat → Int32) (a : Nat → Nat → Int32) : Prop := vp_in x1 301 ∧ (vp_in x1 301 ∧ (¬ x4 = 0 ∧ (vX11_held ((a 4 x1.toNatClampNeg) + (((((10 : Int32) * x2) - ((10 : Int32) * (f 7))) - (x3 * ((a 4 x1.toNatClampNeg) - (100 : Int32)))) / x4)) (0 : Int32) (999 : Int32) (fun r26 => vp_in (x1 + (1 : Int32)) 301 ∧ (∀ a28 : Nat → Nat → Int32, a28 = va_up a 4 (upd (a 4) (x1 + (1 : Int32)).toNatClampNeg r26) → Q f a28)))))
def vX11_stepOn (x1 : Int32) (f : Nat → Int32) (a : Nat → Nat → Int32) (Q : (Nat → Int32) → (Nat → Nat → Int32) → Prop) : Prop := vX11_stepValve (f 5) (0 : Int32) x1 f a (fun f1 a2 => vp_in (x1 + (1 : Int32)) 602 ∧ (∀ x2_4 : Int32, x2_4 = a2 5 (x1 + (1 : Int32)).toNatClampNeg → vX11_of (f1 5) (1 : Int32) f1 a2 (fun r5 f6 a7 => vX11_of (f6 5) (0 : Int32) f6 a7 (fun r8 f9 a10 => (0 ≤ (f9 6) → vX11_stepValve (f9 6) (301 : Int32) x1 f9 a10 (fun f12 a13 => vp_in (((301 : Int32) + x1) + (1 : Int32)) 602 ∧ (∀ x2_15 : Int32, x2_15 = x2_4 + (a13 5 (((301 : Int32) + x1) + (1 : Int32)).toNatClampNeg) → vX11_of (f12 6) (1 : Int32) f12 a13 (fun r16 f17 a18 => ∀ x3_19 : Int32, x3_19 = r5 + r16 → vX11_of (f17 6) (0 : Int32) f17 a18 (fun r20 f21 a22 => ∀ x4_23 : Int32, x4_23 = r8 + r20 → vX11_stepOn_129 Q x1 x2_15 x3_19 x4_23 f21 a22))))) ∧ (¬ (0 ≤ (f9 6)) → vp_in (((301 : Int32) + x1) + (1 : Int32)) 602 ∧ (∀ a31 : Nat → Nat → Int32, a31 = va_up a10 5 (upd (a10 5) (((301 : Int32) + x1) + (1 : Int32)).toNatClampNeg (0 : Int32)) → vp_in (((301 : Int32) + x1) + (1 : Int32)) 602 ∧ (∀ a33 : Nat → Nat → Int32, a33 = va_up a31 6 (upd (a31 6) (((301 : Int32) + x1) + (1 : Int32)).toNatClampNeg (0 : Int32)) → vX11_stepOn_129 Q x1 x2_4 r5 r8 f9 a33)))))))
set_option maxRecDepth 100000 in
set_option maxHeartbeats 4000000 in
theorem sX11_stepOn_129 {p : Program} {l : Launch} {e : Env} {s : State} {m : MethodId} {args : Array Value} {below : List Frame} {meth : Method} {c : Code} {D : va_G} {q : Nat → Nat} {A : Nat → Prop} {cI : ClassId} (C : CallFix p m c cX11_stepOn 5 s args wsX11_stepOn RX11) (hr : meth.sig.returnType = none) (hlk : meth.locks = false) (Q : (Nat → Int32) → (Nat → Nat → Int32) → Prop) : ∀ (x1 : Int32) (x2 : Int32) (x3 : Int32) (x4 : Int32) (f : Nat → Int32) (a : Nat → Nat → Int32) (H : Heap) (locs : List Loc) (ls : Array Slot), vX11_stepOn_129 Q x1 x2 x3 x4 f a → hw D [(cI, .int)] q 12 (gM q cI f a) A s H locs → lv_has ls 5 [(0, .ref (q 0)), (1, .int x1), (2, .int x2), (3, .int x3), (4, .int x4)] → W p l e (headSpec wsX11_stepOn rmX11_stepOn).room s m args below meth c H locs 0 0 (MQ below (QMv D q cI Q A) args s 0 0 A) (F0 m 129 ls []) := by
  intro x1 x2 x3 x4 f a H locs ls h hW hl
  unfold vX11_stepOn_129 at h
  refine lv_aload_n C.1 C.2.1 dX11_stepOn_129 rfl (lv_at hl 0 rfl) ?_
  refine r_get C hW (ci := 11) (T := TX11) (n := 21) (ref := "BallMinderModel") (v := .ref (q 4)) 0 (by decide) rfl rfl 9 (by decide) inX11_stepOn (by decide +kernel) (fun _ h9 => h9) rfl dX11_stepOn_130 ?_
  refine lv_iload_n C.1 C.2.1 dX11_stepOn_133 rfl (lv_at hl 1 rfl) ?_
  refine lv_iconst (v := 1) C.1 C.2.1 dX11_stepOn_134 (by decide) ?_
  refine lv_iadd C.1 C.2.1 dX11_stepOn_135 ?_
  refine lv_aload_n C.1 C.2.1 dX11_stepOn_136 rfl (lv_at hl 0 rfl) ?_
  refine r_get C hW (ci := 11) (T := TX11) (n := 21) (ref := "BallMinderModel") (v := .ref (q 4)) 0 (by decide) rfl rfl 9 (by decide) inX11_stepOn (by decide +kernel) (fun _ h9 => h9) rfl dX11_stepOn_137 ?_
  refine lv_iload_n C.1 C.2.1 dX11_stepOn_140 rfl (lv_at hl 1 rfl) ?_
  obtain ⟨hs24, h⟩ := h
  refine r_iald C hW (cA := cI) (n := 301) (f := a 4) 4 0 (by decide) rfl rfl hs24 dX11_stepOn_141 ?_
  refine lv_bipush (v := 10) C.1 C.2.1 dX11_stepOn_142 (by decide) ?_
  refine lv_iload_n C.1 C.2.1 dX11_stepOn_144 rfl (lv_at hl 2 rfl) ?_
  refine lv_imul C.1 C.2.1 dX11_stepOn_145 ?_
  refine lv_bipush (v := 10) C.1 C.2.1 dX11_stepOn_146 (by decide) ?_
  refine lv_aload_n C.1 C.2.1 dX11_stepOn_148 rfl (lv_at hl 0 rfl) ?_
  refine r_get C hW (ci := 11) (T := TX11) (n := 21) (ref := "BallMinderModel") (v := .int (f 7)) 0 (by decide) rfl rfl 7 (by decide) inX11_stepOn (by decide +kernel) (fun _ h9 => h9) rfl dX11_stepOn_149 ?_
  refine lv_imul C.1 C.2.1 dX11_stepOn_152 ?_
  refine lv_isub C.1 C.2.1 dX11_stepOn_153 ?_
  refine lv_iload_n C.1 C.2.1 dX11_stepOn_154 rfl (lv_at hl 3 rfl) ?_
  refine lv_aload_n C.1 C.2.1 dX11_stepOn_155 rfl (lv_at hl 0 rfl) ?_
  refine r_get C hW (ci := 11) (T := TX11) (n := 21) (ref := "BallMinderModel") (v := .ref (q 4)) 0 (by decide) rfl rfl 9 (by decide) inX11_stepOn (by decide +kernel) (fun _ h9 => h9) rfl dX11_stepOn_156 ?_
  refine lv_iload_n C.1 C.2.1 dX11_stepOn_159 rfl (lv_at hl 1 rfl) ?_
  obtain ⟨hs25, h⟩ := h
  refine r_iald C hW (cA := cI) (n := 301) (f := a 4) 4 0 (by decide) rfl rfl hs25 dX11_stepOn_160 ?_
  refine lv_bipush (v := 100) C.1 C.2.1 dX11_stepOn_161 (by decide) ?_
  refine lv_isub C.1 C.2.1 dX11_stepOn_163 ?_
  refine lv_imul C.1 C.2.1 dX11_stepOn_164 ?_
  refine lv_isub C.1 C.2.1 dX11_stepOn_165 ?_
  refine lv_iload C.1 C.2.1 dX11_stepOn_166 (lv_at hl 4 rfl) ?_
  obtain ⟨hs29, h⟩ := h
  refine lv_idiv C.1 C.2.1 dX11_stepOn_168 hs29 ?_
  refine lv_iadd C.1 C.2.1 dX11_stepOn_169 ?_
  refine lv_iconst (v := 0) C.1 C.2.1 dX11_stepOn_170 (by decide) ?_
  refine lv_sipush (v := 999) C.1 C.2.1 dX11_stepOn_171 (by decide) ?_
  refine k_pi hW (va_runS (As := [.int ((a 4 x1.toNatClampNeg) + (((((10 : Int32) * x2) - ((10 : Int32) * (f 7))) - (x3 * ((a 4 x1.toNatClampNeg) - (100 : Int32)))) / x4)), .int (0 : Int32), .int (999 : Int32)]) (rest := [.int (x1 + (1 : Int32)), .ref (q 4)]) C (mtX11_held l D q _ H.size ((a 4 x1.toNatClampNeg) + (((((10 : Int32) * x2) - ((10 : Int32) * (f 7))) - (x3 * ((a 4 x1.toNatClampNeg) - (100 : Int32)))) / x4)) (0 : Int32) (999 : Int32) _ h) (va_cwS 3 C.2.2.2.2 gX11_stepOn_X11_held rfl rfl rfl (by decide +kernel) ⟨Nat.le_of_ble_eq_true rfl, Nat.le_of_ble_eq_true rfl⟩) ⟨mP_blind tX_B, fun U hU hV => ⟨rfl, hW.pre0 hU hV trivial⟩⟩ rfl rfl hl.1 rfl (lv_room (Nat.le_of_ble_eq_true rfl)) dX11_stepOn_174 ⟨Nat.zero_le _, Nat.zero_le _⟩) (fun r26 H locs h hW => ?_)
  obtain ⟨hs27, h⟩ := h
  refine r_iast C hW (cA := cI) (n := 301) (f := a 4) 4 0 (by decide) rfl rfl hs27 dX11_stepOn_177 (fun H locs hW => ?_)
  replace hW := gM_ast (k := 4) (n := 301) (by decide) rfl hW
  obtain ⟨a28, ea28⟩ : ∃ z : Nat → Nat → Int32, z = va_up a 4 (upd (a 4) (x1 + (1 : Int32)).toNatClampNeg r26) := ⟨_, rfl⟩
  rw [← ea28] at hW
  replace h := h a28 ea28
  exact t_v C hr hlk (u := (f, a28)) hW.2.2.2.1 hW.B h dX11_stepOn_178
set_option maxRecDepth 100000 in
set_option maxHeartbeats 4000000 in
theorem sX11_stepOn {p : Program} {l : Launch} {e : Env} {s : State} {m : MethodId} {args : Array Value} {below : List Frame} {meth : Method} {c : Code} {D : va_G} {q : Nat → Nat} {A : Nat → Prop} {cI : ClassId} (C : CallFix p m c cX11_stepOn 5 s args wsX11_stepOn RX11) (hr : meth.sig.returnType = none) (hlk : meth.locks = false) (Q : (Nat → Int32) → (Nat → Nat → Int32) → Prop) : ∀ (x1 : Int32) (f : Nat → Int32) (a : Nat → Nat → Int32) (H : Heap) (locs : List Loc) (ls : Array Slot), vX11_stepOn x1 f a Q → hw D [(cI, .int)] q 12 (gM q cI f a) A s H locs → lv_has ls 5 [(0, .ref (q 0)), (1, .int x1)] → W p l e (headSpec wsX11_stepOn rmX11_stepOn).room s m args below meth c H locs 0 0 (MQ below (QMv D q cI Q A) args s 0 0 A) (F0 m 0 ls []) := by
  intro x1 f a H locs ls h hW hl
  unfold vX11_stepOn at h
  refine lv_aload_n C.1 C.2.1 dX11_stepOn_0 rfl (lv_at hl 0 rfl) ?_
  refine lv_aload_n C.1 C.2.1 dX11_stepOn_1 rfl (lv_at hl 0 rfl) ?_
  refine r_get C hW (ci := 11) (T := TX11) (n := 21) (ref := "BallMinderModel") (v := .int (f 5)) 0 (by decide) rfl rfl 5 (by decide) inX11_stepOn (by decide +kernel) (fun _ h9 => h9) rfl dX11_stepOn_2 ?_
  refine lv_iconst (v := 0) C.1 C.2.1 dX11_stepOn_5 (by decide) ?_
  refine lv_iload_n C.1 C.2.1 dX11_stepOn_6 rfl (lv_at hl 1 rfl) ?_
  refine k_v hW (va_runV (As := [.int (f 5), .int (0 : Int32), .int x1]) (rest := []) C (mtX11_stepValve l D q cI H.size (f 5) (0 : Int32) x1 f a _ h) (cwV 3 C.2.2.2.2 gX11_stepOn_X11_stepValve rfl rfl rfl (by decide +kernel) ⟨Nat.le_of_ble_eq_true rfl, Nat.le_of_ble_eq_true rfl⟩) ⟨mP_blind tX_B, va_recv hW.1 hW.2.1 (ci := 11) (q0 := 0) rfl (wL_get (by decide)), fun U hU hV => ⟨rfl, hW.pre hU hV trivial⟩⟩ rfl rfl hl.1 rfl (lv_room (Nat.le_of_ble_eq_true rfl)) dX11_stepOn_7 ⟨Nat.zero_le _, Nat.zero_le _⟩) (fun u H locs h hW => ?_)
  obtain ⟨f1, a2⟩ := u
  replace hW : hw D [(cI, .int)] q 12 (gM q cI f1 a2) A s H locs := hW
  refine lv_aload_n C.1 C.2.1 dX11_stepOn_10 rfl (lv_at hl 0 rfl) ?_
  refine r_get C hW (ci := 11) (T := TX11) (n := 21) (ref := "BallMinderModel") (v := .ref (q 5)) 0 (by decide) rfl rfl 10 (by decide) inX11_stepOn (by decide +kernel) (fun _ h9 => h9) rfl dX11_stepOn_11 ?_
  refine lv_iload_n C.1 C.2.1 dX11_stepOn_14 rfl (lv_at hl 1 rfl) ?_
  refine lv_iconst (v := 1) C.1 C.2.1 dX11_stepOn_15 (by decide) ?_
  refine lv_iadd C.1 C.2.1 dX11_stepOn_16 ?_
  obtain ⟨hs3, h⟩ := h
  refine r_iald C hW (cA := cI) (n := 602) (f := a2 5) 5 0 (by decide) rfl rfl hs3 dX11_stepOn_17 ?_
  refine lv_topi (fun x2_4 ex2_4 => ?_)
  replace h := h x2_4 ex2_4
  refine lv_istore_n (lv' := [(2, .int x2_4), (0, .ref (q 0)), (1, .int x1)]) C.1 C.2.1 dX11_stepOn_18 rfl hl (by decide) rfl (fun ls hl => ?_)
  refine lv_aload_n C.1 C.2.1 dX11_stepOn_19 rfl (lv_at hl 1 rfl) ?_
  refine lv_aload_n C.1 C.2.1 dX11_stepOn_20 rfl (lv_at hl 1 rfl) ?_
  refine r_get C hW (ci := 11) (T := TX11) (n := 21) (ref := "BallMinderModel") (v := .int (f1 5)) 0 (by decide) rfl rfl 5 (by decide) inX11_stepOn (by decide +kernel) (fun _ h9 => h9) rfl dX11_stepOn_21 ?_
  refine lv_iconst (v := 1) C.1 C.2.1 dX11_stepOn_24 (by decide) ?_
  refine k_i hW (va_runV (As := [.int (f1 5), .int (1 : Int32)]) (rest := []) C (mtX11_of l D q cI H.size (f1 5) (1 : Int32) f1 a2 _ h) (cwV 2 C.2.2.2.2 gX11_stepOn_X11_of rfl rfl rfl (by decide +kernel) ⟨Nat.le_of_ble_eq_true rfl, Nat.le_of_ble_eq_true rfl⟩) ⟨mP_blind tX_B, va_recv hW.1 hW.2.1 (ci := 11) (q0 := 0) rfl (wL_get (by decide)), fun U hU hV => ⟨rfl, hW.pre hU hV trivial⟩⟩ rfl rfl hl.1 rfl (lv_room (Nat.le_of_ble_eq_true rfl)) dX11_stepOn_25 ⟨Nat.zero_le _, Nat.zero_le _⟩) (fun r5 u H locs h hW => ?_)
  obtain ⟨f6, a7⟩ := u
  replace hW : hw D [(cI, .int)] q 12 (gM q cI f6 a7) A s H locs := hW
  refine lv_istore_n (lv' := [(3, .int r5), (2, .int x2_4), (0, .ref (q 0)), (1, .int x1)]) C.1 C.2.1 dX11_stepOn_28 rfl hl (by decide) rfl (fun ls hl => ?_)
  refine lv_aload_n C.1 C.2.1 dX11_stepOn_29 rfl (lv_at hl 2 rfl) ?_
  refine lv_aload_n C.1 C.2.1 dX11_stepOn_30 rfl (lv_at hl 2 rfl) ?_
  refine r_get C hW (ci := 11) (T := TX11) (n := 21) (ref := "BallMinderModel") (v := .int (f6 5)) 0 (by decide) rfl rfl 5 (by decide) inX11_stepOn (by decide +kernel) (fun _ h9 => h9) rfl dX11_stepOn_31 ?_
  refine lv_iconst (v := 0) C.1 C.2.1 dX11_stepOn_34 (by decide) ?_
  refine k_i hW (va_runV (As := [.int (f6 5), .int (0 : Int32)]) (rest := []) C (mtX11_of l D q cI H.size (f6 5) (0 : Int32) f6 a7 _ h) (cwV 2 C.2.2.2.2 gX11_stepOn_X11_of rfl rfl rfl (by decide +kernel) ⟨Nat.le_of_ble_eq_true rfl, Nat.le_of_ble_eq_true rfl⟩) ⟨mP_blind tX_B, va_recv hW.1 hW.2.1 (ci := 11) (q0 := 0) rfl (wL_get (by decide)), fun U hU hV => ⟨rfl, hW.pre hU hV trivial⟩⟩ rfl rfl hl.1 rfl (lv_room (Nat.le_of_ble_eq_true rfl)) dX11_stepOn_35 ⟨Nat.zero_le _, Nat.zero_le _⟩) (fun r8 u H locs h hW => ?_)
  obtain ⟨f9, a10⟩ := u
  replace hW : hw D [(cI, .int)] q 12 (gM q cI f9 a10) A s H locs := hW
  refine lv_istore (lv' := [(4, .int r8), (3, .int r5), (2, .int x2_4), (0, .ref (q 0)), (1, .int x1)]) C.1 C.2.1 dX11_stepOn_38 hl (by decide) rfl (fun ls hl => ?_)
  refine lv_aload_n C.1 C.2.1 dX11_stepOn_40 rfl (lv_at hl 3 rfl) ?_
  refine r_get C hW (ci := 11) (T := TX11) (n := 21) (ref := "BallMinderModel") (v := .int (f9 6)) 0 (by decide) rfl rfl 6 (by decide) inX11_stepOn (by decide +kernel) (fun _ h9 => h9) rfl dX11_stepOn_41 ?_
  refine lv_if_ge (tgt := 76) C.1 C.2.1 dX11_stepOn_44 (by decide) (fun c11 => ?_) (fun c11 => ?_)
  · replace h := h.1 c11
    refine lv_aload_n C.1 C.2.1 dX11_stepOn_76 rfl (lv_at hl 3 rfl) ?_
    refine lv_aload_n C.1 C.2.1 dX11_stepOn_77 rfl (lv_at hl 3 rfl) ?_
    refine r_get C hW (ci := 11) (T := TX11) (n := 21) (ref := "BallMinderModel") (v := .int (f9 6)) 0 (by decide) rfl rfl 6 (by decide) inX11_stepOn (by decide +kernel) (fun _ h9 => h9) rfl dX11_stepOn_78 ?_
    refine lv_sipush (v := 301) C.1 C.2.1 dX11_stepOn_81 (by decide) ?_
    refine lv_iload_n C.1 C.2.1 dX11_stepOn_84 rfl (lv_at hl 4 rfl) ?_
    refine k_v hW (va_runV (As := [.int (f9 6), .int (301 : Int32), .int x1]) (rest := []) C (mtX11_stepValve l D q cI H.size (f9 6) (301 : Int32) x1 f9 a10 _ h) (cwV 3 C.2.2.2.2 gX11_stepOn_X11_stepValve rfl rfl rfl (by decide +kernel) ⟨Nat.le_of_ble_eq_true rfl, Nat.le_of_ble_eq_true rfl⟩) ⟨mP_blind tX_B, va_recv hW.1 hW.2.1 (ci := 11) (q0 := 0) rfl (wL_get (by decide)), fun U hU hV => ⟨rfl, hW.pre hU hV trivial⟩⟩ rfl rfl hl.1 rfl (lv_room (Nat.le_of_ble_eq_true rfl)) dX11_stepOn_85 ⟨Nat.zero_le _, Nat.zero_le _⟩) (fun u H locs h hW => ?_)
    obtain ⟨f12, a13⟩ := u
    replace hW : hw D [(cI, .int)] q 12 (gM q cI f12 a13) A s H locs := hW
    refine lv_iload_n C.1 C.2.1 dX11_stepOn_88 rfl (lv_at hl 2 rfl) ?_
    refine lv_aload_n C.1 C.2.1 dX11_stepOn_89 rfl (lv_at hl 3 rfl) ?_
    refine r_get C hW (ci := 11) (T := TX11) (n := 21) (ref := "BallMinderModel") (v := .ref (q 5)) 0 (by decide) rfl rfl 10 (by decide) inX11_stepOn (by decide +kernel) (fun _ h9 => h9) rfl dX11_stepOn_90 ?_
    refine lv_sipush (v := 301) C.1 C.2.1 dX11_stepOn_93 (by decide) ?_
    refine lv_iload_n C.1 C.2.1 dX11_stepOn_96 rfl (lv_at hl 4 rfl) ?_
    refine lv_iadd C.1 C.2.1 dX11_stepOn_97 ?_
    refine lv_iconst (v := 1) C.1 C.2.1 dX11_stepOn_98 (by decide) ?_
    refine lv_iadd C.1 C.2.1 dX11_stepOn_99 ?_
    obtain ⟨hs14, h⟩ := h
    refine r_iald C hW (cA := cI) (n := 602) (f := a13 5) 5 0 (by decide) rfl rfl hs14 dX11_stepOn_100 ?_
    refine lv_iadd C.1 C.2.1 dX11_stepOn_101 ?_
    refine lv_topi (fun x2_15 ex2_15 => ?_)
    replace h := h x2_15 ex2_15
    refine lv_istore_n (lv' := [(2, .int x2_15), (4, .int r8), (3, .int r5), (0, .ref (q 0)), (1, .int x1)]) C.1 C.2.1 dX11_stepOn_102 rfl hl (by decide) rfl (fun ls hl => ?_)
    refine lv_iload_n C.1 C.2.1 dX11_stepOn_103 rfl (lv_at hl 2 rfl) ?_
    refine lv_aload_n C.1 C.2.1 dX11_stepOn_104 rfl (lv_at hl 3 rfl) ?_
    refine lv_aload_n C.1 C.2.1 dX11_stepOn_105 rfl (lv_at hl 3 rfl) ?_
    refine r_get C hW (ci := 11) (T := TX11) (n := 21) (ref := "BallMinderModel") (v := .int (f12 6)) 0 (by decide) rfl rfl 6 (by decide) inX11_stepOn (by decide +kernel) (fun _ h9 => h9) rfl dX11_stepOn_106 ?_
    refine lv_iconst (v := 1) C.1 C.2.1 dX11_stepOn_109 (by decide) ?_
    refine k_i hW (va_runV (As := [.int (f12 6), .int (1 : Int32)]) (rest := [.int r5]) C (mtX11_of l D q cI H.size (f12 6) (1 : Int32) f12 a13 _ h) (cwV 2 C.2.2.2.2 gX11_stepOn_X11_of rfl rfl rfl (by decide +kernel) ⟨Nat.le_of_ble_eq_true rfl, Nat.le_of_ble_eq_true rfl⟩) ⟨mP_blind tX_B, va_recv hW.1 hW.2.1 (ci := 11) (q0 := 0) rfl (wL_get (by decide)), fun U hU hV => ⟨rfl, hW.pre hU hV trivial⟩⟩ rfl rfl hl.1 rfl (lv_room (Nat.le_of_ble_eq_true rfl)) dX11_stepOn_110 ⟨Nat.zero_le _, Nat.zero_le _⟩) (fun r16 u H locs h hW => ?_)
    obtain ⟨f17, a18⟩ := u
    replace hW : hw D [(cI, .int)] q 12 (gM q cI f17 a18) A s H locs := hW
    refine lv_iadd C.1 C.2.1 dX11_stepOn_113 ?_
    refine lv_topi (fun x3_19 ex3_19 => ?_)
    replace h := h x3_19 ex3_19
    refine lv_istore_n (lv' := [(3, .int x3_19), (2, .int x2_15), (4, .int r8), (0, .ref (q 0)), (1, .int x1)]) C.1 C.2.1 dX11_stepOn_114 rfl hl (by decide) rfl (fun ls hl => ?_)
    refine lv_iload C.1 C.2.1 dX11_stepOn_115 (lv_at hl 2 rfl) ?_
    refine lv_aload_n C.1 C.2.1 dX11_stepOn_117 rfl (lv_at hl 3 rfl) ?_
    refine lv_aload_n C.1 C.2.1 dX11_stepOn_118 rfl (lv_at hl 3 rfl) ?_
    refine r_get C hW (ci := 11) (T := TX11) (n := 21) (ref := "BallMinderModel") (v := .int (f17 6)) 0 (by decide) rfl rfl 6 (by decide) inX11_stepOn (by decide +kernel) (fun _ h9 => h9) rfl dX11_stepOn_119 ?_
    refine lv_iconst (v := 0) C.1 C.2.1 dX11_stepOn_122 (by decide) ?_
    refine k_i hW (va_runV (As := [.int (f17 6), .int (0 : Int32)]) (rest := [.int r8]) C (mtX11_of l D q cI H.size (f17 6) (0 : Int32) f17 a18 _ h) (cwV 2 C.2.2.2.2 gX11_stepOn_X11_of rfl rfl rfl (by decide +kernel) ⟨Nat.le_of_ble_eq_true rfl, Nat.le_of_ble_eq_true rfl⟩) ⟨mP_blind tX_B, va_recv hW.1 hW.2.1 (ci := 11) (q0 := 0) rfl (wL_get (by decide)), fun U hU hV => ⟨rfl, hW.pre hU hV trivial⟩⟩ rfl rfl hl.1 rfl (lv_room (Nat.le_of_ble_eq_true rfl)) dX11_stepOn_123 ⟨Nat.zero_le _, Nat.zero_le _⟩) (fun r20 u H locs h hW => ?_)
    obtain ⟨f21, a22⟩ := u
    replace hW : hw D [(cI, .int)] q 12 (gM q cI f21 a22) A s H locs := hW
    refine lv_iadd C.1 C.2.1 dX11_stepOn_126 ?_
    refine lv_topi (fun x4_23 ex4_23 => ?_)
    replace h := h x4_23 ex4_23
    refine lv_istore (lv' := [(4, .int x4_23), (3, .int x3_19), (2, .int x2_15), (0, .ref (q 0)), (1, .int x1)]) C.1 C.2.1 dX11_stepOn_127 hl (by decide) rfl (fun ls hl => ?_)
    exact sX11_stepOn_129 C hr hlk Q x1 x2_15 x3_19 x4_23 f21 a22 _ _ _ h hW (lv_sub hl [3, 4, 2, 1, 0] rfl)
  · replace h := h.2 c11
    refine lv_aload_n C.1 C.2.1 dX11_stepOn_47 rfl (lv_at hl 3 rfl) ?_
    refine r_get C hW (ci := 11) (T := TX11) (n := 21) (ref := "BallMinderModel") (v := .ref (q 5)) 0 (by decide) rfl rfl 10 (by decide) inX11_stepOn (by decide +kernel) (fun _ h9 => h9) rfl dX11_stepOn_48 ?_
    refine lv_sipush (v := 301) C.1 C.2.1 dX11_stepOn_51 (by decide) ?_
    refine lv_iload_n C.1 C.2.1 dX11_stepOn_54 rfl (lv_at hl 4 rfl) ?_
    refine lv_iadd C.1 C.2.1 dX11_stepOn_55 ?_
    refine lv_iconst (v := 1) C.1 C.2.1 dX11_stepOn_56 (by decide) ?_
    refine lv_iadd C.1 C.2.1 dX11_stepOn_57 ?_
    refine lv_iconst (v := 0) C.1 C.2.1 dX11_stepOn_58 (by decide) ?_
    obtain ⟨hs30, h⟩ := h
    refine r_iast C hW (cA := cI) (n := 602) (f := a10 5) 5 0 (by decide) rfl rfl hs30 dX11_stepOn_59 (fun H locs hW => ?_)
    replace hW := gM_ast (k := 5) (n := 602) (by decide) rfl hW
    obtain ⟨a31, ea31⟩ : ∃ z : Nat → Nat → Int32, z = va_up a10 5 (upd (a10 5) (((301 : Int32) + x1) + (1 : Int32)).toNatClampNeg (0 : Int32)) := ⟨_, rfl⟩
    rw [← ea31] at hW
    replace h := h a31 ea31
    refine lv_aload_n C.1 C.2.1 dX11_stepOn_60 rfl (lv_at hl 3 rfl) ?_
    refine r_get C hW (ci := 11) (T := TX11) (n := 21) (ref := "BallMinderModel") (v := .ref (q 6)) 0 (by decide) rfl rfl 11 (by decide) inX11_stepOn (by decide +kernel) (fun _ h9 => h9) rfl dX11_stepOn_61 ?_
    refine lv_sipush (v := 301) C.1 C.2.1 dX11_stepOn_64 (by decide) ?_
    refine lv_iload_n C.1 C.2.1 dX11_stepOn_67 rfl (lv_at hl 4 rfl) ?_
    refine lv_iadd C.1 C.2.1 dX11_stepOn_68 ?_
    refine lv_iconst (v := 1) C.1 C.2.1 dX11_stepOn_69 (by decide) ?_
    refine lv_iadd C.1 C.2.1 dX11_stepOn_70 ?_
    refine lv_iconst (v := 0) C.1 C.2.1 dX11_stepOn_71 (by decide) ?_
    obtain ⟨hs32, h⟩ := h
    refine r_iast C hW (cA := cI) (n := 602) (f := a31 6) 6 0 (by decide) rfl rfl hs32 dX11_stepOn_72 (fun H locs hW => ?_)
    replace hW := gM_ast (k := 6) (n := 602) (by decide) rfl hW
    obtain ⟨a33, ea33⟩ : ∃ z : Nat → Nat → Int32, z = va_up a31 6 (upd (a31 6) (((301 : Int32) + x1) + (1 : Int32)).toNatClampNeg (0 : Int32)) := ⟨_, rfl⟩
    rw [← ea33] at hW
    replace h := h a33 ea33
    refine lv_goto (tgt := 129) C.1 C.2.1 dX11_stepOn_73 (by decide) ?_
    exact sX11_stepOn_129 C hr hlk Q x1 x2_4 r5 r8 f9 a33 _ _ _ h hW (lv_sub hl [3, 4, 2, 1, 0] rfl)
set_option maxRecDepth 100000 in
set_option maxHeartbeats 4000000 in
theorem mtX11_stepOn (l : Launch) (D : va_G) (q : Nat → Nat) (cI : ClassId) (sz : Nat) (x1 : Int32) (f : Nat → Int32) (a : Nat → Nat → Int32) (Q : (Nat → Int32) → (Nat → Nat → Int32) → Prop) (h : vX11_stepOn x1 f a Q) : Met l yX11_stepOn wsX11_stepOn rmX11_stepOn (va_Pc [.ref (q 0), .int x1] (mP D [(cI, .int)] q 12 (gM q cI f a) sz tX)) (QMv D q cI Q (aQ q 12 sz)) 0 0 (aQ q 12 sz) := by
  refine met_w (cc := cX11_stepOn) (maxL := 5) (ret := none) (by decide) rfl (Nat.le_of_ble_eq_true rfl) ?_
  intro p e s m below meth c ls C hr hlk hW hX hnm hl
  exact sX11_stepOn C hr hlk Q x1 f a _ _ _ h hW hl
theorem inX11_isAs : ∀ w ∈ wsX110, w ∈ wsX11_isAs := fun _ h => List.mem_cons_of_mem _ (List.mem_append_right _ h)
abbrev rmX11_isAs : Room := { frames := 1, cells := 0, slots := 0, locals := 22 }
def vX11_isAs_145 (K110 : Int32 → Int32 → Int32 → Int32 → (Nat → Int32) → (Nat → Nat → Int32) → Prop) (Q : Int32 → (Nat → Int32) → (Nat → Nat → Int32) → Prop) (x1 : Int32) (x2 : Int32) (x4 : Int32) (y0 : Int32) (f : Nat → Int32) (a : Nat → Nat → Int32) : Prop := ∀ x4_14 : Int32, x4_14 = x4 + (1 : Int32) → K110 x1 x2 y0 x4_14 f a
def vX11_isAs_110 (Q : Int32 → (Nat → Int32) → (Nat → Nat → Int32) → Prop) : Nat → Int32 → Int32 → Int32 → Int32 → (Nat → Int32) → (Nat → Nat → Int32) → Prop
  | 0, _, _, _, _, _, _ => False
  | fu+1, x1, x2, x3, x4, f, a => ((f 8) < x4 → (x3 = 0 ∨ x3 = 1) ∧ Q x3 f a) ∧ (¬ ((f 8) < x4) → (x3 = 0 → (x3 = 0 ∨ x3 = 1) ∧ Q x3 f a) ∧ (¬ (x3 = 0) → vX11_beatAgo x1 x4 f a (fun r7 f8 a9 => vX11_beatAgo x2 x4 f8 a9 (fun r10 f11 a12 => (¬ r7 = r10 → vX11_isAs_145 (vX11_isAs_110 Q fu) Q x1 x2 x4 (0 : Int32) f11 a12) ∧ (r7 = r10 → vX11_isAs_145 (vX11_isAs_110 Q fu) Q x1 x2 x4 (1 : Int32) f11 a12)))))
def vX11_isAs_106 (Q : Int32 → (Nat → Int32) → (Nat → Nat → Int32) → Prop) (x1 : Int32) (x2 : Int32) (y0 : Int32) (f : Nat → Int32) (a : Nat → Nat → Int32) : Prop := ∃ n110, vX11_isAs_110 Q n110 x1 x2 y0 (1 : Int32) f a
def vX11_isAs_105 (Q : Int32 → (Nat → Int32) → (Nat → Nat → Int32) → Prop) (x1 : Int32) (x2 : Int32) (f : Nat → Int32) (a : Nat → Nat → Int32) : Prop := vX11_isAs_106 Q x1 x2 (0 : Int32) f a
def vX11_isAs_58 (Q : Int32 → (Nat → Int32) → (Nat → Nat → Int32) → Prop) (x1 : Int32) (x2 : Int32) (y0 : Int32) (f : Nat → Int32) (a : Nat → Nat → Int32) : Prop := (y0 = 0 → vX11_isAs_105 Q x1 x2 f a) ∧ (¬ (y0 = 0) → vp_in x1 602 ∧ (vp_in x2 602 ∧ ((¬ (a 6 x1.toNatClampNeg) = (a 6 x2.toNatClampNeg) → vX11_isAs_105 Q x1 x2 f a) ∧ ((a 6 x1.toNatClampNeg) = (a 6 x2.toNatClampNeg) → vp_in ((301 : Int32) + x1) 602 ∧ (vp_in ((301 : Int32) + x2) 602 ∧ ((¬ (a 6 ((301 : Int32) + x1).toNatClampNeg) = (a 6 ((301 : Int32) + x2).toNatClampNeg) → vX11_isAs_105 Q x1 x2 f a) ∧ ((a 6 ((301 : Int32) + x1).toNatClampNeg) = (a 6 ((301 : Int32) + x2).toNatClampNeg) → vX11_isAs_106 Q x1 x2 (1 : Int32) f a)))))))
def vX11_isAs_57 (Q : Int32 → (Nat → Int32) → (Nat → Nat → Int32) → Prop) (x1 : Int32) (x2 : Int32) (f : Nat → Int32) (a : Nat → Nat → Int32) : Prop := vX11_isAs_58 Q x1 x2 (0 : Int32) f a
def vX11_isAs (x1 : Int32) (x2 : Int32) (f : Nat → Int32) (a : Nat → Nat → Int32) (Q : Int32 → (Nat → Int32) → (Nat → Nat → Int32) → Prop) : Prop := vp_in x1 301 ∧ (vp_in x2 301 ∧ ((¬ (a 4 x1.toNatClampNeg) = (a 4 x2.toNatClampNeg) → vX11_isAs_57 Q x1 x2 f a) ∧ ((a 4 x1.toNatClampNeg) = (a 4 x2.toNatClampNeg) → vp_in x1 602 ∧ (vp_in x2 602 ∧ ((¬ (a 5 x1.toNatClampNeg) = (a 5 x2.toNatClampNeg) → vX11_isAs_57 Q x1 x2 f a) ∧ ((a 5 x1.toNatClampNeg) = (a 5 x2.toNatClampNeg) → vp_in ((301 : Int32) + x1) 602 ∧ (vp_in ((301 : Int32) + x2) 602 ∧ ((¬ (a 5 ((301 : Int32) + x1).toNatClampNeg) = (a 5 ((301 : Int32) + x2).toNatClampNeg) → vX11_isAs_57 Q x1 x2 f a) ∧ ((a 5 ((301 : Int32) + x1).toNatClampNeg) = (a 5 ((301 : Int32) + x2).toNatClampNeg) → vX11_isAs_58 Q x1 x2 (1 : Int32) f a)))))))))
set_option maxRecDepth 100000 in
set_option maxHeartbeats 4000000 in
theorem sX11_isAs_145 {p : Program} {l : Launch} {e : Env} {s : State} {m : MethodId} {args : Array Value} {below : List Frame} {meth : Method} {c : Code} {D : va_G} {q : Nat → Nat} {A : Nat → Prop} {cI : ClassId} (C : CallFix p m c cX11_isAs 5 s args wsX11_isAs RX11) (hr : meth.sig.returnType = (some .boolean)) (hlk : meth.locks = false) (Q : Int32 → (Nat → Int32) → (Nat → Nat → Int32) → Prop) (K110 : Int32 → Int32 → Int32 → Int32 → (Nat → Int32) → (Nat → Nat → Int32) → Prop) (hK110 : ∀ (x1 : Int32) (x2 : Int32) (x3 : Int32) (x4 : Int32) (f : Nat → Int32) (a : Nat → Nat → Int32) (H : Heap) (locs : List Loc) (ls : Array Slot), K110 x1 x2 x3 x4 f a → hw D [(cI, .int)] q 12 (gM q cI f a) A s H locs → lv_has ls 5 [(0, .ref (q 0)), (1, .int x1), (2, .int x2), (3, .int x3), (4, .int x4)] → W p l e (headSpec wsX11_isAs rmX11_isAs).room s m args below meth c H locs 0 0 (MQ below (QMi D q cI Q A) args s 0 0 A) (F0 m 110 ls [])) : ∀ (x1 : Int32) (x2 : Int32) (x4 : Int32) (y0 : Int32) (f : Nat → Int32) (a : Nat → Nat → Int32) (H : Heap) (locs : List Loc) (ls : Array Slot), vX11_isAs_145 K110 Q x1 x2 x4 y0 f a → hw D [(cI, .int)] q 12 (gM q cI f a) A s H locs → lv_has ls 5 [(0, .ref (q 0)), (1, .int x1), (2, .int x2), (4, .int x4)] → W p l e (headSpec wsX11_isAs rmX11_isAs).room s m args below meth c H locs 0 0 (MQ below (QMi D q cI Q A) args s 0 0 A) (F0 m 145 ls [.int y0]) := by
  intro x1 x2 x4 y0 f a H locs ls h hW hl
  unfold vX11_isAs_145 at h
  refine lv_istore_n (lv' := [(3, .int y0), (0, .ref (q 0)), (1, .int x1), (2, .int x2), (4, .int x4)]) C.1 C.2.1 dX11_isAs_145 rfl hl (by decide) rfl (fun ls hl => ?_)
  obtain ⟨x4_14, ex4_14⟩ : ∃ z : Int32, z = x4 + (1 : Int32) := ⟨_, rfl⟩
  replace h := h x4_14 ex4_14
  refine lv_iinc (v := x4_14) (lv' := [(4, .int x4_14), (3, .int y0), (0, .ref (q 0)), (1, .int x1), (2, .int x2)]) C.1 C.2.1 dX11_isAs_146 hl (k := 4) rfl (by rw [ex4_14]; rfl) (by decide) rfl (fun ls hl => ?_)
  refine lv_goto (tgt := 110) C.1 C.2.1 dX11_isAs_149 (by decide) ?_
  exact hK110 x1 x2 y0 x4_14 f a _ _ _ h hW (lv_sub hl [2, 3, 4, 1, 0] rfl)
set_option maxRecDepth 100000 in
set_option maxHeartbeats 4000000 in
theorem sX11_isAs_110 {p : Program} {l : Launch} {e : Env} {s : State} {m : MethodId} {args : Array Value} {below : List Frame} {meth : Method} {c : Code} {D : va_G} {q : Nat → Nat} {A : Nat → Prop} {cI : ClassId} (C : CallFix p m c cX11_isAs 5 s args wsX11_isAs RX11) (hr : meth.sig.returnType = (some .boolean)) (hlk : meth.locks = false) (Q : Int32 → (Nat → Int32) → (Nat → Nat → Int32) → Prop) : ∀ (fu : Nat) (x1 : Int32) (x2 : Int32) (x3 : Int32) (x4 : Int32) (f : Nat → Int32) (a : Nat → Nat → Int32) (H : Heap) (locs : List Loc) (ls : Array Slot), vX11_isAs_110 Q fu x1 x2 x3 x4 f a → hw D [(cI, .int)] q 12 (gM q cI f a) A s H locs → lv_has ls 5 [(0, .ref (q 0)), (1, .int x1), (2, .int x2), (3, .int x3), (4, .int x4)] → W p l e (headSpec wsX11_isAs rmX11_isAs).room s m args below meth c H locs 0 0 (MQ below (QMi D q cI Q A) args s 0 0 A) (F0 m 110 ls []) := by
  intro fu
  induction fu with
  | zero =>
    intro x1 x2 x3 x4 f a H locs ls h
    exact h.elim
  | succ fu ih =>
    intro x1 x2 x3 x4 f a H locs ls h hW hl
    refine lv_iload C.1 C.2.1 dX11_isAs_110 (lv_at hl 4 rfl) ?_
    refine lv_aload_n C.1 C.2.1 dX11_isAs_112 rfl (lv_at hl 0 rfl) ?_
    refine r_get C hW (ci := 11) (T := TX11) (n := 21) (ref := "BallMinderModel") (v := .int (f 8)) 0 (by decide) rfl rfl 8 (by decide) inX11_isAs (by decide +kernel) (fun _ h9 => h9) rfl dX11_isAs_113 ?_
    refine lv_icmp_gt (tgt := 152) C.1 C.2.1 dX11_isAs_116 (by decide) (fun c5 => ?_) (fun c5 => ?_)
    · replace h := h.1 c5
      refine lv_iload_n C.1 C.2.1 dX11_isAs_152 rfl (lv_at hl 3 rfl) ?_
      exact t_z C hr hlk (u := (f, a)) h.1 hW.2.2.2.1 hW.B h.2 dX11_isAs_153
    · replace h := h.2 c5
      refine lv_iload_n C.1 C.2.1 dX11_isAs_119 rfl (lv_at hl 3 rfl) ?_
      refine lv_if_eq (tgt := 152) C.1 C.2.1 dX11_isAs_120 (by decide) (fun c6 => ?_) (fun c6 => ?_)
      · replace h := h.1 c6
        refine lv_iload_n C.1 C.2.1 dX11_isAs_152 rfl (lv_at hl 3 rfl) ?_
        exact t_z C hr hlk (u := (f, a)) h.1 hW.2.2.2.1 hW.B h.2 dX11_isAs_153
      · replace h := h.2 c6
        refine lv_aload_n C.1 C.2.1 dX11_isAs_123 rfl (lv_at hl 0 rfl) ?_
        refine lv_iload_n C.1 C.2.1 dX11_isAs_124 rfl (lv_at hl 1 rfl) ?_
        refine lv_iload C.1 C.2.1 dX11_isAs_125 (lv_at hl 4 rfl) ?_
        refine k_i hW (va_runV (As := [.int x1, .int x4]) (rest := []) C (mtX11_beatAgo l D q cI H.size x1 x4 f a _ h) (cwV 2 C.2.2.2.2 gX11_isAs_X11_beatAgo rfl rfl rfl (by decide +kernel) ⟨Nat.le_of_ble_eq_true rfl, Nat.le_of_ble_eq_true rfl⟩) ⟨mP_blind tX_B, va_recv hW.1 hW.2.1 (ci := 11) (q0 := 0) rfl (wL_get (by decide)), fun U hU hV => ⟨rfl, hW.pre hU hV trivial⟩⟩ rfl rfl hl.1 rfl (lv_room (Nat.le_of_ble_eq_true rfl)) dX11_isAs_127 ⟨Nat.zero_le _, Nat.zero_le _⟩) (fun r7 u H locs h hW => ?_)
        obtain ⟨f8, a9⟩ := u
        replace hW : hw D [(cI, .int)] q 12 (gM q cI f8 a9) A s H locs := hW
        refine lv_aload_n C.1 C.2.1 dX11_isAs_130 rfl (lv_at hl 0 rfl) ?_
        refine lv_iload_n C.1 C.2.1 dX11_isAs_131 rfl (lv_at hl 2 rfl) ?_
        refine lv_iload C.1 C.2.1 dX11_isAs_132 (lv_at hl 4 rfl) ?_
        refine k_i hW (va_runV (As := [.int x2, .int x4]) (rest := [.int r7]) C (mtX11_beatAgo l D q cI H.size x2 x4 f8 a9 _ h) (cwV 2 C.2.2.2.2 gX11_isAs_X11_beatAgo rfl rfl rfl (by decide +kernel) ⟨Nat.le_of_ble_eq_true rfl, Nat.le_of_ble_eq_true rfl⟩) ⟨mP_blind tX_B, va_recv hW.1 hW.2.1 (ci := 11) (q0 := 0) rfl (wL_get (by decide)), fun U hU hV => ⟨rfl, hW.pre hU hV trivial⟩⟩ rfl rfl hl.1 rfl (lv_room (Nat.le_of_ble_eq_true rfl)) dX11_isAs_134 ⟨Nat.zero_le _, Nat.zero_le _⟩) (fun r10 u H locs h hW => ?_)
        obtain ⟨f11, a12⟩ := u
        replace hW : hw D [(cI, .int)] q 12 (gM q cI f11 a12) A s H locs := hW
        refine lv_icmp_ne (tgt := 144) C.1 C.2.1 dX11_isAs_137 (by decide) (fun c13 => ?_) (fun c13 => ?_)
        · replace h := h.1 c13
          refine lv_iconst (v := 0) C.1 C.2.1 dX11_isAs_144 (by decide) ?_
          exact sX11_isAs_145 C hr hlk Q _ ih x1 x2 x4 (0 : Int32) f11 a12 _ _ _ h hW (lv_sub hl [0, 1, 2, 4] rfl)
        · replace h := h.2 c13
          refine lv_iconst (v := 1) C.1 C.2.1 dX11_isAs_140 (by decide) ?_
          refine lv_goto (tgt := 145) C.1 C.2.1 dX11_isAs_141 (by decide) ?_
          exact sX11_isAs_145 C hr hlk Q _ ih x1 x2 x4 (1 : Int32) f11 a12 _ _ _ h hW (lv_sub hl [0, 1, 2, 4] rfl)
set_option maxRecDepth 100000 in
set_option maxHeartbeats 4000000 in
theorem sX11_isAs_106 {p : Program} {l : Launch} {e : Env} {s : State} {m : MethodId} {args : Array Value} {below : List Frame} {meth : Method} {c : Code} {D : va_G} {q : Nat → Nat} {A : Nat → Prop} {cI : ClassId} (C : CallFix p m c cX11_isAs 5 s args wsX11_isAs RX11) (hr : meth.sig.returnType = (some .boolean)) (hlk : meth.locks = false) (Q : Int32 → (Nat → Int32) → (Nat → Nat → Int32) → Prop) : ∀ (x1 : Int32) (x2 : Int32) (y0 : Int32) (f : Nat → Int32) (a : Nat → Nat → Int32) (H : Heap) (locs : List Loc) (ls : Array Slot), vX11_isAs_106 Q x1 x2 y0 f a → hw D [(cI, .int)] q 12 (gM q cI f a) A s H locs → lv_has ls 5 [(0, .ref (q 0)), (1, .int x1), (2, .int x2)] → W p l e (headSpec wsX11_isAs rmX11_isAs).room s m args below meth c H locs 0 0 (MQ below (QMi D q cI Q A) args s 0 0 A) (F0 m 106 ls [.int y0]) := by
  intro x1 x2 y0 f a H locs ls h hW hl
  unfold vX11_isAs_106 at h
  refine lv_istore_n (lv' := [(3, .int y0), (0, .ref (q 0)), (1, .int x1), (2, .int x2)]) C.1 C.2.1 dX11_isAs_106 rfl hl (by decide) rfl (fun ls hl => ?_)
  refine lv_iconst (v := 1) C.1 C.2.1 dX11_isAs_107 (by decide) ?_
  refine lv_istore (lv' := [(4, .int (1 : Int32)), (3, .int y0), (0, .ref (q 0)), (1, .int x1), (2, .int x2)]) C.1 C.2.1 dX11_isAs_108 hl (by decide) rfl (fun ls hl => ?_)
  obtain ⟨n9, h⟩ := h
  exact sX11_isAs_110 C hr hlk Q n9 x1 x2 y0 (1 : Int32) f a _ _ _ h hW (lv_sub hl [2, 3, 4, 1, 0] rfl)
set_option maxRecDepth 100000 in
set_option maxHeartbeats 4000000 in
theorem sX11_isAs_105 {p : Program} {l : Launch} {e : Env} {s : State} {m : MethodId} {args : Array Value} {below : List Frame} {meth : Method} {c : Code} {D : va_G} {q : Nat → Nat} {A : Nat → Prop} {cI : ClassId} (C : CallFix p m c cX11_isAs 5 s args wsX11_isAs RX11) (hr : meth.sig.returnType = (some .boolean)) (hlk : meth.locks = false) (Q : Int32 → (Nat → Int32) → (Nat → Nat → Int32) → Prop) : ∀ (x1 : Int32) (x2 : Int32) (f : Nat → Int32) (a : Nat → Nat → Int32) (H : Heap) (locs : List Loc) (ls : Array Slot), vX11_isAs_105 Q x1 x2 f a → hw D [(cI, .int)] q 12 (gM q cI f a) A s H locs → lv_has ls 5 [(0, .ref (q 0)), (1, .int x1), (2, .int x2)] → W p l e (headSpec wsX11_isAs rmX11_isAs).room s m args below meth c H locs 0 0 (MQ below (QMi D q cI Q A) args s 0 0 A) (F0 m 105 ls []) := by
  intro x1 x2 f a H locs ls h hW hl
  unfold vX11_isAs_105 at h
  refine lv_iconst (v := 0) C.1 C.2.1 dX11_isAs_105 (by decide) ?_
  exact sX11_isAs_106 C hr hlk Q x1 x2 (0 : Int32) f a _ _ _ h hW (lv_sub hl [0, 1, 2] rfl)
set_option maxRecDepth 100000 in
set_option maxHeartbeats 4000000 in
theorem sX11_isAs_58 {p : Program} {l : Launch} {e : Env} {s : State} {m : MethodId} {args : Array Value} {below : List Frame} {meth : Method} {c : Code} {D : va_G} {q : Nat → Nat} {A : Nat → Prop} {cI : ClassId} (C : CallFix p m c cX11_isAs 5 s args wsX11_isAs RX11) (hr : meth.sig.returnType = (some .boolean)) (hlk : meth.locks = false) (Q : Int32 → (Nat → Int32) → (Nat → Nat → Int32) → Prop) : ∀ (x1 : Int32) (x2 : Int32) (y0 : Int32) (f : Nat → Int32) (a : Nat → Nat → Int32) (H : Heap) (locs : List Loc) (ls : Array Slot), vX11_isAs_58 Q x1 x2 y0 f a → hw D [(cI, .int)] q 12 (gM q cI f a) A s H locs → lv_has ls 5 [(0, .ref (q 0)), (1, .int x1), (2, .int x2)] → W p l e (headSpec wsX11_isAs rmX11_isAs).room s m args below meth c H locs 0 0 (MQ below (QMi D q cI Q A) args s 0 0 A) (F0 m 58 ls [.int y0]) := by
  intro x1 x2 y0 f a H locs ls h hW hl
  unfold vX11_isAs_58 at h
  refine lv_istore_n (lv' := [(3, .int y0), (0, .ref (q 0)), (1, .int x1), (2, .int x2)]) C.1 C.2.1 dX11_isAs_58 rfl hl (by decide) rfl (fun ls hl => ?_)
  refine lv_iload_n C.1 C.2.1 dX11_isAs_59 rfl (lv_at hl 0 rfl) ?_
  refine lv_if_eq (tgt := 105) C.1 C.2.1 dX11_isAs_60 (by decide) (fun c4 => ?_) (fun c4 => ?_)
  · replace h := h.1 c4
    exact sX11_isAs_105 C hr hlk Q x1 x2 f a _ _ _ h hW (lv_sub hl [1, 2, 3] rfl)
  · replace h := h.2 c4
    refine lv_aload_n C.1 C.2.1 dX11_isAs_63 rfl (lv_at hl 1 rfl) ?_
    refine r_get C hW (ci := 11) (T := TX11) (n := 21) (ref := "BallMinderModel") (v := .ref (q 6)) 0 (by decide) rfl rfl 11 (by decide) inX11_isAs (by decide +kernel) (fun _ h9 => h9) rfl dX11_isAs_64 ?_
    refine lv_iload_n C.1 C.2.1 dX11_isAs_67 rfl (lv_at hl 2 rfl) ?_
    obtain ⟨hs15, h⟩ := h
    refine r_iald C hW (cA := cI) (n := 602) (f := a 6) 6 0 (by decide) rfl rfl hs15 dX11_isAs_68 ?_
    refine lv_aload_n C.1 C.2.1 dX11_isAs_69 rfl (lv_at hl 1 rfl) ?_
    refine r_get C hW (ci := 11) (T := TX11) (n := 21) (ref := "BallMinderModel") (v := .ref (q 6)) 0 (by decide) rfl rfl 11 (by decide) inX11_isAs (by decide +kernel) (fun _ h9 => h9) rfl dX11_isAs_70 ?_
    refine lv_iload_n C.1 C.2.1 dX11_isAs_73 rfl (lv_at hl 3 rfl) ?_
    obtain ⟨hs16, h⟩ := h
    refine r_iald C hW (cA := cI) (n := 602) (f := a 6) 6 0 (by decide) rfl rfl hs16 dX11_isAs_74 ?_
    refine lv_icmp_ne (tgt := 105) C.1 C.2.1 dX11_isAs_75 (by decide) (fun c17 => ?_) (fun c17 => ?_)
    · replace h := h.1 c17
      exact sX11_isAs_105 C hr hlk Q x1 x2 f a _ _ _ h hW (lv_sub hl [1, 2, 3] rfl)
    · replace h := h.2 c17
      refine lv_aload_n C.1 C.2.1 dX11_isAs_78 rfl (lv_at hl 1 rfl) ?_
      refine r_get C hW (ci := 11) (T := TX11) (n := 21) (ref := "BallMinderModel") (v := .ref (q 6)) 0 (by decide) rfl rfl 11 (by decide) inX11_isAs (by decide +kernel) (fun _ h9 => h9) rfl dX11_isAs_79 ?_
      refine lv_sipush (v := 301) C.1 C.2.1 dX11_isAs_82 (by decide) ?_
      refine lv_iload_n C.1 C.2.1 dX11_isAs_85 rfl (lv_at hl 2 rfl) ?_
      refine lv_iadd C.1 C.2.1 dX11_isAs_86 ?_
      obtain ⟨hs18, h⟩ := h
      refine r_iald C hW (cA := cI) (n := 602) (f := a 6) 6 0 (by decide) rfl rfl hs18 dX11_isAs_87 ?_
      refine lv_aload_n C.1 C.2.1 dX11_isAs_88 rfl (lv_at hl 1 rfl) ?_
      refine r_get C hW (ci := 11) (T := TX11) (n := 21) (ref := "BallMinderModel") (v := .ref (q 6)) 0 (by decide) rfl rfl 11 (by decide) inX11_isAs (by decide +kernel) (fun _ h9 => h9) rfl dX11_isAs_89 ?_
      refine lv_sipush (v := 301) C.1 C.2.1 dX11_isAs_92 (by decide) ?_
      refine lv_iload_n C.1 C.2.1 dX11_isAs_95 rfl (lv_at hl 3 rfl) ?_
      refine lv_iadd C.1 C.2.1 dX11_isAs_96 ?_
      obtain ⟨hs19, h⟩ := h
      refine r_iald C hW (cA := cI) (n := 602) (f := a 6) 6 0 (by decide) rfl rfl hs19 dX11_isAs_97 ?_
      refine lv_icmp_ne (tgt := 105) C.1 C.2.1 dX11_isAs_98 (by decide) (fun c20 => ?_) (fun c20 => ?_)
      · replace h := h.1 c20
        exact sX11_isAs_105 C hr hlk Q x1 x2 f a _ _ _ h hW (lv_sub hl [1, 2, 3] rfl)
      · replace h := h.2 c20
        refine lv_iconst (v := 1) C.1 C.2.1 dX11_isAs_101 (by decide) ?_
        refine lv_goto (tgt := 106) C.1 C.2.1 dX11_isAs_102 (by decide) ?_
        exact sX11_isAs_106 C hr hlk Q x1 x2 (1 : Int32) f a _ _ _ h hW (lv_sub hl [1, 2, 3] rfl)
set_option maxRecDepth 100000 in
set_option maxHeartbeats 4000000 in
theorem sX11_isAs_57 {p : Program} {l : Launch} {e : Env} {s : State} {m : MethodId} {args : Array Value} {below : List Frame} {meth : Method} {c : Code} {D : va_G} {q : Nat → Nat} {A : Nat → Prop} {cI : ClassId} (C : CallFix p m c cX11_isAs 5 s args wsX11_isAs RX11) (hr : meth.sig.returnType = (some .boolean)) (hlk : meth.locks = false) (Q : Int32 → (Nat → Int32) → (Nat → Nat → Int32) → Prop) : ∀ (x1 : Int32) (x2 : Int32) (f : Nat → Int32) (a : Nat → Nat → Int32) (H : Heap) (locs : List Loc) (ls : Array Slot), vX11_isAs_57 Q x1 x2 f a → hw D [(cI, .int)] q 12 (gM q cI f a) A s H locs → lv_has ls 5 [(0, .ref (q 0)), (1, .int x1), (2, .int x2)] → W p l e (headSpec wsX11_isAs rmX11_isAs).room s m args below meth c H locs 0 0 (MQ below (QMi D q cI Q A) args s 0 0 A) (F0 m 57 ls []) := by
  intro x1 x2 f a H locs ls h hW hl
  unfold vX11_isAs_57 at h
  refine lv_iconst (v := 0) C.1 C.2.1 dX11_isAs_57 (by decide) ?_
  exact sX11_isAs_58 C hr hlk Q x1 x2 (0 : Int32) f a _ _ _ h hW (lv_sub hl [0, 1, 2] rfl)
set_option maxRecDepth 100000 in
set_option maxHeartbeats 4000000 in
theorem sX11_isAs {p : Program} {l : Launch} {e : Env} {s : State} {m : MethodId} {args : Array Value} {below : List Frame} {meth : Method} {c : Code} {D : va_G} {q : Nat → Nat} {A : Nat → Prop} {cI : ClassId} (C : CallFix p m c cX11_isAs 5 s args wsX11_isAs RX11) (hr : meth.sig.returnType = (some .boolean)) (hlk : meth.locks = false) (Q : Int32 → (Nat → Int32) → (Nat → Nat → Int32) → Prop) : ∀ (x1 : Int32) (x2 : Int32) (f : Nat → Int32) (a : Nat → Nat → Int32) (H : Heap) (locs : List Loc) (ls : Array Slot), vX11_isAs x1 x2 f a Q → hw D [(cI, .int)] q 12 (gM q cI f a) A s H locs → lv_has ls 5 [(0, .ref (q 0)), (1, .int x1), (2, .int x2)] → W p l e (headSpec wsX11_isAs rmX11_isAs).room s m args below meth c H locs 0 0 (MQ below (QMi D q cI Q A) args s 0 0 A) (F0 m 0 ls []) := by
  intro x1 x2 f a H locs ls h hW hl
  unfold vX11_isAs at h
  refine lv_aload_n C.1 C.2.1 dX11_isAs_0 rfl (lv_at hl 0 rfl) ?_
  refine r_get C hW (ci := 11) (T := TX11) (n := 21) (ref := "BallMinderModel") (v := .ref (q 4)) 0 (by decide) rfl rfl 9 (by decide) inX11_isAs (by decide +kernel) (fun _ h9 => h9) rfl dX11_isAs_1 ?_
  refine lv_iload_n C.1 C.2.1 dX11_isAs_4 rfl (lv_at hl 1 rfl) ?_
  obtain ⟨hs1, h⟩ := h
  refine r_iald C hW (cA := cI) (n := 301) (f := a 4) 4 0 (by decide) rfl rfl hs1 dX11_isAs_5 ?_
  refine lv_aload_n C.1 C.2.1 dX11_isAs_6 rfl (lv_at hl 0 rfl) ?_
  refine r_get C hW (ci := 11) (T := TX11) (n := 21) (ref := "BallMinderModel") (v := .ref (q 4)) 0 (by decide) rfl rfl 9 (by decide) inX11_isAs (by decide +kernel) (fun _ h9 => h9) rfl dX11_isAs_7 ?_
  refine lv_iload_n C.1 C.2.1 dX11_isAs_10 rfl (lv_at hl 2 rfl) ?_
  obtain ⟨hs2, h⟩ := h
  refine r_iald C hW (cA := cI) (n := 301) (f := a 4) 4 0 (by decide) rfl rfl hs2 dX11_isAs_11 ?_
  refine lv_icmp_ne (tgt := 57) C.1 C.2.1 dX11_isAs_12 (by decide) (fun c3 => ?_) (fun c3 => ?_)
  · replace h := h.1 c3
    exact sX11_isAs_57 C hr hlk Q x1 x2 f a _ _ _ h hW (lv_sub hl [0, 1, 2] rfl)
  · replace h := h.2 c3
    refine lv_aload_n C.1 C.2.1 dX11_isAs_15 rfl (lv_at hl 0 rfl) ?_
    refine r_get C hW (ci := 11) (T := TX11) (n := 21) (ref := "BallMinderModel") (v := .ref (q 5)) 0 (by decide) rfl rfl 10 (by decide) inX11_isAs (by decide +kernel) (fun _ h9 => h9) rfl dX11_isAs_16 ?_
    refine lv_iload_n C.1 C.2.1 dX11_isAs_19 rfl (lv_at hl 1 rfl) ?_
    obtain ⟨hs21, h⟩ := h
    refine r_iald C hW (cA := cI) (n := 602) (f := a 5) 5 0 (by decide) rfl rfl hs21 dX11_isAs_20 ?_
    refine lv_aload_n C.1 C.2.1 dX11_isAs_21 rfl (lv_at hl 0 rfl) ?_
    refine r_get C hW (ci := 11) (T := TX11) (n := 21) (ref := "BallMinderModel") (v := .ref (q 5)) 0 (by decide) rfl rfl 10 (by decide) inX11_isAs (by decide +kernel) (fun _ h9 => h9) rfl dX11_isAs_22 ?_
    refine lv_iload_n C.1 C.2.1 dX11_isAs_25 rfl (lv_at hl 2 rfl) ?_
    obtain ⟨hs22, h⟩ := h
    refine r_iald C hW (cA := cI) (n := 602) (f := a 5) 5 0 (by decide) rfl rfl hs22 dX11_isAs_26 ?_
    refine lv_icmp_ne (tgt := 57) C.1 C.2.1 dX11_isAs_27 (by decide) (fun c23 => ?_) (fun c23 => ?_)
    · replace h := h.1 c23
      exact sX11_isAs_57 C hr hlk Q x1 x2 f a _ _ _ h hW (lv_sub hl [0, 1, 2] rfl)
    · replace h := h.2 c23
      refine lv_aload_n C.1 C.2.1 dX11_isAs_30 rfl (lv_at hl 0 rfl) ?_
      refine r_get C hW (ci := 11) (T := TX11) (n := 21) (ref := "BallMinderModel") (v := .ref (q 5)) 0 (by decide) rfl rfl 10 (by decide) inX11_isAs (by decide +kernel) (fun _ h9 => h9) rfl dX11_isAs_31 ?_
      refine lv_sipush (v := 301) C.1 C.2.1 dX11_isAs_34 (by decide) ?_
      refine lv_iload_n C.1 C.2.1 dX11_isAs_37 rfl (lv_at hl 1 rfl) ?_
      refine lv_iadd C.1 C.2.1 dX11_isAs_38 ?_
      obtain ⟨hs24, h⟩ := h
      refine r_iald C hW (cA := cI) (n := 602) (f := a 5) 5 0 (by decide) rfl rfl hs24 dX11_isAs_39 ?_
      refine lv_aload_n C.1 C.2.1 dX11_isAs_40 rfl (lv_at hl 0 rfl) ?_
      refine r_get C hW (ci := 11) (T := TX11) (n := 21) (ref := "BallMinderModel") (v := .ref (q 5)) 0 (by decide) rfl rfl 10 (by decide) inX11_isAs (by decide +kernel) (fun _ h9 => h9) rfl dX11_isAs_41 ?_
      refine lv_sipush (v := 301) C.1 C.2.1 dX11_isAs_44 (by decide) ?_
      refine lv_iload_n C.1 C.2.1 dX11_isAs_47 rfl (lv_at hl 2 rfl) ?_
      refine lv_iadd C.1 C.2.1 dX11_isAs_48 ?_
      obtain ⟨hs25, h⟩ := h
      refine r_iald C hW (cA := cI) (n := 602) (f := a 5) 5 0 (by decide) rfl rfl hs25 dX11_isAs_49 ?_
      refine lv_icmp_ne (tgt := 57) C.1 C.2.1 dX11_isAs_50 (by decide) (fun c26 => ?_) (fun c26 => ?_)
      · replace h := h.1 c26
        exact sX11_isAs_57 C hr hlk Q x1 x2 f a _ _ _ h hW (lv_sub hl [0, 1, 2] rfl)
      · replace h := h.2 c26
        refine lv_iconst (v := 1) C.1 C.2.1 dX11_isAs_53 (by decide) ?_
        refine lv_goto (tgt := 58) C.1 C.2.1 dX11_isAs_54 (by decide) ?_
        exact sX11_isAs_58 C hr hlk Q x1 x2 (1 : Int32) f a _ _ _ h hW (lv_sub hl [0, 1, 2] rfl)
set_option maxRecDepth 100000 in
set_option maxHeartbeats 4000000 in
theorem mtX11_isAs (l : Launch) (D : va_G) (q : Nat → Nat) (cI : ClassId) (sz : Nat) (x1 : Int32) (x2 : Int32) (f : Nat → Int32) (a : Nat → Nat → Int32) (Q : Int32 → (Nat → Int32) → (Nat → Nat → Int32) → Prop) (h : vX11_isAs x1 x2 f a Q) : Met l yX11_isAs wsX11_isAs rmX11_isAs (va_Pc [.ref (q 0), .int x1, .int x2] (mP D [(cI, .int)] q 12 (gM q cI f a) sz tX)) (QMi D q cI Q (aQ q 12 sz)) 0 0 (aQ q 12 sz) := by
  refine met_w (cc := cX11_isAs) (maxL := 5) (ret := (some .boolean)) (by decide) rfl (Nat.le_of_ble_eq_true rfl) ?_
  intro p e s m below meth c ls C hr hlk hW hX hnm hl
  exact sX11_isAs C hr hlk Q x1 x2 f a _ _ _ h hW hl
theorem inX11_goRound : ∀ w ∈ wsX110, w ∈ wsX11_goRound := fun _ h => List.mem_cons_of_mem _ (List.mem_append_right _ h)
abbrev rmX11_goRound : Room := { frames := 4, cells := 0, slots := 0, locals := 97 }
def vX11_goRound_96 (K11 : (Nat → Int32) → (Nat → Nat → Int32) → Prop) (Q : (Nat → Int32) → (Nat → Nat → Int32) → Prop) (f : Nat → Int32) (a : Nat → Nat → Int32) : Prop := K11 f a
def vX11_goRound_87 (K11 : (Nat → Int32) → (Nat → Nat → Int32) → Prop) (K48 : Int32 → (Nat → Int32) → (Nat → Nat → Int32) → Prop) (Q : (Nat → Int32) → (Nat → Nat → Int32) → Prop) (x1 : Int32) (y0 : Int32) (f : Nat → Int32) (a : Nat → Nat → Int32) : Prop := ∀ f14 : Nat → Int32, f14 = va_up f 13 y0 → ∀ x1_15 : Int32, x1_15 = x1 + (1 : Int32) → K48 x1_15 f14 a
def vX11_goRound_48 (K11 : (Nat → Int32) → (Nat → Nat → Int32) → Prop) (Q : (Nat → Int32) → (Nat → Nat → Int32) → Prop) : Nat → Int32 → (Nat → Int32) → (Nat → Nat → Int32) → Prop
  | 0, _, _, _ => False
  | fu+1, x1, f, a => ((f 12) ≤ x1 → vX11_goRound_96 K11 Q f a) ∧ (¬ ((f 12) ≤ x1) → (0 ≤ (f 13) → vX11_goRound_96 K11 Q f a) ∧ (¬ (0 ≤ (f 13)) → vX11_isAs (f 12) x1 f a (fun r10 f11 a12 => (r10 = 0 → vX11_goRound_87 K11 (vX11_goRound_48 K11 Q fu) Q x1 (-9 : Int32) f11 a12) ∧ (¬ (r10 = 0) → vX11_goRound_87 K11 (vX11_goRound_48 K11 Q fu) Q x1 ((f11 12) - x1) f11 a12))))
def vX11_goRound_11 (Q : (Nat → Int32) → (Nat → Nat → Int32) → Prop) : Nat → (Nat → Int32) → (Nat → Nat → Int32) → Prop
  | 0, _, _ => False
  | fu+1, f, a => ((300 : Int32) ≤ (f 12) → Q f a) ∧ (¬ ((300 : Int32) ≤ (f 12)) → (0 ≤ (f 13) → Q f a) ∧ (¬ (0 ≤ (f 13)) → vX11_stepOn (f 12) f a (fun f5 a6 => ∀ f7 : Nat → Int32, f7 = va_up f5 12 ((f5 12) + (1 : Int32)) → ∃ n48, vX11_goRound_48 (vX11_goRound_11 Q fu) Q n48 (0 : Int32) f7 a6)))
def vX11_goRound (f : Nat → Int32) (a : Nat → Nat → Int32) (Q : (Nat → Int32) → (Nat → Nat → Int32) → Prop) : Prop := ∀ f1 : Nat → Int32, f1 = va_up f 13 (-9 : Int32) → ∀ f2 : Nat → Int32, f2 = va_up f1 12 (0 : Int32) → ∃ n11, vX11_goRound_11 Q n11 f2 a
set_option maxRecDepth 100000 in
set_option maxHeartbeats 4000000 in
theorem sX11_goRound_96 {p : Program} {l : Launch} {e : Env} {s : State} {m : MethodId} {args : Array Value} {below : List Frame} {meth : Method} {c : Code} {D : va_G} {q : Nat → Nat} {A : Nat → Prop} {cI : ClassId} (C : CallFix p m c cX11_goRound 2 s args wsX11_goRound RX11) (hr : meth.sig.returnType = none) (hlk : meth.locks = false) (Q : (Nat → Int32) → (Nat → Nat → Int32) → Prop) (K11 : (Nat → Int32) → (Nat → Nat → Int32) → Prop) (hK11 : ∀ (f : Nat → Int32) (a : Nat → Nat → Int32) (H : Heap) (locs : List Loc) (ls : Array Slot), K11 f a → hw D [(cI, .int)] q 12 (gM q cI f a) A s H locs → lv_has ls 2 [(0, .ref (q 0))] → W p l e (headSpec wsX11_goRound rmX11_goRound).room s m args below meth c H locs 0 0 (MQ below (QMv D q cI Q A) args s 0 0 A) (F0 m 11 ls [])) : ∀ (f : Nat → Int32) (a : Nat → Nat → Int32) (H : Heap) (locs : List Loc) (ls : Array Slot), vX11_goRound_96 K11 Q f a → hw D [(cI, .int)] q 12 (gM q cI f a) A s H locs → lv_has ls 2 [(0, .ref (q 0))] → W p l e (headSpec wsX11_goRound rmX11_goRound).room s m args below meth c H locs 0 0 (MQ below (QMv D q cI Q A) args s 0 0 A) (F0 m 96 ls []) := by
  intro f a H locs ls h hW hl
  unfold vX11_goRound_96 at h
  refine lv_goto (tgt := 11) C.1 C.2.1 dX11_goRound_96 (by decide) ?_
  exact hK11 f a _ _ _ h hW (lv_sub hl [0] rfl)
set_option maxRecDepth 100000 in
set_option maxHeartbeats 4000000 in
theorem sX11_goRound_87 {p : Program} {l : Launch} {e : Env} {s : State} {m : MethodId} {args : Array Value} {below : List Frame} {meth : Method} {c : Code} {D : va_G} {q : Nat → Nat} {A : Nat → Prop} {cI : ClassId} (C : CallFix p m c cX11_goRound 2 s args wsX11_goRound RX11) (hr : meth.sig.returnType = none) (hlk : meth.locks = false) (Q : (Nat → Int32) → (Nat → Nat → Int32) → Prop) (K11 : (Nat → Int32) → (Nat → Nat → Int32) → Prop) (hK11 : ∀ (f : Nat → Int32) (a : Nat → Nat → Int32) (H : Heap) (locs : List Loc) (ls : Array Slot), K11 f a → hw D [(cI, .int)] q 12 (gM q cI f a) A s H locs → lv_has ls 2 [(0, .ref (q 0))] → W p l e (headSpec wsX11_goRound rmX11_goRound).room s m args below meth c H locs 0 0 (MQ below (QMv D q cI Q A) args s 0 0 A) (F0 m 11 ls [])) (K48 : Int32 → (Nat → Int32) → (Nat → Nat → Int32) → Prop) (hK48 : ∀ (x1 : Int32) (f : Nat → Int32) (a : Nat → Nat → Int32) (H : Heap) (locs : List Loc) (ls : Array Slot), K48 x1 f a → hw D [(cI, .int)] q 12 (gM q cI f a) A s H locs → lv_has ls 2 [(0, .ref (q 0)), (1, .int x1)] → W p l e (headSpec wsX11_goRound rmX11_goRound).room s m args below meth c H locs 0 0 (MQ below (QMv D q cI Q A) args s 0 0 A) (F0 m 48 ls [])) : ∀ (x1 : Int32) (y0 : Int32) (f : Nat → Int32) (a : Nat → Nat → Int32) (H : Heap) (locs : List Loc) (ls : Array Slot), vX11_goRound_87 K11 K48 Q x1 y0 f a → hw D [(cI, .int)] q 12 (gM q cI f a) A s H locs → lv_has ls 2 [(0, .ref (q 0)), (1, .int x1)] → W p l e (headSpec wsX11_goRound rmX11_goRound).room s m args below meth c H locs 0 0 (MQ below (QMv D q cI Q A) args s 0 0 A) (F0 m 87 ls [.int y0, .ref (q 0)]) := by
  intro x1 y0 f a H locs ls h hW hl
  unfold vX11_goRound_87 at h
  refine r_put C hW (ci := 11) (T := TX11) (n := 21) (ref := "BallMinderModel") 0 (by decide) rfl rfl 13 (by decide) inX11_goRound tyX11 tyX11_ok nmX11 (by decide +kernel) (fun _ h9 => h9) rfl rfl rfl (Nat.le_of_ble_eq_true rfl) dX11_goRound_87 (fun H locs hW => ?_)
  replace hW := gM_put (k := 13) rfl hW
  obtain ⟨f14, ef14⟩ : ∃ z : Nat → Int32, z = va_up f 13 y0 := ⟨_, rfl⟩
  rw [← ef14] at hW
  replace h := h f14 ef14
  obtain ⟨x1_15, ex1_15⟩ : ∃ z : Int32, z = x1 + (1 : Int32) := ⟨_, rfl⟩
  replace h := h x1_15 ex1_15
  refine lv_iinc (v := x1_15) (lv' := [(1, .int x1_15), (0, .ref (q 0))]) C.1 C.2.1 dX11_goRound_90 hl (k := 1) rfl (by rw [ex1_15]; rfl) (by decide) rfl (fun ls hl => ?_)
  refine lv_goto (tgt := 48) C.1 C.2.1 dX11_goRound_93 (by decide) ?_
  exact hK48 x1_15 f14 a _ _ _ h hW (lv_sub hl [1, 0] rfl)
set_option maxRecDepth 100000 in
set_option maxHeartbeats 4000000 in
theorem sX11_goRound_48 {p : Program} {l : Launch} {e : Env} {s : State} {m : MethodId} {args : Array Value} {below : List Frame} {meth : Method} {c : Code} {D : va_G} {q : Nat → Nat} {A : Nat → Prop} {cI : ClassId} (C : CallFix p m c cX11_goRound 2 s args wsX11_goRound RX11) (hr : meth.sig.returnType = none) (hlk : meth.locks = false) (Q : (Nat → Int32) → (Nat → Nat → Int32) → Prop) (K11 : (Nat → Int32) → (Nat → Nat → Int32) → Prop) (hK11 : ∀ (f : Nat → Int32) (a : Nat → Nat → Int32) (H : Heap) (locs : List Loc) (ls : Array Slot), K11 f a → hw D [(cI, .int)] q 12 (gM q cI f a) A s H locs → lv_has ls 2 [(0, .ref (q 0))] → W p l e (headSpec wsX11_goRound rmX11_goRound).room s m args below meth c H locs 0 0 (MQ below (QMv D q cI Q A) args s 0 0 A) (F0 m 11 ls [])) : ∀ (fu : Nat) (x1 : Int32) (f : Nat → Int32) (a : Nat → Nat → Int32) (H : Heap) (locs : List Loc) (ls : Array Slot), vX11_goRound_48 K11 Q fu x1 f a → hw D [(cI, .int)] q 12 (gM q cI f a) A s H locs → lv_has ls 2 [(0, .ref (q 0)), (1, .int x1)] → W p l e (headSpec wsX11_goRound rmX11_goRound).room s m args below meth c H locs 0 0 (MQ below (QMv D q cI Q A) args s 0 0 A) (F0 m 48 ls []) := by
  intro fu
  induction fu with
  | zero =>
    intro x1 f a H locs ls h
    exact h.elim
  | succ fu ih =>
    intro x1 f a H locs ls h hW hl
    refine lv_iload_n C.1 C.2.1 dX11_goRound_48 rfl (lv_at hl 1 rfl) ?_
    refine lv_aload_n C.1 C.2.1 dX11_goRound_49 rfl (lv_at hl 0 rfl) ?_
    refine r_get C hW (ci := 11) (T := TX11) (n := 21) (ref := "BallMinderModel") (v := .int (f 12)) 0 (by decide) rfl rfl 12 (by decide) inX11_goRound (by decide +kernel) (fun _ h9 => h9) rfl dX11_goRound_50 ?_
    refine lv_icmp_ge (tgt := 96) C.1 C.2.1 dX11_goRound_53 (by decide) (fun c8 => ?_) (fun c8 => ?_)
    · replace h := h.1 c8
      exact sX11_goRound_96 C hr hlk Q K11 hK11 f a _ _ _ h hW (lv_sub hl [0] rfl)
    · replace h := h.2 c8
      refine lv_aload_n C.1 C.2.1 dX11_goRound_56 rfl (lv_at hl 0 rfl) ?_
      refine r_get C hW (ci := 11) (T := TX11) (n := 21) (ref := "BallMinderModel") (v := .int (f 13)) 0 (by decide) rfl rfl 13 (by decide) inX11_goRound (by decide +kernel) (fun _ h9 => h9) rfl dX11_goRound_57 ?_
      refine lv_if_ge (tgt := 96) C.1 C.2.1 dX11_goRound_60 (by decide) (fun c9 => ?_) (fun c9 => ?_)
      · replace h := h.1 c9
        exact sX11_goRound_96 C hr hlk Q K11 hK11 f a _ _ _ h hW (lv_sub hl [0] rfl)
      · replace h := h.2 c9
        refine lv_aload_n C.1 C.2.1 dX11_goRound_63 rfl (lv_at hl 0 rfl) ?_
        refine lv_aload_n C.1 C.2.1 dX11_goRound_64 rfl (lv_at hl 0 rfl) ?_
        refine lv_aload_n C.1 C.2.1 dX11_goRound_65 rfl (lv_at hl 0 rfl) ?_
        refine r_get C hW (ci := 11) (T := TX11) (n := 21) (ref := "BallMinderModel") (v := .int (f 12)) 0 (by decide) rfl rfl 12 (by decide) inX11_goRound (by decide +kernel) (fun _ h9 => h9) rfl dX11_goRound_66 ?_
        refine lv_iload_n C.1 C.2.1 dX11_goRound_69 rfl (lv_at hl 1 rfl) ?_
        refine k_i hW (va_runV (As := [.int (f 12), .int x1]) (rest := [.ref (q 0)]) C (mtX11_isAs l D q cI H.size (f 12) x1 f a _ h) (cwV 2 C.2.2.2.2 gX11_goRound_X11_isAs rfl rfl rfl (by decide +kernel) ⟨Nat.le_of_ble_eq_true rfl, Nat.le_of_ble_eq_true rfl⟩) ⟨mP_blind tX_B, va_recv hW.1 hW.2.1 (ci := 11) (q0 := 0) rfl (wL_get (by decide)), fun U hU hV => ⟨rfl, hW.pre hU hV trivial⟩⟩ rfl rfl hl.1 rfl (lv_room (Nat.le_of_ble_eq_true rfl)) dX11_goRound_70 ⟨Nat.zero_le _, Nat.zero_le _⟩) (fun r10 u H locs h hW => ?_)
        obtain ⟨f11, a12⟩ := u
        replace hW : hw D [(cI, .int)] q 12 (gM q cI f11 a12) A s H locs := hW
        refine lv_if_eq (tgt := 85) C.1 C.2.1 dX11_goRound_73 (by decide) (fun c13 => ?_) (fun c13 => ?_)
        · replace h := h.1 c13
          refine lv_bipush (v := -9) C.1 C.2.1 dX11_goRound_85 (by decide) ?_
          exact sX11_goRound_87 C hr hlk Q K11 hK11 _ ih x1 (-9 : Int32) f11 a12 _ _ _ h hW (lv_sub hl [0, 1] rfl)
        · replace h := h.2 c13
          refine lv_aload_n C.1 C.2.1 dX11_goRound_76 rfl (lv_at hl 0 rfl) ?_
          refine r_get C hW (ci := 11) (T := TX11) (n := 21) (ref := "BallMinderModel") (v := .int (f11 12)) 0 (by decide) rfl rfl 12 (by decide) inX11_goRound (by decide +kernel) (fun _ h9 => h9) rfl dX11_goRound_77 ?_
          refine lv_iload_n C.1 C.2.1 dX11_goRound_80 rfl (lv_at hl 1 rfl) ?_
          refine lv_isub C.1 C.2.1 dX11_goRound_81 ?_
          refine lv_goto (tgt := 87) C.1 C.2.1 dX11_goRound_82 (by decide) ?_
          exact sX11_goRound_87 C hr hlk Q K11 hK11 _ ih x1 ((f11 12) - x1) f11 a12 _ _ _ h hW (lv_sub hl [0, 1] rfl)
set_option maxRecDepth 100000 in
set_option maxHeartbeats 4000000 in
theorem sX11_goRound_11 {p : Program} {l : Launch} {e : Env} {s : State} {m : MethodId} {args : Array Value} {below : List Frame} {meth : Method} {c : Code} {D : va_G} {q : Nat → Nat} {A : Nat → Prop} {cI : ClassId} (C : CallFix p m c cX11_goRound 2 s args wsX11_goRound RX11) (hr : meth.sig.returnType = none) (hlk : meth.locks = false) (Q : (Nat → Int32) → (Nat → Nat → Int32) → Prop) : ∀ (fu : Nat) (f : Nat → Int32) (a : Nat → Nat → Int32) (H : Heap) (locs : List Loc) (ls : Array Slot), vX11_goRound_11 Q fu f a → hw D [(cI, .int)] q 12 (gM q cI f a) A s H locs → lv_has ls 2 [(0, .ref (q 0))] → W p l e (headSpec wsX11_goRound rmX11_goRound).room s m args below meth c H locs 0 0 (MQ below (QMv D q cI Q A) args s 0 0 A) (F0 m 11 ls []) := by
  intro fu
  induction fu with
  | zero =>
    intro f a H locs ls h
    exact h.elim
  | succ fu ih =>
    intro f a H locs ls h hW hl
    refine lv_aload_n C.1 C.2.1 dX11_goRound_11 rfl (lv_at hl 0 rfl) ?_
    refine r_get C hW (ci := 11) (T := TX11) (n := 21) (ref := "BallMinderModel") (v := .int (f 12)) 0 (by decide) rfl rfl 12 (by decide) inX11_goRound (by decide +kernel) (fun _ h9 => h9) rfl dX11_goRound_12 ?_
    refine lv_sipush (v := 300) C.1 C.2.1 dX11_goRound_15 (by decide) ?_
    refine lv_icmp_ge (tgt := 99) C.1 C.2.1 dX11_goRound_18 (by decide) (fun c3 => ?_) (fun c3 => ?_)
    · replace h := h.1 c3
      exact t_v C hr hlk (u := (f, a)) hW.2.2.2.1 hW.B h dX11_goRound_99
    · replace h := h.2 c3
      refine lv_aload_n C.1 C.2.1 dX11_goRound_21 rfl (lv_at hl 0 rfl) ?_
      refine r_get C hW (ci := 11) (T := TX11) (n := 21) (ref := "BallMinderModel") (v := .int (f 13)) 0 (by decide) rfl rfl 13 (by decide) inX11_goRound (by decide +kernel) (fun _ h9 => h9) rfl dX11_goRound_22 ?_
      refine lv_if_ge (tgt := 99) C.1 C.2.1 dX11_goRound_25 (by decide) (fun c4 => ?_) (fun c4 => ?_)
      · replace h := h.1 c4
        exact t_v C hr hlk (u := (f, a)) hW.2.2.2.1 hW.B h dX11_goRound_99
      · replace h := h.2 c4
        refine lv_aload_n C.1 C.2.1 dX11_goRound_28 rfl (lv_at hl 0 rfl) ?_
        refine lv_aload_n C.1 C.2.1 dX11_goRound_29 rfl (lv_at hl 0 rfl) ?_
        refine r_get C hW (ci := 11) (T := TX11) (n := 21) (ref := "BallMinderModel") (v := .int (f 12)) 0 (by decide) rfl rfl 12 (by decide) inX11_goRound (by decide +kernel) (fun _ h9 => h9) rfl dX11_goRound_30 ?_
        refine k_v hW (va_runV (As := [.int (f 12)]) (rest := []) C (mtX11_stepOn l D q cI H.size (f 12) f a _ h) (cwV 1 C.2.2.2.2 gX11_goRound_X11_stepOn rfl rfl rfl (by decide +kernel) ⟨Nat.le_of_ble_eq_true rfl, Nat.le_of_ble_eq_true rfl⟩) ⟨mP_blind tX_B, va_recv hW.1 hW.2.1 (ci := 11) (q0 := 0) rfl (wL_get (by decide)), fun U hU hV => ⟨rfl, hW.pre hU hV trivial⟩⟩ rfl rfl hl.1 rfl (lv_room (Nat.le_of_ble_eq_true rfl)) dX11_goRound_33 ⟨Nat.zero_le _, Nat.zero_le _⟩) (fun u H locs h hW => ?_)
        obtain ⟨f5, a6⟩ := u
        replace hW : hw D [(cI, .int)] q 12 (gM q cI f5 a6) A s H locs := hW
        refine lv_aload_n C.1 C.2.1 dX11_goRound_36 rfl (lv_at hl 0 rfl) ?_
        refine lv_dup C.1 C.2.1 dX11_goRound_37 rfl ?_
        refine r_get C hW (ci := 11) (T := TX11) (n := 21) (ref := "BallMinderModel") (v := .int (f5 12)) 0 (by decide) rfl rfl 12 (by decide) inX11_goRound (by decide +kernel) (fun _ h9 => h9) rfl dX11_goRound_38 ?_
        refine lv_iconst (v := 1) C.1 C.2.1 dX11_goRound_41 (by decide) ?_
        refine lv_iadd C.1 C.2.1 dX11_goRound_42 ?_
        refine r_put C hW (ci := 11) (T := TX11) (n := 21) (ref := "BallMinderModel") 0 (by decide) rfl rfl 12 (by decide) inX11_goRound tyX11 tyX11_ok nmX11 (by decide +kernel) (fun _ h9 => h9) rfl rfl rfl (Nat.le_of_ble_eq_true rfl) dX11_goRound_43 (fun H locs hW => ?_)
        replace hW := gM_put (k := 12) rfl hW
        obtain ⟨f7, ef7⟩ : ∃ z : Nat → Int32, z = va_up f5 12 ((f5 12) + (1 : Int32)) := ⟨_, rfl⟩
        rw [← ef7] at hW
        replace h := h f7 ef7
        refine lv_iconst (v := 0) C.1 C.2.1 dX11_goRound_46 (by decide) ?_
        refine lv_istore_n (lv' := [(1, .int (0 : Int32)), (0, .ref (q 0))]) C.1 C.2.1 dX11_goRound_47 rfl hl (by decide) rfl (fun ls hl => ?_)
        obtain ⟨n9, h⟩ := h
        exact sX11_goRound_48 C hr hlk Q _ ih n9 (0 : Int32) f7 a6 _ _ _ h hW (lv_sub hl [1, 0] rfl)
set_option maxRecDepth 100000 in
set_option maxHeartbeats 4000000 in
theorem sX11_goRound {p : Program} {l : Launch} {e : Env} {s : State} {m : MethodId} {args : Array Value} {below : List Frame} {meth : Method} {c : Code} {D : va_G} {q : Nat → Nat} {A : Nat → Prop} {cI : ClassId} (C : CallFix p m c cX11_goRound 2 s args wsX11_goRound RX11) (hr : meth.sig.returnType = none) (hlk : meth.locks = false) (Q : (Nat → Int32) → (Nat → Nat → Int32) → Prop) : ∀ (f : Nat → Int32) (a : Nat → Nat → Int32) (H : Heap) (locs : List Loc) (ls : Array Slot), vX11_goRound f a Q → hw D [(cI, .int)] q 12 (gM q cI f a) A s H locs → lv_has ls 2 [(0, .ref (q 0))] → W p l e (headSpec wsX11_goRound rmX11_goRound).room s m args below meth c H locs 0 0 (MQ below (QMv D q cI Q A) args s 0 0 A) (F0 m 0 ls []) := by
  intro f a H locs ls h hW hl
  unfold vX11_goRound at h
  refine lv_aload_n C.1 C.2.1 dX11_goRound_0 rfl (lv_at hl 0 rfl) ?_
  refine lv_bipush (v := -9) C.1 C.2.1 dX11_goRound_1 (by decide) ?_
  refine r_put C hW (ci := 11) (T := TX11) (n := 21) (ref := "BallMinderModel") 0 (by decide) rfl rfl 13 (by decide) inX11_goRound tyX11 tyX11_ok nmX11 (by decide +kernel) (fun _ h9 => h9) rfl rfl rfl (Nat.le_of_ble_eq_true rfl) dX11_goRound_3 (fun H locs hW => ?_)
  replace hW := gM_put (k := 13) rfl hW
  obtain ⟨f1, ef1⟩ : ∃ z : Nat → Int32, z = va_up f 13 (-9 : Int32) := ⟨_, rfl⟩
  rw [← ef1] at hW
  replace h := h f1 ef1
  refine lv_aload_n C.1 C.2.1 dX11_goRound_6 rfl (lv_at hl 0 rfl) ?_
  refine lv_iconst (v := 0) C.1 C.2.1 dX11_goRound_7 (by decide) ?_
  refine r_put C hW (ci := 11) (T := TX11) (n := 21) (ref := "BallMinderModel") 0 (by decide) rfl rfl 12 (by decide) inX11_goRound tyX11 tyX11_ok nmX11 (by decide +kernel) (fun _ h9 => h9) rfl rfl rfl (Nat.le_of_ble_eq_true rfl) dX11_goRound_8 (fun H locs hW => ?_)
  replace hW := gM_put (k := 12) rfl hW
  obtain ⟨f2, ef2⟩ : ∃ z : Nat → Int32, z = va_up f1 12 (0 : Int32) := ⟨_, rfl⟩
  rw [← ef2] at hW
  replace h := h f2 ef2
  obtain ⟨n9, h⟩ := h
  exact sX11_goRound_11 C hr hlk Q n9 f2 a _ _ _ h hW (lv_sub hl [0] rfl)
set_option maxRecDepth 100000 in
set_option maxHeartbeats 4000000 in
theorem mtX11_goRound (l : Launch) (D : va_G) (q : Nat → Nat) (cI : ClassId) (sz : Nat) (f : Nat → Int32) (a : Nat → Nat → Int32) (Q : (Nat → Int32) → (Nat → Nat → Int32) → Prop) (h : vX11_goRound f a Q) : Met l yX11_goRound wsX11_goRound rmX11_goRound (va_Pc [.ref (q 0)] (mP D [(cI, .int)] q 12 (gM q cI f a) sz tX)) (QMv D q cI Q (aQ q 12 sz)) 0 0 (aQ q 12 sz) := by
  refine met_w (cc := cX11_goRound) (maxL := 2) (ret := none) (by decide) rfl (Nat.le_of_ble_eq_true rfl) ?_
  intro p e s m below meth c ls C hr hlk hW hX hnm hl
  exact sX11_goRound C hr hlk Q f a _ _ _ h hW hl
