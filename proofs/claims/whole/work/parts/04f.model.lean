theorem inX11_extreme : ∀ w ∈ wsX110, w ∈ wsX11_extreme := fun _ h => List.mem_cons_of_mem _ (List.mem_append_right _ h)
abbrev rmX11_extreme : Room := { frames := 0, cells := 0, slots := 0, locals := 0 }
def vX11_extreme_69 (K9 : Int32 → Int32 → Int32 → (Nat → Int32) → (Nat → Nat → Int32) → Prop) (Q : Int32 → (Nat → Int32) → (Nat → Nat → Int32) → Prop) (x1 : Int32) (x3 : Int32) (y0 : Int32) (f : Nat → Int32) (a : Nat → Nat → Int32) : Prop := ∀ x3_8 : Int32, x3_8 = x3 + (1 : Int32) → K9 x1 y0 x3_8 f a
def vX11_extreme_68 (K9 : Int32 → Int32 → Int32 → (Nat → Int32) → (Nat → Nat → Int32) → Prop) (Q : Int32 → (Nat → Int32) → (Nat → Nat → Int32) → Prop) (x1 : Int32) (x2 : Int32) (x3 : Int32) (f : Nat → Int32) (a : Nat → Nat → Int32) : Prop := vX11_extreme_69 K9 Q x1 x3 x2 f a
def vX11_extreme_56 (K9 : Int32 → Int32 → Int32 → (Nat → Int32) → (Nat → Nat → Int32) → Prop) (Q : Int32 → (Nat → Int32) → (Nat → Nat → Int32) → Prop) (x1 : Int32) (x2 : Int32) (x3 : Int32) (y0 : Int32) (y1 : Int32) (f : Nat → Int32) (a : Nat → Nat → Int32) : Prop := (¬ y1 = y0 → vX11_extreme_68 K9 Q x1 x2 x3 f a) ∧ (y1 = y0 → vp_in x3 301 ∧ (vX11_extreme_69 K9 Q x1 x3 (a 4 x3.toNatClampNeg) f a))
def vX11_extreme_32 (K9 : Int32 → Int32 → Int32 → (Nat → Int32) → (Nat → Nat → Int32) → Prop) (Q : Int32 → (Nat → Int32) → (Nat → Nat → Int32) → Prop) (x1 : Int32) (x2 : Int32) (x3 : Int32) (y0 : Int32) (f : Nat → Int32) (a : Nat → Nat → Int32) : Prop := vp_in x3 301 ∧ (((a 4 x3.toNatClampNeg) = x2 → vX11_extreme_68 K9 Q x1 x2 x3 f a) ∧ (¬ ((a 4 x3.toNatClampNeg) = x2) → (¬ x1 = (3 : Int32) → vX11_extreme_56 K9 Q x1 x2 x3 (0 : Int32) y0 f a) ∧ (x1 = (3 : Int32) → vX11_extreme_56 K9 Q x1 x2 x3 (1 : Int32) y0 f a)))
def vX11_extreme_9 (Q : Int32 → (Nat → Int32) → (Nat → Nat → Int32) → Prop) : Nat → Int32 → Int32 → Int32 → (Nat → Int32) → (Nat → Nat → Int32) → Prop
  | 0, _, _, _, _, _ => False
  | fu+1, x1, x2, x3, f, a => ((f 12) < x3 → Q x2 f a) ∧ (¬ ((f 12) < x3) → vp_in x3 301 ∧ ((x2 ≤ (a 4 x3.toNatClampNeg) → vX11_extreme_32 (vX11_extreme_9 Q fu) Q x1 x2 x3 (0 : Int32) f a) ∧ (¬ (x2 ≤ (a 4 x3.toNatClampNeg)) → vX11_extreme_32 (vX11_extreme_9 Q fu) Q x1 x2 x3 (1 : Int32) f a)))
def vX11_extreme (x1 : Int32) (f : Nat → Int32) (a : Nat → Nat → Int32) (Q : Int32 → (Nat → Int32) → (Nat → Nat → Int32) → Prop) : Prop := vp_in (0 : Int32) 301 ∧ (∀ x2_2 : Int32, x2_2 = a 4 (0 : Int32).toNatClampNeg → ∃ n9, vX11_extreme_9 Q n9 x1 x2_2 (1 : Int32) f a)
set_option maxRecDepth 100000 in
set_option maxHeartbeats 4000000 in
theorem sX11_extreme_69 {p : Program} {l : Launch} {e : Env} {s : State} {m : MethodId} {args : Array Value} {below : List Frame} {meth : Method} {c : Code} {D : va_G} {q : Nat → Nat} {A : Nat → Prop} {cI : ClassId} (C : CallFix p m c cX11_extreme 5 s args wsX11_extreme RX11) (hr : meth.sig.returnType = (some .int)) (hlk : meth.locks = false) (Q : Int32 → (Nat → Int32) → (Nat → Nat → Int32) → Prop) (K9 : Int32 → Int32 → Int32 → (Nat → Int32) → (Nat → Nat → Int32) → Prop) (hK9 : ∀ (x1 : Int32) (x2 : Int32) (x3 : Int32) (f : Nat → Int32) (a : Nat → Nat → Int32) (H : Heap) (locs : List Loc) (ls : Array Slot), K9 x1 x2 x3 f a → hw D [(cI, .int)] q 12 (gM q cI f a) A s H locs → lv_has ls 5 [(0, .ref (q 0)), (1, .int x1), (2, .int x2), (3, .int x3)] → W p l e (headSpec wsX11_extreme rmX11_extreme).room s m args below meth c H locs 0 0 (MQ below (QMi D q cI Q A) args s 0 0 A) (F0 m 9 ls [])) : ∀ (x1 : Int32) (x3 : Int32) (y0 : Int32) (f : Nat → Int32) (a : Nat → Nat → Int32) (H : Heap) (locs : List Loc) (ls : Array Slot), vX11_extreme_69 K9 Q x1 x3 y0 f a → hw D [(cI, .int)] q 12 (gM q cI f a) A s H locs → lv_has ls 5 [(0, .ref (q 0)), (1, .int x1), (3, .int x3)] → W p l e (headSpec wsX11_extreme rmX11_extreme).room s m args below meth c H locs 0 0 (MQ below (QMi D q cI Q A) args s 0 0 A) (F0 m 69 ls [.int y0]) := by
  intro x1 x3 y0 f a H locs ls h hW hl
  unfold vX11_extreme_69 at h
  refine lv_istore_n (lv' := [(2, .int y0), (0, .ref (q 0)), (1, .int x1), (3, .int x3)]) C.1 C.2.1 dX11_extreme_69 rfl hl (by decide) rfl (fun ls hl => ?_)
  obtain ⟨x3_8, ex3_8⟩ : ∃ z : Int32, z = x3 + (1 : Int32) := ⟨_, rfl⟩
  replace h := h x3_8 ex3_8
  refine lv_iinc (v := x3_8) (lv' := [(3, .int x3_8), (2, .int y0), (0, .ref (q 0)), (1, .int x1)]) C.1 C.2.1 dX11_extreme_70 hl (k := 3) rfl (by rw [ex3_8]; rfl) (by decide) rfl (fun ls hl => ?_)
  refine lv_goto (tgt := 9) C.1 C.2.1 dX11_extreme_73 (by decide) ?_
  exact hK9 x1 y0 x3_8 f a _ _ _ h hW (lv_sub hl [2, 3, 1, 0] rfl)
set_option maxRecDepth 100000 in
set_option maxHeartbeats 4000000 in
theorem sX11_extreme_68 {p : Program} {l : Launch} {e : Env} {s : State} {m : MethodId} {args : Array Value} {below : List Frame} {meth : Method} {c : Code} {D : va_G} {q : Nat → Nat} {A : Nat → Prop} {cI : ClassId} (C : CallFix p m c cX11_extreme 5 s args wsX11_extreme RX11) (hr : meth.sig.returnType = (some .int)) (hlk : meth.locks = false) (Q : Int32 → (Nat → Int32) → (Nat → Nat → Int32) → Prop) (K9 : Int32 → Int32 → Int32 → (Nat → Int32) → (Nat → Nat → Int32) → Prop) (hK9 : ∀ (x1 : Int32) (x2 : Int32) (x3 : Int32) (f : Nat → Int32) (a : Nat → Nat → Int32) (H : Heap) (locs : List Loc) (ls : Array Slot), K9 x1 x2 x3 f a → hw D [(cI, .int)] q 12 (gM q cI f a) A s H locs → lv_has ls 5 [(0, .ref (q 0)), (1, .int x1), (2, .int x2), (3, .int x3)] → W p l e (headSpec wsX11_extreme rmX11_extreme).room s m args below meth c H locs 0 0 (MQ below (QMi D q cI Q A) args s 0 0 A) (F0 m 9 ls [])) : ∀ (x1 : Int32) (x2 : Int32) (x3 : Int32) (f : Nat → Int32) (a : Nat → Nat → Int32) (H : Heap) (locs : List Loc) (ls : Array Slot), vX11_extreme_68 K9 Q x1 x2 x3 f a → hw D [(cI, .int)] q 12 (gM q cI f a) A s H locs → lv_has ls 5 [(0, .ref (q 0)), (1, .int x1), (2, .int x2), (3, .int x3)] → W p l e (headSpec wsX11_extreme rmX11_extreme).room s m args below meth c H locs 0 0 (MQ below (QMi D q cI Q A) args s 0 0 A) (F0 m 68 ls []) := by
  intro x1 x2 x3 f a H locs ls h hW hl
  unfold vX11_extreme_68 at h
  refine lv_iload_n C.1 C.2.1 dX11_extreme_68 rfl (lv_at hl 2 rfl) ?_
  exact sX11_extreme_69 C hr hlk Q K9 hK9 x1 x3 x2 f a _ _ _ h hW (lv_sub hl [0, 1, 3] rfl)
set_option maxRecDepth 100000 in
set_option maxHeartbeats 4000000 in
theorem sX11_extreme_56 {p : Program} {l : Launch} {e : Env} {s : State} {m : MethodId} {args : Array Value} {below : List Frame} {meth : Method} {c : Code} {D : va_G} {q : Nat → Nat} {A : Nat → Prop} {cI : ClassId} (C : CallFix p m c cX11_extreme 5 s args wsX11_extreme RX11) (hr : meth.sig.returnType = (some .int)) (hlk : meth.locks = false) (Q : Int32 → (Nat → Int32) → (Nat → Nat → Int32) → Prop) (K9 : Int32 → Int32 → Int32 → (Nat → Int32) → (Nat → Nat → Int32) → Prop) (hK9 : ∀ (x1 : Int32) (x2 : Int32) (x3 : Int32) (f : Nat → Int32) (a : Nat → Nat → Int32) (H : Heap) (locs : List Loc) (ls : Array Slot), K9 x1 x2 x3 f a → hw D [(cI, .int)] q 12 (gM q cI f a) A s H locs → lv_has ls 5 [(0, .ref (q 0)), (1, .int x1), (2, .int x2), (3, .int x3)] → W p l e (headSpec wsX11_extreme rmX11_extreme).room s m args below meth c H locs 0 0 (MQ below (QMi D q cI Q A) args s 0 0 A) (F0 m 9 ls [])) : ∀ (x1 : Int32) (x2 : Int32) (x3 : Int32) (y0 : Int32) (y1 : Int32) (f : Nat → Int32) (a : Nat → Nat → Int32) (H : Heap) (locs : List Loc) (ls : Array Slot), vX11_extreme_56 K9 Q x1 x2 x3 y0 y1 f a → hw D [(cI, .int)] q 12 (gM q cI f a) A s H locs → lv_has ls 5 [(0, .ref (q 0)), (1, .int x1), (2, .int x2), (3, .int x3)] → W p l e (headSpec wsX11_extreme rmX11_extreme).room s m args below meth c H locs 0 0 (MQ below (QMi D q cI Q A) args s 0 0 A) (F0 m 56 ls [.int y0, .int y1]) := by
  intro x1 x2 x3 y0 y1 f a H locs ls h hW hl
  unfold vX11_extreme_56 at h
  refine lv_icmp_ne (tgt := 68) C.1 C.2.1 dX11_extreme_56 (by decide) (fun c10 => ?_) (fun c10 => ?_)
  · replace h := h.1 c10
    exact sX11_extreme_68 C hr hlk Q K9 hK9 x1 x2 x3 f a _ _ _ h hW (lv_sub hl [0, 1, 2, 3] rfl)
  · replace h := h.2 c10
    refine lv_aload_n C.1 C.2.1 dX11_extreme_59 rfl (lv_at hl 0 rfl) ?_
    refine r_get C hW (ci := 11) (T := TX11) (n := 21) (ref := "BallMinderModel") (v := .ref (q 4)) 0 (by decide) rfl rfl 9 (by decide) inX11_extreme (by decide +kernel) (fun _ h9 => h9) rfl dX11_extreme_60 ?_
    refine lv_iload_n C.1 C.2.1 dX11_extreme_63 rfl (lv_at hl 3 rfl) ?_
    obtain ⟨hs11, h⟩ := h
    refine r_iald C hW (cA := cI) (n := 301) (f := a 4) 4 0 (by decide) rfl rfl hs11 dX11_extreme_64 ?_
    refine lv_goto (tgt := 69) C.1 C.2.1 dX11_extreme_65 (by decide) ?_
    exact sX11_extreme_69 C hr hlk Q K9 hK9 x1 x3 (a 4 x3.toNatClampNeg) f a _ _ _ h hW (lv_sub hl [0, 1, 3] rfl)
set_option maxRecDepth 100000 in
set_option maxHeartbeats 4000000 in
theorem sX11_extreme_32 {p : Program} {l : Launch} {e : Env} {s : State} {m : MethodId} {args : Array Value} {below : List Frame} {meth : Method} {c : Code} {D : va_G} {q : Nat → Nat} {A : Nat → Prop} {cI : ClassId} (C : CallFix p m c cX11_extreme 5 s args wsX11_extreme RX11) (hr : meth.sig.returnType = (some .int)) (hlk : meth.locks = false) (Q : Int32 → (Nat → Int32) → (Nat → Nat → Int32) → Prop) (K9 : Int32 → Int32 → Int32 → (Nat → Int32) → (Nat → Nat → Int32) → Prop) (hK9 : ∀ (x1 : Int32) (x2 : Int32) (x3 : Int32) (f : Nat → Int32) (a : Nat → Nat → Int32) (H : Heap) (locs : List Loc) (ls : Array Slot), K9 x1 x2 x3 f a → hw D [(cI, .int)] q 12 (gM q cI f a) A s H locs → lv_has ls 5 [(0, .ref (q 0)), (1, .int x1), (2, .int x2), (3, .int x3)] → W p l e (headSpec wsX11_extreme rmX11_extreme).room s m args below meth c H locs 0 0 (MQ below (QMi D q cI Q A) args s 0 0 A) (F0 m 9 ls [])) : ∀ (x1 : Int32) (x2 : Int32) (x3 : Int32) (y0 : Int32) (f : Nat → Int32) (a : Nat → Nat → Int32) (H : Heap) (locs : List Loc) (ls : Array Slot), vX11_extreme_32 K9 Q x1 x2 x3 y0 f a → hw D [(cI, .int)] q 12 (gM q cI f a) A s H locs → lv_has ls 5 [(0, .ref (q 0)), (1, .int x1), (2, .int x2), (3, .int x3)] → W p l e (headSpec wsX11_extreme rmX11_extreme).room s m args below meth c H locs 0 0 (MQ below (QMi D q cI Q A) args s 0 0 A) (F0 m 32 ls [.int y0]) := by
  intro x1 x2 x3 y0 f a H locs ls h hW hl
  unfold vX11_extreme_32 at h
  refine lv_istore (lv' := [(4, .int y0), (0, .ref (q 0)), (1, .int x1), (2, .int x2), (3, .int x3)]) C.1 C.2.1 dX11_extreme_32 hl (by decide) rfl (fun ls hl => ?_)
  refine lv_aload_n C.1 C.2.1 dX11_extreme_34 rfl (lv_at hl 1 rfl) ?_
  refine r_get C hW (ci := 11) (T := TX11) (n := 21) (ref := "BallMinderModel") (v := .ref (q 4)) 0 (by decide) rfl rfl 9 (by decide) inX11_extreme (by decide +kernel) (fun _ h9 => h9) rfl dX11_extreme_35 ?_
  refine lv_iload_n C.1 C.2.1 dX11_extreme_38 rfl (lv_at hl 4 rfl) ?_
  obtain ⟨hs6, h⟩ := h
  refine r_iald C hW (cA := cI) (n := 301) (f := a 4) 4 0 (by decide) rfl rfl hs6 dX11_extreme_39 ?_
  refine lv_iload_n C.1 C.2.1 dX11_extreme_40 rfl (lv_at hl 3 rfl) ?_
  refine lv_icmp_eq (tgt := 68) C.1 C.2.1 dX11_extreme_41 (by decide) (fun c7 => ?_) (fun c7 => ?_)
  · replace h := h.1 c7
    exact sX11_extreme_68 C hr hlk Q K9 hK9 x1 x2 x3 f a _ _ _ h hW (lv_sub hl [1, 2, 3, 4] rfl)
  · replace h := h.2 c7
    refine lv_iload C.1 C.2.1 dX11_extreme_44 (lv_at hl 0 rfl) ?_
    refine lv_iload_n C.1 C.2.1 dX11_extreme_46 rfl (lv_at hl 2 rfl) ?_
    refine lv_iconst (v := 3) C.1 C.2.1 dX11_extreme_47 (by decide) ?_
    refine lv_icmp_ne (tgt := 55) C.1 C.2.1 dX11_extreme_48 (by decide) (fun c9 => ?_) (fun c9 => ?_)
    · replace h := h.1 c9
      refine lv_iconst (v := 0) C.1 C.2.1 dX11_extreme_55 (by decide) ?_
      exact sX11_extreme_56 C hr hlk Q K9 hK9 x1 x2 x3 (0 : Int32) y0 f a _ _ _ h hW (lv_sub hl [1, 2, 3, 4] rfl)
    · replace h := h.2 c9
      refine lv_iconst (v := 1) C.1 C.2.1 dX11_extreme_51 (by decide) ?_
      refine lv_goto (tgt := 56) C.1 C.2.1 dX11_extreme_52 (by decide) ?_
      exact sX11_extreme_56 C hr hlk Q K9 hK9 x1 x2 x3 (1 : Int32) y0 f a _ _ _ h hW (lv_sub hl [1, 2, 3, 4] rfl)
set_option maxRecDepth 100000 in
set_option maxHeartbeats 4000000 in
theorem sX11_extreme_9 {p : Program} {l : Launch} {e : Env} {s : State} {m : MethodId} {args : Array Value} {below : List Frame} {meth : Method} {c : Code} {D : va_G} {q : Nat → Nat} {A : Nat → Prop} {cI : ClassId} (C : CallFix p m c cX11_extreme 5 s args wsX11_extreme RX11) (hr : meth.sig.returnType = (some .int)) (hlk : meth.locks = false) (Q : Int32 → (Nat → Int32) → (Nat → Nat → Int32) → Prop) : ∀ (fu : Nat) (x1 : Int32) (x2 : Int32) (x3 : Int32) (f : Nat → Int32) (a : Nat → Nat → Int32) (H : Heap) (locs : List Loc) (ls : Array Slot), vX11_extreme_9 Q fu x1 x2 x3 f a → hw D [(cI, .int)] q 12 (gM q cI f a) A s H locs → lv_has ls 5 [(0, .ref (q 0)), (1, .int x1), (2, .int x2), (3, .int x3)] → W p l e (headSpec wsX11_extreme rmX11_extreme).room s m args below meth c H locs 0 0 (MQ below (QMi D q cI Q A) args s 0 0 A) (F0 m 9 ls []) := by
  intro fu
  induction fu with
  | zero =>
    intro x1 x2 x3 f a H locs ls h
    exact h.elim
  | succ fu ih =>
    intro x1 x2 x3 f a H locs ls h hW hl
    refine lv_iload_n C.1 C.2.1 dX11_extreme_9 rfl (lv_at hl 3 rfl) ?_
    refine lv_aload_n C.1 C.2.1 dX11_extreme_10 rfl (lv_at hl 0 rfl) ?_
    refine r_get C hW (ci := 11) (T := TX11) (n := 21) (ref := "BallMinderModel") (v := .int (f 12)) 0 (by decide) rfl rfl 12 (by decide) inX11_extreme (by decide +kernel) (fun _ h9 => h9) rfl dX11_extreme_11 ?_
    refine lv_icmp_gt (tgt := 76) C.1 C.2.1 dX11_extreme_14 (by decide) (fun c3 => ?_) (fun c3 => ?_)
    · replace h := h.1 c3
      refine lv_iload_n C.1 C.2.1 dX11_extreme_76 rfl (lv_at hl 2 rfl) ?_
      exact t_i C hr hlk (u := (f, a)) hW.2.2.2.1 hW.B h dX11_extreme_77
    · replace h := h.2 c3
      refine lv_aload_n C.1 C.2.1 dX11_extreme_17 rfl (lv_at hl 0 rfl) ?_
      refine r_get C hW (ci := 11) (T := TX11) (n := 21) (ref := "BallMinderModel") (v := .ref (q 4)) 0 (by decide) rfl rfl 9 (by decide) inX11_extreme (by decide +kernel) (fun _ h9 => h9) rfl dX11_extreme_18 ?_
      refine lv_iload_n C.1 C.2.1 dX11_extreme_21 rfl (lv_at hl 3 rfl) ?_
      obtain ⟨hs4, h⟩ := h
      refine r_iald C hW (cA := cI) (n := 301) (f := a 4) 4 0 (by decide) rfl rfl hs4 dX11_extreme_22 ?_
      refine lv_iload_n C.1 C.2.1 dX11_extreme_23 rfl (lv_at hl 2 rfl) ?_
      refine lv_icmp_ge (tgt := 31) C.1 C.2.1 dX11_extreme_24 (by decide) (fun c5 => ?_) (fun c5 => ?_)
      · replace h := h.1 c5
        refine lv_iconst (v := 0) C.1 C.2.1 dX11_extreme_31 (by decide) ?_
        exact sX11_extreme_32 C hr hlk Q _ ih x1 x2 x3 (0 : Int32) f a _ _ _ h hW (lv_sub hl [0, 1, 2, 3] rfl)
      · replace h := h.2 c5
        refine lv_iconst (v := 1) C.1 C.2.1 dX11_extreme_27 (by decide) ?_
        refine lv_goto (tgt := 32) C.1 C.2.1 dX11_extreme_28 (by decide) ?_
        exact sX11_extreme_32 C hr hlk Q _ ih x1 x2 x3 (1 : Int32) f a _ _ _ h hW (lv_sub hl [0, 1, 2, 3] rfl)
set_option maxRecDepth 100000 in
set_option maxHeartbeats 4000000 in
theorem sX11_extreme {p : Program} {l : Launch} {e : Env} {s : State} {m : MethodId} {args : Array Value} {below : List Frame} {meth : Method} {c : Code} {D : va_G} {q : Nat → Nat} {A : Nat → Prop} {cI : ClassId} (C : CallFix p m c cX11_extreme 5 s args wsX11_extreme RX11) (hr : meth.sig.returnType = (some .int)) (hlk : meth.locks = false) (Q : Int32 → (Nat → Int32) → (Nat → Nat → Int32) → Prop) : ∀ (x1 : Int32) (f : Nat → Int32) (a : Nat → Nat → Int32) (H : Heap) (locs : List Loc) (ls : Array Slot), vX11_extreme x1 f a Q → hw D [(cI, .int)] q 12 (gM q cI f a) A s H locs → lv_has ls 5 [(0, .ref (q 0)), (1, .int x1)] → W p l e (headSpec wsX11_extreme rmX11_extreme).room s m args below meth c H locs 0 0 (MQ below (QMi D q cI Q A) args s 0 0 A) (F0 m 0 ls []) := by
  intro x1 f a H locs ls h hW hl
  unfold vX11_extreme at h
  refine lv_aload_n C.1 C.2.1 dX11_extreme_0 rfl (lv_at hl 0 rfl) ?_
  refine r_get C hW (ci := 11) (T := TX11) (n := 21) (ref := "BallMinderModel") (v := .ref (q 4)) 0 (by decide) rfl rfl 9 (by decide) inX11_extreme (by decide +kernel) (fun _ h9 => h9) rfl dX11_extreme_1 ?_
  refine lv_iconst (v := 0) C.1 C.2.1 dX11_extreme_4 (by decide) ?_
  obtain ⟨hs1, h⟩ := h
  refine r_iald C hW (cA := cI) (n := 301) (f := a 4) 4 0 (by decide) rfl rfl hs1 dX11_extreme_5 ?_
  refine lv_topi (fun x2_2 ex2_2 => ?_)
  replace h := h x2_2 ex2_2
  refine lv_istore_n (lv' := [(2, .int x2_2), (0, .ref (q 0)), (1, .int x1)]) C.1 C.2.1 dX11_extreme_6 rfl hl (by decide) rfl (fun ls hl => ?_)
  refine lv_iconst (v := 1) C.1 C.2.1 dX11_extreme_7 (by decide) ?_
  refine lv_istore_n (lv' := [(3, .int (1 : Int32)), (2, .int x2_2), (0, .ref (q 0)), (1, .int x1)]) C.1 C.2.1 dX11_extreme_8 rfl hl (by decide) rfl (fun ls hl => ?_)
  obtain ⟨n9, h⟩ := h
  exact sX11_extreme_9 C hr hlk Q n9 x1 x2_2 (1 : Int32) f a _ _ _ h hW (lv_sub hl [2, 3, 1, 0] rfl)
set_option maxRecDepth 100000 in
set_option maxHeartbeats 4000000 in
theorem mtX11_extreme (l : Launch) (D : va_G) (q : Nat → Nat) (cI : ClassId) (sz : Nat) (x1 : Int32) (f : Nat → Int32) (a : Nat → Nat → Int32) (Q : Int32 → (Nat → Int32) → (Nat → Nat → Int32) → Prop) (h : vX11_extreme x1 f a Q) : Met l yX11_extreme wsX11_extreme rmX11_extreme (va_Pc [.ref (q 0), .int x1] (mP D [(cI, .int)] q 12 (gM q cI f a) sz tX)) (QMi D q cI Q (aQ q 12 sz)) 0 0 (aQ q 12 sz) := by
  refine met_w (cc := cX11_extreme) (maxL := 5) (ret := (some .int)) (by decide) rfl (Nat.le_of_ble_eq_true rfl) ?_
  intro p e s m below meth c ls C hr hlk hW hX hnm hl
  exact sX11_extreme C hr hlk Q x1 f a _ _ _ h hW hl
theorem inX11_toldOf : ∀ w ∈ wsX110, w ∈ wsX11_toldOf := fun _ h => List.mem_cons_of_mem _ (List.mem_append_right _ h)
abbrev rmX11_toldOf : Room := { frames := 1, cells := 0, slots := 0, locals := 24 }
def vX11_toldOf (x1 : Int32) (f : Nat → Int32) (a : Nat → Nat → Int32) (Q : Int32 → (Nat → Int32) → (Nat → Nat → Int32) → Prop) : Prop := (x1 = 0 → (0 ≤ (f 13) → (¬ (f 13) = (1 : Int32) → Q (1 : Int32) f a) ∧ ((f 13) = (1 : Int32) → Q (0 : Int32) f a)) ∧ (¬ (0 ≤ (f 13)) → Q (2 : Int32) f a)) ∧ (x1 = 1 → (0 ≤ (f 13) → Q (f 12) f a) ∧ (¬ (0 ≤ (f 13)) → Q (-9 : Int32) f a)) ∧ (x1 = 2 → Q (f 13) f a) ∧ (¬ x1 = 0 → ¬ x1 = 1 → ¬ x1 = 2 → vX11_extreme x1 f a (fun r1 f2 a3 => Q r1 f2 a3))
set_option maxRecDepth 100000 in
set_option maxHeartbeats 4000000 in
theorem sX11_toldOf {p : Program} {l : Launch} {e : Env} {s : State} {m : MethodId} {args : Array Value} {below : List Frame} {meth : Method} {c : Code} {D : va_G} {q : Nat → Nat} {A : Nat → Prop} {cI : ClassId} (C : CallFix p m c cX11_toldOf 2 s args wsX11_toldOf RX11) (hr : meth.sig.returnType = (some .int)) (hlk : meth.locks = false) (Q : Int32 → (Nat → Int32) → (Nat → Nat → Int32) → Prop) : ∀ (x1 : Int32) (f : Nat → Int32) (a : Nat → Nat → Int32) (H : Heap) (locs : List Loc) (ls : Array Slot), vX11_toldOf x1 f a Q → hw D [(cI, .int)] q 12 (gM q cI f a) A s H locs → lv_has ls 2 [(0, .ref (q 0)), (1, .int x1)] → W p l e (headSpec wsX11_toldOf rmX11_toldOf).room s m args below meth c H locs 0 0 (MQ below (QMi D q cI Q A) args s 0 0 A) (F0 m 0 ls []) := by
  intro x1 f a H locs ls h hW hl
  unfold vX11_toldOf at h
  refine lv_iload_n C.1 C.2.1 dX11_toldOf_0 rfl (lv_at hl 1 rfl) ?_
  by_cases c0 : x1 = 0
  · replace h := h.1 c0
    refine lv_tableIn (tgt := 28) C.1 C.2.1 dX11_toldOf_1 (by rw [c0]; decide) (by rw [c0]; decide) (by rw [c0]; rfl) (by decide) ?_
    refine lv_aload_n C.1 C.2.1 dX11_toldOf_28 rfl (lv_at hl 0 rfl) ?_
    refine r_get C hW (ci := 11) (T := TX11) (n := 21) (ref := "BallMinderModel") (v := .int (f 13)) 0 (by decide) rfl rfl 13 (by decide) inX11_toldOf (by decide +kernel) (fun _ h9 => h9) rfl dX11_toldOf_29 ?_
    refine lv_if_ge (tgt := 39) C.1 C.2.1 dX11_toldOf_32 (by decide) (fun c4 => ?_) (fun c4 => ?_)
    · replace h := h.1 c4
      refine lv_aload_n C.1 C.2.1 dX11_toldOf_39 rfl (lv_at hl 0 rfl) ?_
      refine r_get C hW (ci := 11) (T := TX11) (n := 21) (ref := "BallMinderModel") (v := .int (f 13)) 0 (by decide) rfl rfl 13 (by decide) inX11_toldOf (by decide +kernel) (fun _ h9 => h9) rfl dX11_toldOf_40 ?_
      refine lv_iconst (v := 1) C.1 C.2.1 dX11_toldOf_43 (by decide) ?_
      refine lv_icmp_ne (tgt := 51) C.1 C.2.1 dX11_toldOf_44 (by decide) (fun c5 => ?_) (fun c5 => ?_)
      · replace h := h.1 c5
        refine lv_iconst (v := 1) C.1 C.2.1 dX11_toldOf_51 (by decide) ?_
        exact t_i C hr hlk (u := (f, a)) hW.2.2.2.1 hW.B h dX11_toldOf_52
      · replace h := h.2 c5
        refine lv_iconst (v := 0) C.1 C.2.1 dX11_toldOf_47 (by decide) ?_
        refine lv_goto (tgt := 52) C.1 C.2.1 dX11_toldOf_48 (by decide) ?_
        exact t_i C hr hlk (u := (f, a)) hW.2.2.2.1 hW.B h dX11_toldOf_52
    · replace h := h.2 c4
      refine lv_iconst (v := 2) C.1 C.2.1 dX11_toldOf_35 (by decide) ?_
      refine lv_goto (tgt := 52) C.1 C.2.1 dX11_toldOf_36 (by decide) ?_
      exact t_i C hr hlk (u := (f, a)) hW.2.2.2.1 hW.B h dX11_toldOf_52
  by_cases c1 : x1 = 1
  · replace h := h.2.1 c1
    refine lv_tableIn (tgt := 53) C.1 C.2.1 dX11_toldOf_1 (by rw [c1]; decide) (by rw [c1]; decide) (by rw [c1]; rfl) (by decide) ?_
    refine lv_aload_n C.1 C.2.1 dX11_toldOf_53 rfl (lv_at hl 0 rfl) ?_
    refine r_get C hW (ci := 11) (T := TX11) (n := 21) (ref := "BallMinderModel") (v := .int (f 13)) 0 (by decide) rfl rfl 13 (by decide) inX11_toldOf (by decide +kernel) (fun _ h9 => h9) rfl dX11_toldOf_54 ?_
    refine lv_if_ge (tgt := 65) C.1 C.2.1 dX11_toldOf_57 (by decide) (fun c6 => ?_) (fun c6 => ?_)
    · replace h := h.1 c6
      refine lv_aload_n C.1 C.2.1 dX11_toldOf_65 rfl (lv_at hl 0 rfl) ?_
      refine r_get C hW (ci := 11) (T := TX11) (n := 21) (ref := "BallMinderModel") (v := .int (f 12)) 0 (by decide) rfl rfl 12 (by decide) inX11_toldOf (by decide +kernel) (fun _ h9 => h9) rfl dX11_toldOf_66 ?_
      exact t_i C hr hlk (u := (f, a)) hW.2.2.2.1 hW.B h dX11_toldOf_69
    · replace h := h.2 c6
      refine lv_bipush (v := -9) C.1 C.2.1 dX11_toldOf_60 (by decide) ?_
      refine lv_goto (tgt := 69) C.1 C.2.1 dX11_toldOf_62 (by decide) ?_
      exact t_i C hr hlk (u := (f, a)) hW.2.2.2.1 hW.B h dX11_toldOf_69
  by_cases c2 : x1 = 2
  · replace h := h.2.2.1 c2
    refine lv_tableIn (tgt := 70) C.1 C.2.1 dX11_toldOf_1 (by rw [c2]; decide) (by rw [c2]; decide) (by rw [c2]; rfl) (by decide) ?_
    refine lv_aload_n C.1 C.2.1 dX11_toldOf_70 rfl (lv_at hl 0 rfl) ?_
    refine r_get C hW (ci := 11) (T := TX11) (n := 21) (ref := "BallMinderModel") (v := .int (f 13)) 0 (by decide) rfl rfl 13 (by decide) inX11_toldOf (by decide +kernel) (fun _ h9 => h9) rfl dX11_toldOf_71 ?_
    exact t_i C hr hlk (u := (f, a)) hW.2.2.2.1 hW.B h dX11_toldOf_74
  replace h := h.2.2.2 c0 c1 c2
  have kd : W p l e (headSpec wsX11_toldOf rmX11_toldOf).room s m args below meth c H locs 0 0 (MQ below (QMi D q cI Q A) args s 0 0 A) (F0 m 75 ls []) := by
    refine lv_aload_n C.1 C.2.1 dX11_toldOf_75 rfl (lv_at hl 0 rfl) ?_
    refine lv_iload_n C.1 C.2.1 dX11_toldOf_76 rfl (lv_at hl 1 rfl) ?_
    refine k_i hW (va_runV (As := [.int x1]) (rest := []) C (mtX11_extreme l D q cI H.size x1 f a _ h) (cwV 1 C.2.2.2.2 gX11_toldOf_X11_extreme rfl rfl rfl (by decide +kernel) ⟨Nat.le_of_ble_eq_true rfl, Nat.le_of_ble_eq_true rfl⟩) ⟨mP_blind tX_B, va_recv hW.1 hW.2.1 (ci := 11) (q0 := 0) rfl (wL_get (by decide)), fun U hU hV => ⟨rfl, hW.pre hU hV trivial⟩⟩ rfl rfl hl.1 rfl (lv_room (Nat.le_of_ble_eq_true rfl)) dX11_toldOf_77 ⟨Nat.zero_le _, Nat.zero_le _⟩) (fun r1 u H locs h hW => ?_)
    obtain ⟨f2, a3⟩ := u
    replace hW : hw D [(cI, .int)] q 12 (gM q cI f2 a3) A s H locs := hW
    exact t_i C hr hlk (u := (f2, a3)) hW.2.2.2.1 hW.B h dX11_toldOf_80
  by_cases g1 : x1.toInt < 0
  · exact lv_tableOut (tgt := 75) C.1 C.2.1 dX11_toldOf_1 (Or.inl g1) (by decide) kd
  by_cases g2 : 2 < x1.toInt
  · exact lv_tableOut (tgt := 75) C.1 C.2.1 dX11_toldOf_1 (Or.inr g2) (by decide) kd
  have n0 : ¬ x1.toInt = 0 := lv_neT c0 (by decide)
  have n1 : ¬ x1.toInt = 1 := lv_neT c1 (by decide)
  have n2 : ¬ x1.toInt = 2 := lv_neT c2 (by decide)
  exfalso; omega
set_option maxRecDepth 100000 in
set_option maxHeartbeats 4000000 in
theorem mtX11_toldOf (l : Launch) (D : va_G) (q : Nat → Nat) (cI : ClassId) (sz : Nat) (x1 : Int32) (f : Nat → Int32) (a : Nat → Nat → Int32) (Q : Int32 → (Nat → Int32) → (Nat → Nat → Int32) → Prop) (h : vX11_toldOf x1 f a Q) : Met l yX11_toldOf wsX11_toldOf rmX11_toldOf (va_Pc [.ref (q 0), .int x1] (mP D [(cI, .int)] q 12 (gM q cI f a) sz tX)) (QMi D q cI Q (aQ q 12 sz)) 0 0 (aQ q 12 sz) := by
  refine met_w (cc := cX11_toldOf) (maxL := 2) (ret := (some .int)) (by decide) rfl (Nat.le_of_ble_eq_true rfl) ?_
  intro p e s m below meth c ls C hr hlk hW hX hnm hl
  exact sX11_toldOf C hr hlk Q x1 f a _ _ _ h hW hl
abbrev rmX11_isStart : Room := { frames := 1, cells := 0, slots := 0, locals := 25 }
def vX11_isStart (x0 : Int32) (x1 : Int32) (x2 : Int32) (Q : Int32 → Prop) : Prop := vX11_in x0.toInt64 (0 : Int64) (999 : Int64) (fun r1 => (r1 = 0 → Q (0 : Int32)) ∧ (¬ (r1 = 0) → vX11_in x1.toInt64 (0 : Int64) (100 : Int64) (fun r3 => (r3 = 0 → Q (0 : Int32)) ∧ (¬ (r3 = 0) → vX11_in x2.toInt64 (0 : Int64) (100 : Int64) (fun r5 => (r5 = 0 → Q (0 : Int32)) ∧ (¬ (r5 = 0) → Q (1 : Int32)))))))
set_option maxRecDepth 100000 in
set_option maxHeartbeats 4000000 in
theorem sX11_isStart {p : Program} {l : Launch} {e : Env} {s : State} {m : MethodId} {args : Array Value} {below : List Frame} {meth : Method} {c : Code} {D : va_G} {q : Nat → Nat} {A : Nat → Prop} {tys : List (ClassId × FieldType)} {N : Nat} {g : Nat → va_E} (C : CallFix p m c cX11_isStart 3 s args wsX11_isStart RX11) (hr : meth.sig.returnType = (some .boolean)) (hlk : meth.locks = false) (Q : Int32 → Prop) : ∀ (x0 : Int32) (x1 : Int32) (x2 : Int32) (H : Heap) (locs : List Loc) (ls : Array Slot), vX11_isStart x0 x1 x2 Q → hw D tys q N g A s H locs → lv_has ls 3 [(0, .int x0), (1, .int x1), (2, .int x2)] → W p l e (headSpec wsX11_isStart rmX11_isStart).room s m args below meth c H locs 0 0 (MQ below (va_Qi (fun r (_ : Unit) => Q r) (fun _ _ => True) A) args s 0 0 A) (F0 m 0 ls []) := by
  intro x0 x1 x2 H locs ls h hW hl
  unfold vX11_isStart at h
  refine lv_iload_n C.1 C.2.1 dX11_isStart_0 rfl (lv_at hl 0 rfl) ?_
  refine lv_i2l C.1 C.2.1 dX11_isStart_1 rfl ?_
  refine lv_lconst (v := 0) C.1 C.2.1 dX11_isStart_2 (by decide) ?_
  refine lv_ldc2 (v := (999)) C.1 C.2.1 C.2.2.2.1 (C.2.2.2.2 (.constantLong RX11 185 (999)) (by decide +kernel)) dX11_isStart_3 ?_
  refine k_pi hW (va_runS (As := [.long x0.toInt64, .long (0 : Int64), .long (999 : Int64)]) (rest := []) C (mtX11_in l D q _ H.size x0.toInt64 (0 : Int64) (999 : Int64) _ h) (va_cwS 3 C.2.2.2.2 gX11_isStart_X11_in rfl rfl rfl (by decide +kernel) ⟨Nat.le_of_ble_eq_true rfl, Nat.le_of_ble_eq_true rfl⟩) ⟨mP_blind tX_B, fun U hU hV => ⟨rfl, hW.pre0 hU hV trivial⟩⟩ rfl rfl hl.1 rfl (lv_room (Nat.le_of_ble_eq_true rfl)) dX11_isStart_6 ⟨Nat.zero_le _, Nat.zero_le _⟩) (fun r1 H locs h hW => ?_)
  refine lv_if_eq (tgt := 40) C.1 C.2.1 dX11_isStart_9 (by decide) (fun c2 => ?_) (fun c2 => ?_)
  · replace h := h.1 c2
    refine lv_iconst (v := 0) C.1 C.2.1 dX11_isStart_40 (by decide) ?_
    exact t_z C hr hlk (u := ()) (Or.inl rfl) hW.2.2.2.1 (fun _ _ => trivial) h dX11_isStart_41
  · replace h := h.2 c2
    refine lv_iload_n C.1 C.2.1 dX11_isStart_12 rfl (lv_at hl 1 rfl) ?_
    refine lv_i2l C.1 C.2.1 dX11_isStart_13 rfl ?_
    refine lv_lconst (v := 0) C.1 C.2.1 dX11_isStart_14 (by decide) ?_
    refine lv_ldc2 (v := (100)) C.1 C.2.1 C.2.2.2.1 (C.2.2.2.2 (.constantLong RX11 187 (100)) (by decide +kernel)) dX11_isStart_15 ?_
    refine k_pi hW (va_runS (As := [.long x1.toInt64, .long (0 : Int64), .long (100 : Int64)]) (rest := []) C (mtX11_in l D q _ H.size x1.toInt64 (0 : Int64) (100 : Int64) _ h) (va_cwS 3 C.2.2.2.2 gX11_isStart_X11_in rfl rfl rfl (by decide +kernel) ⟨Nat.le_of_ble_eq_true rfl, Nat.le_of_ble_eq_true rfl⟩) ⟨mP_blind tX_B, fun U hU hV => ⟨rfl, hW.pre0 hU hV trivial⟩⟩ rfl rfl hl.1 rfl (lv_room (Nat.le_of_ble_eq_true rfl)) dX11_isStart_18 ⟨Nat.zero_le _, Nat.zero_le _⟩) (fun r3 H locs h hW => ?_)
    refine lv_if_eq (tgt := 40) C.1 C.2.1 dX11_isStart_21 (by decide) (fun c4 => ?_) (fun c4 => ?_)
    · replace h := h.1 c4
      refine lv_iconst (v := 0) C.1 C.2.1 dX11_isStart_40 (by decide) ?_
      exact t_z C hr hlk (u := ()) (Or.inl rfl) hW.2.2.2.1 (fun _ _ => trivial) h dX11_isStart_41
    · replace h := h.2 c4
      refine lv_iload_n C.1 C.2.1 dX11_isStart_24 rfl (lv_at hl 2 rfl) ?_
      refine lv_i2l C.1 C.2.1 dX11_isStart_25 rfl ?_
      refine lv_lconst (v := 0) C.1 C.2.1 dX11_isStart_26 (by decide) ?_
      refine lv_ldc2 (v := (100)) C.1 C.2.1 C.2.2.2.1 (C.2.2.2.2 (.constantLong RX11 187 (100)) (by decide +kernel)) dX11_isStart_27 ?_
      refine k_pi hW (va_runS (As := [.long x2.toInt64, .long (0 : Int64), .long (100 : Int64)]) (rest := []) C (mtX11_in l D q _ H.size x2.toInt64 (0 : Int64) (100 : Int64) _ h) (va_cwS 3 C.2.2.2.2 gX11_isStart_X11_in rfl rfl rfl (by decide +kernel) ⟨Nat.le_of_ble_eq_true rfl, Nat.le_of_ble_eq_true rfl⟩) ⟨mP_blind tX_B, fun U hU hV => ⟨rfl, hW.pre0 hU hV trivial⟩⟩ rfl rfl hl.1 rfl (lv_room (Nat.le_of_ble_eq_true rfl)) dX11_isStart_30 ⟨Nat.zero_le _, Nat.zero_le _⟩) (fun r5 H locs h hW => ?_)
      refine lv_if_eq (tgt := 40) C.1 C.2.1 dX11_isStart_33 (by decide) (fun c6 => ?_) (fun c6 => ?_)
      · replace h := h.1 c6
        refine lv_iconst (v := 0) C.1 C.2.1 dX11_isStart_40 (by decide) ?_
        exact t_z C hr hlk (u := ()) (Or.inl rfl) hW.2.2.2.1 (fun _ _ => trivial) h dX11_isStart_41
      · replace h := h.2 c6
        refine lv_iconst (v := 1) C.1 C.2.1 dX11_isStart_36 (by decide) ?_
        refine lv_goto (tgt := 41) C.1 C.2.1 dX11_isStart_37 (by decide) ?_
        exact t_z C hr hlk (u := ()) (Or.inr rfl) hW.2.2.2.1 (fun _ _ => trivial) h dX11_isStart_41
set_option maxRecDepth 100000 in
set_option maxHeartbeats 4000000 in
theorem mtX11_isStart (l : Launch) (D : va_G) (q : Nat → Nat) (g : Nat → va_E) (sz : Nat) (x0 : Int32) (x1 : Int32) (x2 : Int32) (Q : Int32 → Prop) (h : vX11_isStart x0 x1 x2 Q) : Met l yX11_isStart wsX11_isStart rmX11_isStart (va_Pc [.int x0, .int x1, .int x2] (mP D [] q 0 g sz tX)) (va_Qi (fun r (_ : Unit) => Q r) (fun _ _ => True) (aQ q 0 sz)) 0 0 (aQ q 0 sz) := by
  refine met_w (cc := cX11_isStart) (maxL := 3) (ret := (some .boolean)) (by decide) rfl (Nat.le_of_ble_eq_true rfl) ?_
  intro p e s m below meth c ls C hr hlk hW hX hnm hl
  exact sX11_isStart C hr hlk Q x0 x1 x2 _ _ _ h hW hl
theorem inX11_far : ∀ w ∈ wsX110, w ∈ wsX11_far := fun _ h => List.mem_cons_of_mem _ (List.mem_append_right _ h)
abbrev rmX11_far : Room := { frames := 5, cells := 0, slots := 0, locals := 118 }
def vX11_far (x1 : Int32) (x2 : Int32) (x3 : Int32) (x4 : Int32) (x5 : Int32) (f : Nat → Int32) (a : Nat → Nat → Int32) (Q : Int32 → (Nat → Int32) → (Nat → Nat → Int32) → Prop) : Prop := vX11_noMill x1 f a (fun r1 f2 a3 => (r1 = 0 → vX11_isStart x2 x3 x4 (fun r5 => (r5 = 0 → Q (-2 : Int32) f2 a3) ∧ (¬ (r5 = 0) → vX11_in x5.toInt64 (0 : Int64) (4 : Int64) (fun r7 => (¬ r7 = 0 → vX11_begin x1 (-9 : Int32) x2 x3 x4 f2 a3 (fun f9 a10 => vX11_goRound  f9 a10 (fun f11 a12 => vX11_toldOf x5 f11 a12 (fun r13 f14 a15 => Q r13 f14 a15)))) ∧ (r7 = 0 → Q (-2 : Int32) f2 a3))))) ∧ (¬ (r1 = 0) → Q (-1 : Int32) f2 a3))
set_option maxRecDepth 100000 in
set_option maxHeartbeats 4000000 in
theorem sX11_far {p : Program} {l : Launch} {e : Env} {s : State} {m : MethodId} {args : Array Value} {below : List Frame} {meth : Method} {c : Code} {D : va_G} {q : Nat → Nat} {A : Nat → Prop} {cI : ClassId} (C : CallFix p m c cX11_far 6 s args wsX11_far RX11) (hr : meth.sig.returnType = (some .int)) (hlk : meth.locks = false) (Q : Int32 → (Nat → Int32) → (Nat → Nat → Int32) → Prop) : ∀ (x1 : Int32) (x2 : Int32) (x3 : Int32) (x4 : Int32) (x5 : Int32) (f : Nat → Int32) (a : Nat → Nat → Int32) (H : Heap) (locs : List Loc) (ls : Array Slot), vX11_far x1 x2 x3 x4 x5 f a Q → hw D [(cI, .int)] q 12 (gM q cI f a) A s H locs → lv_has ls 6 [(0, .ref (q 0)), (1, .int x1), (2, .int x2), (3, .int x3), (4, .int x4), (5, .int x5)] → W p l e (headSpec wsX11_far rmX11_far).room s m args below meth c H locs 0 0 (MQ below (QMi D q cI Q A) args s 0 0 A) (F0 m 0 ls []) := by
  intro x1 x2 x3 x4 x5 f a H locs ls h hW hl
  unfold vX11_far at h
  refine lv_aload_n C.1 C.2.1 dX11_far_0 rfl (lv_at hl 0 rfl) ?_
  refine lv_iload_n C.1 C.2.1 dX11_far_1 rfl (lv_at hl 1 rfl) ?_
  refine k_i hW (va_runV (As := [.int x1]) (rest := []) C (mtX11_noMill l D q cI H.size x1 f a _ h) (cwV 1 C.2.2.2.2 gX11_far_X11_noMill rfl rfl rfl (by decide +kernel) ⟨Nat.le_of_ble_eq_true rfl, Nat.le_of_ble_eq_true rfl⟩) ⟨mP_blind tX_B, va_recv hW.1 hW.2.1 (ci := 11) (q0 := 0) rfl (wL_get (by decide)), fun U hU hV => ⟨rfl, hW.pre hU hV trivial⟩⟩ rfl rfl hl.1 rfl (lv_room (Nat.le_of_ble_eq_true rfl)) dX11_far_2 ⟨Nat.zero_le _, Nat.zero_le _⟩) (fun r1 u H locs h hW => ?_)
  obtain ⟨f2, a3⟩ := u
  replace hW : hw D [(cI, .int)] q 12 (gM q cI f2 a3) A s H locs := hW
  refine lv_if_eq (tgt := 10) C.1 C.2.1 dX11_far_5 (by decide) (fun c4 => ?_) (fun c4 => ?_)
  · replace h := h.1 c4
    refine lv_iload_n C.1 C.2.1 dX11_far_10 rfl (lv_at hl 2 rfl) ?_
    refine lv_iload_n C.1 C.2.1 dX11_far_11 rfl (lv_at hl 3 rfl) ?_
    refine lv_iload C.1 C.2.1 dX11_far_12 (lv_at hl 4 rfl) ?_
    refine k_pi hW (va_runS (As := [.int x2, .int x3, .int x4]) (rest := []) C (mtX11_isStart l D q _ H.size x2 x3 x4 _ h) (va_cwS 3 C.2.2.2.2 gX11_far_X11_isStart rfl rfl rfl (by decide +kernel) ⟨Nat.le_of_ble_eq_true rfl, Nat.le_of_ble_eq_true rfl⟩) ⟨mP_blind tX_B, fun U hU hV => ⟨rfl, hW.pre0 hU hV trivial⟩⟩ rfl rfl hl.1 rfl (lv_room (Nat.le_of_ble_eq_true rfl)) dX11_far_14 ⟨Nat.zero_le _, Nat.zero_le _⟩) (fun r5 H locs h hW => ?_)
    refine lv_if_eq (tgt := 33) C.1 C.2.1 dX11_far_17 (by decide) (fun c6 => ?_) (fun c6 => ?_)
    · replace h := h.1 c6
      refine lv_bipush (v := -2) C.1 C.2.1 dX11_far_33 (by decide) ?_
      exact t_i C hr hlk (u := (f2, a3)) hW.2.2.2.1 hW.B h dX11_far_35
    · replace h := h.2 c6
      refine lv_iload C.1 C.2.1 dX11_far_20 (lv_at hl 5 rfl) ?_
      refine lv_i2l C.1 C.2.1 dX11_far_22 rfl ?_
      refine lv_lconst (v := 0) C.1 C.2.1 dX11_far_23 (by decide) ?_
      refine lv_ldc2 (v := (4)) C.1 C.2.1 C.2.2.2.1 (C.2.2.2.2 (.constantLong RX11 123 (4)) (by decide +kernel)) dX11_far_24 ?_
      refine k_pi hW (va_runS (As := [.long x5.toInt64, .long (0 : Int64), .long (4 : Int64)]) (rest := []) C (mtX11_in l D q _ H.size x5.toInt64 (0 : Int64) (4 : Int64) _ h) (va_cwS 3 C.2.2.2.2 gX11_far_X11_in rfl rfl rfl (by decide +kernel) ⟨Nat.le_of_ble_eq_true rfl, Nat.le_of_ble_eq_true rfl⟩) ⟨mP_blind tX_B, fun U hU hV => ⟨rfl, hW.pre0 hU hV trivial⟩⟩ rfl rfl hl.1 rfl (lv_room (Nat.le_of_ble_eq_true rfl)) dX11_far_27 ⟨Nat.zero_le _, Nat.zero_le _⟩) (fun r7 H locs h hW => ?_)
      refine lv_if_ne (tgt := 36) C.1 C.2.1 dX11_far_30 (by decide) (fun c8 => ?_) (fun c8 => ?_)
      · replace h := h.1 c8
        refine lv_aload_n C.1 C.2.1 dX11_far_36 rfl (lv_at hl 0 rfl) ?_
        refine lv_iload_n C.1 C.2.1 dX11_far_37 rfl (lv_at hl 1 rfl) ?_
        refine lv_bipush (v := -9) C.1 C.2.1 dX11_far_38 (by decide) ?_
        refine lv_iload_n C.1 C.2.1 dX11_far_40 rfl (lv_at hl 2 rfl) ?_
        refine lv_iload_n C.1 C.2.1 dX11_far_41 rfl (lv_at hl 3 rfl) ?_
        refine lv_iload C.1 C.2.1 dX11_far_42 (lv_at hl 4 rfl) ?_
        refine k_v hW (va_runV (As := [.int x1, .int (-9 : Int32), .int x2, .int x3, .int x4]) (rest := []) C (mtX11_begin l D q cI H.size x1 (-9 : Int32) x2 x3 x4 f2 a3 _ h) (cwV 5 C.2.2.2.2 gX11_far_X11_begin rfl rfl rfl (by decide +kernel) ⟨Nat.le_of_ble_eq_true rfl, Nat.le_of_ble_eq_true rfl⟩) ⟨mP_blind tX_B, va_recv hW.1 hW.2.1 (ci := 11) (q0 := 0) rfl (wL_get (by decide)), fun U hU hV => ⟨rfl, hW.pre hU hV trivial⟩⟩ rfl rfl hl.1 rfl (lv_room (Nat.le_of_ble_eq_true rfl)) dX11_far_44 ⟨Nat.zero_le _, Nat.zero_le _⟩) (fun u H locs h hW => ?_)
        obtain ⟨f9, a10⟩ := u
        replace hW : hw D [(cI, .int)] q 12 (gM q cI f9 a10) A s H locs := hW
        refine lv_aload_n C.1 C.2.1 dX11_far_47 rfl (lv_at hl 0 rfl) ?_
        refine k_v hW (va_runV (As := []) (rest := []) C (mtX11_goRound l D q cI H.size  f9 a10 _ h) (cwV 0 C.2.2.2.2 gX11_far_X11_goRound rfl rfl rfl (by decide +kernel) ⟨Nat.le_of_ble_eq_true rfl, Nat.le_of_ble_eq_true rfl⟩) ⟨mP_blind tX_B, va_recv hW.1 hW.2.1 (ci := 11) (q0 := 0) rfl (wL_get (by decide)), fun U hU hV => ⟨rfl, hW.pre hU hV trivial⟩⟩ rfl rfl hl.1 rfl (lv_room (Nat.le_of_ble_eq_true rfl)) dX11_far_48 ⟨Nat.zero_le _, Nat.zero_le _⟩) (fun u H locs h hW => ?_)
        obtain ⟨f11, a12⟩ := u
        replace hW : hw D [(cI, .int)] q 12 (gM q cI f11 a12) A s H locs := hW
        refine lv_aload_n C.1 C.2.1 dX11_far_51 rfl (lv_at hl 0 rfl) ?_
        refine lv_iload C.1 C.2.1 dX11_far_52 (lv_at hl 5 rfl) ?_
        refine k_i hW (va_runV (As := [.int x5]) (rest := []) C (mtX11_toldOf l D q cI H.size x5 f11 a12 _ h) (cwV 1 C.2.2.2.2 gX11_far_X11_toldOf rfl rfl rfl (by decide +kernel) ⟨Nat.le_of_ble_eq_true rfl, Nat.le_of_ble_eq_true rfl⟩) ⟨mP_blind tX_B, va_recv hW.1 hW.2.1 (ci := 11) (q0 := 0) rfl (wL_get (by decide)), fun U hU hV => ⟨rfl, hW.pre hU hV trivial⟩⟩ rfl rfl hl.1 rfl (lv_room (Nat.le_of_ble_eq_true rfl)) dX11_far_54 ⟨Nat.zero_le _, Nat.zero_le _⟩) (fun r13 u H locs h hW => ?_)
        obtain ⟨f14, a15⟩ := u
        replace hW : hw D [(cI, .int)] q 12 (gM q cI f14 a15) A s H locs := hW
        exact t_i C hr hlk (u := (f14, a15)) hW.2.2.2.1 hW.B h dX11_far_57
      · replace h := h.2 c8
        refine lv_bipush (v := -2) C.1 C.2.1 dX11_far_33 (by decide) ?_
        exact t_i C hr hlk (u := (f2, a3)) hW.2.2.2.1 hW.B h dX11_far_35
  · replace h := h.2 c4
    refine lv_iconst (v := -1) C.1 C.2.1 dX11_far_8 (by decide) ?_
    exact t_i C hr hlk (u := (f2, a3)) hW.2.2.2.1 hW.B h dX11_far_9
set_option maxRecDepth 100000 in
set_option maxHeartbeats 4000000 in
theorem mtX11_far (l : Launch) (D : va_G) (q : Nat → Nat) (cI : ClassId) (sz : Nat) (x1 : Int32) (x2 : Int32) (x3 : Int32) (x4 : Int32) (x5 : Int32) (f : Nat → Int32) (a : Nat → Nat → Int32) (Q : Int32 → (Nat → Int32) → (Nat → Nat → Int32) → Prop) (h : vX11_far x1 x2 x3 x4 x5 f a Q) : Met l yX11_far wsX11_far rmX11_far (va_Pc [.ref (q 0), .int x1, .int x2, .int x3, .int x4, .int x5] (mP D [(cI, .int)] q 12 (gM q cI f a) sz tX)) (QMi D q cI Q (aQ q 12 sz)) 0 0 (aQ q 12 sz) := by
  refine met_w (cc := cX11_far) (maxL := 6) (ret := (some .int)) (by decide) rfl (Nat.le_of_ble_eq_true rfl) ?_
  intro p e s m below meth c ls C hr hlk hW hX hnm hl
  exact sX11_far C hr hlk Q x1 x2 x3 x4 x5 f a _ _ _ h hW hl
theorem inX11_after : ∀ w ∈ wsX110, w ∈ wsX11_after := fun _ h => List.mem_cons_of_mem _ (List.mem_append_right _ h)
abbrev rmX11_after : Room := { frames := 4, cells := 0, slots := 0, locals := 97 }
def vX11_after_63 (Q : Int32 → (Nat → Int32) → (Nat → Nat → Int32) → Prop) : Nat → Int32 → Int32 → Int32 → (Nat → Int32) → (Nat → Nat → Int32) → Prop
  | 0, _, _, _, _, _ => False
  | fu+1, x5, x6, x7, f, a => (x5 ≤ x7 → (¬ x6 = 0 → (¬ x6 = (1 : Int32) → vp_in x5 602 ∧ (Q (a 6 x5.toNatClampNeg) f a)) ∧ (x6 = (1 : Int32) → vp_in x5 602 ∧ (Q (a 5 x5.toNatClampNeg) f a))) ∧ (x6 = 0 → vp_in x5 301 ∧ (Q (a 4 x5.toNatClampNeg) f a))) ∧ (¬ (x5 ≤ x7) → vX11_stepOn x7 f a (fun f19 a20 => ∀ x7_21 : Int32, x7_21 = x7 + (1 : Int32) → vX11_after_63 Q fu x5 x6 x7_21 f19 a20))
def vX11_after (x1 : Int32) (x2 : Int32) (x3 : Int32) (x4 : Int32) (x5 : Int32) (x6 : Int32) (f : Nat → Int32) (a : Nat → Nat → Int32) (Q : Int32 → (Nat → Int32) → (Nat → Nat → Int32) → Prop) : Prop := vX11_noMill x1 f a (fun r1 f2 a3 => (r1 = 0 → vX11_isStart x2 x3 x4 (fun r5 => (r5 = 0 → Q (-2 : Int32) f2 a3) ∧ (¬ (r5 = 0) → vX11_in x5.toInt64 (0 : Int64) (300 : Int64) (fun r7 => (r7 = 0 → Q (-2 : Int32) f2 a3) ∧ (¬ (r7 = 0) → vX11_in x6.toInt64 (0 : Int64) (2 : Int64) (fun r9 => (¬ r9 = 0 → vX11_begin x1 (-9 : Int32) x2 x3 x4 f2 a3 (fun f11 a12 => ∃ n63, vX11_after_63 Q n63 x5 x6 (0 : Int32) f11 a12)) ∧ (r9 = 0 → Q (-2 : Int32) f2 a3))))))) ∧ (¬ (r1 = 0) → Q (-1 : Int32) f2 a3))
set_option maxRecDepth 100000 in
set_option maxHeartbeats 4000000 in
theorem sX11_after_63 {p : Program} {l : Launch} {e : Env} {s : State} {m : MethodId} {args : Array Value} {below : List Frame} {meth : Method} {c : Code} {D : va_G} {q : Nat → Nat} {A : Nat → Prop} {cI : ClassId} (C : CallFix p m c cX11_after 8 s args wsX11_after RX11) (hr : meth.sig.returnType = (some .int)) (hlk : meth.locks = false) (Q : Int32 → (Nat → Int32) → (Nat → Nat → Int32) → Prop) : ∀ (fu : Nat) (x5 : Int32) (x6 : Int32) (x7 : Int32) (f : Nat → Int32) (a : Nat → Nat → Int32) (H : Heap) (locs : List Loc) (ls : Array Slot), vX11_after_63 Q fu x5 x6 x7 f a → hw D [(cI, .int)] q 12 (gM q cI f a) A s H locs → lv_has ls 8 [(0, .ref (q 0)), (5, .int x5), (6, .int x6), (7, .int x7)] → W p l e (headSpec wsX11_after rmX11_after).room s m args below meth c H locs 0 0 (MQ below (QMi D q cI Q A) args s 0 0 A) (F0 m 63 ls []) := by
  intro fu
  induction fu with
  | zero =>
    intro x5 x6 x7 f a H locs ls h
    exact h.elim
  | succ fu ih =>
    intro x5 x6 x7 f a H locs ls h hW hl
    refine lv_iload C.1 C.2.1 dX11_after_63 (lv_at hl 3 rfl) ?_
    refine lv_iload C.1 C.2.1 dX11_after_65 (lv_at hl 1 rfl) ?_
    refine lv_icmp_ge (tgt := 82) C.1 C.2.1 dX11_after_67 (by decide) (fun c13 => ?_) (fun c13 => ?_)
    · replace h := h.1 c13
      refine lv_iload C.1 C.2.1 dX11_after_82 (lv_at hl 2 rfl) ?_
      refine lv_if_ne (tgt := 97) C.1 C.2.1 dX11_after_84 (by decide) (fun c14 => ?_) (fun c14 => ?_)
      · replace h := h.1 c14
        refine lv_iload C.1 C.2.1 dX11_after_97 (lv_at hl 2 rfl) ?_
        refine lv_iconst (v := 1) C.1 C.2.1 dX11_after_99 (by decide) ?_
        refine lv_icmp_ne (tgt := 113) C.1 C.2.1 dX11_after_100 (by decide) (fun c15 => ?_) (fun c15 => ?_)
        · replace h := h.1 c15
          refine lv_aload_n C.1 C.2.1 dX11_after_113 rfl (lv_at hl 0 rfl) ?_
          refine r_get C hW (ci := 11) (T := TX11) (n := 21) (ref := "BallMinderModel") (v := .ref (q 6)) 0 (by decide) rfl rfl 11 (by decide) inX11_after (by decide +kernel) (fun _ h9 => h9) rfl dX11_after_114 ?_
          refine lv_iload C.1 C.2.1 dX11_after_117 (lv_at hl 1 rfl) ?_
          obtain ⟨hs16, h⟩ := h
          refine r_iald C hW (cA := cI) (n := 602) (f := a 6) 6 0 (by decide) rfl rfl hs16 dX11_after_119 ?_
          exact t_i C hr hlk (u := (f, a)) hW.2.2.2.1 hW.B h dX11_after_120
        · replace h := h.2 c15
          refine lv_aload_n C.1 C.2.1 dX11_after_103 rfl (lv_at hl 0 rfl) ?_
          refine r_get C hW (ci := 11) (T := TX11) (n := 21) (ref := "BallMinderModel") (v := .ref (q 5)) 0 (by decide) rfl rfl 10 (by decide) inX11_after (by decide +kernel) (fun _ h9 => h9) rfl dX11_after_104 ?_
          refine lv_iload C.1 C.2.1 dX11_after_107 (lv_at hl 1 rfl) ?_
          obtain ⟨hs17, h⟩ := h
          refine r_iald C hW (cA := cI) (n := 602) (f := a 5) 5 0 (by decide) rfl rfl hs17 dX11_after_109 ?_
          refine lv_goto (tgt := 120) C.1 C.2.1 dX11_after_110 (by decide) ?_
          exact t_i C hr hlk (u := (f, a)) hW.2.2.2.1 hW.B h dX11_after_120
      · replace h := h.2 c14
        refine lv_aload_n C.1 C.2.1 dX11_after_87 rfl (lv_at hl 0 rfl) ?_
        refine r_get C hW (ci := 11) (T := TX11) (n := 21) (ref := "BallMinderModel") (v := .ref (q 4)) 0 (by decide) rfl rfl 9 (by decide) inX11_after (by decide +kernel) (fun _ h9 => h9) rfl dX11_after_88 ?_
        refine lv_iload C.1 C.2.1 dX11_after_91 (lv_at hl 1 rfl) ?_
        obtain ⟨hs18, h⟩ := h
        refine r_iald C hW (cA := cI) (n := 301) (f := a 4) 4 0 (by decide) rfl rfl hs18 dX11_after_93 ?_
        refine lv_goto (tgt := 120) C.1 C.2.1 dX11_after_94 (by decide) ?_
        exact t_i C hr hlk (u := (f, a)) hW.2.2.2.1 hW.B h dX11_after_120
    · replace h := h.2 c13
      refine lv_aload_n C.1 C.2.1 dX11_after_70 rfl (lv_at hl 0 rfl) ?_
      refine lv_iload C.1 C.2.1 dX11_after_71 (lv_at hl 3 rfl) ?_
      refine k_v hW (va_runV (As := [.int x7]) (rest := []) C (mtX11_stepOn l D q cI H.size x7 f a _ h) (cwV 1 C.2.2.2.2 gX11_after_X11_stepOn rfl rfl rfl (by decide +kernel) ⟨Nat.le_of_ble_eq_true rfl, Nat.le_of_ble_eq_true rfl⟩) ⟨mP_blind tX_B, va_recv hW.1 hW.2.1 (ci := 11) (q0 := 0) rfl (wL_get (by decide)), fun U hU hV => ⟨rfl, hW.pre hU hV trivial⟩⟩ rfl rfl hl.1 rfl (lv_room (Nat.le_of_ble_eq_true rfl)) dX11_after_73 ⟨Nat.zero_le _, Nat.zero_le _⟩) (fun u H locs h hW => ?_)
      obtain ⟨f19, a20⟩ := u
      replace hW : hw D [(cI, .int)] q 12 (gM q cI f19 a20) A s H locs := hW
      obtain ⟨x7_21, ex7_21⟩ : ∃ z : Int32, z = x7 + (1 : Int32) := ⟨_, rfl⟩
      replace h := h x7_21 ex7_21
      refine lv_iinc (v := x7_21) (lv' := [(7, .int x7_21), (0, .ref (q 0)), (5, .int x5), (6, .int x6)]) C.1 C.2.1 dX11_after_76 hl (k := 3) rfl (by rw [ex7_21]; rfl) (by decide) rfl (fun ls hl => ?_)
      refine lv_goto (tgt := 63) C.1 C.2.1 dX11_after_79 (by decide) ?_
      exact ih x5 x6 x7_21 f19 a20 _ _ _ h hW (lv_sub hl [1, 2, 3, 0] rfl)
set_option maxRecDepth 100000 in
set_option maxHeartbeats 4000000 in
theorem sX11_after {p : Program} {l : Launch} {e : Env} {s : State} {m : MethodId} {args : Array Value} {below : List Frame} {meth : Method} {c : Code} {D : va_G} {q : Nat → Nat} {A : Nat → Prop} {cI : ClassId} (C : CallFix p m c cX11_after 8 s args wsX11_after RX11) (hr : meth.sig.returnType = (some .int)) (hlk : meth.locks = false) (Q : Int32 → (Nat → Int32) → (Nat → Nat → Int32) → Prop) : ∀ (x1 : Int32) (x2 : Int32) (x3 : Int32) (x4 : Int32) (x5 : Int32) (x6 : Int32) (f : Nat → Int32) (a : Nat → Nat → Int32) (H : Heap) (locs : List Loc) (ls : Array Slot), vX11_after x1 x2 x3 x4 x5 x6 f a Q → hw D [(cI, .int)] q 12 (gM q cI f a) A s H locs → lv_has ls 8 [(0, .ref (q 0)), (1, .int x1), (2, .int x2), (3, .int x3), (4, .int x4), (5, .int x5), (6, .int x6)] → W p l e (headSpec wsX11_after rmX11_after).room s m args below meth c H locs 0 0 (MQ below (QMi D q cI Q A) args s 0 0 A) (F0 m 0 ls []) := by
  intro x1 x2 x3 x4 x5 x6 f a H locs ls h hW hl
  unfold vX11_after at h
  refine lv_aload_n C.1 C.2.1 dX11_after_0 rfl (lv_at hl 0 rfl) ?_
  refine lv_iload_n C.1 C.2.1 dX11_after_1 rfl (lv_at hl 1 rfl) ?_
  refine k_i hW (va_runV (As := [.int x1]) (rest := []) C (mtX11_noMill l D q cI H.size x1 f a _ h) (cwV 1 C.2.2.2.2 gX11_after_X11_noMill rfl rfl rfl (by decide +kernel) ⟨Nat.le_of_ble_eq_true rfl, Nat.le_of_ble_eq_true rfl⟩) ⟨mP_blind tX_B, va_recv hW.1 hW.2.1 (ci := 11) (q0 := 0) rfl (wL_get (by decide)), fun U hU hV => ⟨rfl, hW.pre hU hV trivial⟩⟩ rfl rfl hl.1 rfl (lv_room (Nat.le_of_ble_eq_true rfl)) dX11_after_2 ⟨Nat.zero_le _, Nat.zero_le _⟩) (fun r1 u H locs h hW => ?_)
  obtain ⟨f2, a3⟩ := u
  replace hW : hw D [(cI, .int)] q 12 (gM q cI f2 a3) A s H locs := hW
  refine lv_if_eq (tgt := 10) C.1 C.2.1 dX11_after_5 (by decide) (fun c4 => ?_) (fun c4 => ?_)
  · replace h := h.1 c4
    refine lv_iload_n C.1 C.2.1 dX11_after_10 rfl (lv_at hl 2 rfl) ?_
    refine lv_iload_n C.1 C.2.1 dX11_after_11 rfl (lv_at hl 3 rfl) ?_
    refine lv_iload C.1 C.2.1 dX11_after_12 (lv_at hl 4 rfl) ?_
    refine k_pi hW (va_runS (As := [.int x2, .int x3, .int x4]) (rest := []) C (mtX11_isStart l D q _ H.size x2 x3 x4 _ h) (va_cwS 3 C.2.2.2.2 gX11_after_X11_isStart rfl rfl rfl (by decide +kernel) ⟨Nat.le_of_ble_eq_true rfl, Nat.le_of_ble_eq_true rfl⟩) ⟨mP_blind tX_B, fun U hU hV => ⟨rfl, hW.pre0 hU hV trivial⟩⟩ rfl rfl hl.1 rfl (lv_room (Nat.le_of_ble_eq_true rfl)) dX11_after_14 ⟨Nat.zero_le _, Nat.zero_le _⟩) (fun r5 H locs h hW => ?_)
    refine lv_if_eq (tgt := 46) C.1 C.2.1 dX11_after_17 (by decide) (fun c6 => ?_) (fun c6 => ?_)
    · replace h := h.1 c6
      refine lv_bipush (v := -2) C.1 C.2.1 dX11_after_46 (by decide) ?_
      exact t_i C hr hlk (u := (f2, a3)) hW.2.2.2.1 hW.B h dX11_after_48
    · replace h := h.2 c6
      refine lv_iload C.1 C.2.1 dX11_after_20 (lv_at hl 5 rfl) ?_
      refine lv_i2l C.1 C.2.1 dX11_after_22 rfl ?_
      refine lv_lconst (v := 0) C.1 C.2.1 dX11_after_23 (by decide) ?_
      refine lv_ldc2 (v := (300)) C.1 C.2.1 C.2.2.2.1 (C.2.2.2.2 (.constantLong RX11 203 (300)) (by decide +kernel)) dX11_after_24 ?_
      refine k_pi hW (va_runS (As := [.long x5.toInt64, .long (0 : Int64), .long (300 : Int64)]) (rest := []) C (mtX11_in l D q _ H.size x5.toInt64 (0 : Int64) (300 : Int64) _ h) (va_cwS 3 C.2.2.2.2 gX11_after_X11_in rfl rfl rfl (by decide +kernel) ⟨Nat.le_of_ble_eq_true rfl, Nat.le_of_ble_eq_true rfl⟩) ⟨mP_blind tX_B, fun U hU hV => ⟨rfl, hW.pre0 hU hV trivial⟩⟩ rfl rfl hl.1 rfl (lv_room (Nat.le_of_ble_eq_true rfl)) dX11_after_27 ⟨Nat.zero_le _, Nat.zero_le _⟩) (fun r7 H locs h hW => ?_)
      refine lv_if_eq (tgt := 46) C.1 C.2.1 dX11_after_30 (by decide) (fun c8 => ?_) (fun c8 => ?_)
      · replace h := h.1 c8
        refine lv_bipush (v := -2) C.1 C.2.1 dX11_after_46 (by decide) ?_
        exact t_i C hr hlk (u := (f2, a3)) hW.2.2.2.1 hW.B h dX11_after_48
      · replace h := h.2 c8
        refine lv_iload C.1 C.2.1 dX11_after_33 (lv_at hl 6 rfl) ?_
        refine lv_i2l C.1 C.2.1 dX11_after_35 rfl ?_
        refine lv_lconst (v := 0) C.1 C.2.1 dX11_after_36 (by decide) ?_
        refine lv_ldc2 (v := (2)) C.1 C.2.1 C.2.2.2.1 (C.2.2.2.2 (.constantLong RX11 92 (2)) (by decide +kernel)) dX11_after_37 ?_
        refine k_pi hW (va_runS (As := [.long x6.toInt64, .long (0 : Int64), .long (2 : Int64)]) (rest := []) C (mtX11_in l D q _ H.size x6.toInt64 (0 : Int64) (2 : Int64) _ h) (va_cwS 3 C.2.2.2.2 gX11_after_X11_in rfl rfl rfl (by decide +kernel) ⟨Nat.le_of_ble_eq_true rfl, Nat.le_of_ble_eq_true rfl⟩) ⟨mP_blind tX_B, fun U hU hV => ⟨rfl, hW.pre0 hU hV trivial⟩⟩ rfl rfl hl.1 rfl (lv_room (Nat.le_of_ble_eq_true rfl)) dX11_after_40 ⟨Nat.zero_le _, Nat.zero_le _⟩) (fun r9 H locs h hW => ?_)
        refine lv_if_ne (tgt := 49) C.1 C.2.1 dX11_after_43 (by decide) (fun c10 => ?_) (fun c10 => ?_)
        · replace h := h.1 c10
          refine lv_aload_n C.1 C.2.1 dX11_after_49 rfl (lv_at hl 0 rfl) ?_
          refine lv_iload_n C.1 C.2.1 dX11_after_50 rfl (lv_at hl 1 rfl) ?_
          refine lv_bipush (v := -9) C.1 C.2.1 dX11_after_51 (by decide) ?_
          refine lv_iload_n C.1 C.2.1 dX11_after_53 rfl (lv_at hl 2 rfl) ?_
          refine lv_iload_n C.1 C.2.1 dX11_after_54 rfl (lv_at hl 3 rfl) ?_
          refine lv_iload C.1 C.2.1 dX11_after_55 (lv_at hl 4 rfl) ?_
          refine k_v hW (va_runV (As := [.int x1, .int (-9 : Int32), .int x2, .int x3, .int x4]) (rest := []) C (mtX11_begin l D q cI H.size x1 (-9 : Int32) x2 x3 x4 f2 a3 _ h) (cwV 5 C.2.2.2.2 gX11_after_X11_begin rfl rfl rfl (by decide +kernel) ⟨Nat.le_of_ble_eq_true rfl, Nat.le_of_ble_eq_true rfl⟩) ⟨mP_blind tX_B, va_recv hW.1 hW.2.1 (ci := 11) (q0 := 0) rfl (wL_get (by decide)), fun U hU hV => ⟨rfl, hW.pre hU hV trivial⟩⟩ rfl rfl hl.1 rfl (lv_room (Nat.le_of_ble_eq_true rfl)) dX11_after_57 ⟨Nat.zero_le _, Nat.zero_le _⟩) (fun u H locs h hW => ?_)
          obtain ⟨f11, a12⟩ := u
          replace hW : hw D [(cI, .int)] q 12 (gM q cI f11 a12) A s H locs := hW
          refine lv_iconst (v := 0) C.1 C.2.1 dX11_after_60 (by decide) ?_
          refine lv_istore (lv' := [(7, .int (0 : Int32)), (0, .ref (q 0)), (1, .int x1), (2, .int x2), (3, .int x3), (4, .int x4), (5, .int x5), (6, .int x6)]) C.1 C.2.1 dX11_after_61 hl (by decide) rfl (fun ls hl => ?_)
          obtain ⟨n9, h⟩ := h
          exact sX11_after_63 C hr hlk Q n9 x5 x6 (0 : Int32) f11 a12 _ _ _ h hW (lv_sub hl [1, 6, 7, 0] rfl)
        · replace h := h.2 c10
          refine lv_bipush (v := -2) C.1 C.2.1 dX11_after_46 (by decide) ?_
          exact t_i C hr hlk (u := (f2, a3)) hW.2.2.2.1 hW.B h dX11_after_48
  · replace h := h.2 c4
    refine lv_iconst (v := -1) C.1 C.2.1 dX11_after_8 (by decide) ?_
    exact t_i C hr hlk (u := (f2, a3)) hW.2.2.2.1 hW.B h dX11_after_9
set_option maxRecDepth 100000 in
set_option maxHeartbeats 4000000 in
theorem mtX11_after (l : Launch) (D : va_G) (q : Nat → Nat) (cI : ClassId) (sz : Nat) (x1 : Int32) (x2 : Int32) (x3 : Int32) (x4 : Int32) (x5 : Int32) (x6 : Int32) (f : Nat → Int32) (a : Nat → Nat → Int32) (Q : Int32 → (Nat → Int32) → (Nat → Nat → Int32) → Prop) (h : vX11_after x1 x2 x3 x4 x5 x6 f a Q) : Met l yX11_after wsX11_after rmX11_after (va_Pc [.ref (q 0), .int x1, .int x2, .int x3, .int x4, .int x5, .int x6] (mP D [(cI, .int)] q 12 (gM q cI f a) sz tX)) (QMi D q cI Q (aQ q 12 sz)) 0 0 (aQ q 12 sz) := by
  refine met_w (cc := cX11_after) (maxL := 8) (ret := (some .int)) (by decide) rfl (Nat.le_of_ble_eq_true rfl) ?_
  intro p e s m below meth c ls C hr hlk hW hX hnm hl
  exact sX11_after C hr hlk Q x1 x2 x3 x4 x5 x6 f a _ _ _ h hW hl
theorem inX11_reach : ∀ w ∈ wsX110, w ∈ wsX11_reach := fun _ h => List.mem_cons_of_mem _ (List.mem_append_right _ h)
abbrev rmX11_reach : Room := { frames := 5, cells := 0, slots := 0, locals := 118 }
def vX11_reach_12 (Q : Int32 → (Nat → Int32) → (Nat → Nat → Int32) → Prop) : Nat → Int32 → Int32 → (Nat → Int32) → (Nat → Nat → Int32) → Prop
  | 0, _, _, _, _ => False
  | fu+1, x1, x2, f, a => ((100 : Int32) ≤ x2 → Q (99 : Int32) f a) ∧ (¬ ((100 : Int32) ≤ x2) → vX11_begin x1 (-9 : Int32) ((100 : Int32) + x2) (50 : Int32) (50 : Int32) f a (fun f6 a7 => vX11_goRound  f6 a7 (fun f8 a9 => ((f8 13) = (1 : Int32) → ∀ x2_11 : Int32, x2_11 = x2 + (1 : Int32) → vX11_reach_12 Q fu x1 x2_11 f8 a9) ∧ (¬ ((f8 13) = (1 : Int32)) → (¬ x2 = 0 → Q (x2 - (1 : Int32)) f8 a9) ∧ (x2 = 0 → Q (-9 : Int32) f8 a9)))))
def vX11_reach (x1 : Int32) (f : Nat → Int32) (a : Nat → Nat → Int32) (Q : Int32 → (Nat → Int32) → (Nat → Nat → Int32) → Prop) : Prop := vX11_noMill x1 f a (fun r1 f2 a3 => (r1 = 0 → ∃ n12, vX11_reach_12 Q n12 x1 (0 : Int32) f2 a3) ∧ (¬ (r1 = 0) → Q (-1 : Int32) f2 a3))
set_option maxRecDepth 100000 in
set_option maxHeartbeats 4000000 in
theorem sX11_reach_12 {p : Program} {l : Launch} {e : Env} {s : State} {m : MethodId} {args : Array Value} {below : List Frame} {meth : Method} {c : Code} {D : va_G} {q : Nat → Nat} {A : Nat → Prop} {cI : ClassId} (C : CallFix p m c cX11_reach 3 s args wsX11_reach RX11) (hr : meth.sig.returnType = (some .int)) (hlk : meth.locks = false) (Q : Int32 → (Nat → Int32) → (Nat → Nat → Int32) → Prop) : ∀ (fu : Nat) (x1 : Int32) (x2 : Int32) (f : Nat → Int32) (a : Nat → Nat → Int32) (H : Heap) (locs : List Loc) (ls : Array Slot), vX11_reach_12 Q fu x1 x2 f a → hw D [(cI, .int)] q 12 (gM q cI f a) A s H locs → lv_has ls 3 [(0, .ref (q 0)), (1, .int x1), (2, .int x2)] → W p l e (headSpec wsX11_reach rmX11_reach).room s m args below meth c H locs 0 0 (MQ below (QMi D q cI Q A) args s 0 0 A) (F0 m 12 ls []) := by
  intro fu
  induction fu with
  | zero =>
    intro x1 x2 f a H locs ls h
    exact h.elim
  | succ fu ih =>
    intro x1 x2 f a H locs ls h hW hl
    refine lv_iload_n C.1 C.2.1 dX11_reach_12 rfl (lv_at hl 2 rfl) ?_
    refine lv_bipush (v := 100) C.1 C.2.1 dX11_reach_13 (by decide) ?_
    refine lv_icmp_ge (tgt := 64) C.1 C.2.1 dX11_reach_15 (by decide) (fun c5 => ?_) (fun c5 => ?_)
    · replace h := h.1 c5
      refine lv_bipush (v := 99) C.1 C.2.1 dX11_reach_64 (by decide) ?_
      exact t_i C hr hlk (u := (f, a)) hW.2.2.2.1 hW.B h dX11_reach_66
    · replace h := h.2 c5
      refine lv_aload_n C.1 C.2.1 dX11_reach_18 rfl (lv_at hl 0 rfl) ?_
      refine lv_iload_n C.1 C.2.1 dX11_reach_19 rfl (lv_at hl 1 rfl) ?_
      refine lv_bipush (v := -9) C.1 C.2.1 dX11_reach_20 (by decide) ?_
      refine lv_bipush (v := 100) C.1 C.2.1 dX11_reach_22 (by decide) ?_
      refine lv_iload_n C.1 C.2.1 dX11_reach_24 rfl (lv_at hl 2 rfl) ?_
      refine lv_iadd C.1 C.2.1 dX11_reach_25 ?_
      refine lv_bipush (v := 50) C.1 C.2.1 dX11_reach_26 (by decide) ?_
      refine lv_bipush (v := 50) C.1 C.2.1 dX11_reach_28 (by decide) ?_
      refine k_v hW (va_runV (As := [.int x1, .int (-9 : Int32), .int ((100 : Int32) + x2), .int (50 : Int32), .int (50 : Int32)]) (rest := []) C (mtX11_begin l D q cI H.size x1 (-9 : Int32) ((100 : Int32) + x2) (50 : Int32) (50 : Int32) f a _ h) (cwV 5 C.2.2.2.2 gX11_reach_X11_begin rfl rfl rfl (by decide +kernel) ⟨Nat.le_of_ble_eq_true rfl, Nat.le_of_ble_eq_true rfl⟩) ⟨mP_blind tX_B, va_recv hW.1 hW.2.1 (ci := 11) (q0 := 0) rfl (wL_get (by decide)), fun U hU hV => ⟨rfl, hW.pre hU hV trivial⟩⟩ rfl rfl hl.1 rfl (lv_room (Nat.le_of_ble_eq_true rfl)) dX11_reach_30 ⟨Nat.zero_le _, Nat.zero_le _⟩) (fun u H locs h hW => ?_)
      obtain ⟨f6, a7⟩ := u
      replace hW : hw D [(cI, .int)] q 12 (gM q cI f6 a7) A s H locs := hW
      refine lv_aload_n C.1 C.2.1 dX11_reach_33 rfl (lv_at hl 0 rfl) ?_
      refine k_v hW (va_runV (As := []) (rest := []) C (mtX11_goRound l D q cI H.size  f6 a7 _ h) (cwV 0 C.2.2.2.2 gX11_reach_X11_goRound rfl rfl rfl (by decide +kernel) ⟨Nat.le_of_ble_eq_true rfl, Nat.le_of_ble_eq_true rfl⟩) ⟨mP_blind tX_B, va_recv hW.1 hW.2.1 (ci := 11) (q0 := 0) rfl (wL_get (by decide)), fun U hU hV => ⟨rfl, hW.pre hU hV trivial⟩⟩ rfl rfl hl.1 rfl (lv_room (Nat.le_of_ble_eq_true rfl)) dX11_reach_34 ⟨Nat.zero_le _, Nat.zero_le _⟩) (fun u H locs h hW => ?_)
      obtain ⟨f8, a9⟩ := u
      replace hW : hw D [(cI, .int)] q 12 (gM q cI f8 a9) A s H locs := hW
      refine lv_aload_n C.1 C.2.1 dX11_reach_37 rfl (lv_at hl 0 rfl) ?_
      refine r_get C hW (ci := 11) (T := TX11) (n := 21) (ref := "BallMinderModel") (v := .int (f8 13)) 0 (by decide) rfl rfl 13 (by decide) inX11_reach (by decide +kernel) (fun _ h9 => h9) rfl dX11_reach_38 ?_
      refine lv_iconst (v := 1) C.1 C.2.1 dX11_reach_41 (by decide) ?_
      refine lv_icmp_eq (tgt := 58) C.1 C.2.1 dX11_reach_42 (by decide) (fun c10 => ?_) (fun c10 => ?_)
      · replace h := h.1 c10
        obtain ⟨x2_11, ex2_11⟩ : ∃ z : Int32, z = x2 + (1 : Int32) := ⟨_, rfl⟩
        replace h := h x2_11 ex2_11
        refine lv_iinc (v := x2_11) (lv' := [(2, .int x2_11), (0, .ref (q 0)), (1, .int x1)]) C.1 C.2.1 dX11_reach_58 hl (k := 2) rfl (by rw [ex2_11]; rfl) (by decide) rfl (fun ls hl => ?_)
        refine lv_goto (tgt := 12) C.1 C.2.1 dX11_reach_61 (by decide) ?_
        exact ih x1 x2_11 f8 a9 _ _ _ h hW (lv_sub hl [1, 2, 0] rfl)
      · replace h := h.2 c10
        refine lv_iload_n C.1 C.2.1 dX11_reach_45 rfl (lv_at hl 2 rfl) ?_
        refine lv_if_ne (tgt := 54) C.1 C.2.1 dX11_reach_46 (by decide) (fun c12 => ?_) (fun c12 => ?_)
        · replace h := h.1 c12
          refine lv_iload_n C.1 C.2.1 dX11_reach_54 rfl (lv_at hl 2 rfl) ?_
          refine lv_iconst (v := 1) C.1 C.2.1 dX11_reach_55 (by decide) ?_
          refine lv_isub C.1 C.2.1 dX11_reach_56 ?_
          exact t_i C hr hlk (u := (f8, a9)) hW.2.2.2.1 hW.B h dX11_reach_57
        · replace h := h.2 c12
          refine lv_bipush (v := -9) C.1 C.2.1 dX11_reach_49 (by decide) ?_
          refine lv_goto (tgt := 57) C.1 C.2.1 dX11_reach_51 (by decide) ?_
          exact t_i C hr hlk (u := (f8, a9)) hW.2.2.2.1 hW.B h dX11_reach_57
set_option maxRecDepth 100000 in
set_option maxHeartbeats 4000000 in
theorem sX11_reach {p : Program} {l : Launch} {e : Env} {s : State} {m : MethodId} {args : Array Value} {below : List Frame} {meth : Method} {c : Code} {D : va_G} {q : Nat → Nat} {A : Nat → Prop} {cI : ClassId} (C : CallFix p m c cX11_reach 3 s args wsX11_reach RX11) (hr : meth.sig.returnType = (some .int)) (hlk : meth.locks = false) (Q : Int32 → (Nat → Int32) → (Nat → Nat → Int32) → Prop) : ∀ (x1 : Int32) (f : Nat → Int32) (a : Nat → Nat → Int32) (H : Heap) (locs : List Loc) (ls : Array Slot), vX11_reach x1 f a Q → hw D [(cI, .int)] q 12 (gM q cI f a) A s H locs → lv_has ls 3 [(0, .ref (q 0)), (1, .int x1)] → W p l e (headSpec wsX11_reach rmX11_reach).room s m args below meth c H locs 0 0 (MQ below (QMi D q cI Q A) args s 0 0 A) (F0 m 0 ls []) := by
  intro x1 f a H locs ls h hW hl
  unfold vX11_reach at h
  refine lv_aload_n C.1 C.2.1 dX11_reach_0 rfl (lv_at hl 0 rfl) ?_
  refine lv_iload_n C.1 C.2.1 dX11_reach_1 rfl (lv_at hl 1 rfl) ?_
  refine k_i hW (va_runV (As := [.int x1]) (rest := []) C (mtX11_noMill l D q cI H.size x1 f a _ h) (cwV 1 C.2.2.2.2 gX11_reach_X11_noMill rfl rfl rfl (by decide +kernel) ⟨Nat.le_of_ble_eq_true rfl, Nat.le_of_ble_eq_true rfl⟩) ⟨mP_blind tX_B, va_recv hW.1 hW.2.1 (ci := 11) (q0 := 0) rfl (wL_get (by decide)), fun U hU hV => ⟨rfl, hW.pre hU hV trivial⟩⟩ rfl rfl hl.1 rfl (lv_room (Nat.le_of_ble_eq_true rfl)) dX11_reach_2 ⟨Nat.zero_le _, Nat.zero_le _⟩) (fun r1 u H locs h hW => ?_)
  obtain ⟨f2, a3⟩ := u
  replace hW : hw D [(cI, .int)] q 12 (gM q cI f2 a3) A s H locs := hW
  refine lv_if_eq (tgt := 10) C.1 C.2.1 dX11_reach_5 (by decide) (fun c4 => ?_) (fun c4 => ?_)
  · replace h := h.1 c4
    refine lv_iconst (v := 0) C.1 C.2.1 dX11_reach_10 (by decide) ?_
    refine lv_istore_n (lv' := [(2, .int (0 : Int32)), (0, .ref (q 0)), (1, .int x1)]) C.1 C.2.1 dX11_reach_11 rfl hl (by decide) rfl (fun ls hl => ?_)
    obtain ⟨n9, h⟩ := h
    exact sX11_reach_12 C hr hlk Q n9 x1 (0 : Int32) f2 a3 _ _ _ h hW (lv_sub hl [1, 2, 0] rfl)
  · replace h := h.2 c4
    refine lv_iconst (v := -1) C.1 C.2.1 dX11_reach_8 (by decide) ?_
    exact t_i C hr hlk (u := (f2, a3)) hW.2.2.2.1 hW.B h dX11_reach_9
set_option maxRecDepth 100000 in
set_option maxHeartbeats 4000000 in
theorem mtX11_reach (l : Launch) (D : va_G) (q : Nat → Nat) (cI : ClassId) (sz : Nat) (x1 : Int32) (f : Nat → Int32) (a : Nat → Nat → Int32) (Q : Int32 → (Nat → Int32) → (Nat → Nat → Int32) → Prop) (h : vX11_reach x1 f a Q) : Met l yX11_reach wsX11_reach rmX11_reach (va_Pc [.ref (q 0), .int x1] (mP D [(cI, .int)] q 12 (gM q cI f a) sz tX)) (QMi D q cI Q (aQ q 12 sz)) 0 0 (aQ q 12 sz) := by
  refine met_w (cc := cX11_reach) (maxL := 3) (ret := (some .int)) (by decide) rfl (Nat.le_of_ble_eq_true rfl) ?_
  intro p e s m below meth c ls C hr hlk hW hX hnm hl
  exact sX11_reach C hr hlk Q x1 f a _ _ _ h hW hl
theorem inX11_two : ∀ w ∈ wsX110, w ∈ wsX11_two := fun _ h => List.mem_cons_of_mem _ (List.mem_append_right _ h)
abbrev rmX11_two : Room := { frames := 5, cells := 0, slots := 0, locals := 118 }
def vX11_two (x1 : Int32) (x2 : Int32) (x3 : Int32) (x4 : Int32) (x5 : Int32) (f : Nat → Int32) (a : Nat → Nat → Int32) (Q : Int32 → (Nat → Int32) → (Nat → Nat → Int32) → Prop) : Prop := vX11_noMill x1 f a (fun r1 f2 a3 => (¬ r1 = 0 → Q (-1 : Int32) f2 a3) ∧ (r1 = 0 → vX11_noMill x2 f2 a3 (fun r5 f6 a7 => (r5 = 0 → vX11_in x3.toInt64 (0 : Int64) (999 : Int64) (fun r9 => (r9 = 0 → Q (-2 : Int32) f6 a7) ∧ (¬ (r9 = 0) → vX11_in x4.toInt64 (0 : Int64) (200 : Int64) (fun r11 => (r11 = 0 → Q (-2 : Int32) f6 a7) ∧ (¬ (r11 = 0) → vX11_in x5.toInt64 (0 : Int64) (6 : Int64) (fun r13 => (r13 = 0 → Q (-2 : Int32) f6 a7) ∧ (¬ (r13 = 0) → (¬ x1 = x2 → vX11_begin x1 x2 x3 (50 : Int32) x4 f6 a7 (fun f16 a17 => vX11_goRound  f16 a17 (fun f18 a19 => (¬ x5 = (5 : Int32) → (¬ x5 = (6 : Int32) → vX11_toldOf x5 f18 a19 (fun r22 f23 a24 => Q r22 f23 a24)) ∧ (x5 = (6 : Int32) → vp_in ((301 : Int32) + (f18 12)) 602 ∧ (Q (a19 5 ((301 : Int32) + (f18 12)).toNatClampNeg) f18 a19))) ∧ (x5 = (5 : Int32) → vp_in (f18 12) 602 ∧ (Q (a19 5 (f18 12).toNatClampNeg) f18 a19))))) ∧ (x1 = x2 → Q (-2 : Int32) f6 a7)))))))) ∧ (¬ (r5 = 0) → Q (-1 : Int32) f6 a7))))
set_option maxRecDepth 100000 in
set_option maxHeartbeats 4000000 in
theorem sX11_two {p : Program} {l : Launch} {e : Env} {s : State} {m : MethodId} {args : Array Value} {below : List Frame} {meth : Method} {c : Code} {D : va_G} {q : Nat → Nat} {A : Nat → Prop} {cI : ClassId} (C : CallFix p m c cX11_two 6 s args wsX11_two RX11) (hr : meth.sig.returnType = (some .int)) (hlk : meth.locks = false) (Q : Int32 → (Nat → Int32) → (Nat → Nat → Int32) → Prop) : ∀ (x1 : Int32) (x2 : Int32) (x3 : Int32) (x4 : Int32) (x5 : Int32) (f : Nat → Int32) (a : Nat → Nat → Int32) (H : Heap) (locs : List Loc) (ls : Array Slot), vX11_two x1 x2 x3 x4 x5 f a Q → hw D [(cI, .int)] q 12 (gM q cI f a) A s H locs → lv_has ls 6 [(0, .ref (q 0)), (1, .int x1), (2, .int x2), (3, .int x3), (4, .int x4), (5, .int x5)] → W p l e (headSpec wsX11_two rmX11_two).room s m args below meth c H locs 0 0 (MQ below (QMi D q cI Q A) args s 0 0 A) (F0 m 0 ls []) := by
  intro x1 x2 x3 x4 x5 f a H locs ls h hW hl
  unfold vX11_two at h
  refine lv_aload_n C.1 C.2.1 dX11_two_0 rfl (lv_at hl 0 rfl) ?_
  refine lv_iload_n C.1 C.2.1 dX11_two_1 rfl (lv_at hl 1 rfl) ?_
  refine k_i hW (va_runV (As := [.int x1]) (rest := []) C (mtX11_noMill l D q cI H.size x1 f a _ h) (cwV 1 C.2.2.2.2 gX11_two_X11_noMill rfl rfl rfl (by decide +kernel) ⟨Nat.le_of_ble_eq_true rfl, Nat.le_of_ble_eq_true rfl⟩) ⟨mP_blind tX_B, va_recv hW.1 hW.2.1 (ci := 11) (q0 := 0) rfl (wL_get (by decide)), fun U hU hV => ⟨rfl, hW.pre hU hV trivial⟩⟩ rfl rfl hl.1 rfl (lv_room (Nat.le_of_ble_eq_true rfl)) dX11_two_2 ⟨Nat.zero_le _, Nat.zero_le _⟩) (fun r1 u H locs h hW => ?_)
  obtain ⟨f2, a3⟩ := u
  replace hW : hw D [(cI, .int)] q 12 (gM q cI f2 a3) A s H locs := hW
  refine lv_if_ne (tgt := 16) C.1 C.2.1 dX11_two_5 (by decide) (fun c4 => ?_) (fun c4 => ?_)
  · replace h := h.1 c4
    refine lv_iconst (v := -1) C.1 C.2.1 dX11_two_16 (by decide) ?_
    exact t_i C hr hlk (u := (f2, a3)) hW.2.2.2.1 hW.B h dX11_two_17
  · replace h := h.2 c4
    refine lv_aload_n C.1 C.2.1 dX11_two_8 rfl (lv_at hl 0 rfl) ?_
    refine lv_iload_n C.1 C.2.1 dX11_two_9 rfl (lv_at hl 2 rfl) ?_
    refine k_i hW (va_runV (As := [.int x2]) (rest := []) C (mtX11_noMill l D q cI H.size x2 f2 a3 _ h) (cwV 1 C.2.2.2.2 gX11_two_X11_noMill rfl rfl rfl (by decide +kernel) ⟨Nat.le_of_ble_eq_true rfl, Nat.le_of_ble_eq_true rfl⟩) ⟨mP_blind tX_B, va_recv hW.1 hW.2.1 (ci := 11) (q0 := 0) rfl (wL_get (by decide)), fun U hU hV => ⟨rfl, hW.pre hU hV trivial⟩⟩ rfl rfl hl.1 rfl (lv_room (Nat.le_of_ble_eq_true rfl)) dX11_two_10 ⟨Nat.zero_le _, Nat.zero_le _⟩) (fun r5 u H locs h hW => ?_)
    obtain ⟨f6, a7⟩ := u
    replace hW : hw D [(cI, .int)] q 12 (gM q cI f6 a7) A s H locs := hW
    refine lv_if_eq (tgt := 18) C.1 C.2.1 dX11_two_13 (by decide) (fun c8 => ?_) (fun c8 => ?_)
    · replace h := h.1 c8
      refine lv_iload_n C.1 C.2.1 dX11_two_18 rfl (lv_at hl 3 rfl) ?_
      refine lv_i2l C.1 C.2.1 dX11_two_19 rfl ?_
      refine lv_lconst (v := 0) C.1 C.2.1 dX11_two_20 (by decide) ?_
      refine lv_ldc2 (v := (999)) C.1 C.2.1 C.2.2.2.1 (C.2.2.2.2 (.constantLong RX11 185 (999)) (by decide +kernel)) dX11_two_21 ?_
      refine k_pi hW (va_runS (As := [.long x3.toInt64, .long (0 : Int64), .long (999 : Int64)]) (rest := []) C (mtX11_in l D q _ H.size x3.toInt64 (0 : Int64) (999 : Int64) _ h) (va_cwS 3 C.2.2.2.2 gX11_two_X11_in rfl rfl rfl (by decide +kernel) ⟨Nat.le_of_ble_eq_true rfl, Nat.le_of_ble_eq_true rfl⟩) ⟨mP_blind tX_B, fun U hU hV => ⟨rfl, hW.pre0 hU hV trivial⟩⟩ rfl rfl hl.1 rfl (lv_room (Nat.le_of_ble_eq_true rfl)) dX11_two_24 ⟨Nat.zero_le _, Nat.zero_le _⟩) (fun r9 H locs h hW => ?_)
      refine lv_if_eq (tgt := 61) C.1 C.2.1 dX11_two_27 (by decide) (fun c10 => ?_) (fun c10 => ?_)
      · replace h := h.1 c10
        refine lv_bipush (v := -2) C.1 C.2.1 dX11_two_61 (by decide) ?_
        exact t_i C hr hlk (u := (f6, a7)) hW.2.2.2.1 hW.B h dX11_two_63
      · replace h := h.2 c10
        refine lv_iload C.1 C.2.1 dX11_two_30 (lv_at hl 4 rfl) ?_
        refine lv_i2l C.1 C.2.1 dX11_two_32 rfl ?_
        refine lv_lconst (v := 0) C.1 C.2.1 dX11_two_33 (by decide) ?_
        refine lv_ldc2 (v := (200)) C.1 C.2.1 C.2.2.2.1 (C.2.2.2.2 (.constantLong RX11 205 (200)) (by decide +kernel)) dX11_two_34 ?_
        refine k_pi hW (va_runS (As := [.long x4.toInt64, .long (0 : Int64), .long (200 : Int64)]) (rest := []) C (mtX11_in l D q _ H.size x4.toInt64 (0 : Int64) (200 : Int64) _ h) (va_cwS 3 C.2.2.2.2 gX11_two_X11_in rfl rfl rfl (by decide +kernel) ⟨Nat.le_of_ble_eq_true rfl, Nat.le_of_ble_eq_true rfl⟩) ⟨mP_blind tX_B, fun U hU hV => ⟨rfl, hW.pre0 hU hV trivial⟩⟩ rfl rfl hl.1 rfl (lv_room (Nat.le_of_ble_eq_true rfl)) dX11_two_37 ⟨Nat.zero_le _, Nat.zero_le _⟩) (fun r11 H locs h hW => ?_)
        refine lv_if_eq (tgt := 61) C.1 C.2.1 dX11_two_40 (by decide) (fun c12 => ?_) (fun c12 => ?_)
        · replace h := h.1 c12
          refine lv_bipush (v := -2) C.1 C.2.1 dX11_two_61 (by decide) ?_
          exact t_i C hr hlk (u := (f6, a7)) hW.2.2.2.1 hW.B h dX11_two_63
        · replace h := h.2 c12
          refine lv_iload C.1 C.2.1 dX11_two_43 (lv_at hl 5 rfl) ?_
          refine lv_i2l C.1 C.2.1 dX11_two_45 rfl ?_
          refine lv_lconst (v := 0) C.1 C.2.1 dX11_two_46 (by decide) ?_
          refine lv_ldc2 (v := (6)) C.1 C.2.1 C.2.2.2.1 (C.2.2.2.2 (.constantLong RX11 128 (6)) (by decide +kernel)) dX11_two_47 ?_
          refine k_pi hW (va_runS (As := [.long x5.toInt64, .long (0 : Int64), .long (6 : Int64)]) (rest := []) C (mtX11_in l D q _ H.size x5.toInt64 (0 : Int64) (6 : Int64) _ h) (va_cwS 3 C.2.2.2.2 gX11_two_X11_in rfl rfl rfl (by decide +kernel) ⟨Nat.le_of_ble_eq_true rfl, Nat.le_of_ble_eq_true rfl⟩) ⟨mP_blind tX_B, fun U hU hV => ⟨rfl, hW.pre0 hU hV trivial⟩⟩ rfl rfl hl.1 rfl (lv_room (Nat.le_of_ble_eq_true rfl)) dX11_two_50 ⟨Nat.zero_le _, Nat.zero_le _⟩) (fun r13 H locs h hW => ?_)
          refine lv_if_eq (tgt := 61) C.1 C.2.1 dX11_two_53 (by decide) (fun c14 => ?_) (fun c14 => ?_)
          · replace h := h.1 c14
            refine lv_bipush (v := -2) C.1 C.2.1 dX11_two_61 (by decide) ?_
            exact t_i C hr hlk (u := (f6, a7)) hW.2.2.2.1 hW.B h dX11_two_63
          · replace h := h.2 c14
            refine lv_iload_n C.1 C.2.1 dX11_two_56 rfl (lv_at hl 1 rfl) ?_
            refine lv_iload_n C.1 C.2.1 dX11_two_57 rfl (lv_at hl 2 rfl) ?_
            refine lv_icmp_ne (tgt := 64) C.1 C.2.1 dX11_two_58 (by decide) (fun c15 => ?_) (fun c15 => ?_)
            · replace h := h.1 c15
              refine lv_aload_n C.1 C.2.1 dX11_two_64 rfl (lv_at hl 0 rfl) ?_
              refine lv_iload_n C.1 C.2.1 dX11_two_65 rfl (lv_at hl 1 rfl) ?_
              refine lv_iload_n C.1 C.2.1 dX11_two_66 rfl (lv_at hl 2 rfl) ?_
              refine lv_iload_n C.1 C.2.1 dX11_two_67 rfl (lv_at hl 3 rfl) ?_
              refine lv_bipush (v := 50) C.1 C.2.1 dX11_two_68 (by decide) ?_
              refine lv_iload C.1 C.2.1 dX11_two_70 (lv_at hl 4 rfl) ?_
              refine k_v hW (va_runV (As := [.int x1, .int x2, .int x3, .int (50 : Int32), .int x4]) (rest := []) C (mtX11_begin l D q cI H.size x1 x2 x3 (50 : Int32) x4 f6 a7 _ h) (cwV 5 C.2.2.2.2 gX11_two_X11_begin rfl rfl rfl (by decide +kernel) ⟨Nat.le_of_ble_eq_true rfl, Nat.le_of_ble_eq_true rfl⟩) ⟨mP_blind tX_B, va_recv hW.1 hW.2.1 (ci := 11) (q0 := 0) rfl (wL_get (by decide)), fun U hU hV => ⟨rfl, hW.pre hU hV trivial⟩⟩ rfl rfl hl.1 rfl (lv_room (Nat.le_of_ble_eq_true rfl)) dX11_two_72 ⟨Nat.zero_le _, Nat.zero_le _⟩) (fun u H locs h hW => ?_)
              obtain ⟨f16, a17⟩ := u
              replace hW : hw D [(cI, .int)] q 12 (gM q cI f16 a17) A s H locs := hW
              refine lv_aload_n C.1 C.2.1 dX11_two_75 rfl (lv_at hl 0 rfl) ?_
              refine k_v hW (va_runV (As := []) (rest := []) C (mtX11_goRound l D q cI H.size  f16 a17 _ h) (cwV 0 C.2.2.2.2 gX11_two_X11_goRound rfl rfl rfl (by decide +kernel) ⟨Nat.le_of_ble_eq_true rfl, Nat.le_of_ble_eq_true rfl⟩) ⟨mP_blind tX_B, va_recv hW.1 hW.2.1 (ci := 11) (q0 := 0) rfl (wL_get (by decide)), fun U hU hV => ⟨rfl, hW.pre hU hV trivial⟩⟩ rfl rfl hl.1 rfl (lv_room (Nat.le_of_ble_eq_true rfl)) dX11_two_76 ⟨Nat.zero_le _, Nat.zero_le _⟩) (fun u H locs h hW => ?_)
              obtain ⟨f18, a19⟩ := u
              replace hW : hw D [(cI, .int)] q 12 (gM q cI f18 a19) A s H locs := hW
              refine lv_iload C.1 C.2.1 dX11_two_79 (lv_at hl 5 rfl) ?_
              refine lv_iconst (v := 5) C.1 C.2.1 dX11_two_81 (by decide) ?_
              refine lv_icmp_ne (tgt := 97) C.1 C.2.1 dX11_two_82 (by decide) (fun c20 => ?_) (fun c20 => ?_)
              · replace h := h.1 c20
                refine lv_iload C.1 C.2.1 dX11_two_97 (lv_at hl 5 rfl) ?_
                refine lv_bipush (v := 6) C.1 C.2.1 dX11_two_99 (by decide) ?_
                refine lv_icmp_ne (tgt := 120) C.1 C.2.1 dX11_two_101 (by decide) (fun c21 => ?_) (fun c21 => ?_)
                · replace h := h.1 c21
                  refine lv_aload_n C.1 C.2.1 dX11_two_120 rfl (lv_at hl 0 rfl) ?_
                  refine lv_iload C.1 C.2.1 dX11_two_121 (lv_at hl 5 rfl) ?_
                  refine k_i hW (va_runV (As := [.int x5]) (rest := []) C (mtX11_toldOf l D q cI H.size x5 f18 a19 _ h) (cwV 1 C.2.2.2.2 gX11_two_X11_toldOf rfl rfl rfl (by decide +kernel) ⟨Nat.le_of_ble_eq_true rfl, Nat.le_of_ble_eq_true rfl⟩) ⟨mP_blind tX_B, va_recv hW.1 hW.2.1 (ci := 11) (q0 := 0) rfl (wL_get (by decide)), fun U hU hV => ⟨rfl, hW.pre hU hV trivial⟩⟩ rfl rfl hl.1 rfl (lv_room (Nat.le_of_ble_eq_true rfl)) dX11_two_123 ⟨Nat.zero_le _, Nat.zero_le _⟩) (fun r22 u H locs h hW => ?_)
                  obtain ⟨f23, a24⟩ := u
                  replace hW : hw D [(cI, .int)] q 12 (gM q cI f23 a24) A s H locs := hW
                  exact t_i C hr hlk (u := (f23, a24)) hW.2.2.2.1 hW.B h dX11_two_126
                · replace h := h.2 c21
                  refine lv_aload_n C.1 C.2.1 dX11_two_104 rfl (lv_at hl 0 rfl) ?_
                  refine r_get C hW (ci := 11) (T := TX11) (n := 21) (ref := "BallMinderModel") (v := .ref (q 5)) 0 (by decide) rfl rfl 10 (by decide) inX11_two (by decide +kernel) (fun _ h9 => h9) rfl dX11_two_105 ?_
                  refine lv_sipush (v := 301) C.1 C.2.1 dX11_two_108 (by decide) ?_
                  refine lv_aload_n C.1 C.2.1 dX11_two_111 rfl (lv_at hl 0 rfl) ?_
                  refine r_get C hW (ci := 11) (T := TX11) (n := 21) (ref := "BallMinderModel") (v := .int (f18 12)) 0 (by decide) rfl rfl 12 (by decide) inX11_two (by decide +kernel) (fun _ h9 => h9) rfl dX11_two_112 ?_
                  refine lv_iadd C.1 C.2.1 dX11_two_115 ?_
                  obtain ⟨hs25, h⟩ := h
                  refine r_iald C hW (cA := cI) (n := 602) (f := a19 5) 5 0 (by decide) rfl rfl hs25 dX11_two_116 ?_
                  refine lv_goto (tgt := 126) C.1 C.2.1 dX11_two_117 (by decide) ?_
                  exact t_i C hr hlk (u := (f18, a19)) hW.2.2.2.1 hW.B h dX11_two_126
              · replace h := h.2 c20
                refine lv_aload_n C.1 C.2.1 dX11_two_85 rfl (lv_at hl 0 rfl) ?_
                refine r_get C hW (ci := 11) (T := TX11) (n := 21) (ref := "BallMinderModel") (v := .ref (q 5)) 0 (by decide) rfl rfl 10 (by decide) inX11_two (by decide +kernel) (fun _ h9 => h9) rfl dX11_two_86 ?_
                refine lv_aload_n C.1 C.2.1 dX11_two_89 rfl (lv_at hl 0 rfl) ?_
                refine r_get C hW (ci := 11) (T := TX11) (n := 21) (ref := "BallMinderModel") (v := .int (f18 12)) 0 (by decide) rfl rfl 12 (by decide) inX11_two (by decide +kernel) (fun _ h9 => h9) rfl dX11_two_90 ?_
                obtain ⟨hs26, h⟩ := h
                refine r_iald C hW (cA := cI) (n := 602) (f := a19 5) 5 0 (by decide) rfl rfl hs26 dX11_two_93 ?_
                refine lv_goto (tgt := 126) C.1 C.2.1 dX11_two_94 (by decide) ?_
                exact t_i C hr hlk (u := (f18, a19)) hW.2.2.2.1 hW.B h dX11_two_126
            · replace h := h.2 c15
              refine lv_bipush (v := -2) C.1 C.2.1 dX11_two_61 (by decide) ?_
              exact t_i C hr hlk (u := (f6, a7)) hW.2.2.2.1 hW.B h dX11_two_63
    · replace h := h.2 c8
      refine lv_iconst (v := -1) C.1 C.2.1 dX11_two_16 (by decide) ?_
      exact t_i C hr hlk (u := (f6, a7)) hW.2.2.2.1 hW.B h dX11_two_17
set_option maxRecDepth 100000 in
set_option maxHeartbeats 4000000 in
theorem mtX11_two (l : Launch) (D : va_G) (q : Nat → Nat) (cI : ClassId) (sz : Nat) (x1 : Int32) (x2 : Int32) (x3 : Int32) (x4 : Int32) (x5 : Int32) (f : Nat → Int32) (a : Nat → Nat → Int32) (Q : Int32 → (Nat → Int32) → (Nat → Nat → Int32) → Prop) (h : vX11_two x1 x2 x3 x4 x5 f a Q) : Met l yX11_two wsX11_two rmX11_two (va_Pc [.ref (q 0), .int x1, .int x2, .int x3, .int x4, .int x5] (mP D [(cI, .int)] q 12 (gM q cI f a) sz tX)) (QMi D q cI Q (aQ q 12 sz)) 0 0 (aQ q 12 sz) := by
  refine met_w (cc := cX11_two) (maxL := 6) (ret := (some .int)) (by decide) rfl (Nat.le_of_ble_eq_true rfl) ?_
  intro p e s m below meth c ls C hr hlk hW hX hnm hl
  exact sX11_two C hr hlk Q x1 x2 x3 x4 x5 f a _ _ _ h hW hl
