/-! mills are made -/
abbrev rmX4_init : Room := { frames := 1, cells := 1, slots := 9, locals := 15 }
abbrev rmX3_init : Room := { frames := 2, cells := 1, slots := 9, locals := 37 }
abbrev rmX7_init : Room := { frames := 3, cells := 1, slots := 9, locals := 59 }
abbrev rmX10_madeMill : Room := { frames := 4, cells := 2, slots := 11, locals := 81 }
set_option maxRecDepth 100000 in
set_option maxHeartbeats 4000000 in
theorem mtX4_init_4 (l : Launch) (D : va_G) (sz h0 b : Nat) (cI : ClassId) (k : Int32) (F : Nat → Int32) : Met l yX4_init wsX4_init rmX4_init (va_Pc [.ref h0, .int k, .ref b] (fun U => U.heap.size = sz ∧ va_P D vwCl [(h0, .inr (4, [.int 0, .null])), (b, .inl (cI, 9, .inl F))] U.heap ∧ va_K D vwCl [(cI, .int)] U ∧ va_D (fun _ => True) [(h0, .inr (4, [.int 0, .null])), (b, .inl (cI, 9, .inl F))] ∧ va_Nw (.castable "[I" "java/lang/Cloneable") U)) (va_Qv (fun (_ : Unit) => True) (fun _ t => ∃ x : Nat, va_P D vwCl [(h0, .inr (4, [.int k, .ref x])), (b, .inl (cI, 9, .inl F)), (x, .inl (cI, 9, .inl F))] t.heap ∧ va_D (va_A [(h0, .inr (4, [.int 0, .null])), (b, .inl (cI, 9, .inl F))] sz) [(h0, .inr (4, [.int k, .ref x])), (b, .inl (cI, 9, .inl F)), (x, .inl (cI, 9, .inl F))]) (va_A [(h0, .inr (4, [.int 0, .null])), (b, .inl (cI, 9, .inl F))] sz)) 1 9 (va_A [(h0, .inr (4, [.int 0, .null])), (b, .inl (cI, 9, .inl F))] sz) := by
  refine Met.ofW (cc := cX4_init) (maxL := 3) (ret := none) (by decide) rfl ?_
  intro p e s m args below meth c s₁ B hml hv
  obtain ⟨rfl, hsz, hP, hK, hD0, hX⟩ := hv
  have hx := B.exec
  have hb := B.bytes
  have hr := B.returns
  have hts := atoms_spec (ws := wsX4_init) B.pre
  have hown : s.vm.findClass RX4 = some m.cls := findClass_of_methodNamed B.named
  have hlocks := B.notSynchronized
  have hin : meth.name = "<init>" := (name_of_methodNamed B.named B.method).1
  subst hsz
  have hD := hD0.self (sz := s.heap.size)
  generalize hAe : va_A [(h0, .inr (4, [.int 0, .null])), (b, .inl (cI, 9, .inl F))] s.heap.size = A at hD ⊢
  have hA : ∀ q : Nat, s.heap.size ≤ q → A q := fun q h => by rw [← hAe]; exact Or.inr h
  have hS : va_S A s.heap s.heap [] := va_S.rf
  have hP : va_P D vwCl [(h0, .inr (4, [.int 0, .null])), (b, .inl (cI, 9, .inl F))] s.heap := hP
  have hl := lv_entry ([.ref h0, .int k, .ref b]) (n := 3) (Nat.le_of_ble_eq_true rfl)
  rw [lg_entry_eq]
  generalize (lg_sl ([.ref h0, .int k, .ref b]) ++ List.replicate (3 - (lg_sl ([.ref h0, .int k, .ref b])).length) Slot.unset).toArray = ls at hl ⊢
  have hl : lv_has ls 3 [(0, .ref h0), (1, .int k), (2, .ref b)] := hl
  refine lv_aload_n hx hb dX4_init_0 rfl (lv_at hl 0 rfl) ?_
  refine W.objInit hx hb hown (hts (.methodLink RX4 3 objectInit) (by decide +kernel)) (hts (.instanceMethod objectInit) (by decide +kernel)) (hts (.code objectInit ⟨#[0xb1]⟩ 1 none) (by decide +kernel)) rfl (by rw [hml]; exact hl.1) rfl dX4_init_1 (Nat.le_of_ble_eq_true rfl) (Nat.le_of_ble_eq_true rfl) ?_
  refine W.eq (g2 := F0 m 4 ls []) rfl ?_
  refine lv_aload_n hx hb dX4_init_4 rfl (lv_at hl 0 rfl) ?_
  refine lv_iload_n hx hb dX4_init_5 rfl (lv_at hl 1 rfl) ?_
  refine va_putF (D := D) (ci := 4) (v := .int k) (ty := .int) (C := RX4) (T := TX4) (N := 2) hx hb hts (by decide +kernel) tyX4 tyX4_ok nmX4 hown hK hP hD hS 0 rfl rfl 0 (by decide) (hts (.fieldLink RX4 9 "BallMinder$Plain" "number" "I") (by decide +kernel)) (fun _ h9 => h9) rfl hin rfl (by decide +kernel) rfl rfl (Nat.le_of_ble_eq_true rfl) dX4_init_6 (fun H locs hP hD hS => ?_)
  have hP : va_P D vwCl [(h0, .inr (4, [.int k, .null])), (b, .inl (cI, 9, .inl F))] H := hP
  have hD : va_D A [(h0, .inr (4, [.int k, .null])), (b, .inl (cI, 9, .inl F))] := hD
  refine lv_aload_n hx hb dX4_init_9 rfl (lv_at hl 0 rfl) ?_
  refine lv_aload_n hx hb dX4_init_10 rfl (lv_at hl 2 rfl) ?_
  have hnm : s.vm.findClass "[I" = some cI := va_nm_int (hK.2 0 _ rfl).2
  refine va_clone hx hb (by rw [hml, hl.1]) (ad := "[I") hown (hts (.methodLink RX4 15 ⟨"[I", "clone", "()Ljava/lang/Object;"⟩) (by decide +kernel)) (hts (.sameMethod "[I" "java/lang/Object" "clone" "()Ljava/lang/Object;") (by decide +kernel)) (hts (.native ⟨"java/lang/Object", "clone", "()Ljava/lang/Object;"⟩) (by decide +kernel)) (hts (.instanceMethod ⟨"java/lang/Object", "clone", "()Ljava/lang/Object;"⟩) (by decide +kernel)) (hts (.selects "[I" ⟨"[I", "clone", "()Ljava/lang/Object;"⟩ ⟨"java/lang/Object", "clone", "()Ljava/lang/Object;"⟩) (by decide +kernel)) hX hK hP hD hS hA 1 0 (x := (9, .inl F)) rfl rfl hnm (fun i v h9 => va_fit (F := fun j => .int (F j)) (n := 9) (cA := cI) (fun _ _ => rfl) i v h9) (Nat.le_of_ble_eq_true rfl) (Nat.le_of_ble_eq_true rfl) (Nat.le_of_ble_eq_true rfl) (Nat.le_of_ble_eq_true rfl) dX4_init_11 (fun x H _ hP hD hS => ?_)
  have hP : va_P D vwCl [(h0, .inr (4, [.int k, .null])), (b, .inl (cI, 9, .inl F)), (x, .inl (cI, 9, .inl F))] H := hP
  have hD : va_D A [(h0, .inr (4, [.int k, .null])), (b, .inl (cI, 9, .inl F)), (x, .inl (cI, 9, .inl F))] := hD
  refine W.widen (k := 1) (n := 9) (by omega) (by omega) ?_
  refine va_castA hx hb hown (hts (.classLink RX4 16 "[I") (by decide +kernel)) hP 2 rfl hnm dX4_init_14 ?_
  refine va_putF (D := D) (ci := 4) (v := .ref x) (ty := .array .int) (C := RX4) (T := TX4) (N := 2) hx hb hts (by decide +kernel) tyX4 tyX4_ok nmX4 hown hK hP hD hS 0 rfl rfl 1 (by decide) (hts (.fieldLink RX4 21 "BallMinder$Plain" "numbers" "[I") (by decide +kernel)) (fun _ h9 => h9) rfl hin rfl (by decide +kernel) rfl rfl (Nat.le_of_ble_eq_true rfl) dX4_init_17 (fun H locs hP hD hS => ?_)
  have hP : va_P D vwCl [(h0, .inr (4, [.int k, .ref x])), (b, .inl (cI, 9, .inl F)), (x, .inl (cI, 9, .inl F))] H := hP
  have hD : va_D A [(h0, .inr (4, [.int k, .ref x])), (b, .inl (cI, 9, .inl F)), (x, .inl (cI, 9, .inl F))] := hD
  exact W.vret hx hb hr (fun t ht hW => ⟨⟨(), rfl, trivial, x, by rw [ht]; exact hP, hD⟩, hS.F ht⟩) hS.2.2 dX4_init_20
set_option maxRecDepth 100000 in
set_option maxHeartbeats 4000000 in
theorem mtX4_init_3 (l : Launch) (D : va_G) (sz h0 b : Nat) (cI : ClassId) (k : Int32) (F : Nat → Int32) : Met l yX4_init wsX4_init rmX4_init (va_Pc [.ref h0, .int k, .ref b] (fun U => U.heap.size = sz ∧ va_P D vwCl [(h0, .inr (3, [.int 0, .null])), (b, .inl (cI, 9, .inl F))] U.heap ∧ va_K D vwCl [(cI, .int)] U ∧ va_D (fun _ => True) [(h0, .inr (3, [.int 0, .null])), (b, .inl (cI, 9, .inl F))] ∧ va_Nw (.castable "[I" "java/lang/Cloneable") U)) (va_Qv (fun (_ : Unit) => True) (fun _ t => ∃ x : Nat, va_P D vwCl [(h0, .inr (3, [.int k, .ref x])), (b, .inl (cI, 9, .inl F)), (x, .inl (cI, 9, .inl F))] t.heap ∧ va_D (va_A [(h0, .inr (3, [.int 0, .null])), (b, .inl (cI, 9, .inl F))] sz) [(h0, .inr (3, [.int k, .ref x])), (b, .inl (cI, 9, .inl F)), (x, .inl (cI, 9, .inl F))]) (va_A [(h0, .inr (3, [.int 0, .null])), (b, .inl (cI, 9, .inl F))] sz)) 1 9 (va_A [(h0, .inr (3, [.int 0, .null])), (b, .inl (cI, 9, .inl F))] sz) := by
  refine Met.ofW (cc := cX4_init) (maxL := 3) (ret := none) (by decide) rfl ?_
  intro p e s m args below meth c s₁ B hml hv
  obtain ⟨rfl, hsz, hP, hK, hD0, hX⟩ := hv
  have hx := B.exec
  have hb := B.bytes
  have hr := B.returns
  have hts := atoms_spec (ws := wsX4_init) B.pre
  have hown : s.vm.findClass RX4 = some m.cls := findClass_of_methodNamed B.named
  have hlocks := B.notSynchronized
  have hin : meth.name = "<init>" := (name_of_methodNamed B.named B.method).1
  subst hsz
  have hD := hD0.self (sz := s.heap.size)
  generalize hAe : va_A [(h0, .inr (3, [.int 0, .null])), (b, .inl (cI, 9, .inl F))] s.heap.size = A at hD ⊢
  have hA : ∀ q : Nat, s.heap.size ≤ q → A q := fun q h => by rw [← hAe]; exact Or.inr h
  have hS : va_S A s.heap s.heap [] := va_S.rf
  have hP : va_P D vwCl [(h0, .inr (3, [.int 0, .null])), (b, .inl (cI, 9, .inl F))] s.heap := hP
  have hl := lv_entry ([.ref h0, .int k, .ref b]) (n := 3) (Nat.le_of_ble_eq_true rfl)
  rw [lg_entry_eq]
  generalize (lg_sl ([.ref h0, .int k, .ref b]) ++ List.replicate (3 - (lg_sl ([.ref h0, .int k, .ref b])).length) Slot.unset).toArray = ls at hl ⊢
  have hl : lv_has ls 3 [(0, .ref h0), (1, .int k), (2, .ref b)] := hl
  refine lv_aload_n hx hb dX4_init_0 rfl (lv_at hl 0 rfl) ?_
  refine W.objInit hx hb hown (hts (.methodLink RX4 3 objectInit) (by decide +kernel)) (hts (.instanceMethod objectInit) (by decide +kernel)) (hts (.code objectInit ⟨#[0xb1]⟩ 1 none) (by decide +kernel)) rfl (by rw [hml]; exact hl.1) rfl dX4_init_1 (Nat.le_of_ble_eq_true rfl) (Nat.le_of_ble_eq_true rfl) ?_
  refine W.eq (g2 := F0 m 4 ls []) rfl ?_
  refine lv_aload_n hx hb dX4_init_4 rfl (lv_at hl 0 rfl) ?_
  refine lv_iload_n hx hb dX4_init_5 rfl (lv_at hl 1 rfl) ?_
  refine va_putF (D := D) (ci := 3) (v := .int k) (ty := .int) (C := RX3) (T := TX3) (N := 2) hx hb hts (by decide +kernel) tyX3 tyX3_ok nmX3 hown hK hP hD hS 0 rfl rfl 0 (by decide) (hts (.fieldLink RX4 9 "BallMinder$Plain" "number" "I") (by decide +kernel)) (fun _ h9 => h9) rfl hin rfl (by decide +kernel) rfl rfl (Nat.le_of_ble_eq_true rfl) dX4_init_6 (fun H locs hP hD hS => ?_)
  have hP : va_P D vwCl [(h0, .inr (3, [.int k, .null])), (b, .inl (cI, 9, .inl F))] H := hP
  have hD : va_D A [(h0, .inr (3, [.int k, .null])), (b, .inl (cI, 9, .inl F))] := hD
  refine lv_aload_n hx hb dX4_init_9 rfl (lv_at hl 0 rfl) ?_
  refine lv_aload_n hx hb dX4_init_10 rfl (lv_at hl 2 rfl) ?_
  have hnm : s.vm.findClass "[I" = some cI := va_nm_int (hK.2 0 _ rfl).2
  refine va_clone hx hb (by rw [hml, hl.1]) (ad := "[I") hown (hts (.methodLink RX4 15 ⟨"[I", "clone", "()Ljava/lang/Object;"⟩) (by decide +kernel)) (hts (.sameMethod "[I" "java/lang/Object" "clone" "()Ljava/lang/Object;") (by decide +kernel)) (hts (.native ⟨"java/lang/Object", "clone", "()Ljava/lang/Object;"⟩) (by decide +kernel)) (hts (.instanceMethod ⟨"java/lang/Object", "clone", "()Ljava/lang/Object;"⟩) (by decide +kernel)) (hts (.selects "[I" ⟨"[I", "clone", "()Ljava/lang/Object;"⟩ ⟨"java/lang/Object", "clone", "()Ljava/lang/Object;"⟩) (by decide +kernel)) hX hK hP hD hS hA 1 0 (x := (9, .inl F)) rfl rfl hnm (fun i v h9 => va_fit (F := fun j => .int (F j)) (n := 9) (cA := cI) (fun _ _ => rfl) i v h9) (Nat.le_of_ble_eq_true rfl) (Nat.le_of_ble_eq_true rfl) (Nat.le_of_ble_eq_true rfl) (Nat.le_of_ble_eq_true rfl) dX4_init_11 (fun x H _ hP hD hS => ?_)
  have hP : va_P D vwCl [(h0, .inr (3, [.int k, .null])), (b, .inl (cI, 9, .inl F)), (x, .inl (cI, 9, .inl F))] H := hP
  have hD : va_D A [(h0, .inr (3, [.int k, .null])), (b, .inl (cI, 9, .inl F)), (x, .inl (cI, 9, .inl F))] := hD
  refine W.widen (k := 1) (n := 9) (by omega) (by omega) ?_
  refine va_castA hx hb hown (hts (.classLink RX4 16 "[I") (by decide +kernel)) hP 2 rfl hnm dX4_init_14 ?_
  refine va_putF (D := D) (ci := 3) (v := .ref x) (ty := .array .int) (C := RX3) (T := TX3) (N := 2) hx hb hts (by decide +kernel) tyX3 tyX3_ok nmX3 hown hK hP hD hS 0 rfl rfl 1 (by decide) (hts (.fieldLink RX4 21 "BallMinder$Plain" "numbers" "[I") (by decide +kernel)) (fun _ h9 => h9) rfl hin rfl (by decide +kernel) rfl rfl (Nat.le_of_ble_eq_true rfl) dX4_init_17 (fun H locs hP hD hS => ?_)
  have hP : va_P D vwCl [(h0, .inr (3, [.int k, .ref x])), (b, .inl (cI, 9, .inl F)), (x, .inl (cI, 9, .inl F))] H := hP
  have hD : va_D A [(h0, .inr (3, [.int k, .ref x])), (b, .inl (cI, 9, .inl F)), (x, .inl (cI, 9, .inl F))] := hD
  exact W.vret hx hb hr (fun t ht hW => ⟨⟨(), rfl, trivial, x, by rw [ht]; exact hP, hD⟩, hS.F ht⟩) hS.2.2 dX4_init_20
set_option maxRecDepth 100000 in
set_option maxHeartbeats 4000000 in
theorem mtX4_init_7 (l : Launch) (D : va_G) (sz h0 b : Nat) (cI : ClassId) (k : Int32) (F : Nat → Int32) : Met l yX4_init wsX4_init rmX4_init (va_Pc [.ref h0, .int k, .ref b] (fun U => U.heap.size = sz ∧ va_P D vwCl [(h0, .inr (7, [.int 0, .null])), (b, .inl (cI, 9, .inl F))] U.heap ∧ va_K D vwCl [(cI, .int)] U ∧ va_D (fun _ => True) [(h0, .inr (7, [.int 0, .null])), (b, .inl (cI, 9, .inl F))] ∧ va_Nw (.castable "[I" "java/lang/Cloneable") U)) (va_Qv (fun (_ : Unit) => True) (fun _ t => ∃ x : Nat, va_P D vwCl [(h0, .inr (7, [.int k, .ref x])), (b, .inl (cI, 9, .inl F)), (x, .inl (cI, 9, .inl F))] t.heap ∧ va_D (va_A [(h0, .inr (7, [.int 0, .null])), (b, .inl (cI, 9, .inl F))] sz) [(h0, .inr (7, [.int k, .ref x])), (b, .inl (cI, 9, .inl F)), (x, .inl (cI, 9, .inl F))]) (va_A [(h0, .inr (7, [.int 0, .null])), (b, .inl (cI, 9, .inl F))] sz)) 1 9 (va_A [(h0, .inr (7, [.int 0, .null])), (b, .inl (cI, 9, .inl F))] sz) := by
  refine Met.ofW (cc := cX4_init) (maxL := 3) (ret := none) (by decide) rfl ?_
  intro p e s m args below meth c s₁ B hml hv
  obtain ⟨rfl, hsz, hP, hK, hD0, hX⟩ := hv
  have hx := B.exec
  have hb := B.bytes
  have hr := B.returns
  have hts := atoms_spec (ws := wsX4_init) B.pre
  have hown : s.vm.findClass RX4 = some m.cls := findClass_of_methodNamed B.named
  have hlocks := B.notSynchronized
  have hin : meth.name = "<init>" := (name_of_methodNamed B.named B.method).1
  subst hsz
  have hD := hD0.self (sz := s.heap.size)
  generalize hAe : va_A [(h0, .inr (7, [.int 0, .null])), (b, .inl (cI, 9, .inl F))] s.heap.size = A at hD ⊢
  have hA : ∀ q : Nat, s.heap.size ≤ q → A q := fun q h => by rw [← hAe]; exact Or.inr h
  have hS : va_S A s.heap s.heap [] := va_S.rf
  have hP : va_P D vwCl [(h0, .inr (7, [.int 0, .null])), (b, .inl (cI, 9, .inl F))] s.heap := hP
  have hl := lv_entry ([.ref h0, .int k, .ref b]) (n := 3) (Nat.le_of_ble_eq_true rfl)
  rw [lg_entry_eq]
  generalize (lg_sl ([.ref h0, .int k, .ref b]) ++ List.replicate (3 - (lg_sl ([.ref h0, .int k, .ref b])).length) Slot.unset).toArray = ls at hl ⊢
  have hl : lv_has ls 3 [(0, .ref h0), (1, .int k), (2, .ref b)] := hl
  refine lv_aload_n hx hb dX4_init_0 rfl (lv_at hl 0 rfl) ?_
  refine W.objInit hx hb hown (hts (.methodLink RX4 3 objectInit) (by decide +kernel)) (hts (.instanceMethod objectInit) (by decide +kernel)) (hts (.code objectInit ⟨#[0xb1]⟩ 1 none) (by decide +kernel)) rfl (by rw [hml]; exact hl.1) rfl dX4_init_1 (Nat.le_of_ble_eq_true rfl) (Nat.le_of_ble_eq_true rfl) ?_
  refine W.eq (g2 := F0 m 4 ls []) rfl ?_
  refine lv_aload_n hx hb dX4_init_4 rfl (lv_at hl 0 rfl) ?_
  refine lv_iload_n hx hb dX4_init_5 rfl (lv_at hl 1 rfl) ?_
  refine va_putF (D := D) (ci := 7) (v := .int k) (ty := .int) (C := RX7) (T := TX7) (N := 2) hx hb hts (by decide +kernel) tyX7 tyX7_ok nmX7 hown hK hP hD hS 0 rfl rfl 0 (by decide) (hts (.fieldLink RX4 9 "BallMinder$Plain" "number" "I") (by decide +kernel)) (fun _ h9 => h9) rfl hin rfl (by decide +kernel) rfl rfl (Nat.le_of_ble_eq_true rfl) dX4_init_6 (fun H locs hP hD hS => ?_)
  have hP : va_P D vwCl [(h0, .inr (7, [.int k, .null])), (b, .inl (cI, 9, .inl F))] H := hP
  have hD : va_D A [(h0, .inr (7, [.int k, .null])), (b, .inl (cI, 9, .inl F))] := hD
  refine lv_aload_n hx hb dX4_init_9 rfl (lv_at hl 0 rfl) ?_
  refine lv_aload_n hx hb dX4_init_10 rfl (lv_at hl 2 rfl) ?_
  have hnm : s.vm.findClass "[I" = some cI := va_nm_int (hK.2 0 _ rfl).2
  refine va_clone hx hb (by rw [hml, hl.1]) (ad := "[I") hown (hts (.methodLink RX4 15 ⟨"[I", "clone", "()Ljava/lang/Object;"⟩) (by decide +kernel)) (hts (.sameMethod "[I" "java/lang/Object" "clone" "()Ljava/lang/Object;") (by decide +kernel)) (hts (.native ⟨"java/lang/Object", "clone", "()Ljava/lang/Object;"⟩) (by decide +kernel)) (hts (.instanceMethod ⟨"java/lang/Object", "clone", "()Ljava/lang/Object;"⟩) (by decide +kernel)) (hts (.selects "[I" ⟨"[I", "clone", "()Ljava/lang/Object;"⟩ ⟨"java/lang/Object", "clone", "()Ljava/lang/Object;"⟩) (by decide +kernel)) hX hK hP hD hS hA 1 0 (x := (9, .inl F)) rfl rfl hnm (fun i v h9 => va_fit (F := fun j => .int (F j)) (n := 9) (cA := cI) (fun _ _ => rfl) i v h9) (Nat.le_of_ble_eq_true rfl) (Nat.le_of_ble_eq_true rfl) (Nat.le_of_ble_eq_true rfl) (Nat.le_of_ble_eq_true rfl) dX4_init_11 (fun x H _ hP hD hS => ?_)
  have hP : va_P D vwCl [(h0, .inr (7, [.int k, .null])), (b, .inl (cI, 9, .inl F)), (x, .inl (cI, 9, .inl F))] H := hP
  have hD : va_D A [(h0, .inr (7, [.int k, .null])), (b, .inl (cI, 9, .inl F)), (x, .inl (cI, 9, .inl F))] := hD
  refine W.widen (k := 1) (n := 9) (by omega) (by omega) ?_
  refine va_castA hx hb hown (hts (.classLink RX4 16 "[I") (by decide +kernel)) hP 2 rfl hnm dX4_init_14 ?_
  refine va_putF (D := D) (ci := 7) (v := .ref x) (ty := .array .int) (C := RX7) (T := TX7) (N := 2) hx hb hts (by decide +kernel) tyX7 tyX7_ok nmX7 hown hK hP hD hS 0 rfl rfl 1 (by decide) (hts (.fieldLink RX4 21 "BallMinder$Plain" "numbers" "[I") (by decide +kernel)) (fun _ h9 => h9) rfl hin rfl (by decide +kernel) rfl rfl (Nat.le_of_ble_eq_true rfl) dX4_init_17 (fun H locs hP hD hS => ?_)
  have hP : va_P D vwCl [(h0, .inr (7, [.int k, .ref x])), (b, .inl (cI, 9, .inl F)), (x, .inl (cI, 9, .inl F))] H := hP
  have hD : va_D A [(h0, .inr (7, [.int k, .ref x])), (b, .inl (cI, 9, .inl F)), (x, .inl (cI, 9, .inl F))] := hD
  exact W.vret hx hb hr (fun t ht hW => ⟨⟨(), rfl, trivial, x, by rw [ht]; exact hP, hD⟩, hS.F ht⟩) hS.2.2 dX4_init_20
set_option maxRecDepth 100000 in
set_option maxHeartbeats 4000000 in
theorem mtX3_init_3 (l : Launch) (D : va_G) (sz h0 b : Nat) (cI : ClassId) (k : Int32) (F : Nat → Int32) : Met l yX3_init wsX3_init rmX3_init (va_Pc [.ref h0, .int k, .ref b] (fun U => U.heap.size = sz ∧ va_P D vwCl [(h0, .inr (3, [.int 0, .null])), (b, .inl (cI, 9, .inl F))] U.heap ∧ va_K D vwCl [(cI, .int)] U ∧ va_D (fun _ => True) [(h0, .inr (3, [.int 0, .null])), (b, .inl (cI, 9, .inl F))] ∧ va_Nw (.castable "[I" "java/lang/Cloneable") U)) (va_Qv (fun (_ : Unit) => True) (fun _ t => ∃ x : Nat, va_P D vwCl [(h0, .inr (3, [.int k, .ref x])), (b, .inl (cI, 9, .inl F)), (x, .inl (cI, 9, .inl F))] t.heap ∧ va_D (va_A [(h0, .inr (3, [.int 0, .null])), (b, .inl (cI, 9, .inl F))] sz) [(h0, .inr (3, [.int k, .ref x])), (b, .inl (cI, 9, .inl F)), (x, .inl (cI, 9, .inl F))]) (va_A [(h0, .inr (3, [.int 0, .null])), (b, .inl (cI, 9, .inl F))] sz)) 1 9 (va_A [(h0, .inr (3, [.int 0, .null])), (b, .inl (cI, 9, .inl F))] sz) := by
  refine Met.ofW (cc := cX3_init) (maxL := 3) (ret := none) (by decide) rfl ?_
  intro p e s m args below meth c s₁ B hml hv
  obtain ⟨rfl, hsz, hP, hK, hD0, hX⟩ := hv
  have hx := B.exec
  have hb := B.bytes
  have hr := B.returns
  have hts := atoms_spec (ws := wsX3_init) B.pre
  have hown : s.vm.findClass RX3 = some m.cls := findClass_of_methodNamed B.named
  have hlocks := B.notSynchronized
  have hin : meth.name = "<init>" := (name_of_methodNamed B.named B.method).1
  subst hsz
  have hD := hD0.self (sz := s.heap.size)
  generalize hAe : va_A [(h0, .inr (3, [.int 0, .null])), (b, .inl (cI, 9, .inl F))] s.heap.size = A at hD ⊢
  have hA : ∀ q : Nat, s.heap.size ≤ q → A q := fun q h => by rw [← hAe]; exact Or.inr h
  have hS : va_S A s.heap s.heap [] := va_S.rf
  have hP : va_P D vwCl [(h0, .inr (3, [.int 0, .null])), (b, .inl (cI, 9, .inl F))] s.heap := hP
  have hl := lv_entry ([.ref h0, .int k, .ref b]) (n := 3) (Nat.le_of_ble_eq_true rfl)
  rw [lg_entry_eq]
  generalize (lg_sl ([.ref h0, .int k, .ref b]) ++ List.replicate (3 - (lg_sl ([.ref h0, .int k, .ref b])).length) Slot.unset).toArray = ls at hl ⊢
  have hl : lv_has ls 3 [(0, .ref h0), (1, .int k), (2, .ref b)] := hl
  refine lv_aload_n hx hb dX3_init_0 rfl (lv_at hl 0 rfl) ?_
  refine lv_iload_n hx hb dX3_init_1 rfl (lv_at hl 1 rfl) ?_
  refine lv_aload_n hx hb dX3_init_2 rfl (lv_at hl 2 rfl) ?_
  have hFc := va_free (wc := [(h0, .inr (3, [.int 0, .null])), (b, .inl (cI, 9, .inl F))]) hD hS hA [0, 1] rfl
  refine va_callv (va_runI (As := [.int k, .ref b]) (rest := []) ⟨hx, hb, hml, hown, hts⟩ (mtX4_init_3 l D s.heap.size h0 b cI k F) (cwI 2 hts gX3_init_X4_init rfl rfl rfl (hts (.initialized RX4) (by decide +kernel)) (hts (.methodLink RX3 3 yX4_init) (by decide +kernel)) (hts (.instanceMethod yX4_init) (by decide +kernel)) rfl (by decide +kernel) ⟨(Nat.le_of_ble_eq_true rfl), (Nat.le_of_ble_eq_true rfl)⟩) ⟨fun a U g mk q => by obtain ⟨q0, q1, qP, qK, qD, qX⟩ := q; exact ⟨q0, q1, qP, va_K.moved (u := U) (U := U.calling g mk a) (Vm.Alike.refl U.vm) qK, qD, va_Nw.same rfl (u := U) (U := U.calling g mk a) rfl qX⟩, fun U hU hV => ⟨rfl, by rw [hU], by rw [hU]; exact hP, va_K.moved hV.alike hK, hD.weaken (fun _ _ _ _ => trivial), va_Nw.warmC hV hX⟩⟩ rfl rfl hl.1 rfl (lv_room (Nat.le_of_ble_eq_true rfl)) dX3_init_3 ⟨(Nat.le_of_ble_eq_true rfl), (Nat.le_of_ble_eq_true rfl)⟩) hS (fun q _ h => hFc q h) hFc (fun u t H1 locs ht hvm hw9 hB hz1 hk1 hS => ?_)
  obtain ⟨x, hP1, hD1⟩ := hB
  rw [ht] at hP1
  refine W.widen (k := 1) (n := 9) (by omega) (by omega) ?_
  exact W.vret hx hb hr (fun t ht hW => ⟨⟨(), rfl, trivial, x, by rw [ht]; exact hP1, hD1.weaken (fun _ q _ h => hFc q.1 h)⟩, hS.F ht⟩) hS.2.2 dX3_init_6
set_option maxRecDepth 100000 in
set_option maxHeartbeats 4000000 in
theorem mtX3_init_7 (l : Launch) (D : va_G) (sz h0 b : Nat) (cI : ClassId) (k : Int32) (F : Nat → Int32) : Met l yX3_init wsX3_init rmX3_init (va_Pc [.ref h0, .int k, .ref b] (fun U => U.heap.size = sz ∧ va_P D vwCl [(h0, .inr (7, [.int 0, .null])), (b, .inl (cI, 9, .inl F))] U.heap ∧ va_K D vwCl [(cI, .int)] U ∧ va_D (fun _ => True) [(h0, .inr (7, [.int 0, .null])), (b, .inl (cI, 9, .inl F))] ∧ va_Nw (.castable "[I" "java/lang/Cloneable") U)) (va_Qv (fun (_ : Unit) => True) (fun _ t => ∃ x : Nat, va_P D vwCl [(h0, .inr (7, [.int k, .ref x])), (b, .inl (cI, 9, .inl F)), (x, .inl (cI, 9, .inl F))] t.heap ∧ va_D (va_A [(h0, .inr (7, [.int 0, .null])), (b, .inl (cI, 9, .inl F))] sz) [(h0, .inr (7, [.int k, .ref x])), (b, .inl (cI, 9, .inl F)), (x, .inl (cI, 9, .inl F))]) (va_A [(h0, .inr (7, [.int 0, .null])), (b, .inl (cI, 9, .inl F))] sz)) 1 9 (va_A [(h0, .inr (7, [.int 0, .null])), (b, .inl (cI, 9, .inl F))] sz) := by
  refine Met.ofW (cc := cX3_init) (maxL := 3) (ret := none) (by decide) rfl ?_
  intro p e s m args below meth c s₁ B hml hv
  obtain ⟨rfl, hsz, hP, hK, hD0, hX⟩ := hv
  have hx := B.exec
  have hb := B.bytes
  have hr := B.returns
  have hts := atoms_spec (ws := wsX3_init) B.pre
  have hown : s.vm.findClass RX3 = some m.cls := findClass_of_methodNamed B.named
  have hlocks := B.notSynchronized
  have hin : meth.name = "<init>" := (name_of_methodNamed B.named B.method).1
  subst hsz
  have hD := hD0.self (sz := s.heap.size)
  generalize hAe : va_A [(h0, .inr (7, [.int 0, .null])), (b, .inl (cI, 9, .inl F))] s.heap.size = A at hD ⊢
  have hA : ∀ q : Nat, s.heap.size ≤ q → A q := fun q h => by rw [← hAe]; exact Or.inr h
  have hS : va_S A s.heap s.heap [] := va_S.rf
  have hP : va_P D vwCl [(h0, .inr (7, [.int 0, .null])), (b, .inl (cI, 9, .inl F))] s.heap := hP
  have hl := lv_entry ([.ref h0, .int k, .ref b]) (n := 3) (Nat.le_of_ble_eq_true rfl)
  rw [lg_entry_eq]
  generalize (lg_sl ([.ref h0, .int k, .ref b]) ++ List.replicate (3 - (lg_sl ([.ref h0, .int k, .ref b])).length) Slot.unset).toArray = ls at hl ⊢
  have hl : lv_has ls 3 [(0, .ref h0), (1, .int k), (2, .ref b)] := hl
  refine lv_aload_n hx hb dX3_init_0 rfl (lv_at hl 0 rfl) ?_
  refine lv_iload_n hx hb dX3_init_1 rfl (lv_at hl 1 rfl) ?_
  refine lv_aload_n hx hb dX3_init_2 rfl (lv_at hl 2 rfl) ?_
  have hFc := va_free (wc := [(h0, .inr (7, [.int 0, .null])), (b, .inl (cI, 9, .inl F))]) hD hS hA [0, 1] rfl
  refine va_callv (va_runI (As := [.int k, .ref b]) (rest := []) ⟨hx, hb, hml, hown, hts⟩ (mtX4_init_7 l D s.heap.size h0 b cI k F) (cwI 2 hts gX3_init_X4_init rfl rfl rfl (hts (.initialized RX4) (by decide +kernel)) (hts (.methodLink RX3 3 yX4_init) (by decide +kernel)) (hts (.instanceMethod yX4_init) (by decide +kernel)) rfl (by decide +kernel) ⟨(Nat.le_of_ble_eq_true rfl), (Nat.le_of_ble_eq_true rfl)⟩) ⟨fun a U g mk q => by obtain ⟨q0, q1, qP, qK, qD, qX⟩ := q; exact ⟨q0, q1, qP, va_K.moved (u := U) (U := U.calling g mk a) (Vm.Alike.refl U.vm) qK, qD, va_Nw.same rfl (u := U) (U := U.calling g mk a) rfl qX⟩, fun U hU hV => ⟨rfl, by rw [hU], by rw [hU]; exact hP, va_K.moved hV.alike hK, hD.weaken (fun _ _ _ _ => trivial), va_Nw.warmC hV hX⟩⟩ rfl rfl hl.1 rfl (lv_room (Nat.le_of_ble_eq_true rfl)) dX3_init_3 ⟨(Nat.le_of_ble_eq_true rfl), (Nat.le_of_ble_eq_true rfl)⟩) hS (fun q _ h => hFc q h) hFc (fun u t H1 locs ht hvm hw9 hB hz1 hk1 hS => ?_)
  obtain ⟨x, hP1, hD1⟩ := hB
  rw [ht] at hP1
  refine W.widen (k := 1) (n := 9) (by omega) (by omega) ?_
  exact W.vret hx hb hr (fun t ht hW => ⟨⟨(), rfl, trivial, x, by rw [ht]; exact hP1, hD1.weaken (fun _ q _ h => hFc q.1 h)⟩, hS.F ht⟩) hS.2.2 dX3_init_6
set_option maxRecDepth 100000 in
set_option maxHeartbeats 4000000 in
theorem mtX7_init_7 (l : Launch) (D : va_G) (sz h0 b : Nat) (cI : ClassId) (k : Int32) (F : Nat → Int32) : Met l yX7_init wsX7_init rmX7_init (va_Pc [.ref h0, .int k, .ref b] (fun U => U.heap.size = sz ∧ va_P D vwCl [(h0, .inr (7, [.int 0, .null])), (b, .inl (cI, 9, .inl F))] U.heap ∧ va_K D vwCl [(cI, .int)] U ∧ va_D (fun _ => True) [(h0, .inr (7, [.int 0, .null])), (b, .inl (cI, 9, .inl F))] ∧ va_Nw (.castable "[I" "java/lang/Cloneable") U)) (va_Qv (fun (_ : Unit) => True) (fun _ t => ∃ x : Nat, va_P D vwCl [(h0, .inr (7, [.int k, .ref x])), (b, .inl (cI, 9, .inl F)), (x, .inl (cI, 9, .inl F))] t.heap ∧ va_D (va_A [(h0, .inr (7, [.int 0, .null])), (b, .inl (cI, 9, .inl F))] sz) [(h0, .inr (7, [.int k, .ref x])), (b, .inl (cI, 9, .inl F)), (x, .inl (cI, 9, .inl F))]) (va_A [(h0, .inr (7, [.int 0, .null])), (b, .inl (cI, 9, .inl F))] sz)) 1 9 (va_A [(h0, .inr (7, [.int 0, .null])), (b, .inl (cI, 9, .inl F))] sz) := by
  refine Met.ofW (cc := cX7_init) (maxL := 3) (ret := none) (by decide) rfl ?_
  intro p e s m args below meth c s₁ B hml hv
  obtain ⟨rfl, hsz, hP, hK, hD0, hX⟩ := hv
  have hx := B.exec
  have hb := B.bytes
  have hr := B.returns
  have hts := atoms_spec (ws := wsX7_init) B.pre
  have hown : s.vm.findClass RX7 = some m.cls := findClass_of_methodNamed B.named
  have hlocks := B.notSynchronized
  have hin : meth.name = "<init>" := (name_of_methodNamed B.named B.method).1
  subst hsz
  have hD := hD0.self (sz := s.heap.size)
  generalize hAe : va_A [(h0, .inr (7, [.int 0, .null])), (b, .inl (cI, 9, .inl F))] s.heap.size = A at hD ⊢
  have hA : ∀ q : Nat, s.heap.size ≤ q → A q := fun q h => by rw [← hAe]; exact Or.inr h
  have hS : va_S A s.heap s.heap [] := va_S.rf
  have hP : va_P D vwCl [(h0, .inr (7, [.int 0, .null])), (b, .inl (cI, 9, .inl F))] s.heap := hP
  have hl := lv_entry ([.ref h0, .int k, .ref b]) (n := 3) (Nat.le_of_ble_eq_true rfl)
  rw [lg_entry_eq]
  generalize (lg_sl ([.ref h0, .int k, .ref b]) ++ List.replicate (3 - (lg_sl ([.ref h0, .int k, .ref b])).length) Slot.unset).toArray = ls at hl ⊢
  have hl : lv_has ls 3 [(0, .ref h0), (1, .int k), (2, .ref b)] := hl
  refine lv_aload_n hx hb dX7_init_0 rfl (lv_at hl 0 rfl) ?_
  refine lv_iload_n hx hb dX7_init_1 rfl (lv_at hl 1 rfl) ?_
  refine lv_aload_n hx hb dX7_init_2 rfl (lv_at hl 2 rfl) ?_
  have hFc := va_free (wc := [(h0, .inr (7, [.int 0, .null])), (b, .inl (cI, 9, .inl F))]) hD hS hA [0, 1] rfl
  refine va_callv (va_runI (As := [.int k, .ref b]) (rest := []) ⟨hx, hb, hml, hown, hts⟩ (mtX3_init_7 l D s.heap.size h0 b cI k F) (cwI 2 hts gX7_init_X3_init rfl rfl rfl (hts (.initialized RX3) (by decide +kernel)) (hts (.methodLink RX7 3 yX3_init) (by decide +kernel)) (hts (.instanceMethod yX3_init) (by decide +kernel)) rfl (by decide +kernel) ⟨(Nat.le_of_ble_eq_true rfl), (Nat.le_of_ble_eq_true rfl)⟩) ⟨fun a U g mk q => by obtain ⟨q0, q1, qP, qK, qD, qX⟩ := q; exact ⟨q0, q1, qP, va_K.moved (u := U) (U := U.calling g mk a) (Vm.Alike.refl U.vm) qK, qD, va_Nw.same rfl (u := U) (U := U.calling g mk a) rfl qX⟩, fun U hU hV => ⟨rfl, by rw [hU], by rw [hU]; exact hP, va_K.moved hV.alike hK, hD.weaken (fun _ _ _ _ => trivial), va_Nw.warmC hV hX⟩⟩ rfl rfl hl.1 rfl (lv_room (Nat.le_of_ble_eq_true rfl)) dX7_init_3 ⟨(Nat.le_of_ble_eq_true rfl), (Nat.le_of_ble_eq_true rfl)⟩) hS (fun q _ h => hFc q h) hFc (fun u t H1 locs ht hvm hw9 hB hz1 hk1 hS => ?_)
  obtain ⟨x, hP1, hD1⟩ := hB
  rw [ht] at hP1
  refine W.widen (k := 1) (n := 9) (by omega) (by omega) ?_
  exact W.vret hx hb hr (fun t ht hW => ⟨⟨(), rfl, trivial, x, by rw [ht]; exact hP1, hD1.weaken (fun _ q _ h => hFc q.1 h)⟩, hS.F ht⟩) hS.2.2 dX7_init_6
def kN (k : Int32) : Nat := if k = 2 then 2 else if k = 1 then 1 else 0
set_option maxRecDepth 100000 in
set_option maxHeartbeats 4000000 in
theorem mtX10_madeMill (l : Launch) (D : va_G) (sz b : Nat) (cI : ClassId) (kd k : Int32) (F : Nat → Int32) : Met l yX10_madeMill wsX10_madeMill rmX10_madeMill (va_Pc [.int kd, .int k, .ref b] (fun U => U.heap.size = sz ∧ va_P D vwCl [(b, .inl (cI, 9, .inl F))] U.heap ∧ va_K D vwCl [(cI, .int)] U ∧ va_D (fun _ => True) [(b, .inl (cI, 9, .inl F))] ∧ va_Nw (.castable "[I" "java/lang/Cloneable") U)) (va_Qr (fun (_ : Nat) => True) (fun x h0 t => va_P D vwCl [(b, .inl (cI, 9, .inl F)), (h0, .inr (cK (kN kd), [.int k, .ref x])), (x, .inl (cI, 9, .inl F))] t.heap ∧ va_D (va_A [(b, .inl (cI, 9, .inl F))] sz) [(b, .inl (cI, 9, .inl F)), (h0, .inr (cK (kN kd), [.int k, .ref x])), (x, .inl (cI, 9, .inl F))]) (va_A [(b, .inl (cI, 9, .inl F))] sz)) 2 11 (va_A [(b, .inl (cI, 9, .inl F))] sz) := by
  refine Met.ofW (cc := cX10_madeMill) (maxL := 3) (ret := some (.object "BallMinder$Plain")) (by decide) rfl ?_
  intro p e s m args below meth c s₁ B hml hv
  obtain ⟨rfl, hsz, hP, hK, hD0, hX⟩ := hv
  have hx := B.exec
  have hb := B.bytes
  have hr := B.returns
  have hts := atoms_spec (ws := wsX10_madeMill) B.pre
  have hown : s.vm.findClass RX10 = some m.cls := findClass_of_methodNamed B.named
  have hlocks := B.notSynchronized
  subst hsz
  have hD := hD0.self (sz := s.heap.size)
  generalize hAe : va_A [(b, .inl (cI, 9, .inl F))] s.heap.size = A at hD ⊢
  have hA : ∀ q : Nat, s.heap.size ≤ q → A q := fun q h => by rw [← hAe]; exact Or.inr h
  have hS : va_S A s.heap s.heap [] := va_S.rf
  have hP : va_P D vwCl [(b, .inl (cI, 9, .inl F))] s.heap := hP
  have hl := lv_entry ([.int kd, .int k, .ref b]) (n := 3) (Nat.le_of_ble_eq_true rfl)
  rw [lg_entry_eq]
  generalize (lg_sl ([.int kd, .int k, .ref b]) ++ List.replicate (3 - (lg_sl ([.int kd, .int k, .ref b])).length) Slot.unset).toArray = ls at hl ⊢
  have hl : lv_has ls 3 [(0, .int kd), (1, .int k), (2, .ref b)] := hl
  refine lv_iload_n hx hb dX10_madeMill_0 rfl (lv_at hl 0 rfl) ?_
  refine lv_iconst (v := 2) hx hb dX10_madeMill_1 (by decide) ?_
  refine lv_icmp_ne (tgt := 15) hx hb dX10_madeMill_2 (by decide) (fun c1 => ?_) (fun c1 => ?_)
  · refine lv_iload_n hx hb dX10_madeMill_15 rfl (lv_at hl 0 rfl) ?_
    refine lv_iconst (v := 1) hx hb dX10_madeMill_16 (by decide) ?_
    refine lv_icmp_ne (tgt := 32) hx hb dX10_madeMill_17 (by decide) (fun c2 => ?_) (fun c2 => ?_)
    · have kk : cK (kN kd) = 4 := by unfold kN; rw [if_neg c1, if_neg c2]; rfl
      refine va_new (ci := 4) (fs := [.int 0, .null]) (C := RX4) (T := TX4) (N := 2) hx hb hts (by decide +kernel) tyX4 tyX4_ok hown (hts (.classLink RX10 11 RX4) (by decide +kernel)) (hts (.instantiable RX4 2) (by decide +kernel)) (hts (.initialized RX4) (by decide +kernel)) hK hP hD hS hA rfl (fun j hj => by rcases (show j = 0 ∨ j = 1 by omega) with rfl | rfl <;> rfl) (Nat.le_of_ble_eq_true rfl) (Nat.le_of_ble_eq_true rfl) dX10_madeMill_32 (fun h0 H hP hD hS => ?_)
      have hP : va_P D vwCl [(b, .inl (cI, 9, .inl F)), (h0, .inr (4, [.int 0, .null]))] H := hP
      have hD : va_D A [(b, .inl (cI, 9, .inl F)), (h0, .inr (4, [.int 0, .null]))] := hD
      refine W.widen (k := 1) (n := 2) (by omega) (by omega) ?_
      refine lv_dup hx hb dX10_madeMill_35 rfl ?_
      refine lv_iload_n hx hb dX10_madeMill_36 rfl (lv_at hl 1 rfl) ?_
      refine lv_aload_n hx hb dX10_madeMill_37 rfl (lv_at hl 2 rfl) ?_
      have hPc := hP.sub (ws' := [(h0, .inr (4, [.int 0, .null])), (b, .inl (cI, 9, .inl F))]) [1, 0] rfl
      have hDc := hD.sub (ws' := [(h0, .inr (4, [.int 0, .null])), (b, .inl (cI, 9, .inl F))]) [1, 0] (by decide) rfl
      have hFc := va_free (wc := [(h0, .inr (4, [.int 0, .null])), (b, .inl (cI, 9, .inl F))]) hD hS hA [1, 0] rfl
      refine va_callv (va_runI (As := [.int k, .ref b]) (rest := [.ref h0]) ⟨hx, hb, hml, hown, hts⟩ (mtX4_init_4 l D H.size h0 b cI k F) (cwI 2 hts gX10_madeMill_X4_init rfl rfl rfl (hts (.initialized RX4) (by decide +kernel)) (hts (.methodLink RX10 266 yX4_init) (by decide +kernel)) (hts (.instanceMethod yX4_init) (by decide +kernel)) rfl (by decide +kernel) ⟨(Nat.le_of_ble_eq_true rfl), (Nat.le_of_ble_eq_true rfl)⟩) ⟨fun a U g mk q => by obtain ⟨q0, q1, qP, qK, qD, qX⟩ := q; exact ⟨q0, q1, qP, va_K.moved (u := U) (U := U.calling g mk a) (Vm.Alike.refl U.vm) qK, qD, va_Nw.same rfl (u := U) (U := U.calling g mk a) rfl qX⟩, fun U hU hV => ⟨rfl, by rw [hU], by rw [hU]; exact hPc, va_K.moved hV.alike hK, hDc.weaken (fun _ _ _ _ => trivial), va_Nw.warmC hV hX⟩⟩ rfl rfl hl.1 rfl (lv_room (Nat.le_of_ble_eq_true rfl)) dX10_madeMill_38 ⟨(Nat.le_of_ble_eq_true rfl), (Nat.le_of_ble_eq_true rfl)⟩) hS (fun q _ h => hFc q h) hFc (fun u t H1 locs ht hvm hw9 hB hz1 hk1 hS => ?_)
      obtain ⟨x, hP1, hD1⟩ := hB
      rw [ht] at hP1
      have hP2 := hP1.sub (ws' := [(b, .inl (cI, 9, .inl F)), (h0, .inr (4, [.int k, .ref x])), (x, .inl (cI, 9, .inl F))]) [1, 0, 2] rfl
      have hD2 := (hD1.weaken (fun _ q _ h => hFc q.1 h)).sub (ws' := [(b, .inl (cI, 9, .inl F)), (h0, .inr (4, [.int k, .ref x])), (x, .inl (cI, 9, .inl F))]) [1, 0, 2] (by decide) rfl
      refine W.widen (k := 2) (n := 11) (by omega) (by omega) ?_
      exact W.aret (v := .ref h0) hx hb hr (Or.inl ⟨_, rfl⟩) (Or.inr ⟨h0, rfl⟩) (fun t ht hW => ⟨⟨x, h0, rfl, trivial, by rw [ht, kk]; exact hP2, by rw [kk]; exact hD2⟩, hS.F ht⟩) hS.2.2 dX10_madeMill_41
    · have kk : cK (kN kd) = 3 := by unfold kN; rw [if_neg c1, if_pos c2]; rfl
      refine va_new (ci := 3) (fs := [.int 0, .null]) (C := RX3) (T := TX3) (N := 2) hx hb hts (by decide +kernel) tyX3 tyX3_ok hown (hts (.classLink RX10 263 RX3) (by decide +kernel)) (hts (.instantiable RX3 2) (by decide +kernel)) (hts (.initialized RX3) (by decide +kernel)) hK hP hD hS hA rfl (fun j hj => by rcases (show j = 0 ∨ j = 1 by omega) with rfl | rfl <;> rfl) (Nat.le_of_ble_eq_true rfl) (Nat.le_of_ble_eq_true rfl) dX10_madeMill_20 (fun h0 H hP hD hS => ?_)
      have hP : va_P D vwCl [(b, .inl (cI, 9, .inl F)), (h0, .inr (3, [.int 0, .null]))] H := hP
      have hD : va_D A [(b, .inl (cI, 9, .inl F)), (h0, .inr (3, [.int 0, .null]))] := hD
      refine W.widen (k := 1) (n := 2) (by omega) (by omega) ?_
      refine lv_dup hx hb dX10_madeMill_23 rfl ?_
      refine lv_iload_n hx hb dX10_madeMill_24 rfl (lv_at hl 1 rfl) ?_
      refine lv_aload_n hx hb dX10_madeMill_25 rfl (lv_at hl 2 rfl) ?_
      have hPc := hP.sub (ws' := [(h0, .inr (3, [.int 0, .null])), (b, .inl (cI, 9, .inl F))]) [1, 0] rfl
      have hDc := hD.sub (ws' := [(h0, .inr (3, [.int 0, .null])), (b, .inl (cI, 9, .inl F))]) [1, 0] (by decide) rfl
      have hFc := va_free (wc := [(h0, .inr (3, [.int 0, .null])), (b, .inl (cI, 9, .inl F))]) hD hS hA [1, 0] rfl
      refine va_callv (va_runI (As := [.int k, .ref b]) (rest := [.ref h0]) ⟨hx, hb, hml, hown, hts⟩ (mtX3_init_3 l D H.size h0 b cI k F) (cwI 2 hts gX10_madeMill_X3_init rfl rfl rfl (hts (.initialized RX3) (by decide +kernel)) (hts (.methodLink RX10 265 yX3_init) (by decide +kernel)) (hts (.instanceMethod yX3_init) (by decide +kernel)) rfl (by decide +kernel) ⟨(Nat.le_of_ble_eq_true rfl), (Nat.le_of_ble_eq_true rfl)⟩) ⟨fun a U g mk q => by obtain ⟨q0, q1, qP, qK, qD, qX⟩ := q; exact ⟨q0, q1, qP, va_K.moved (u := U) (U := U.calling g mk a) (Vm.Alike.refl U.vm) qK, qD, va_Nw.same rfl (u := U) (U := U.calling g mk a) rfl qX⟩, fun U hU hV => ⟨rfl, by rw [hU], by rw [hU]; exact hPc, va_K.moved hV.alike hK, hDc.weaken (fun _ _ _ _ => trivial), va_Nw.warmC hV hX⟩⟩ rfl rfl hl.1 rfl (lv_room (Nat.le_of_ble_eq_true rfl)) dX10_madeMill_26 ⟨(Nat.le_of_ble_eq_true rfl), (Nat.le_of_ble_eq_true rfl)⟩) hS (fun q _ h => hFc q h) hFc (fun u t H1 locs ht hvm hw9 hB hz1 hk1 hS => ?_)
      obtain ⟨x, hP1, hD1⟩ := hB
      rw [ht] at hP1
      have hP2 := hP1.sub (ws' := [(b, .inl (cI, 9, .inl F)), (h0, .inr (3, [.int k, .ref x])), (x, .inl (cI, 9, .inl F))]) [1, 0, 2] rfl
      have hD2 := (hD1.weaken (fun _ q _ h => hFc q.1 h)).sub (ws' := [(b, .inl (cI, 9, .inl F)), (h0, .inr (3, [.int k, .ref x])), (x, .inl (cI, 9, .inl F))]) [1, 0, 2] (by decide) rfl
      refine W.widen (k := 2) (n := 11) (by omega) (by omega) ?_
      refine lv_goto (tgt := 41) hx hb dX10_madeMill_29 (by decide) ?_
      exact W.aret (v := .ref h0) hx hb hr (Or.inl ⟨_, rfl⟩) (Or.inr ⟨h0, rfl⟩) (fun t ht hW => ⟨⟨x, h0, rfl, trivial, by rw [ht, kk]; exact hP2, by rw [kk]; exact hD2⟩, hS.F ht⟩) hS.2.2 dX10_madeMill_41
  · have kk : cK (kN kd) = 7 := by unfold kN; rw [if_pos c1]; rfl
    refine va_new (ci := 7) (fs := [.int 0, .null]) (C := RX7) (T := TX7) (N := 2) hx hb hts (by decide +kernel) tyX7 tyX7_ok hown (hts (.classLink RX10 258 RX7) (by decide +kernel)) (hts (.instantiable RX7 2) (by decide +kernel)) (hts (.initialized RX7) (by decide +kernel)) hK hP hD hS hA rfl (fun j hj => by rcases (show j = 0 ∨ j = 1 by omega) with rfl | rfl <;> rfl) (Nat.le_of_ble_eq_true rfl) (Nat.le_of_ble_eq_true rfl) dX10_madeMill_5 (fun h0 H hP hD hS => ?_)
    have hP : va_P D vwCl [(b, .inl (cI, 9, .inl F)), (h0, .inr (7, [.int 0, .null]))] H := hP
    have hD : va_D A [(b, .inl (cI, 9, .inl F)), (h0, .inr (7, [.int 0, .null]))] := hD
    refine W.widen (k := 1) (n := 2) (by omega) (by omega) ?_
    refine lv_dup hx hb dX10_madeMill_8 rfl ?_
    refine lv_iload_n hx hb dX10_madeMill_9 rfl (lv_at hl 1 rfl) ?_
    refine lv_aload_n hx hb dX10_madeMill_10 rfl (lv_at hl 2 rfl) ?_
    have hPc := hP.sub (ws' := [(h0, .inr (7, [.int 0, .null])), (b, .inl (cI, 9, .inl F))]) [1, 0] rfl
    have hDc := hD.sub (ws' := [(h0, .inr (7, [.int 0, .null])), (b, .inl (cI, 9, .inl F))]) [1, 0] (by decide) rfl
    have hFc := va_free (wc := [(h0, .inr (7, [.int 0, .null])), (b, .inl (cI, 9, .inl F))]) hD hS hA [1, 0] rfl
    refine va_callv (va_runI (As := [.int k, .ref b]) (rest := [.ref h0]) ⟨hx, hb, hml, hown, hts⟩ (mtX7_init_7 l D H.size h0 b cI k F) (cwI 2 hts gX10_madeMill_X7_init rfl rfl rfl (hts (.initialized RX7) (by decide +kernel)) (hts (.methodLink RX10 260 yX7_init) (by decide +kernel)) (hts (.instanceMethod yX7_init) (by decide +kernel)) rfl (by decide +kernel) ⟨(Nat.le_of_ble_eq_true rfl), (Nat.le_of_ble_eq_true rfl)⟩) ⟨fun a U g mk q => by obtain ⟨q0, q1, qP, qK, qD, qX⟩ := q; exact ⟨q0, q1, qP, va_K.moved (u := U) (U := U.calling g mk a) (Vm.Alike.refl U.vm) qK, qD, va_Nw.same rfl (u := U) (U := U.calling g mk a) rfl qX⟩, fun U hU hV => ⟨rfl, by rw [hU], by rw [hU]; exact hPc, va_K.moved hV.alike hK, hDc.weaken (fun _ _ _ _ => trivial), va_Nw.warmC hV hX⟩⟩ rfl rfl hl.1 rfl (lv_room (Nat.le_of_ble_eq_true rfl)) dX10_madeMill_11 ⟨(Nat.le_of_ble_eq_true rfl), (Nat.le_of_ble_eq_true rfl)⟩) hS (fun q _ h => hFc q h) hFc (fun u t H1 locs ht hvm hw9 hB hz1 hk1 hS => ?_)
    obtain ⟨x, hP1, hD1⟩ := hB
    rw [ht] at hP1
    have hP2 := hP1.sub (ws' := [(b, .inl (cI, 9, .inl F)), (h0, .inr (7, [.int k, .ref x])), (x, .inl (cI, 9, .inl F))]) [1, 0, 2] rfl
    have hD2 := (hD1.weaken (fun _ q _ h => hFc q.1 h)).sub (ws' := [(b, .inl (cI, 9, .inl F)), (h0, .inr (7, [.int k, .ref x])), (x, .inl (cI, 9, .inl F))]) [1, 0, 2] (by decide) rfl
    refine W.widen (k := 2) (n := 11) (by omega) (by omega) ?_
    exact W.aret (v := .ref h0) hx hb hr (Or.inl ⟨_, rfl⟩) (Or.inr ⟨h0, rfl⟩) (fun t ht hW => ⟨⟨x, h0, rfl, trivial, by rw [ht, kk]; exact hP2, by rw [kk]; exact hD2⟩, hS.F ht⟩) hS.2.2 dX10_madeMill_14
