theorem nest_in : ∀ w ∈ nestW, w ∈ lw_tbl := by decide +kernel
set_option maxRecDepth 20000 in
theorem law_st_LEAST {s : State} {b : Nat} (hts : ∀ w ∈ lw_tbl, w.before #[Value.ref b] s = true) (hgv : (Jvm.Cond.and given_1 narrow_1).before #[Value.ref b] s = true) : stX "LEAST" "[I" .int leastV (lA s) s s.heap := by
  have hs := flat_of_before _ hgv
  have hA : ∀ a : Nat, a < s.heap.size → ¬ lA s a := fun a ha => Nat.not_le.mpr ha
  obtain ⟨t, ht, hT⟩ := va_Tof (tm := .static "BallMinder" "LEAST" "[I") (ty := .int) (N := 9) (f := fun j => .int (leastV j)) (A := lA s) (by decide) (hs _ (by decide +kernel)) (va_eqt (z := 9) (hs _ (by decide +kernel))) (by9 (P := fun j => (Term.elem (.static "BallMinder" "LEAST" "[I") (.int (Int32.ofNat j))).eval #[Value.ref b] s none [] s = some (.int (leastV j))) (va_eqt (hs _ (by decide +kernel))) (va_eqt (hs _ (by decide +kernel))) (va_eqt (hs _ (by decide +kernel))) (va_eqt (hs _ (by decide +kernel))) (va_eqt (hs _ (by decide +kernel))) (va_eqt (hs _ (by decide +kernel))) (va_eqt (hs _ (by decide +kernel))) (va_eqt (hs _ (by decide +kernel))) (va_eqt (hs _ (by decide +kernel)))) hA
  exact ⟨t, va_Zof (hts (.laysStatic "BallMinder" "LEAST" "[I") (by decide +kernel)) (hts (.initialized "BallMinder") (by decide +kernel)) ht hA, hT⟩
set_option maxRecDepth 20000 in
theorem law_st_GREATEST {s : State} {b : Nat} (hts : ∀ w ∈ lw_tbl, w.before #[Value.ref b] s = true) (hgv : (Jvm.Cond.and given_1 narrow_1).before #[Value.ref b] s = true) : stX "GREATEST" "[I" .int greatestV (lA s) s s.heap := by
  have hs := flat_of_before _ hgv
  have hA : ∀ a : Nat, a < s.heap.size → ¬ lA s a := fun a ha => Nat.not_le.mpr ha
  obtain ⟨t, ht, hT⟩ := va_Tof (tm := .static "BallMinder" "GREATEST" "[I") (ty := .int) (N := 9) (f := fun j => .int (greatestV j)) (A := lA s) (by decide) (hs _ (by decide +kernel)) (va_eqt (z := 9) (hs _ (by decide +kernel))) (by9 (P := fun j => (Term.elem (.static "BallMinder" "GREATEST" "[I") (.int (Int32.ofNat j))).eval #[Value.ref b] s none [] s = some (.int (greatestV j))) (va_eqt (hs _ (by decide +kernel))) (va_eqt (hs _ (by decide +kernel))) (va_eqt (hs _ (by decide +kernel))) (va_eqt (hs _ (by decide +kernel))) (va_eqt (hs _ (by decide +kernel))) (va_eqt (hs _ (by decide +kernel))) (va_eqt (hs _ (by decide +kernel))) (va_eqt (hs _ (by decide +kernel))) (va_eqt (hs _ (by decide +kernel)))) hA
  exact ⟨t, va_Zof (hts (.laysStatic "BallMinder" "GREATEST" "[I") (by decide +kernel)) (hts (.initialized "BallMinder") (by decide +kernel)) ht hA, hT⟩
set_option maxRecDepth 20000 in
theorem law_st_AT_FIRST {s : State} {b : Nat} (hts : ∀ w ∈ lw_tbl, w.before #[Value.ref b] s = true) (hgv : (Jvm.Cond.and given_1 narrow_1).before #[Value.ref b] s = true) : stX "AT_FIRST" "[I" .int firstV (lA s) s s.heap := by
  have hs := flat_of_before _ hgv
  have hA : ∀ a : Nat, a < s.heap.size → ¬ lA s a := fun a ha => Nat.not_le.mpr ha
  obtain ⟨t, ht, hT⟩ := va_Tof (tm := .static "BallMinder" "AT_FIRST" "[I") (ty := .int) (N := 9) (f := fun j => .int (firstV j)) (A := lA s) (by decide) (hs _ (by decide +kernel)) (va_eqt (z := 9) (hs _ (by decide +kernel))) (by9 (P := fun j => (Term.elem (.static "BallMinder" "AT_FIRST" "[I") (.int (Int32.ofNat j))).eval #[Value.ref b] s none [] s = some (.int (firstV j))) (va_eqt (hs _ (by decide +kernel))) (va_eqt (hs _ (by decide +kernel))) (va_eqt (hs _ (by decide +kernel))) (va_eqt (hs _ (by decide +kernel))) (va_eqt (hs _ (by decide +kernel))) (va_eqt (hs _ (by decide +kernel))) (va_eqt (hs _ (by decide +kernel))) (va_eqt (hs _ (by decide +kernel))) (va_eqt (hs _ (by decide +kernel)))) hA
  exact ⟨t, va_Zof (hts (.laysStatic "BallMinder" "AT_FIRST" "[I") (by decide +kernel)) (hts (.initialized "BallMinder") (by decide +kernel)) ht hA, hT⟩
set_option maxRecDepth 20000 in
theorem law_st_LETTERS {s : State} {b : Nat} (hts : ∀ w ∈ lw_tbl, w.before #[Value.ref b] s = true) (hgv : (Jvm.Cond.and given_1 narrow_1).before #[Value.ref b] s = true) : stX "LETTERS" "[C" .char letterV (lA s) s s.heap := by
  have hs := flat_of_before _ hgv
  have hA : ∀ a : Nat, a < s.heap.size → ¬ lA s a := fun a ha => Nat.not_le.mpr ha
  obtain ⟨t, ht, hT⟩ := va_Tof (tm := .static "BallMinder" "LETTERS" "[C") (ty := .char) (N := 9) (f := fun j => .int (letterV j)) (A := lA s) (by decide) (hs _ (by decide +kernel)) (va_eqt (z := 9) (hs _ (by decide +kernel))) (by9 (P := fun j => (Term.elem (.static "BallMinder" "LETTERS" "[C") (.int (Int32.ofNat j))).eval #[Value.ref b] s none [] s = some (.int (letterV j))) (va_eqt (hs _ (by decide +kernel))) (va_eqt (hs _ (by decide +kernel))) (va_eqt (hs _ (by decide +kernel))) (va_eqt (hs _ (by decide +kernel))) (va_eqt (hs _ (by decide +kernel))) (va_eqt (hs _ (by decide +kernel))) (va_eqt (hs _ (by decide +kernel))) (va_eqt (hs _ (by decide +kernel))) (va_eqt (hs _ (by decide +kernel)))) hA
  exact ⟨t, va_Zof (hts (.laysStatic "BallMinder" "LETTERS" "[C") (by decide +kernel)) (hts (.initialized "BallMinder") (by decide +kernel)) ht hA, hT⟩
theorem law_cx {s : State} {b : Nat} (hts : ∀ w ∈ lw_tbl, w.before #[Value.ref b] s = true) (hgv : (Jvm.Cond.and given_1 narrow_1).before #[Value.ref b] s = true) : cX (lA s) s :=
  ⟨fun w hw => va_Nw.of (nestW_on w hw) (hts w (nest_in w hw)), law_st_LEAST hts hgv, law_st_GREATEST hts hgv, law_st_AT_FIRST hts hgv, law_st_LETTERS hts hgv⟩
set_option maxRecDepth 20000 in
theorem law_K {s : State} {b : Nat} (hts : ∀ w ∈ lw_tbl, w.before #[Value.ref b] s = true) : ∃ D : va_G, va_K D vwCl [] s := by
  obtain ⟨c0, iS0, hKn0⟩ := u_known (C := RX0) (T := TX0) (N := 5) (n := 5) hts wsL_in_wsX00 (hts (.instantiable RX0 5) (by decide +kernel))
  obtain ⟨c1, iS1, hKn1⟩ := u_known (C := RX1) (T := TX1) (N := 3) (n := 3) hts wsL_in_wsX10 (hts (.instantiable RX1 3) (by decide +kernel))
  obtain ⟨c2, iS2, hKn2⟩ := u_known (C := RX2) (T := TX2) (N := 3) (n := 3) hts wsL_in_wsX20 (hts (.instantiable RX2 3) (by decide +kernel))
  obtain ⟨c3, iS3, hKn3⟩ := u_known (C := RX3) (T := TX3) (N := 2) (n := 2) hts wsL_in_wsX30 (hts (.instantiable RX3 2) (by decide +kernel))
  obtain ⟨c4, iS4, hKn4⟩ := u_known (C := RX4) (T := TX4) (N := 2) (n := 2) hts wsL_in_wsX40 (hts (.instantiable RX4 2) (by decide +kernel))
  obtain ⟨c5, iS5, hKn5⟩ := u_known (C := RX5) (T := TX5) (N := 13) (n := 13) hts wsL_in_wsX50 (hts (.instantiable RX5 13) (by decide +kernel))
  obtain ⟨c6, iS6, hKn6⟩ := u_known (C := RX6) (T := TX6) (N := 4) (n := 4) hts wsL_in_wsX60 (hts (.instantiable RX6 4) (by decide +kernel))
  obtain ⟨c7, iS7, hKn7⟩ := u_known (C := RX7) (T := TX7) (N := 2) (n := 2) hts wsL_in_wsX70 (hts (.instantiable RX7 2) (by decide +kernel))
  obtain ⟨c8, iS8, hKn8⟩ := u_known (C := RX8) (T := TX8) (N := 2) (n := 2) hts wsL_in_wsX80 (hts (.instantiable RX8 2) (by decide +kernel))
  obtain ⟨c9, iS9, hKn9⟩ := u_known (C := RX9) (T := TX9) (N := 1) (n := 1) hts wsL_in_wsX90 (hts (.instantiable RX9 1) (by decide +kernel))
  obtain ⟨c10, iS10, hKn10⟩ := u_known (C := RX10) (T := TX10) (N := 11) (n := 11) hts wsL_in_wsX100 (hts (.instantiable RX10 11) (by decide +kernel))
  obtain ⟨c11, iS11, hKn11⟩ := u_known (C := RX11) (T := TX11) (N := 21) (n := 21) hts wsL_in_wsX110 (hts (.instantiable RX11 21) (by decide +kernel))
  refine ⟨(fun k => if k = 0 then c0 else if k = 1 then c1 else if k = 2 then c2 else if k = 3 then c3 else if k = 4 then c4 else if k = 5 then c5 else if k = 6 then c6 else if k = 7 then c7 else if k = 8 then c8 else if k = 9 then c9 else if k = 10 then c10 else c11, fun k => if k = 0 then iS0 else if k = 1 then iS1 else if k = 2 then iS2 else if k = 3 then iS3 else if k = 4 then iS4 else if k = 5 then iS5 else if k = 6 then iS6 else if k = 7 then iS7 else if k = 8 then iS8 else if k = 9 then iS9 else if k = 10 then iS10 else iS11), fun k x hx => ?_, fun k x h => by simp at h⟩
  match k, hx with
  | 0, hx => cases hx; exact hKn0
  | 1, hx => cases hx; exact hKn1
  | 2, hx => cases hx; exact hKn2
  | 3, hx => cases hx; exact hKn3
  | 4, hx => cases hx; exact hKn4
  | 5, hx => cases hx; exact hKn5
  | 6, hx => cases hx; exact hKn6
  | 7, hx => cases hx; exact hKn7
  | 8, hx => cases hx; exact hKn8
  | 9, hx => cases hx; exact hKn9
  | 10, hx => cases hx; exact hKn10
  | 11, hx => cases hx; exact hKn11
  | k + 12, hx => simp [vwCl] at hx
