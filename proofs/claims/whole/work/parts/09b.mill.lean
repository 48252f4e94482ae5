/-! a mill is made, and comes to its place in the row of mills -/
def RO (n : Nat) (R : Nat → Option Nat) : Prop := (∀ k, R 4 = some k → k < 4) ∧ (∀ x, R 15 = some x → x < n) ∧ (∀ x, R 18 = some x → x < n)
def q2 (q : Nat → Nat) (n ra x : Nat) : Nat → Nat := va_up (va_up q (29 + 2 * n) ra) (30 + 2 * n) x
theorem q2_lt {q : Nat → Nat} {n ra x i : Nat} (h : i < 29 + 2 * n) : q2 q n ra x i = q i := by
  unfold q2
  rw [va_up_ne _ _ (by omega), va_up_ne _ _ (by omega)]
theorem q2_a {q : Nat → Nat} {n ra x : Nat} : q2 q n ra x (29 + 2 * n) = ra := by
  unfold q2
  rw [va_up_ne _ _ (by omega), va_up_self]
theorem q2_b {q : Nat → Nat} {n ra x : Nat} : q2 q n ra x (30 + 2 * n) = x := by
  unfold q2
  rw [va_up_self]
theorem q2_S {q : Nat → Nat} {n ra x : Nat} {o : Option Nat} (h : ∀ k, o = some k → k < 4) : Option.map (qS (q2 q n ra x)) o = Option.map (qS q) o := by
  cases o with
  | none => rfl
  | some k => have := h k rfl; simp only [Option.map_some, qS]; rw [q2_lt (by omega)]
theorem q2_M {q : Nat → Nat} {n ra x : Nat} {o : Option Nat} (h : ∀ k, o = some k → k < n) : Option.map (qM (q2 q n ra x)) o = Option.map (qM q) o := by
  cases o with
  | none => rfl
  | some k => have := h k rfl; simp only [Option.map_some, qM]; rw [q2_lt (by omega)]
/-- the fixed places but the row of mills, by two address maps that agree there -/
theorem gC_q {q q' : Nat → Nat} {cI cJ cZ cP cS : ClassId} {K K' : Nat → Nat} {n n' : Nat} {S : Nat → Nat → Int32} {L : Nat → Int64} {R : Nat → Option Nat} (e : ∀ j, j < 29 → q' j = q j) (e4 : Option.map (qS q') (R 4) = Option.map (qS q) (R 4)) (e15 : Option.map (qM q') (R 15) = Option.map (qM q) (R 15)) (e18 : Option.map (qM q') (R 18) = Option.map (qM q) (R 18)) {i : Nat} (hi : i < 29) (h1 : i ≠ 1) :
    gC q' cI cJ cZ cP cS K' n' S L R i = gC q cI cJ cZ cP cS K n S L R i := by
  have f : ∀ j, (if j < 4 then some j else none : Option Nat) = none ∨ ∃ k, k < 4 ∧ (if j < 4 then some j else none : Option Nat) = some k := by
    intro j
    by_cases hj : j < 4
    · exact Or.inr ⟨j, hj, if_pos hj⟩
    · exact Or.inl (if_neg hj)
  rcases (show i = 0 ∨ i = 2 ∨ i = 3 ∨ i = 4 ∨ i = 5 ∨ i = 6 ∨ i = 7 ∨ i = 8 ∨ i = 9 ∨ i = 10 ∨ i = 11 ∨ i = 12 ∨ i = 13 ∨ i = 14 ∨ i = 15 ∨ i = 16 ∨ i = 17 ∨ i = 18 ∨ i = 19 ∨ i = 20 ∨ i = 21 ∨ i = 22 ∨ i = 23 ∨ i = 24 ∨ i = 25 ∨ i = 26 ∨ i = 27 ∨ i = 28 by omega) with rfl | rfl | rfl | rfl | rfl | rfl | rfl | rfl | rfl | rfl | rfl | rfl | rfl | rfl | rfl | rfl | rfl | rfl | rfl | rfl | rfl | rfl | rfl | rfl | rfl | rfl | rfl | rfl
  · show Sum.inr (10, [Value.ref (q' 1), .ref (q' 2), .ref (q' 3), .ref (q' 4), .ref (q' 7), .ref (q' 9), .ref (q' 13), .ref (q' 14), .int (S 0 8), .int (S 0 9), .int (S 0 10)]) = _
    rw [e 1 (by omega), e 2 (by omega), e 3 (by omega), e 4 (by omega), e 7 (by omega), e 9 (by omega), e 13 (by omega), e 14 (by omega)]
    rfl
  · show (Sum.inl (cS, 4, .inr (.inr (.inr (.inr (fun j => Option.map (qS q') (if j < 4 then some j else none)))))) : va_E) = (Sum.inl (cS, 4, .inr (.inr (.inr (.inr (fun j => Option.map (qS q) (if j < 4 then some j else none)))))) : va_E)
    have : (fun j => Option.map (qS q') (if j < 4 then some j else none)) = (fun j => Option.map (qS q) (if j < 4 then some j else none)) := by
      funext j
      rcases f j with h | ⟨k, hk, h⟩
      · rw [h]; rfl
      · rw [h]; simp only [Option.map_some, qS]; rw [e _ (by omega)]
    rw [this]
  · rfl
  · show Sum.inr (0, [Value.ref (q' 5), .ref (q' 6), va_rf (Option.map (qS q') (R 4)), .int (S 4 3), .int (S 4 4)]) = _
    rw [e 5 (by omega), e 6 (by omega), e4]
    rfl
  · rfl
  · rfl
  · show Sum.inr (8, [Value.ref (q' 8), .int (S 7 1)]) = _
    rw [e 8 (by omega)]
    rfl
  · rfl
  · show Sum.inr (5, [Value.ref (q' 10), .ref (q' 15), .ref (q' 18), .ref (q' 11), .ref (q' 12), .int (S 9 5), .int (S 9 6), .int (S 9 7), .int (S 9 8), .int (S 9 9), .int (S 9 10), .int (S 9 11), .int (S 9 12)]) = _
    rw [e 10 (by omega), e 15 (by omega), e 18 (by omega), e 11 (by omega), e 12 (by omega)]
    rfl
  · rfl
  · rfl
  · rfl
  · rfl
  · rfl
  · show Sum.inr (2, [Value.ref (q' 16), .ref (q' 17), va_rf (Option.map (qM q') (R 15))]) = _
    rw [e 16 (by omega), e 17 (by omega), e15]
    rfl
  · rfl
  · rfl
  · show Sum.inr (2, [Value.ref (q' 19), .ref (q' 20), va_rf (Option.map (qM q') (R 18))]) = _
    rw [e 19 (by omega), e 20 (by omega), e18]
    rfl
  · rfl
  · rfl
  · show Sum.inr (6, [Value.ref (q' 22), .int (S 21 1), .int (S 21 2), .int (S 21 3)]) = _
    rw [e 22 (by omega)]
    rfl
  · rfl
  · show Sum.inr (6, [Value.ref (q' 24), .int (S 23 1), .int (S 23 2), .int (S 23 3)]) = _
    rw [e 24 (by omega)]
    rfl
  · rfl
  · show Sum.inr (6, [Value.ref (q' 26), .int (S 25 1), .int (S 25 2), .int (S 25 3)]) = _
    rw [e 26 (by omega)]
    rfl
  · rfl
  · show Sum.inr (6, [Value.ref (q' 28), .int (S 27 1), .int (S 27 2), .int (S 27 3)]) = _
    rw [e 28 (by omega)]
    rfl
  · rfl
/-- the old places, seen with one mill more; the row of mills apart -/
theorem gC_more {q : Nat → Nat} {cI cJ cZ cP cS : ClassId} {K : Nat → Nat} {n : Nat} {S : Nat → Nat → Int32} {L : Nat → Int64} {R : Nat → Option Nat} {ra x k : Nat} {F : Nat → Int32} (hR : RO n R) {i : Nat} (hi : i < 29 + 2 * n) (h1 : i ≠ 1) :
    gC (q2 q n ra x) cI cJ cZ cP cS (va_up K n k) (n + 1) (va_up S (30 + 2 * n) F) L R i = gC q cI cJ cZ cP cS K n S L R i := by
  have hS : va_up S (30 + 2 * n) F i = S i := va_up_ne _ _ (by omega)
  rw [gC_S (S' := S) hS]
  by_cases h29 : i < 29
  · exact gC_q (fun j hj => q2_lt (by omega)) (q2_S hR.1) (q2_M hR.2.1) (q2_M hR.2.2) h29 h1
  · by_cases hp : (i - 29) % 2 = 0
    · obtain ⟨y, rfl⟩ : ∃ y, i = 29 + 2 * y := ⟨(i - 29) / 2, by omega⟩
      rw [gC_mill, gC_mill, va_up_ne _ _ (by omega), q2_lt (by omega)]
    · obtain ⟨y, rfl⟩ : ∃ y, i = 30 + 2 * y := ⟨(i - 30) / 2, by omega⟩
      rw [gC_nums, gC_nums]
