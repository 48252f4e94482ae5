section BE
variable {K : Nat → Nat} {n : Nat} {M : Nat → Nat → Nat} {S : Nat → Nat → Int32} {L : Nat → Int64} {R : Nat → Option Nat} {f : Nat → Int32} {a : Nat → Nat → Int32}
theorem w_begin {p q : GM} {o1 o2 : Option Nat} {v u load : Int32} {z : (Nat → Nat) × Nat} {Q : (Nat → Nat → Int32) → (Nat → Int64) → (Nat → Option Nat) → Prop} (hz : p = some z) (hp : okG p) (hq : okG q) (h1 : GO K n S o1 p) (h2 : GO K n S o2 q) (hRO : RO n R)
    (hQ : ∀ S' R', Sc S S' → S' 13 = S 13 → RO n R' → GB K n S' R' 0 p → GB K n S' R' 1 q → ShB S' p q load (lateN p q) → CR (rnR p q load (s0R q v u)) 0 S' → Q S' L R') : vX5_begin K n o1 o2 v u load S L R Q := by
  have lp := hp.lt
  have lq := hq.lt
  unfold vX5_begin
  refine w_gbegin (by omega) h1 ?_
  generalize hA : va_up (va_up S (16 + 3 * 0) (upd (S (16 + 3 * 0)) 0 (uG p u))) (17 + 3 * 0) (upd (S (17 + 3 * 0)) 0 0) = S1
  have aO : ∀ i, i ≠ 16 → i ≠ 17 → S1 i = S i := fun i e1 e2 => by rw [← hA, va_up_ne _ _ (by omega), va_up_ne _ _ (by omega)]
  have a16 : S1 16 0 = u := by rw [← hA, va_up_ne _ _ (by omega)]; rw [show (16 + 3 * 0 : Nat) = 16 from rfl, va_up_self, upd_self, hz]; rfl
  have a17 : S1 17 0 = 0 := by rw [← hA]; rw [show (17 + 3 * 0 : Nat) = 17 from rfl, va_up_self, upd_self]
  have sc1 : Sc S S1 := fun i hi => aO i (by omega) (by omega)
  have h2' : GO K n S1 o2 q := by
    cases q with
    | none => exact h2
    | some w =>
      obtain ⟨y, g1, g2, g3, g4, g5⟩ := h2
      exact ⟨y, g1, g2, g3.sc sc1, g4, g5⟩
  refine w_gbegin (by omega) h2' ?_
  generalize hB : va_up (va_up S1 (16 + 3 * 1) (upd (S1 (16 + 3 * 1)) 0 (uG q u))) (17 + 3 * 1) (upd (S1 (17 + 3 * 1)) 0 0) = S2
  generalize hR : va_up (va_up R (15 + 3 * 0) o1) (15 + 3 * 1) o2 = R2
  have bO : ∀ i, i ≠ 16 → i ≠ 17 → i ≠ 19 → i ≠ 20 → S2 i = S i := fun i e1 e2 e3 e4 => by rw [← hB, va_up_ne _ _ (by omega), va_up_ne _ _ (by omega)]; exact aO i e1 e2
  have b16 : S2 16 = S1 16 := by rw [← hB, va_up_ne _ _ (by omega), va_up_ne _ _ (by omega)]
  have b17 : S2 17 = S1 17 := by rw [← hB, va_up_ne _ _ (by omega), va_up_ne _ _ (by omega)]
  have b19 : S2 19 0 = (uG q u) := by rw [← hB, va_up_ne _ _ (by omega)]; rw [show (16 + 3 * 1 : Nat) = 19 from rfl, va_up_self, upd_self]
  have b20 : S2 20 0 = 0 := by rw [← hB]; rw [show (17 + 3 * 1 : Nat) = 20 from rfl, va_up_self, upd_self]
  have sc2 : Sc S S2 := fun i hi => bO i (by omega) (by omega) (by omega) (by omega)
  have r0 : R2 (15 + 3 * 0) = o1 := by rw [← hR, va_up_ne _ _ (by omega), va_up_self]
  have r1 : R2 (15 + 3 * 1) = o2 := by rw [← hR, va_up_self]
  have hRO2 : RO n R2 := by
    refine ⟨fun k hk => hRO.1 k (by rw [← hR, va_up_ne _ _ (by omega), va_up_ne _ _ (by omega)] at hk; exact hk), fun x hx => ?_, fun x hx => ?_⟩
    · rw [show (15 : Nat) = 15 + 3 * 0 from rfl, r0] at hx
      rw [hz] at h1
      obtain ⟨y, g1, g2, -⟩ := h1
      rw [g1] at hx; cases hx; exact g2
    · rw [show (18 : Nat) = 15 + 3 * 1 from rfl, r1] at hx
      cases q with
      | none => have := show o2 = none from h2; rw [this] at hx; cases hx
      | some w =>
        obtain ⟨y, g1, g2, -⟩ := h2
        rw [g1] at hx; cases hx; exact g2
  have e7 : ∀ {q : GM}, nmG q 7 = nI (ltG q) := fun {q} => by cases q <;> rfl
  intro S7 h7
  have sc7 : Sc S S7 := by rw [h7]; exact sc2.up (by omega)
  rw [w_numberl (w := 7) (h1.gb sc7 r0) (by omega), w_numberl (w := 7) (h2.gb sc7 r1) (by omega)]
  intro S16 h16
  have sc16 : Sc S S16 := by rw [h16]; exact sc7.up (by omega)
  rw [w_numberl (w := 1) (h1.gb sc16 r0) (by omega), w_numberl (w := 1) (h2.gb sc16 r1) (by omega)]
  intro S25 h25
  have sc25 : Sc S S25 := by rw [h25]; exact sc16.up (by omega)
  rw [w_numberl (w := 0) (h1.gb sc25 r0) (by omega), w_numberl (w := 0) (h2.gb sc25 r1) (by omega)]
  intro S34 h34
  have sc34 : Sc S S34 := by rw [h34]; exact sc25.up (by omega)
  have nO : ∀ i, i ≠ 9 → S34 i = S2 i := fun i hi => by rw [h34, va_up_ne _ _ hi, h25, va_up_ne _ _ hi, h16, va_up_ne _ _ hi, h7, va_up_ne _ _ hi]
  have n9 : S34 9 = upd (upd (upd (upd (S2 9) 5 load) 6 (nI (lateN p q))) 7 (nmG p 1 + nmG q 1)) 8 (nmG p 0 + nmG q 0) := by
    rw [h34, va_up_self, h25, va_up_self, h16, va_up_self, h7, va_up_self]
    have el : (if nmG p 7 < nmG q 7 then nmG q 7 else nmG p 7) = nI (lateN p q) := by
      rw [e7, e7]
      unfold lateN
      by_cases h : ltG p < ltG q
      · rw [if_pos h, if_pos (nI_lt h (by omega))]
      · rw [if_neg h, if_neg (nI_nlt (by omega) (by omega))]
    rw [el]
  refine ⟨5, w_begin96 (S := S34) (fun S5 g1 g2 => ?_) 4 0 S34 (by omega) (fun _ _ => rfl) (fun j hj => by omega)⟩
  have sc5 : Sc S S5 := fun i hi => by rw [g1 i (by omega)]; exact sc34 i hi
  refine hQ S5 R2 sc5 (by rw [g1 _ (by omega), nO _ (by omega)]; exact bO 13 (by omega) (by omega) (by omega) (by omega)) hRO2 (h1.gb sc5 r0) (h2.gb sc5 r1) ?_ (fun j hj => ?_)
  · unfold ShB
    rw [g1 9 (by omega), n9]
    refine ⟨?_, ?_, ?_, upd_self _ _ _⟩
    · rw [upd_ne _ _ (by omega), upd_ne _ _ (by omega), upd_ne _ _ (by omega), upd_self]
    · rw [upd_ne _ _ (by omega), upd_ne _ _ (by omega), upd_self]
    · rw [upd_ne _ _ (by omega), upd_self]
  · obtain rfl : j = 0 := by omega
    refine ⟨fun k hk => ?_, ?_, ?_, ?_, ?_⟩
    · rw [g2 _ (by omega)]
      show v = s0R q v u k
      unfold s0R
      rw [if_pos hk]
    · rw [g1 _ (by omega), nO _ (by omega), b16, a16]; rfl
    · rw [g1 _ (by omega), nO _ (by omega), b17, a17]; rfl
    · rw [g1 _ (by omega), nO _ (by omega), b19]; rfl
    · rw [g1 _ (by omega), nO _ (by omega), b20]; rfl
end BE
