section BE
variable {K : Nat → Nat} {n : Nat} {M : Nat → Nat → Nat} {S : Nat → Nat → Int32} {L : Nat → Int64} {R : Nat → Option Nat} {f : Nat → Int32} {a : Nat → Nat → Int32}
/-! the reference -/
theorem n_begin {p q : GM} {y1 y2 : Int32} {v u load : Int32} {z : (Nat → Nat) × Nat} {Q : (Nat → Int32) → (Nat → Nat → Int32) → Prop} (hz : p = some z) (hp : okG p) (hq : okG q) (h1 : RG a y1 p) (h2 : RG a y2 q)
    (hQ : ∀ f' a', Fc f f' → Ac a a' → RB f' a' p q load (lateN p q) → RR (rnR p q load (s0R q v u)) 0 a' → Q f' a') : vX11_begin y1 y2 v u load f a Q := by
  have lp := hp.lt
  have lq := hq.lt
  have v301 : vp_in (0 : Int32) 301 := vp_in_nI (n := 0) (by omega) (by omega)
  have v602 : vp_in (0 : Int32) 602 := vp_in_nI (n := 0) (by omega) (by omega)
  have v602b : vp_in (301 : Int32) 602 := vp_in_nI (n := 301) (by omega) (by omega)
  have c0 : (0 : Int32).toNatClampNeg = 0 := rfl
  have c301 : (301 : Int32).toNatClampNeg = 301 := nI_clamp (n := 301) (by omega)
  unfold vX11_begin
  intro f1 e1 f2 e2 f3 e3
  have fin : ∀ r : Int32, r = nI (lateN p q) → vX11_begin_55 Q y2 v u r f3 a := by
    intro r hr
    unfold vX11_begin_55 vX11_begin_90
    rw [c0, c301]
    intro f8 e8
    refine ⟨v301, fun a1 h1' => ⟨v602, fun a2 h2' => ?_⟩⟩
    have go : ∀ y0 : Int32, y0 = (uG q u) → vp_in (301 : Int32) 602 ∧ (∀ a15 : Nat → Nat → Int32, a15 = va_up a2 5 (upd (a2 5) 301 y0) → vp_in (0 : Int32) 602 ∧ (∀ a17 : Nat → Nat → Int32, a17 = va_up a15 6 (upd (a15 6) 0 (0 : Int32)) → vp_in (301 : Int32) 602 ∧ (∀ a19 : Nat → Nat → Int32, a19 = va_up a17 6 (upd (a17 6) 301 (0 : Int32)) → Q f8 a19))) := by
      intro y0 hy0
      refine ⟨v602b, fun a15 h15 => ⟨v602, fun a17 h17 => ⟨v602b, fun a19 h19 => ?_⟩⟩⟩
      have hac : Ac a a19 := by rw [h19, h17, h15, h2', h1']; exact ((((Ac.rfl'.up (by omega)).up (by omega)).up (by omega)).up (by omega)).up (by omega)
      refine hQ f8 a19 ?_ hac ⟨?_, ?_, ?_, ?_⟩ (fun j hj => ?_)
      · rw [e8, e3, e2, e1]; exact (((Fc.rfl'.up (by omega)).up (by omega)).up (by omega)).up (by omega)
      · rw [show f8 5 = y1 by rw [e8, va_up_ne _ _ (by omega), e3, va_up_ne _ _ (by omega), e2, va_up_ne _ _ (by omega), e1, va_up_self]]; exact h1.ac hac
      · rw [show f8 6 = y2 by rw [e8, va_up_ne _ _ (by omega), e3, va_up_ne _ _ (by omega), e2, va_up_self]]; exact h2.ac hac
      · rw [e8, va_up_ne _ _ (by omega), e3, va_up_self]
      · rw [e8, va_up_self, hr]
      · obtain rfl : j = 0 := by omega
        have q4 : a19 4 0 = v := by rw [h19, va_up_ne _ _ (by omega), h17, va_up_ne _ _ (by omega), h15, va_up_ne _ _ (by omega), h2', va_up_ne _ _ (by omega), h1', va_up_self, upd_self]
        have q5 : a19 5 = upd (upd (a1 5) 0 u) 301 y0 := by rw [h19, va_up_ne _ _ (by omega), h17, va_up_ne _ _ (by omega), h15, va_up_self, h2', va_up_self]
        have q6 : a19 6 = upd (upd (a15 6) 0 0) 301 0 := by rw [h19, va_up_self, h17, va_up_self]
        refine ⟨fun k hk => ?_, ?_, ?_, ?_, ?_⟩
        · rw [show 0 - k = 0 by omega, q4]
          show v = s0R q v u k
          unfold s0R
          rw [if_pos hk]
        · rw [q5, upd_ne _ _ (by omega), upd_self]; rfl
        · rw [q6, upd_ne _ _ (by omega), upd_self]; rfl
        · rw [q5, show 301 + 0 = 301 from rfl, upd_self, hy0]; rfl
        · rw [q6, show 301 + 0 = 301 from rfl, upd_self]; rfl
    cases q with
    | none =>
      have h2n : y2 = -9 := h2
      subst h2n
      exact ⟨fun h => absurd h (by decide), fun _ => go 0 rfl⟩
    | some w =>
      obtain ⟨y, g1, g2, -⟩ := h2
      subst g1
      exact ⟨fun _ => go u rfl, fun h => absurd (nI_pos' (by omega)) h⟩
  subst hz
  obtain ⟨x, x1, x2, x3, x4⟩ := h1
  have l7 : z.1 7 ≤ 3 := lp
  have n38 : z.1 7 = lateN (some z) q → vX11_begin_38 Q y1 y2 v u f3 a := by
    intro he
    unfold vX11_begin_38
    rw [x1, n_ofl (w := 7) x2 (by omega), x3 7 (by omega)]
    exact fin _ (by rw [he])
  cases q with
  | none =>
    have h2n : y2 = -9 := h2
    subst h2n
    refine ⟨fun _ => n38 ?_, fun h => absurd (by decide) h⟩
    unfold lateN
    rw [if_neg (by show ¬ _ < 0; omega)]; rfl
  | some w =>
    obtain ⟨y, g1, g2, g3, g4⟩ := h2
    have m7 : w.1 7 ≤ 3 := lq
    rw [g1]
    refine ⟨fun h => absurd h (nI_pos (by omega)), fun _ => ?_⟩
    rw [x1, n_ofl (w := 7) x2 (by omega), n_ofl (w := 7) g2 (by omega), x3 7 (by omega), g3 7 (by omega)]
    rw [n_ofl (w := 7) g2 (by omega), g3 7 (by omega)]
    refine ⟨fun h => ?_, fun h => ?_⟩
    · have hle : z.1 7 ≤ w.1 7 := (nI_leI (by omega) (by omega)).mp h
      rw [g1] at fin
      refine fin _ ?_
      unfold lateN
      show nI (w.1 7) = nI (if z.1 7 < w.1 7 then w.1 7 else z.1 7)
      split
      · rfl
      · congr 1; omega
    · have hle : ¬ z.1 7 ≤ w.1 7 := fun q => h ((nI_leI (by omega) (by omega)).mpr q)
      rw [g1, x1] at n38
      refine n38 ?_
      unfold lateN
      show z.1 7 = if z.1 7 < w.1 7 then w.1 7 else z.1 7
      rw [if_neg (by omega)]
end BE
