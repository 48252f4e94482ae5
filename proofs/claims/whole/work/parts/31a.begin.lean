/-! how both begin -/
theorem Sc.one {S S' : Nat → Nat → Int32} (h : ∀ i, (i = 0 ∨ i = 3 ∨ i = 14 ∨ 21 ≤ i) → S' i = S i) : Sc S S' := h
def GO (K : Nat → Nat) (n : Nat) (S : Nat → Nat → Int32) (o : Option Nat) (q : GM) : Prop := match q with
  | none => o = none
  | some z => ∃ y, o = some y ∧ y < n ∧ CM S y z.1 ∧ K y = z.2 ∧ MB z.1
theorem GO.gb {K : Nat → Nat} {n : Nat} {S S' : Nat → Nat → Int32} {R : Nat → Option Nat} {o : Option Nat} {g : Nat} {q : GM} (h : GO K n S o q) (hs : Sc S S') (hR : R (15 + 3 * g) = o) : GB K n S' R g q := by
  cases q with
  | none => exact hR.trans h
  | some z =>
    obtain ⟨y, h1, h2, h3, h4, h5⟩ := h
    exact ⟨y, hR.trans h1, h2, h3.sc hs, h4, h5⟩
section BE
variable {K : Nat → Nat} {n : Nat} {M : Nat → Nat → Nat} {S : Nat → Nat → Int32} {L : Nat → Int64} {R : Nat → Option Nat} {f : Nat → Int32} {a : Nat → Nat → Int32}
theorem w_gbegin {g : Nat} {o : Option Nat} {q : GM} {u : Int32} {Q : (Nat → Nat → Int32) → (Nat → Int64) → (Nat → Option Nat) → Prop} (hg : g < 2) (hO : GO K n S o q) (hQ : Q (va_up (va_up S (16 + 3 * g) (upd (S (16 + 3 * g)) 0 (uG q u))) (17 + 3 * g) (upd (S (17 + 3 * g)) 0 0)) L (va_up R (15 + 3 * g) o)) : vX2_begin K n g o u S L R Q := by
  have v0 : vp_in (0 : Int32) 301 := vp_in_nI (n := 0) (by omega) (by omega)
  have c0 : (0 : Int32).toNatClampNeg = 0 := rfl
  have fin : ∀ y : Int32, y = (uG q u) → vX2_begin_19 K n g Q y 0 S L (va_up R (15 + 3 * g) o) := by
    intro y hy
    unfold vX2_begin_19
    rw [c0]
    refine ⟨v0, fun S1 h1 => ⟨v0, fun S2 h2 => ?_⟩⟩
    rw [h2, h1, va_up_ne _ _ (show 17 + 3 * g ≠ 16 + 3 * g by omega), hy]
    exact hQ
  unfold vX2_begin
  intro R1 hR1
  rw [hR1]
  cases q with
  | none =>
    have hO' : o = none := hO
    subst hO'
    exact ⟨fun _ => fin 0 rfl, fun mi hmi => (by cases hmi)⟩
  | some z =>
    obtain ⟨y, h1, -⟩ := hO
    subst h1
    exact ⟨fun h => (by cases h), fun mi hmi => fin u rfl⟩
theorem w_begin96 {v : Int32} {Q : (Nat → Nat → Int32) → (Nat → Int64) → (Nat → Option Nat) → Prop} (hQ : ∀ S', (∀ i, i ≠ 10 → S' i = S i) → (∀ j, j < 4 → S' 10 j = v) → Q S' L R) :
    ∀ d k : Nat, ∀ S1 : Nat → Nat → Int32, k + d = 4 → (∀ i, i ≠ 10 → S1 i = S i) → (∀ j, j < k → S1 10 j = v) → vX5_begin_96 K n Q (d + 1) v (nI k) S1 L R := by
  intro d
  induction d with
  | zero =>
    intro k S1 hk h1 h2
    obtain rfl : k = 4 := by omega
    unfold vX5_begin_96
    exact ⟨fun _ => hQ S1 h1 h2, fun z => absurd (by decide) z⟩
  | succ d ih =>
    intro k S1 hk h1 h2
    unfold vX5_begin_96
    refine ⟨fun z => absurd z (nI_nlt (a := 3) (by omega) (by omega)), fun _ => ⟨vp_in_nI (by omega) (by omega), fun S2 h3 y hy => ?_⟩⟩
    rw [nI_clamp (by omega)] at h3
    rw [hy, nI_1]
    refine ih (k + 1) S2 (by omega) (fun i hi => by rw [h3, va_up_ne _ _ hi]; exact h1 i hi) (fun j hj => ?_)
    rw [h3, va_up_self]
    by_cases e : j = k
    · subst e; exact upd_self _ _ _
    · rw [upd_ne _ _ e]; exact h2 j (by omega)
end BE
