/-! near rest: row of sums, margin, standing, as functions of a mill's nine numbers -/
def smN (N : Nat → Nat) (k : Nat) : Int64 := if k = 4 then lN (N 0) * lN (N 2) else if k = 3 then lN (N 0) * lN (N 3) + lN (N 1) * lN (N 2) else if k = 2 then lN (N 0) * lN (N 4) + lN (N 1) * lN (N 3) else if k = 1 then lN (N 1) * lN (N 4) + lN (N 5) else if k = 0 then lN (N 6) else 0
def suN (N : Nat → Nat) (k : Nat) : Int64 := smN N (if N 6 = 0 then k + 1 else k)
def mgN (N : Nat → Nat) : Int64 := if N 6 = 0 then suN N 2 * suN N 1 - suN N 3 * suN N 0 else suN N 3 * suN N 2 * suN N 1 - suN N 4 * suN N 1 * suN N 1 - suN N 3 * suN N 3 * suN N 0
def tpN (N : Nat → Nat) : Nat := if N 6 = 0 then 3 else 4
def poN (N : Nat → Nat) : Nat → Bool
  | 0 => true
  | k + 1 => poN N k && decide (0 < suN N k)
def neN (N : Nat → Nat) : Int32 := if poN N (tpN N + 1) = true then (if mgN N = 0 then 1 else if mgN N ≤ 0 then 0 else 2) else 0
theorem poN_all {N : Nat → Nat} {k : Nat} (h : ∀ j, j < k → 0 < suN N j) : poN N k = true := by
  induction k with
  | zero => rfl
  | succ k ih => simp [poN, ih (fun j hj => h j (by omega)), h k (by omega)]
theorem poN_not {N : Nat → Nat} {j k : Nat} (hj : j < k) (h : ¬ 0 < suN N j) : poN N k = false := by
  induction k with
  | zero => omega
  | succ k ih =>
    by_cases e : j = k
    · subst e; simp [poN, h]
    · simp [poN, ih (by omega)]
section NR
variable {K : Nat → Nat} {n : Nat} {M : Nat → Nat → Nat} {S : Nat → Nat → Int32} {L : Nat → Int64} {R : Nat → Option Nat} {f : Nat → Int32} {a : Nat → Nat → Int32}
variable {N : Nat → Nat} {x : Nat}
theorem n_sum61 {y : Nat} {Q : Int64 → (Nat → Int32) → (Nat → Nat → Int32) → Prop} (hx : x < 8) (hM : RM a x N) (hB : MB N) (hy : y ≤ 5) : vX11_sumOf_61 Q (nI x) (lN (N 0)) (lN (N 1)) (lN (N 2)) (lN (N 3)) (lN (N 4)) (nI y) f a = Q (smN N y) f a := by
  have b5 := hB.lt (w := 5) (by omega)
  have b6 := hB.lt (w := 6) (by omega)
  unfold vX11_sumOf_61
  simp only [n_ofl (w := 6) hx (by omega), n_ofl (w := 5) hx (by omega), hM 6 (by omega), hM 5 (by omega), nI_l (show N 5 < 2 ^ 31 by omega), nI_l (show N 6 < 2 ^ 31 by omega)]
  rcases (show y = 0 ∨ y = 1 ∨ y = 2 ∨ y = 3 ∨ y = 4 ∨ y = 5 by omega) with rfl | rfl | rfl | rfl | rfl | rfl <;> simp [nI, smN]
theorem n_sum {k : Nat} {Q : Int64 → (Nat → Int32) → (Nat → Nat → Int32) → Prop} (hx : x < 8) (hM : RM a x N) (hB : MB N) (hk : k ≤ 4) : vX11_sumOf (nI x) (nI k) f a Q = Q (suN N k) f a := by
  have b0 := hB.lt (w := 0) (by omega)
  have b1 := hB.lt (w := 1) (by omega)
  have b2 := hB.lt (w := 2) (by omega)
  have b3 := hB.lt (w := 3) (by omega)
  have b4 := hB.lt (w := 4) (by omega)
  have b6 := hB.lt (w := 6) (by omega)
  unfold vX11_sumOf
  simp only [n_ofl (w := 0) hx (by omega), n_ofl (w := 1) hx (by omega), n_ofl (w := 2) hx (by omega), n_ofl (w := 3) hx (by omega), n_ofl (w := 4) hx (by omega), n_ofl (w := 6) hx (by omega), forall_eq, hM 0 (by omega), hM 1 (by omega), hM 2 (by omega), hM 3 (by omega), hM 4 (by omega), hM 6 (by omega), nI_l (show N 0 < 2 ^ 31 by omega), nI_l (show N 1 < 2 ^ 31 by omega), nI_l (show N 2 < 2 ^ 31 by omega), nI_l (show N 3 < 2 ^ 31 by omega), nI_l (show N 4 < 2 ^ 31 by omega)]
  rw [nI_1, n_sum61 hx hM hB (by omega), n_sum61 hx hM hB (by omega)]
  unfold suN
  by_cases h6 : N 6 = 0
  · have e : nI (N 6) ≤ 0 := by rw [h6]; decide
    rw [if_pos h6]
    simp only [e, z00, z10, not_true_eq_false, not_false_eq_true, false_implies, true_implies, true_and, and_true]
  · have e : ¬ nI (N 6) ≤ 0 := nI_nle (by omega) (by omega)
    simp [h6, e]
theorem n_suml {k : Nat} {Q : Int64 → (Nat → Int32) → (Nat → Nat → Int32) → Prop} (hx : x < 8) (hM : RM a x N) (hB : MB N) (hk : k ≤ 4) : vX11_sumOf (nI x) (OfNat.ofNat k) f a Q = Q (suN N k) f a := n_sum hx hM hB hk
theorem n_margin {Q : Int64 → (Nat → Int32) → (Nat → Nat → Int32) → Prop} (hx : x < 8) (hM : RM a x N) (hB : MB N) : vX11_marginOf (nI x) f a Q = Q (mgN N) f a := by
  have b6 := hB.lt (w := 6) (by omega)
  unfold vX11_marginOf
  simp only [n_suml (k := 0) hx hM hB (by omega), n_suml (k := 1) hx hM hB (by omega), n_suml (k := 2) hx hM hB (by omega), n_suml (k := 3) hx hM hB (by omega), n_suml (k := 4) hx hM hB (by omega), n_ofl (w := 6) hx (by omega), hM 6 (by omega)]
  unfold mgN
  by_cases h6 : N 6 = 0
  · have e : nI (N 6) ≤ 0 := by rw [h6]; decide
    rw [if_pos h6]
    simp only [e, z00, z10, not_true_eq_false, not_false_eq_true, false_implies, true_implies, true_and, and_true]
  · have e : ¬ nI (N 6) ≤ 0 := nI_nle (by omega) (by omega)
    simp [h6, e]
theorem n_near {Q : Int32 → (Nat → Int32) → (Nat → Nat → Int32) → Prop} (hx : x < 8) (hM : RM a x N) (hB : MB N) (hQ : Q (neN N) f a) : vX11_nearOf (nI x) f a Q := by
  have b6 := hB.lt (w := 6) (by omega)
  have tp : tpN N = 3 ∨ tpN N = 4 := by unfold tpN; split <;> simp
  have key : ∀ d j : Nat, ∀ v : Int32, j + d = tpN N + 1 → v = (if poN N j = true then 1 else 0) → vX11_nearOf_4 Q (d + 1) (nI x) v (nI j) f a := by
    intro d
    induction d with
    | zero =>
      intro j v hj hv
      have hjt : j = tpN N + 1 := by omega
      unfold vX11_nearOf_4
      rw [n_ofl (w := 6) hx (by omega), hM 6 (by omega)]
      have fin : ∀ y0 : Int32, y0 = nI (tpN N + 1) → vX11_nearOf_20 (vX11_nearOf_4 Q 0) Q (nI x) v (nI j) y0 (nI j) f a := by
        intro y0 hy0
        unfold vX11_nearOf_20
        rw [n_margin hx hM hB]
        refine ⟨fun _ => ?_, fun z => absurd (by rw [hy0, hjt, fa_le]; omega) z⟩
        unfold neN at hQ
        rw [hjt] at hv
        by_cases hp : poN N (tpN N + 1) = true
        · rw [if_pos hp] at hv hQ
          subst hv
          refine ⟨fun z => absurd z (by decide), fun _ => ⟨fun h1 => ⟨fun h2 => ?_, fun h2 => ?_⟩, fun h1 => ?_⟩⟩
          · rw [if_pos (by rw [fa_le64] at h1 h2; rw [fa_eq64]; omega)] at hQ
            exact hQ
          · rw [if_neg (fun e => h2 (by rw [e]; decide)), if_neg h2] at hQ
            exact hQ
          · rw [if_neg (fun e => h1 (by rw [e]; decide)), if_pos (by rw [fa_le64] at h1 ⊢; omega)] at hQ
            exact hQ
        · rw [if_neg hp] at hv hQ
          subst hv
          exact ⟨fun _ => hQ, fun z => absurd rfl z⟩
      refine ⟨fun h6 => fin _ ?_, fun h6 => fin _ ?_⟩
      · have : N 6 = 0 := by
          by_cases e : N 6 = 0
          · exact e
          · exact absurd h6 (nI_nle (by omega) (by omega))
        simp [tpN, this]; rfl
      · have : ¬ N 6 = 0 := fun e => h6 (by rw [e]; decide)
        simp [tpN, this]; rfl
    | succ d ih =>
      intro j v hj hv
      unfold vX11_nearOf_4
      rw [n_ofl (w := 6) hx (by omega), hM 6 (by omega)]
      have step : ∀ y0 : Int32, y0 = nI (tpN N + 1) → vX11_nearOf_20 (vX11_nearOf_4 Q (d + 1)) Q (nI x) v (nI j) y0 (nI j) f a := by
        intro y0 hy0
        unfold vX11_nearOf_20
        refine ⟨fun z => absurd z (by rw [hy0]; exact nI_ge (by omega) (by omega)), fun _ => ⟨fun hv0 => ?_, fun hv0 => ?_⟩⟩
        · unfold vX11_nearOf_42 vX11_nearOf_43
          intro x3 hx3
          rw [hx3, nI_1]
          refine ih (j + 1) 0 (by omega) ?_
          have : ¬ poN N j = true := fun e => by rw [hv, if_pos e] at hv0; exact absurd hv0 (by decide)
          simp [poN, this]
        · rw [n_sum hx hM hB (by omega)]
          have hp : poN N j = true := by
            by_cases e : poN N j = true
            · exact e
            · rw [hv, if_neg e] at hv0; exact absurd rfl hv0
          refine ⟨fun h1 => ?_, fun h1 => ?_⟩
          · unfold vX11_nearOf_42 vX11_nearOf_43
            intro x3 hx3
            rw [hx3, nI_1]
            refine ih (j + 1) 0 (by omega) ?_
            have : ¬ 0 < suN N j := by rw [fa_le64] at h1; rw [fa_lt64]; omega
            simp [poN, this]
          · unfold vX11_nearOf_43
            intro x3 hx3
            rw [hx3, nI_1]
            refine ih (j + 1) 1 (by omega) ?_
            have : 0 < suN N j := by rw [fa_le64] at h1; rw [fa_lt64]; omega
            simp [poN, this, hp]
      refine ⟨fun h6 => step _ ?_, fun h6 => step _ ?_⟩
      · have : N 6 = 0 := by
          by_cases e : N 6 = 0
          · exact e
          · exact absurd h6 (nI_nle (by omega) (by omega))
        simp [tpN, this]; rfl
      · have : ¬ N 6 = 0 := fun e => h6 (by rw [e]; decide)
        simp [tpN, this]; rfl
  exact ⟨tpN N + 1 + 1, key (tpN N + 1) 0 1 (by omega) rfl⟩
/-! the class's -/
theorem w_draw {Q : (Nat → Nat → Int32) → (Nat → Int64) → (Nat → Option Nat) → Prop} (hx : x < n) (hC : CM S x N) (hB : MB N) (h : ∀ L' : Nat → Int64, (∀ k, k ≤ 4 → L' k = suN N k) → Q (va_up S 7 (upd (S 7) 1 (nI (tpN N)))) L' R) : vX8_draw K n x S L R Q := by
  have b0 := hB.lt (w := 0) (by omega)
  have b1 := hB.lt (w := 1) (by omega)
  have b2 := hB.lt (w := 2) (by omega)
  have b3 := hB.lt (w := 3) (by omega)
  have b4 := hB.lt (w := 4) (by omega)
  have b5 := hB.lt (w := 5) (by omega)
  have b6 := hB.lt (w := 6) (by omega)
  have v : ∀ j : Nat, j < 9 → vp_in (nI j) 9 := fun j hj => vp_in_nI hj (by omega)
  have u : ∀ j : Nat, j < 5 → vp_in (nI j) 5 := fun j hj => vp_in_nI hj (by omega)
  have d35 : ∀ lo : Nat, (lo = if N 6 = 0 then 0 else 1) → vX8_draw_35 K n Q x (lN (N 0)) (lN (N 1)) (nI lo) S L R := by
    intro lo hlo
    have hl1 : lo ≤ 1 := by rw [hlo]; split <;> omega
    unfold vX8_draw_35
    refine ⟨u 4 (by omega), fun L1 e1 => ⟨hx, v 6 (by omega), u 0 (by omega), fun L2 e2 => ⟨v 4 (by omega), v 5 (by omega), u lo (by omega), fun L3 e3 => ⟨v 4 (by omega), v 3 (by omega), (by rw [show (1 : Int32) = nI 1 from rfl, nI_add]; exact u _ (by omega)), fun L4 e4 => ⟨v 3 (by omega), v 2 (by omega), (by rw [show (2 : Int32) = nI 2 from rfl, nI_add]; exact u _ (by omega)), fun L5 e5 => ⟨v 2 (by omega), (by rw [show (3 : Int32) = nI 3 from rfl, nI_add]; exact u _ (by omega)), fun L6 e6 S1 eS => ?_⟩⟩⟩⟩⟩⟩
    rw [show nI lo + 3 = nI (tpN N) by rw [show (3 : Int32) = nI 3 from rfl, nI_add, hlo]; unfold tpN; split <;> rfl] at eS
    rw [eS]
    refine h L6 (fun k hk => ?_)
    have c : ∀ j : Nat, j < 9 → (nI j).toNatClampNeg = j := fun j hj => nI_clamp (by omega)
    rw [show (3 : Int32) = nI 3 from rfl, show (2 : Int32) = nI 2 from rfl, nI_add, c _ (by omega)] at e6
    rw [show (3 : Int32) = nI 3 from rfl, show (2 : Int32) = nI 2 from rfl, nI_add, c _ (by omega)] at e5
    rw [show (1 : Int32) = nI 1 from rfl, show (3 : Int32) = nI 3 from rfl, show (4 : Int32) = nI 4 from rfl, nI_add, c _ (by omega)] at e4
    rw [c _ (by omega)] at e3
    rw [show (0 : Int32).toNatClampNeg = 0 from rfl] at e2
    rw [show (4 : Int32).toNatClampNeg = 4 from rfl] at e1
    rw [show (nI 2).toNatClampNeg = 2 from rfl, hC 2 (by omega), nI_l (by omega)] at e6
    rw [show (nI 3).toNatClampNeg = 3 from rfl, show (nI 2).toNatClampNeg = 2 from rfl, hC 3 (by omega), hC 2 (by omega), nI_l (by omega), nI_l (by omega)] at e5
    rw [show (nI 4).toNatClampNeg = 4 from rfl, show (nI 3).toNatClampNeg = 3 from rfl, hC 4 (by omega), hC 3 (by omega), nI_l (by omega), nI_l (by omega)] at e4
    rw [show (4 : Int32).toNatClampNeg = 4 from rfl, show (5 : Int32).toNatClampNeg = 5 from rfl, hC 4 (by omega), hC 5 (by omega), nI_l (by omega), nI_l (by omega)] at e3
    rw [show (6 : Int32).toNatClampNeg = 6 from rfl, hC 6 (by omega), nI_l (by omega)] at e2
    rw [e6, e5, e4, e3, e2, e1, hlo]
    by_cases h6 : N 6 = 0
    · rcases (show k = 0 ∨ k = 1 ∨ k = 2 ∨ k = 3 ∨ k = 4 by omega) with rfl | rfl | rfl | rfl | rfl <;> simp [vp_updL, suN, smN, h6]
    · rcases (show k = 0 ∨ k = 1 ∨ k = 2 ∨ k = 3 ∨ k = 4 by omega) with rfl | rfl | rfl | rfl | rfl <;> simp [vp_updL, suN, smN, h6]
  unfold vX8_draw
  refine ⟨hx, v 0 (by omega), fun x2 e2 => ⟨v 1 (by omega), fun x4 e4 => ⟨v 6 (by omega), ?_⟩⟩⟩
  rw [show (0 : Int32).toNatClampNeg = 0 from rfl, hC 0 (by omega), nI_l (by omega)] at e2
  rw [show (1 : Int32).toNatClampNeg = 1 from rfl, hC 1 (by omega), nI_l (by omega)] at e4
  rw [show (6 : Int32).toNatClampNeg = 6 from rfl, hC 6 (by omega), e2, e4]
  unfold vX8_draw_23
  refine ⟨fun h6 => ⟨fun _ => d35 0 ?_, fun z => absurd rfl z⟩, fun h6 => ⟨fun z => absurd z (by decide), fun _ => d35 1 ?_⟩⟩
  · rw [if_pos]
    by_cases e : N 6 = 0
    · exact e
    · exact absurd h6 (nI_ne0 (by omega) (by omega))
  · rw [if_neg]
    intro e
    exact h6 (by rw [e]; rfl)
theorem w_clear {Q : Int64 → (Nat → Nat → Int32) → (Nat → Int64) → (Nat → Option Nat) → Prop} (h7 : S 7 1 = nI (tpN N)) (hL : ∀ k, k ≤ 4 → L k = suN N k) (hQ : Q (mgN N) S L R) : vX8_clearance K n S L R Q := by
  have u : ∀ j : Nat, j < 5 → vp_in (nI j) 5 := fun j hj => vp_in_nI hj (by omega)
  unfold vX8_clearance
  rw [h7, show (0 : Int32).toNatClampNeg = 0 from rfl, show (1 : Int32).toNatClampNeg = 1 from rfl, show (2 : Int32).toNatClampNeg = 2 from rfl, show (3 : Int32).toNatClampNeg = 3 from rfl, show (4 : Int32).toNatClampNeg = 4 from rfl, hL 0 (by omega), hL 1 (by omega), hL 2 (by omega), hL 3 (by omega), hL 4 (by omega)]
  unfold mgN at hQ
  refine ⟨fun h => ⟨u 3 (by omega), u 2 (by omega), u 1 (by omega), u 4 (by omega), u 1 (by omega), u 1 (by omega), u 3 (by omega), u 3 (by omega), u 0 (by omega), ?_⟩, fun h => ⟨u 2 (by omega), u 1 (by omega), u 3 (by omega), u 0 (by omega), ?_⟩⟩
  · rw [if_neg (fun e => absurd h (by simp [tpN, e]; decide))] at hQ
    exact hQ
  · rw [if_pos (by
      by_cases e : N 6 = 0
      · exact e
      · exact absurd (by simp [tpN, e]; decide) h)] at hQ
    exact hQ
theorem w_stand {Q : Int32 → (Nat → Nat → Int32) → (Nat → Int64) → (Nat → Option Nat) → Prop} (h7 : S 7 1 = nI (tpN N)) (hL : ∀ k, k ≤ 4 → L k = suN N k) (hQ : Q (neN N) S L R) : vX8_standing K n S L R Q := by
  have tp : tpN N = 3 ∨ tpN N = 4 := by unfold tpN; split <;> simp
  unfold neN at hQ
  have key : ∀ d j : Nat, j + d = tpN N + 1 → (∀ k, k < j → 0 < suN N k) → vX8_standing_2 K n Q (d + 1) (nI j) S L R := by
    intro d
    induction d with
    | zero =>
      intro j hj hp
      have hjt : j = tpN N + 1 := by omega
      unfold vX8_standing_2
      rw [h7]
      refine ⟨fun _ => w_clear h7 hL ?_, fun z => absurd (nI_lt (by omega) (by omega)) z⟩
      rw [if_pos (poN_all (by rw [← hjt]; exact hp))] at hQ
      refine ⟨fun h1 => ⟨fun h2 => ?_, fun h2 => ?_⟩, fun h1 => ?_⟩
      · rw [if_neg h1, if_pos h2] at hQ; exact hQ
      · rw [if_neg h1, if_neg h2] at hQ; exact hQ
      · rw [if_pos h1] at hQ; exact hQ
    | succ d ih =>
      intro j hj hp
      unfold vX8_standing_2
      rw [h7]
      refine ⟨fun z => absurd z (nI_nlt (by omega) (by omega)), fun _ => ⟨vp_in_nI (by omega) (by omega), ?_⟩⟩
      rw [nI_clamp (by omega), hL j (by omega)]
      refine ⟨fun h1 x1 hx1 => ?_, fun h1 => ?_⟩
      · rw [hx1, nI_1]
        refine ih (j + 1) (by omega) (fun k hk => ?_)
        rcases (show k < j ∨ k = j by omega) with z | rfl
        · exact hp k z
        · exact h1
      · rw [if_neg (by rw [poN_not (j := j) (by omega) h1]; decide)] at hQ
        exact hQ
  exact ⟨tpN N + 1 + 1, key (tpN N + 1) 0 (by omega) (fun k hk => by omega)⟩
theorem w_marginOf {Q : Int64 → (Nat → Nat → Int32) → (Nat → Int64) → (Nat → Option Nat) → Prop} (hx : x < n) (hC : CM S x N) (hB : MB N) (hQ : ∀ S' L', Sc S S' → S' 13 = S 13 → Q (mgN N) S' L' R) : vX10_marginOf K n x S L R Q := by
  unfold vX10_marginOf
  refine ⟨hx, w_draw hx hC hB (fun L' hL => w_clear (by rw [va_up_self, upd_self]) hL (hQ _ _ (Sc.rfl'.up (by omega)) (va_up_ne _ _ (by omega))))⟩
theorem w_standingOf {Q : Int32 → (Nat → Nat → Int32) → (Nat → Int64) → (Nat → Option Nat) → Prop} (hx : x < n) (hC : CM S x N) (hB : MB N) (hQ : ∀ S' L', Sc S S' → S' 13 = S 13 → Q (neN N) S' L' R) : vX10_standingOf K n x S L R Q := by
  unfold vX10_standingOf
  refine ⟨hx, w_draw hx hC hB (fun L' hL => w_stand (by rw [va_up_self, upd_self]) hL (hQ _ _ (Sc.rfl'.up (by omega)) (va_up_ne _ _ (by omega))))⟩
/-! pairs -/
theorem pr_row (I : Inv K n M S R f a) (x1 x2 : Int32) : vX10_row K n x1 x2 S L R (fun r S' _ R' => vX11_row x1 x2 f a (fun r' f' a' => r = r' ∧ Jv K n S' R' f' a')) := by
  obtain ⟨⟨hn, hRO, hS8, hf1⟩, hK, hM, hW, hF, hSh⟩ := id I
  unfold vX10_row
  refine i_mill hn hS8 (fun j hj e => ?_) (fun ho => ?_)
  · subst e
    have hm := hM j hj
    simp only [vX11_row, n_mill hn hf1 hj, z00, z10, not_true_eq_false, not_false_eq_true, false_implies, true_implies, true_and, and_true]
    refine j_w' 0 4 rfl rfl (fun h => ?_) (fun h => ?_)
    · simp only [n_in (l := 0) (g := 4) 0 4 rfl rfl h, z00, z10, not_true_eq_false, not_false_eq_true, false_implies, true_implies, true_and, and_true]
      obtain ⟨w, hw, rfl⟩ := rg_nI (hi := 4) h
      refine ⟨hj, w_draw hj hm.2.1 hm.1 (fun L' hL => ⟨vp_in_nI (by omega) (by omega), ?_⟩)⟩
      rw [n_sum (by omega) hm.2.2 hm.1 hw, nI_clamp (by omega)]
      exact ⟨hL w hw, M, I.go (Sc.rfl'.up (by omega)) hRO Fc.rfl' Ac.rfl'⟩
    · simp only [n_out (l := 0) (g := 4) 0 4 rfl rfl h, z00, z10, not_true_eq_false, not_false_eq_true, false_implies, true_implies, true_and, and_true]
      exact ⟨rfl, M, I⟩
  · simp only [vX11_row, n_mill0 hn hf1 ho, z00, z10, not_true_eq_false, not_false_eq_true, false_implies, true_implies, true_and, and_true]
    exact ⟨rfl, M, I⟩
theorem pr_margin (I : Inv K n M S R f a) (x1 : Int32) : vX10_margin K n x1 S L R (fun r S' _ R' => vX11_margin x1 f a (fun r' f' a' => r = r' ∧ Jv K n S' R' f' a')) := by
  obtain ⟨⟨hn, hRO, hS8, hf1⟩, hK, hM, hW, hF, hSh⟩ := id I
  unfold vX10_margin
  refine i_mill hn hS8 (fun j hj e => ?_) (fun ho => ?_)
  · subst e
    have hm := hM j hj
    refine w_marginOf hj hm.2.1 hm.1 (fun S' L' hs _ => ?_)
    simp only [vX11_margin, n_mill hn hf1 hj, n_margin (by omega) hm.2.2 hm.1, z00, z10, not_true_eq_false, not_false_eq_true, false_implies, true_implies, true_and, and_true]
    exact ⟨M, I.go hs hRO Fc.rfl' Ac.rfl'⟩
  · simp only [vX11_margin, n_mill0 hn hf1 ho, z00, z10, not_true_eq_false, not_false_eq_true, false_implies, true_implies, true_and, and_true]
    exact ⟨rfl, M, I⟩
theorem pr_near (I : Inv K n M S R f a) (x1 : Int32) : vX10_near K n x1 S L R (fun r S' _ R' => vX11_near x1 f a (fun r' f' a' => r = r' ∧ Jv K n S' R' f' a')) := by
  obtain ⟨⟨hn, hRO, hS8, hf1⟩, hK, hM, hW, hF, hSh⟩ := id I
  unfold vX10_near
  refine i_mill hn hS8 (fun j hj e => ?_) (fun ho => ?_)
  · subst e
    have hm := hM j hj
    refine w_standingOf hj hm.2.1 hm.1 (fun S' L' hs _ => ?_)
    simp only [vX11_near, n_mill hn hf1 hj, z00, z10, not_true_eq_false, not_false_eq_true, false_implies, true_implies, true_and, and_true]
    exact n_near (by omega) hm.2.2 hm.1 ⟨rfl, M, I.go hs hRO Fc.rfl' Ac.rfl'⟩
  · simp only [vX11_near, n_mill0 hn hf1 ho, z00, z10, not_true_eq_false, not_false_eq_true, false_implies, true_implies, true_and, and_true]
    exact ⟨M, I⟩
end NR
