/-! pairs: off, share -/
section OF
variable {K : Nat → Nat} {n : Nat} {M : Nat → Nat → Nat} {S : Nat → Nat → Int32} {L : Nat → Int64} {R : Nat → Option Nat} {f : Nat → Int32} {a : Nat → Nat → Int32}
theorem n_lost {Q : Int64 → Prop} : vX11_lost Q = Q (-9223372036854775808 : Int64) := rfl
theorem pr_off (I : Inv K n M S R f a) (x1 x2 x3 : Int32) : vX10_off K n x1 x2 x3 S L R (fun r S' _ R' => vX11_off x1 x2 x3 f a (fun r' f' a' => r = r' ∧ Jv K n S' R' f' a')) := by
  obtain ⟨⟨hn, hRO, hS8, hf1⟩, hK, hM, hW, hF, hSh⟩ := id I
  unfold vX10_off
  refine i_mill hn hS8 (fun j hj e => ?_) (fun ho => ?_)
  · subst e
    have hm := hM j hj
    simp only [vX11_off, n_mill hn hf1 hj, z00, z10, not_true_eq_false, not_false_eq_true, false_implies, true_implies, true_and, and_true]
    refine j_w (-99) 99 rfl rfl (fun h => ?_) (fun h => ?_)
    · simp only [n_in (l := (-99)) (g := 99) (-99) 99 rfl rfl h, z00, z10, not_true_eq_false, not_false_eq_true, false_implies, true_implies, true_and, and_true]
      refine j_w' 0 1 rfl rfl (fun h2 => ?_) (fun h2 => ?_)
      · simp only [n_in (l := 0) (g := 1) 0 1 rfl rfl h2, n_ofl (x := j) (w := 6) (show j < 8 by omega) (by omega), n_ofl (x := j) (w := 4) (show j < 8 by omega) (by omega), hm.2.2 6 (by omega), hm.2.2 4 (by omega), z00, z10, not_true_eq_false, not_false_eq_true, false_implies, true_implies, true_and, and_true]
        have b1 := hm.1.lt (w := 1) (by omega)
        have b4 := hm.1.lt (w := 4) (by omega)
        have b5 := hm.1.lt (w := 5) (by omega)
        have b6 := hm.1.lt (w := 6) (by omega)
        have l5 := (hm.1 5 (by omega)).1
        have l5' : 1 ≤ M j 5 := l5
        have v : ∀ i : Nat, i < 9 → vp_in (nI i) 9 := fun i hi => vp_in_nI hi (by omega)
        rw [show (6 : Int32).toNatClampNeg = 6 from rfl, show (4 : Int32).toNatClampNeg = 4 from rfl, hm.2.1 6 (by omega), hm.2.1 4 (by omega)]
        simp only [nI_l (show M j 4 < 2 ^ 31 by omega)]
        have hmul : M j 1 * M j 4 ≤ 99 * 99 := Nat.mul_le_mul b1 b4
        have key : ∀ (u u' : Int64) (p : Nat), p < 2 ^ 31 → (u = lN p ∨ u = - lN p) → u' = u → vX10_off_64 K n (fun r S' _ R' => vX11_off_61 (fun r' f' a' => r = r' ∧ Jv K n S' R' f' a') (nI j) x3 u' f a) x3 j u S L R := by
          intro u u' p hp hu hu'
          subst hu'
          unfold vX10_off_64
          refine ⟨hj, v 1 (by omega), v 4 (by omega), v 5 (by omega), fun y hy => ?_⟩
          rw [show (1 : Int32).toNatClampNeg = 1 from rfl, show (4 : Int32).toNatClampNeg = 4 from rfl, show (5 : Int32).toNatClampNeg = 5 from rfl, hm.2.1 1 (by omega), hm.2.1 4 (by omega), hm.2.1 5 (by omega), nI_l (by omega), nI_l (by omega), nI_l (by omega), lN_mul, lN_add] at hy
          subst hy
          have fin : ∀ r : Int64, (¬ x3 = 0 → r = lN (M j 1 * M j 4 + M j 5) / lN (Nat.gcd p (M j 1 * M j 4 + M j 5))) → (x3 = 0 → r = u' / lN (Nat.gcd p (M j 1 * M j 4 + M j 5))) → vX11_off_61 (fun r' f' a' => r = r' ∧ Jv K n S R f' a') (nI j) x3 u' f a := by
            intro r h1 h0
            unfold vX11_off_61
            rw [n_ofl (w := 1) (by omega) (by omega), n_ofl (w := 4) (by omega) (by omega), n_ofl (w := 5) (by omega) (by omega), hm.2.2 1 (by omega), hm.2.2 4 (by omega), hm.2.2 5 (by omega), nI_mul, nI_add, nI_l (by omega)]
            exact n_lt hp (by omega) (by omega) hu (fun e => ⟨h1 e, M, I⟩) (fun e => ⟨h0 e, M, I⟩)
          refine w_lt hp (by omega) (by omega) hu (fun e => ?_) (fun e => ?_)
          · exact fin _ (fun _ => rfl) (fun z => absurd z e)
          · exact fin _ (fun z => absurd e z) (fun _ => rfl)
        refine ⟨hj, v 6 (by omega), fun h6 => ?_, fun h6 => ⟨v 4 (by omega), ?_⟩⟩
        · have e : ¬ nI (M j 6) ≤ 0 := nI_nle (by
            rcases Nat.eq_zero_or_pos (M j 6) with z | z
            · exact absurd (by rw [z]; rfl) h6
            · exact z) (by omega)
          have := key 0 0 0 (by omega) (Or.inl rfl) rfl
          simpa [e] using this
        · have e : nI (M j 6) ≤ 0 := by rw [h6]; decide
          have h64 : (-x2).toInt64 = -x2.toInt64 := by
            apply Int64.toInt_inj.mp
            rw [Int32.toInt_toInt64, Int32.toInt_neg, Int64.toInt_neg, Int32.toInt_toInt64, Int.bmod_eq_of_le (by omega) (by omega), Int.bmod_eq_of_le (by omega) (by omega)]
          have ht : x2.toInt64 = lN x2.toInt.natAbs ∨ x2.toInt64 = - lN x2.toInt.natAbs := by
            rcases Int.natAbs_eq x2.toInt with z | z
            · left
              apply Int64.toInt_inj.mp
              rw [Int32.toInt_toInt64, lN_toInt (by omega)]
              omega
            · right
              apply Int64.toInt_inj.mp
              rw [Int32.toInt_toInt64, Int64.toInt_neg, lN_toInt (by omega), Int.bmod_eq_of_le (by omega) (by omega)]
              omega
          have hmm : x2.toInt.natAbs * M j 4 ≤ 99 * 99 := Nat.mul_le_mul (by omega) b4
          have hu : (-x2.toInt64) * lN (M j 4) = lN (x2.toInt.natAbs * M j 4) ∨ (-x2.toInt64) * lN (M j 4) = - lN (x2.toInt.natAbs * M j 4) := by
            rcases ht with z | z
            · right; rw [z, Int64.neg_mul, lN_mul]
            · left; rw [z, Int64.neg_neg, lN_mul]
          have := key _ ((-x2).toInt64 * lN (M j 4)) _ (by omega) hu (by rw [h64])
          simpa [e] using this
      · simp only [n_out (l := 0) (g := 1) 0 1 rfl rfl h2, z00, z10, not_true_eq_false, not_false_eq_true, false_implies, true_implies, true_and, and_true]
        exact ⟨rfl, M, I⟩
    · simp only [n_out (l := (-99)) (g := 99) (-99) 99 rfl rfl h, z00, z10, not_true_eq_false, not_false_eq_true, false_implies, true_implies, true_and, and_true]
      exact ⟨rfl, M, I⟩
  · simp only [vX11_off, n_mill0 hn hf1 ho, z00, z10, not_true_eq_false, not_false_eq_true, false_implies, true_implies, true_and, and_true]
    exact ⟨rfl, M, I⟩
theorem i_mill2 {x y : Int32} {A : (Nat → Nat → Int32) → (Nat → Int64) → (Nat → Option Nat) → Prop} {C : Nat → (Nat → Nat → Int32) → (Nat → Int64) → (Nat → Option Nat) → Prop} {B : Nat → Nat → (Nat → Nat → Int32) → (Nat → Int64) → (Nat → Option Nat) → Prop} (hn : n ≤ 8) (hS : S 0 8 = nI n) (h2 : ∀ i j, i < n → j < n → x = nI i → y = nI j → B i j S L R) (h1 : ∀ i, i < n → x = nI i → ¬ (0 ≤ y.toInt ∧ y.toInt < n) → C i S L R) (h0 : ¬ (0 ≤ x.toInt ∧ x.toInt < n) → A S L R) :
    vX10_millOf K n x S L R (fun o1 S2 L3 R4 => vX10_millOf K n y S2 L3 R4 (fun o5 S6 L7 R8 => (o1 = none → A S6 L7 R8) ∧ (∀ mi9 : Nat, o1 = some mi9 → (o5 = none → C mi9 S6 L7 R8) ∧ (∀ mi10 : Nat, o5 = some mi10 → B mi9 mi10 S6 L7 R8)))) := by
  refine i_millOf hn hS (fun i hi ei => ?_) (fun ho => ?_)
  · refine i_millOf hn hS (fun j hj ej => ?_) (fun ho => ?_)
    · refine ⟨fun z => (by cases z), fun m hm => ?_⟩
      cases hm
      refine ⟨fun z => (by cases z), fun m hm => ?_⟩
      cases hm
      exact h2 i j hi hj ei ej
    · refine ⟨fun z => (by cases z), fun m hm => ?_⟩
      cases hm
      exact ⟨fun _ => h1 i hi ei ho, fun m hm => (by cases hm)⟩
  · refine i_millOf hn hS (fun j hj ej => ?_) (fun ho2 => ?_)
    · exact ⟨fun _ => h0 ho, fun m hm => (by cases hm)⟩
    · exact ⟨fun _ => h0 ho, fun m hm => (by cases hm)⟩
theorem w_rest {j : Nat} {N : Nat → Nat} {Q : Int32 → (Nat → Nat → Int32) → (Nat → Int64) → (Nat → Option Nat) → Prop} (hC : CM S j N) (hB : MB N) (h1 : ¬ N 4 = 0 → N 6 = 0 → Q 1 S L R) (h0 : (N 4 = 0 ∨ ¬ N 6 = 0) → Q 0 S L R) : vX4_hasRestOfItsOwn K n j S L R Q := by
  have b4 := hB.lt (w := 4) (by omega)
  have b6 := hB.lt (w := 6) (by omega)
  unfold vX4_hasRestOfItsOwn
  rw [show (6 : Int32).toNatClampNeg = 6 from rfl, show (4 : Int32).toNatClampNeg = 4 from rfl, hC 6 (by omega), hC 4 (by omega)]
  have z4 : nI (N 4) = 0 ↔ N 4 = 0 := nI_eq (b := 0) (by omega) (by omega)
  have z6 : nI (N 6) = 0 ↔ N 6 = 0 := nI_eq (b := 0) (by omega) (by omega)
  rw [z4, z6]
  exact ⟨vp_in_nI (n := 4) (by omega) (by omega), fun h => h0 (Or.inl h), fun h => ⟨vp_in_nI (n := 6) (by omega) (by omega), fun h2 => h0 (Or.inr h2), fun h2 => h1 h h2⟩⟩
theorem pr_share (I : Inv K n M S R f a) (x1 x2 x3 : Int32) : vX10_share K n x1 x2 x3 S L R (fun r S' _ R' => vX11_share x1 x2 x3 f a (fun r' f' a' => r = r' ∧ Jv K n S' R' f' a')) := by
  obtain ⟨⟨hn, hRO, hS8, hf1⟩, hK, hM, hW, hF, hSh⟩ := id I
  unfold vX10_share
  refine i_mill2 hn hS8 (fun i j hi hj ei ej => ?_) (fun i hi ei ho => ?_) (fun ho => ?_)
  · subst ei ej
    have mi := hM i hi
    have mj := hM j hj
    simp only [vX11_share, n_mill hn hf1 hi, z00, z10, not_true_eq_false, not_false_eq_true, false_implies, true_implies, true_and, and_true]
    refine ⟨fun e => ?_, fun hne => ?_⟩
    · simp only [n_mill hn hf1 hj, z00, z10, not_true_eq_false, not_false_eq_true, false_implies, true_implies, true_and, and_true]
      refine i_n 0 1 rfl rfl (fun h => ?_) (fun h => ?_)
      · simp only [z00, z10, not_true_eq_false, not_false_eq_true, false_implies, true_implies, true_and, and_true]
        exact ⟨fun z => absurd e z, fun _ => ⟨rfl, M, I⟩⟩
      · simp only [z00, z10, not_true_eq_false, not_false_eq_true, false_implies, true_implies, true_and, and_true]
        exact ⟨rfl, M, I⟩
    · simp only [n_mill hn hf1 hj, z00, z10, not_true_eq_false, not_false_eq_true, false_implies, true_implies, true_and, and_true]
      refine j_w' 0 1 rfl rfl (fun h => ?_) (fun h => ?_)
      · simp only [n_in (l := 0) (g := 1) 0 1 rfl rfl h, z00, z10, not_true_eq_false, not_false_eq_true, false_implies, true_implies, true_and, and_true]
        have i4 := mi.1.lt (w := 4) (by omega)
        have i5 := mi.1.lt (w := 5) (by omega)
        have i6 := mi.1.lt (w := 6) (by omega)
        have j4 := mj.1.lt (w := 4) (by omega)
        have j5 := mj.1.lt (w := 5) (by omega)
        have j6 := mj.1.lt (w := 6) (by omega)
        have li5 : 1 ≤ M i 5 := (mi.1 5 (by omega)).1
        have lj5 : 1 ≤ M j 5 := (mj.1 5 (by omega)).1
        have zi4 : nI (M i 4) = 0 ↔ M i 4 = 0 := nI_eq (b := 0) (by omega) (by omega)
        have zj4 : nI (M j 4) = 0 ↔ M j 4 = 0 := nI_eq (b := 0) (by omega) (by omega)
        have zi6 : (0 : Int32) < nI (M i 6) ↔ ¬ M i 6 = 0 := (nI_ltI (a := 0) (by omega) (by omega)).trans (by omega)
        have zj6 : nI (M j 6) ≤ (0 : Int32) ↔ M j 6 = 0 := (nI_leI (b := 0) (by omega) (by omega)).trans (by omega)
        have v : ∀ i : Nat, i < 9 → vp_in (nI i) 9 := fun i hi => vp_in_nI hi (by omega)
        simp only [n_ofl (x := i) (w := 4) (show i < 8 by omega) (by omega), n_ofl (x := j) (w := 4) (show j < 8 by omega) (by omega), n_ofl (x := i) (w := 6) (show i < 8 by omega) (by omega), n_ofl (x := j) (w := 6) (show j < 8 by omega) (by omega), n_ofl (x := i) (w := 5) (show i < 8 by omega) (by omega), n_ofl (x := j) (w := 5) (show j < 8 by omega) (by omega), mi.2.2 4 (by omega), mi.2.2 5 (by omega), mi.2.2 6 (by omega), mj.2.2 4 (by omega), mj.2.2 5 (by omega), mj.2.2 6 (by omega), zi4, zj4, zi6, zj6, forall_eq, nI_mul]
        have Lo : ∀ S' R', S' = S → R' = R → vX11_share_73 (fun r' f' a' => (-9223372036854775808 : Int64) = r' ∧ Jv K n S' R' f' a') f a := fun S' R' e1 e2 => by subst e1 e2; exact ⟨rfl, M, I⟩
        refine ⟨hi, w_rest mi.2.1 mi.1 (fun a4 a6 => ?_) (fun hor => ?_)⟩
        · refine ⟨fun z => absurd z (by decide), fun _ => ⟨hj, w_rest mj.2.1 mj.1 (fun c4 c6 => ?_) (fun hor => ?_)⟩⟩
          · refine ⟨fun _ => ⟨v 5 (by omega), v 4 (by omega), v 5 (by omega), v 4 (by omega), ?_⟩, fun z => absurd z (by decide)⟩
            have m1 : M i 5 * M j 4 ≤ 99 * 99 := Nat.mul_le_mul i5 j4
            have m2 : M j 5 * M i 4 ≤ 99 * 99 := Nat.mul_le_mul j5 i4
            have m1p : 0 < M i 5 * M j 4 := Nat.mul_pos (by omega) (by omega)
            simp only [show (5 : Int32).toNatClampNeg = 5 from rfl, show (4 : Int32).toNatClampNeg = 4 from rfl, mi.2.1 5 (by omega), mj.2.1 4 (by omega), mj.2.1 5 (by omega), mi.2.1 4 (by omega), nI_l (show M i 5 < 2 ^ 31 by omega), nI_l (show M i 4 < 2 ^ 31 by omega), nI_l (show M j 5 < 2 ^ 31 by omega), nI_l (show M j 4 < 2 ^ 31 by omega), lN_mul, lN_add]
            have fin : ∀ r : Int64, (¬ x3 = 0 → r = lN (M i 5 * M j 4 + M j 5 * M i 4) / lN (Nat.gcd (M i 5 * M j 4) (M i 5 * M j 4 + M j 5 * M i 4))) → (x3 = 0 → r = lN (M i 5 * M j 4) / lN (Nat.gcd (M i 5 * M j 4) (M i 5 * M j 4 + M j 5 * M i 4))) → vX11_reduced (lN (M i 5 * M j 4)) (lN (M i 5 * M j 4 + M j 5 * M i 4)) x3 (fun r43 => r = r43 ∧ Jv K n S R f a) := by
              intro r h1 h0
              exact n_lt (by omega) (by omega) (by omega) (Or.inl rfl) (fun e => ⟨h1 e, M, I⟩) (fun e => ⟨h0 e, M, I⟩)
            have eq1 : (nI (M i 5 * M j 4)).toInt64 = lN (M i 5 * M j 4) := nI_l (by omega)
            have eq2 : (nI (M j 5 * M i 4)).toInt64 = lN (M j 5 * M i 4) := nI_l (by omega)
            simp only [eq1, eq2, lN_add]
            refine w_lt (by omega) (by omega) (by omega) (Or.inl rfl) (fun e => ?_) (fun e => ?_)
            · have := fin _ (fun _ => rfl) (fun z => absurd z e)
              simpa [a4, a6, c4, c6, hne] using this
            · have := fin _ (fun z => absurd e z) (fun _ => rfl)
              simpa [a4, a6, c4, c6, hne] using this
          · refine ⟨fun z => absurd rfl z, fun _ => ?_⟩
            have := Lo S R rfl rfl
            rcases hor with z | z
            · simpa [a4, a6, z, hne] using this
            · refine ⟨fun _ => ⟨fun _ => this, fun _ => ⟨fun _ => this, fun _ => ⟨fun _ => this, fun _ => ⟨fun q => absurd q z, fun _ => this⟩⟩⟩⟩, fun q => absurd q hne⟩
        · refine ⟨fun _ => ?_, fun z => absurd rfl z⟩
          have := Lo S R rfl rfl
          rcases hor with z | z
          · exact ⟨fun _ => ⟨fun _ => this, fun q => absurd z q⟩, fun q => absurd q hne⟩
          · exact ⟨fun _ => ⟨fun _ => this, fun _ => ⟨fun _ => this, fun _ => ⟨fun _ => this, fun q => absurd z q⟩⟩⟩, fun q => absurd q hne⟩
      · simp only [n_out (l := 0) (g := 1) 0 1 rfl rfl h, z00, z10, not_true_eq_false, not_false_eq_true, false_implies, true_implies, true_and, and_true]
        exact ⟨rfl, M, I⟩
  · subst ei
    simp only [vX11_share, n_mill hn hf1 hi, z00, z10, not_true_eq_false, not_false_eq_true, false_implies, true_implies, true_and, and_true]
    simp only [n_mill0 hn hf1 ho, z00, z10, not_true_eq_false, not_false_eq_true, false_implies, true_implies, true_and, and_true]
    exact ⟨rfl, M, I⟩
  · simp only [vX11_share, n_mill0 hn hf1 ho, z00, z10, not_true_eq_false, not_false_eq_true, false_implies, true_implies, true_and, and_true]
    exact ⟨rfl, M, I⟩
end OF
