/-! years; shares in least terms: off, share -/
def yN (N : Nat → Nat) (w : Nat) (c : Int32) (y : Nat) : Nat := (bnd (nI (N w) + c * nI y) (nI (loN w)) (nI (hiN w))).toNatClampNeg
theorem yN_of (N : Nat → Nat) (w : Nat) (c : Int32) (y : Nat) : bnd (nI (N w) + c * nI y) (nI (loN w)) (nI (hiN w)) = nI (yN N w c y) ∧ loN w ≤ yN N w c y ∧ yN N w c y ≤ hiN w := by
  have hlh := lohi w
  unfold yN
  generalize nI (N w) + c * nI y = z
  unfold bnd
  by_cases h1 : nI (loN w) ≤ z
  · rw [if_pos h1]
    by_cases h2 : z ≤ nI (hiN w)
    · rw [if_pos h2]
      rw [fa_le, nI_toInt (by omega)] at h1 h2
      obtain ⟨j, hj, rfl⟩ := rg_nI (x := z) (hi := hiN w) (by omega)
      rw [nI_toInt (by omega)] at h1
      rw [nI_clamp (by omega)]
      exact ⟨rfl, by omega, hj⟩
    · rw [if_neg h2, nI_clamp (by omega)]
      exact ⟨rfl, by omega, Nat.le_refl _⟩
  · rw [if_neg h1, nI_clamp (by omega)]
    exact ⟨rfl, Nat.le_refl _, by omega⟩
def yF (N : Nat → Nat) (w : Nat) (c : Int32) : Nat → Nat → Int32
  | 0, _ => -9
  | d + 1, y => if neN (va_up N w (yN N w c y)) = 2 then yF N w c d (y + 1) else nI y
section YR
variable {K : Nat → Nat} {n : Nat} {M : Nat → Nat → Nat} {S : Nat → Nat → Int32} {L : Nat → Int64} {R : Nat → Option Nat} {f : Nat → Int32} {a : Nat → Nat → Int32}
variable {N : Nat → Nat} {x : Nat}
theorem w_years54 {w : Nat} {c : Int32} {Q : Int32 → (Nat → Nat → Int32) → (Nat → Int64) → (Nat → Option Nat) → Prop} (hx : x < n) (hw : w < 9) (hC : CM S x N) (hB : MB N) :
    ∀ d y : Nat, ∀ (S1 : Nat → Nat → Int32) (L1 : Nat → Int64), y + d = 61 → ScX S S1 x w → (∀ S' L', Sc S S' → Q (yF N w c d y) S' L' R) → vX10_years_54 K n Q (d + 2) (nI w) c x (nI (N w)) (-9) (nI y) S1 L1 R := by
  have hlh := lohi w
  have v9 : vp_in (nI w) 9 := vp_in_nI (by omega) (by omega)
  have cw := hC w hw
  intro d
  induction d with
  | zero =>
    intro y S1 L1 hk hs hQ
    unfold vX10_years_54
    refine ⟨fun _ => ?_, fun z => absurd (nI_lt (a := 60) (by omega) (by omega)) z⟩
    unfold vX10_years_115
    rw [nI_clamp (by omega)]
    exact ⟨hx, v9, fun S2 h2 => hQ S2 L1 (by rw [h2]; exact hs.back cw.symm)⟩
  | succ d ih =>
    intro y S1 L1 hk hs hQ
    unfold vX10_years_54
    refine ⟨fun z => absurd z (nI_nlt (a := 60) (b := y) (by omega) (by omega)), fun _ => ⟨fun z => absurd rfl z, fun _ => ⟨hx, v9, v9, ?_⟩⟩⟩
    obtain ⟨e1, e2, e3⟩ := yN_of N w c y
    rw [w_bounded, nI_clamp (by omega), least_nI hw, greatest_nI hw, e1]
    refine ⟨v9, fun S2 h2 => ?_⟩
    subst h2
    refine w_standingOf hx (hs.cm hC) (hB.put e2 e3) (fun S3 L3 h3 _ => ?_)
    have hs3 := (hs.set (v := nI (yN N w c y))).sc h3
    unfold vX10_years_109
    unfold yF at hQ
    refine ⟨fun h z hz => ?_, fun h z hz => ?_⟩
    · rw [hz, nI_1]
      rw [if_pos h] at hQ
      exact ih (y + 1) S3 L3 (by omega) hs3 hQ
    · rw [hz, nI_1]
      rw [if_neg h] at hQ
      unfold vX10_years_54 vX10_years_115
      rw [nI_clamp (by omega)]
      have ex : x < n ∧ vp_in (nI w) 9 ∧ ∀ S16 : Nat → Nat → Int32, S16 = va_up S3 (30 + 2 * x) (upd (S3 (30 + 2 * x)) w (nI (N w))) → Q (nI y) S16 L3 R := ⟨hx, v9, fun S2 h2 => hQ S2 L3 (by rw [h2]; exact hs3.back cw.symm)⟩
      refine ⟨fun _ => ex, fun _ => ⟨fun _ => ex, fun e => ?_⟩⟩
      have : (nI y).toInt = -9 := by rw [e]; decide
      rw [nI_toInt (by omega)] at this
      omega
theorem n_years54 {w : Nat} {c : Int32} {Q : Int32 → (Nat → Int32) → (Nat → Nat → Int32) → Prop} (hx : x < 8) (hw : w < 9) (hC : RM a x N) (hB : MB N) :
    ∀ d y : Nat, ∀ a1 : Nat → Nat → Int32, y + d = 61 → AcX a a1 x w → (∀ a', Ac a a' → Q (yF N w c d y) f a') → vX11_years_54 Q (d + 2) (nI x) (nI w) c (nI (N w)) (-9) (nI y) f a1 := by
  have hlh := lohi w
  have v72 : vp_in (nI (9 * x + w)) 72 := vp_in_nI (by omega) (by omega)
  have cw := hC w hw
  intro d
  induction d with
  | zero =>
    intro y a1 hk hs hQ
    unfold vX11_years_54
    refine ⟨fun _ => ?_, fun z => absurd (nI_le (a := 61) (by omega) (by omega)) z⟩
    unfold vX11_years_119
    rw [ix9, nI_clamp (by omega)]
    exact ⟨v72, fun a2 h2 => hQ a2 (by rw [h2]; exact hs.back cw.symm)⟩
  | succ d ih =>
    intro y a1 hk hs hQ
    unfold vX11_years_54
    refine ⟨fun z => absurd z (nI_ge (b := 61) (a := y) (by omega) (by omega)), fun _ => ⟨fun z => absurd z (by decide), fun _ => ?_⟩⟩
    obtain ⟨e1, e2, e3⟩ := yN_of N w c y
    rw [n_least hw, n_greatest hw, w_held, e1, ix9, nI_clamp (by omega)]
    refine ⟨v72, fun a2 h2 => ?_⟩
    subst h2
    have hs3 := hs.set (v := nI (yN N w c y))
    refine n_near hx (hs.rm hC) (hB.put e2 e3) ?_
    unfold vX11_years_111
    unfold yF at hQ
    refine ⟨fun h z hz => ?_, fun h z hz => ?_⟩
    · rw [hz, nI_1]
      rw [if_neg h] at hQ
      unfold vX11_years_54 vX11_years_119
      rw [ix9, nI_clamp (by omega)]
      have ex : vp_in (nI (9 * x + w)) 72 ∧ ∀ a14 : Nat → Nat → Int32, a14 = va_up (va_up a1 2 (upd (a1 2) (9 * x + w) (nI (yN N w c y)))) 2 (upd (va_up a1 2 (upd (a1 2) (9 * x + w) (nI (yN N w c y))) 2) (9 * x + w) (nI (N w))) → Q (nI y) f a14 := ⟨v72, fun S2 h2 => hQ S2 (by rw [h2]; exact hs3.back cw.symm)⟩
      exact ⟨fun _ => ex, fun _ => ⟨fun _ => ex, fun e => absurd (nI_pos' (by omega)) e⟩⟩
    · rw [hz, nI_1]
      rw [if_pos h] at hQ
      exact ih (y + 1) _ (by omega) hs3 hQ
theorem pr_years (I : Inv K n M S R f a) (x1 x2 x3 : Int32) : vX10_years K n x1 x2 x3 S L R (fun r S' _ R' => vX11_years x1 x2 x3 f a (fun r' f' a' => r = r' ∧ Jv K n S' R' f' a')) := by
  obtain ⟨⟨hn, hRO, hS8, hf1⟩, hK, hM, hW, hF, hSh⟩ := id I
  unfold vX10_years
  refine i_mill hn hS8 (fun j hj e => ?_) (fun ho => ?_)
  · subst e
    have hm := hM j hj
    simp only [vX11_years, n_mill hn hf1 hj, z00, z10, not_true_eq_false, not_false_eq_true, false_implies, true_implies, true_and, and_true]
    refine j_w' 0 6 rfl rfl (fun h => ?_) (fun h => ?_)
    · simp only [n_in (l := 0) (g := 6) 0 6 rfl rfl h, z00, z10, not_true_eq_false, not_false_eq_true, false_implies, true_implies, true_and, and_true]
      obtain ⟨w, hw, rfl⟩ := rg_nI (hi := 6) h
      have c5 := hm.2.1 w (by omega)
      have r5 := hm.2.2 w (by omega)
      refine j_w' (-9) 9 rfl rfl (fun h2 => ?_) (fun h2 => ?_)
      · simp only [n_in (l := (-9)) (g := 9) (-9) 9 rfl rfl h2, n_of (x := j) (w := w) (show j < 8 by omega) (show w < 9 by omega), nI_clamp (show w < 2 ^ 31 by omega), c5, r5, z00, z10, not_true_eq_false, not_false_eq_true, false_implies, true_implies, true_and, and_true]
        refine ⟨hj, vp_in_nI (by omega) (by omega), fun y hy => ?_⟩
        subst hy
        refine ⟨62, w_years54 (N := M j) hj (by omega) hm.2.1 hm.1 60 1 S L (by omega) ScX.rfl' (fun S' L' h' => ?_)⟩
        refine ⟨62, n_years54 (N := M j) (by omega) (by omega) hm.2.2 hm.1 60 1 a (by omega) AcX.rfl' (fun a' ha' => ?_)⟩
        exact ⟨rfl, M, I.go h' hRO Fc.rfl' ha'⟩
      · simp only [n_out (l := (-9)) (g := 9) (-9) 9 rfl rfl h2, z00, z10, not_true_eq_false, not_false_eq_true, false_implies, true_implies, true_and, and_true]
        exact ⟨M, I⟩
    · simp only [n_out (l := 0) (g := 6) 0 6 rfl rfl h, z00, z10, not_true_eq_false, not_false_eq_true, false_implies, true_implies, true_and, and_true]
      exact ⟨M, I⟩
  · simp only [vX11_years, n_mill0 hn hf1 ho, z00, z10, not_true_eq_false, not_false_eq_true, false_implies, true_implies, true_and, and_true]
    exact ⟨M, I⟩
end YR
/-! the greatest common measure -/
theorem lN_rem {p q : Nat} (hp : p < 2 ^ 31) (hq0 : 0 < q) (hq : q < 2 ^ 31) : lN p - lN p / lN q * lN q = lN (p % q) := by
  have e1 : lN p / lN q = lN (p / q) := by
    apply Int64.toInt_inj.mp
    have hd : p / q ≤ p := Nat.div_le_self p q
    rw [Int64.toInt_div_of_ne_left _ _ (by intro h; have := congrArg Int64.toInt h; rw [lN_toInt hp] at this; have h2 : (Int64.minValue).toInt = -2 ^ 63 := rfl; omega), lN_toInt hp, lN_toInt hq, lN_toInt (by omega)]
    rfl
  have hm : p / q * q ≤ p := Nat.div_mul_le_self p q
  rw [e1, lN_mul, lN_sub hm]
  congr 1
  have := Nat.div_add_mod p q
  rw [Nat.mul_comm] at this
  omega
theorem lN_ne {q : Nat} (h : 0 < q) (hq : q < 2 ^ 31) : ¬ lN q = 0 := by
  intro e
  have := (lN_eq (b := 0) hq (by omega)).mp e
  omega
theorem w_gc {Q : Int64 → Prop} : ∀ (k p q j : Nat), p < 2 ^ 31 → q < 2 ^ 31 → q < 2 ^ k → j + 2 * k + 1 ≤ 128 → Q (lN (Nat.gcd p q)) → ∃ fu, vX10_greatestCommon_3 Q fu (lN p) (lN q) (nI j) := by
  intro k
  induction k with
  | zero =>
    intro p q j hp hq hk hj hQ
    obtain rfl : q = 0 := by omega
    refine ⟨1, ?_⟩
    unfold vX10_greatestCommon_3
    rw [Nat.gcd_zero_right] at hQ
    exact ⟨fun _ => hQ, fun _ => ⟨fun _ => hQ, fun z => absurd rfl z⟩⟩
  | succ k ih =>
    intro p q j hp hq hk hj hQ
    by_cases h0 : q = 0
    · subst h0
      refine ⟨1, ?_⟩
      unfold vX10_greatestCommon_3
      rw [Nat.gcd_zero_right] at hQ
      exact ⟨fun _ => hQ, fun _ => ⟨fun _ => hQ, fun z => absurd rfl z⟩⟩
    · have hq0 : 0 < q := by omega
      have hr : p % q < q := Nat.mod_lt _ hq0
      by_cases h1 : p % q = 0
      · refine ⟨2, ?_⟩
        unfold vX10_greatestCommon_3
        refine ⟨fun z => absurd z (nI_ge (b := 128) (by omega) (by omega)), fun _ => ⟨fun z => absurd z (lN_ne hq0 hq), fun _ => ⟨lN_ne hq0 hq, fun r hr2 y hy => ?_⟩⟩⟩
        rw [lN_rem hp hq0 hq, h1] at hr2
        rw [hr2]
        unfold vX10_greatestCommon_3
        have e : Nat.gcd p q = q := by rw [Nat.gcd_comm]; exact Nat.gcd_eq_left (Nat.dvd_of_mod_eq_zero h1)
        rw [e] at hQ
        exact ⟨fun _ => hQ, fun _ => ⟨fun _ => hQ, fun z => absurd rfl z⟩⟩
      · have hr0 : 0 < p % q := by omega
        have hr3 : q % (p % q) < p % q := Nat.mod_lt _ hr0
        have hhalf : q % (p % q) < 2 ^ k := by
          have hle : q % (p % q) + (p % q) ≤ q := by
            have h2 := Nat.div_add_mod q (p % q)
            have h3 : 1 ≤ q / (p % q) := (Nat.one_le_div_iff hr0).mpr (by omega)
            have h4 : (p % q) * 1 ≤ (p % q) * (q / (p % q)) := Nat.mul_le_mul_left _ h3
            omega
          rw [Nat.pow_succ] at hk
          omega
        have hg : Nat.gcd (p % q) (q % (p % q)) = Nat.gcd p q := by
          rw [Nat.gcd_comm (p % q), ← Nat.gcd_rec, ← Nat.gcd_rec, Nat.gcd_comm]
        obtain ⟨fu, hfu⟩ := ih (p % q) (q % (p % q)) (j + 1 + 1) (by omega) (by omega) hhalf (by omega) (by rw [hg]; exact hQ)
        refine ⟨fu + 1 + 1, ?_⟩
        unfold vX10_greatestCommon_3
        refine ⟨fun z => absurd z (nI_ge (b := 128) (by omega) (by omega)), fun _ => ⟨fun z => absurd z (lN_ne hq0 hq), fun _ => ⟨lN_ne hq0 hq, fun r hr2 y hy => ?_⟩⟩⟩
        rw [lN_rem hp hq0 hq] at hr2
        rw [hr2, hy, nI_1]
        unfold vX10_greatestCommon_3
        refine ⟨fun z => absurd z (nI_ge (b := 128) (by omega) (by omega)), fun _ => ⟨fun z => absurd z (lN_ne hr0 (by omega)), fun _ => ⟨lN_ne hr0 (by omega), fun r hr2 y hy => ?_⟩⟩⟩
        rw [lN_rem hq hr0 (by omega)] at hr2
        rw [hr2, hy, nI_1]
        exact hfu
theorem n_gc {Q : Int64 → Prop} {u d : Int64} {c : Int32} : ∀ (m p q : Nat), q ≤ m → p < 2 ^ 31 → q < 2 ^ 31 → 0 < p + q → (¬ c = 0 → Q (d / lN (Nat.gcd p q))) → (c = 0 → Q (u / lN (Nat.gcd p q))) → ∃ fu, vX11_reduced_17 Q fu u d c (lN p) (lN q) := by
  intro m
  induction m with
  | zero =>
    intro p q hqm hp hq hpq h1 h0
    obtain rfl : q = 0 := by omega
    refine ⟨1, ?_⟩
    unfold vX11_reduced_17
    rw [Nat.gcd_zero_right] at h1 h0
    exact ⟨fun _ => ⟨fun e => ⟨lN_ne (by omega) hp, h1 e⟩, fun e => ⟨lN_ne (by omega) hp, h0 e⟩⟩, fun z => absurd rfl z⟩
  | succ m ih =>
    intro p q hqm hp hq hpq h1 h0
    by_cases hz : q = 0
    · subst hz
      refine ⟨1, ?_⟩
      unfold vX11_reduced_17
      rw [Nat.gcd_zero_right] at h1 h0
      exact ⟨fun _ => ⟨fun e => ⟨lN_ne (by omega) hp, h1 e⟩, fun e => ⟨lN_ne (by omega) hp, h0 e⟩⟩, fun z => absurd rfl z⟩
    · have hq0 : 0 < q := by omega
      have hr : p % q < q := Nat.mod_lt _ hq0
      have hg : Nat.gcd q (p % q) = Nat.gcd p q := by
        rw [Nat.gcd_comm, ← Nat.gcd_rec, Nat.gcd_comm]
      obtain ⟨fu, hfu⟩ := ih q (p % q) (by omega) hq (by omega) (by omega) (by rw [hg]; exact h1) (by rw [hg]; exact h0)
      refine ⟨fu + 1, ?_⟩
      unfold vX11_reduced_17
      refine ⟨fun z => absurd z (lN_ne hq0 hq), fun _ => ⟨lN_ne hq0 hq, fun r hr2 => ?_⟩⟩
      rw [lN_rem hp hq0 hq] at hr2
      rw [hr2]
      exact hfu
/-- least terms, both: up is p or less p, down is q -/
theorem w_lt {Q : Int64 → Prop} {u : Int64} {p q : Nat} {c : Int32} (hp : p < 2 ^ 31) (hq : q < 2 ^ 31) (hq0 : 0 < q) (hu : u = lN p ∨ u = - lN p) (h1 : ¬ c = 0 → Q (lN q / lN (Nat.gcd p q))) (h0 : c = 0 → Q (u / lN (Nat.gcd p q))) : vX10_inLeastTerms u (lN q) c Q := by
  unfold vX10_inLeastTerms vX10_greatestCommon
  have e : (if 0 < u then u else -u) = lN p := by
    have t : (lN p).toInt = (p : Int) := lN_toInt hp
    rcases hu with rfl | rfl
    · by_cases h : 0 < lN p
      · rw [if_pos h]
      · rw [if_neg h]
        have : p = 0 := by
          rw [fa_lt64, t] at h
          have : (0 : Int64).toInt = 0 := rfl
          omega
        subst this; rfl
    · by_cases h : 0 < - lN p
      · exfalso
        rw [fa_lt64, Int64.toInt_neg, t] at h
        have : (0 : Int64).toInt = 0 := rfl
        rw [this] at h
        have hb : (-(p : Int)).bmod (2 ^ 64) = -(p : Int) := Int.bmod_eq_of_le (by omega) (by omega)
        rw [hb] at h
        omega
      · rw [if_neg h]; simp
  rw [e]
  have hg0 : 0 < Nat.gcd p q := Nat.gcd_pos_of_pos_right p hq0
  have hgq : Nat.gcd p q ≤ q := Nat.le_of_dvd hq0 (Nat.gcd_dvd_right p q)
  have hpos : (0 : Int64) < lN (Nat.gcd p q) := (lN_lt (a := 0) (by omega) (by omega)).mpr hg0
  refine w_gc 31 p q 0 hp hq (by omega) (by omega) ⟨fun _ => ⟨fun hc => ⟨lN_ne hg0 (by omega), h1 hc⟩, fun hc => ⟨lN_ne hg0 (by omega), h0 hc⟩⟩, fun z => absurd hpos z⟩
theorem n_lt {Q : Int64 → Prop} {u : Int64} {p q : Nat} {c : Int32} (hp : p < 2 ^ 31) (hq : q < 2 ^ 31) (hq0 : 0 < q) (hu : u = lN p ∨ u = - lN p) (h1 : ¬ c = 0 → Q (lN q / lN (Nat.gcd p q))) (h0 : c = 0 → Q (u / lN (Nat.gcd p q))) : vX11_reduced u (lN q) c Q := by
  unfold vX11_reduced vX11_reduced_12
  have t : (lN p).toInt = (p : Int) := lN_toInt hp
  have z0 : (0 : Int64).toInt = 0 := rfl
  have go := n_gc (Q := Q) (u := u) (d := lN q) (c := c) q p q (Nat.le_refl _) hp hq (by omega) h1 h0
  have hb : (-(p : Int)).bmod (2 ^ 64) = -(p : Int) := Int.bmod_eq_of_le (by omega) (by omega)
  refine ⟨fun h => ?_, fun h => ?_⟩
  · have e : u = lN p := by
      rcases hu with z | z
      · exact z
      · rw [z, fa_le64, Int64.toInt_neg, t, hb, z0] at h
        have : p = 0 := by omega
        subst this; rw [z]; rfl
    rw [e] at go ⊢
    exact go
  · have e : -u = lN p := by
      rcases hu with z | z
      · rw [z, fa_le64, t, z0] at h; omega
      · rw [z]; simp
    rw [e]
    exact go
