/-! rows taken from sheets: sheet, copy, watch -/
def SP (i m : Int32) (c : Nat) : Prop := 0 ≤ m.toInt ∧ 0 ≤ i.toInt ∧ i.toInt + m.toInt ≤ c
section RO
variable {K : Nat → Nat} {n : Nat} {M : Nat → Nat → Nat} {S : Nat → Nat → Int32} {L : Nat → Int64} {R : Nat → Option Nat} {f : Nat → Int32} {a : Nat → Nat → Int32}
theorem i_spans {k c : Nat} {i m : Int32} {Q : Int32 → (Nat → Nat → Int32) → (Nat → Int64) → (Nat → Option Nat) → Prop} (h3 : S (21 + 2 * k) 3 = nI c) (hc : c ≤ 60) (h1 : SP i m c → Q 1 S L R) (h0 : ¬ SP i m c → Q 0 S L R) : vX6_spans K n k i m S L R Q := by
  unfold vX6_spans
  rw [h3]
  have z : (0 : Int32).toInt = 0 := rfl
  refine ⟨fun h => h0 (fun s => by rw [fa_lt, z] at h; have := s.1; omega), fun h => ?_⟩
  refine j_w 0 c rfl (nI_toInt (by omega)) (fun hi => ?_) (fun hi => ?_)
  · obtain ⟨j, hj, rfl⟩ := rg_nI (x := i) (hi := c) hi
    rw [nI_sub hj, fa_lt, nI_toInt (by omega)]
    rw [fa_lt, z] at h
    have e : (nI j).toInt = (j : Int) := nI_toInt (by omega)
    refine ⟨fun h4 => h0 (fun s => ?_), fun h4 => h1 ⟨by omega, by omega, by omega⟩⟩
    have := s.2.2
    omega
  · refine h0 (fun s => hi ?_)
    have := s.1
    have := s.2.1
    have := s.2.2
    omega
theorem n_bey1 {c : Nat} {i m : Int32} {Q : Int32 → Prop} (hc : c ≤ 60) (h : SP i m c) : vX11_isBeyond i m.toInt64 (nI c) Q = Q 0 := by
  have z : (0 : Int32).toInt = 0 := rfl
  have z6 : (0 : Int64).toInt = 0 := rfl
  have hi := Int32.toInt_lt i
  have hm := Int32.toInt_lt m
  obtain ⟨s1, s2, s3⟩ := h
  have a1 : ¬ i < 0 := by rw [fa_lt, z]; omega
  have a2 : ¬ m.toInt64 < 0 := by rw [fa_lt64, z6, Int32.toInt_toInt64]; omega
  have a3 : i.toInt64 + m.toInt64 ≤ (nI c).toInt64 := by
    rw [fa_le64, Int64.toInt_add, Int32.toInt_toInt64, Int32.toInt_toInt64, Int32.toInt_toInt64, nI_toInt (by omega), Int.bmod_eq_of_le (by omega) (by omega)]
    exact s3
  unfold vX11_isBeyond
  simp [a1, a2, a3]
theorem n_bey0 {c : Nat} {i m : Int32} {Q : Int32 → Prop} (hc : c ≤ 60) (h : ¬ SP i m c) : vX11_isBeyond i m.toInt64 (nI c) Q = Q 1 := by
  have z : (0 : Int32).toInt = 0 := rfl
  have z6 : (0 : Int64).toInt = 0 := rfl
  have hi := Int32.toInt_lt i
  have hm := Int32.toInt_lt m
  unfold vX11_isBeyond
  by_cases a1 : i < 0
  · simp [a1]
  · by_cases a2 : m.toInt64 < 0
    · simp [a1, a2]
    · have a3 : ¬ i.toInt64 + m.toInt64 ≤ (nI c).toInt64 := by
        rw [fa_lt, z] at a1
        rw [fa_lt64, z6, Int32.toInt_toInt64] at a2
        rw [fa_le64, Int64.toInt_add, Int32.toInt_toInt64, Int32.toInt_toInt64, Int32.toInt_toInt64, nI_toInt (by omega), Int.bmod_eq_of_le (by omega) (by omega)]
        exact fun s => h ⟨by omega, by omega, s⟩
      simp [a1, a2, a3]
/-- n cells of a sheet from i on, taken as a row of a lane -/
theorem i_take {S1 : Nat → Nat → Int32} {k : Nat} {lane i m : Int32} {B : (Nat → Nat → Int32) → (Nat → Int64) → (Nat → Option Nat) → Prop} {P : Int32 → (Nat → Nat → Int32) → (Nat → Int64) → (Nat → Option Nat) → Prop} (hk : k < 4) (hsh : ShC S1 a k)
    (hok : ∀ c, c ≤ 60 → S1 (21 + 2 * k) 3 = nI c → a 8 k = nI c → (∀ j, j < c → S1 (22 + 2 * k) j = a 10 (60 * k + j)) → SP i m c → (∀ Q' : Int32 → (Nat → Int32) → (Nat → Nat → Int32) → Prop, vX11_barred (nI k) lane i m.toInt64 f a Q' = Q' 0 f a) → B S1 L R)
    (hbad : ∀ r : Int32, (r = 1 ∨ r = 2 ∨ r = 3 ∨ r = 4) → (∀ Q' : Int32 → (Nat → Int32) → (Nat → Nat → Int32) → Prop, vX11_barred (nI k) lane i m.toInt64 f a Q' = Q' (-10 - r) (va_up f 0 r) a) → P (-10 - r) (va_up S1 0 (upd (S1 0) 10 r)) L R) :
    vX6_faultOfTaking K n k lane i m S1 L R (fun r9 S10 L11 R12 => (r9 = 0 → B S10 L11 R12) ∧ (¬ (r9 = 0) → vX10_faulted K n r9 S10 L11 R12 (fun r32 S33 L34 R35 => P r32 S33 L34 R35))) := by
  have v4 : vp_in (nI k) 4 := vp_in_nI (by omega) (by omega)
  have e1 : (nI k).toNatClampNeg = k := nI_clamp (by omega)
  have z : (0 : Int32).toInt = 0 := rfl
  have z6 : (0 : Int64).toInt = 0 := rfl
  unfold vX6_faultOfTaking vX6_faultOfTakingAs
  rcases hsh with ⟨c1, c2⟩ | ⟨c, c0, c1, c2, c3, c4, c5⟩
  · rw [c1]
    refine ⟨fun z => absurd rfl z, fun _ => ⟨fun z => absurd z (by decide), fun _ => ⟨fun z => absurd z (by decide), fun _ => ?_⟩⟩⟩
    rw [w_faulted]
    refine hbad 1 (by simp) (fun Q' => ?_)
    unfold vX11_barred vX11_barred_25
    rw [e1, c2]
    have q1 : ((-1 : Int32) < 0) = True := eq_true (by decide)
    have q2 : ((0 : Int32) ≤ -1) = False := eq_false (by decide)
    simp only [v4, q1, q2, n_fail, true_implies, false_implies, not_true_eq_false, not_false_eq_true, true_and, and_true]
  · rw [c1]
    have np : ¬ nI c < 0 := nI_pos (by omega)
    have pp : (0 : Int32) ≤ nI c := nI_pos' (by omega)
    refine ⟨fun _ => ⟨fun hl => ?_, fun hl => ?_⟩, fun z => absurd z (by decide)⟩
    · refine ⟨fun z => absurd z (by decide), fun _ => ⟨fun z => absurd z (by decide), fun _ => ?_⟩⟩
      rw [w_faulted]
      refine hbad 2 (by simp) (fun Q' => ?_)
      have hl' : ¬ a 9 k = lane := by rw [c4]; exact hl
      unfold vX11_barred
      rw [e1, c2, n_fail]
      simp only [v4, np, hl', true_implies, false_implies, not_false_eq_true, true_and, and_true]
    · have hl' : a 9 k = lane := by rw [c4]; exact hl
      refine ⟨fun _ => ⟨fun hm => ?_, fun hm => ?_⟩, fun z => absurd rfl z⟩
      · have hm6 : (0 : Int64) ≤ m.toInt64 := by
          rw [fa_le, z] at hm
          rw [fa_le64, z6, Int32.toInt_toInt64]
          exact hm
        refine i_spans c3 c0 (fun sp => ?_) (fun sp => ?_)
        · refine ⟨fun z => absurd z (by decide), fun _ => ⟨fun _ => hok c c0 c3 c2 c5 sp (fun Q' => ?_), fun z => absurd rfl z⟩⟩
          unfold vX11_barred vX11_barred_25
          rw [e1, c2, n_bey1 c0 sp]
          simp only [v4, np, pp, hl', hm6, z00, true_implies, false_implies, not_true_eq_false, not_false_eq_true, true_and, and_true]
        · refine ⟨fun _ => ⟨fun z => absurd z (by decide), fun _ => ?_⟩, fun z => absurd rfl z⟩
          rw [w_faulted]
          refine hbad 3 (by simp) (fun Q' => ?_)
          unfold vX11_barred vX11_barred_25
          rw [e1, c2, n_bey0 c0 sp]
          simp only [v4, np, pp, hl', hm6, z10, n_fail, true_implies, false_implies, not_true_eq_false, not_false_eq_true, true_and, and_true]
      · have hm6 : ¬ (0 : Int64) ≤ m.toInt64 := by
          rw [fa_le, z] at hm
          rw [fa_le64, z6, Int32.toInt_toInt64]
          exact hm
        refine ⟨fun z => absurd z (by decide), fun _ => ?_⟩
        rw [w_faulted]
        refine hbad 4 (by simp) (fun Q' => ?_)
        unfold vX11_barred vX11_barred_25
        rw [e1, c2]
        simp only [v4, np, pp, hl', hm6, n_fail, true_implies, false_implies, not_true_eq_false, not_false_eq_true, true_and, and_true]
/-! sheet -/
theorem n_sheet65 {k c : Nat} {Q : Int32 → (Nat → Int32) → (Nat → Nat → Int32) → Prop} (hk : k < 4) (hc : c ≤ 60) (hQ : ∀ a' : Nat → Nat → Int32, (∀ i, i ≠ 10 → a' i = a i) → (∀ i, a' 10 i = if 60 * k ≤ i ∧ i < 60 * k + c then 0 else a 10 i) → Q 1 (va_up f 0 0) a') :
    ∀ d j : Nat, ∀ a1 : Nat → Nat → Int32, j + d = c → (∀ i, i ≠ 10 → a1 i = a i) → (∀ i, a1 10 i = if 60 * k ≤ i ∧ i < 60 * k + j then 0 else a 10 i) → vX11_sheet_65 Q (d + 1) (nI k) (nI c) (nI j) f a1 := by
  intro d
  induction d with
  | zero =>
    intro j a1 hj h1 h2
    obtain rfl : j = c := by omega
    unfold vX11_sheet_65
    rw [n_ref]
    exact ⟨fun _ => hQ a1 h1 h2, fun z => absurd (nI_le (Nat.le_refl _) (by omega)) z⟩
  | succ d ih =>
    intro j a1 hj h1 h2
    unfold vX11_sheet_65
    refine ⟨fun z => absurd z (nI_ge (by omega) (by omega)), fun _ => ?_⟩
    rw [ix60, nI_clamp (by omega)]
    refine ⟨vp_in_nI (by omega) (by omega), fun a2 h3 y hy => ?_⟩
    rw [hy, nI_1]
    refine ih (j + 1) a2 (by omega) (fun i hi => by rw [h3, va_up_ne _ _ hi]; exact h1 i hi) (fun i => ?_)
    rw [h3, va_up_self]
    by_cases e : i = 60 * k + j
    · subst e
      rw [upd_self, if_pos (by omega)]
    · rw [upd_ne _ _ e, h2 i]
      by_cases e2 : 60 * k ≤ i ∧ i < 60 * k + j
      · rw [if_pos e2, if_pos (by omega)]
      · rw [if_neg e2, if_neg (by omega)]
theorem pr_sheet (I : Inv K n M S R f a) (x1 x2 x3 : Int32) : vX10_sheet K n x1 x2 x3 S L R (fun r S' _ R' => vX11_sheet x1 x2 x3 f a (fun r' f' a' => r = r' ∧ Jv K n S' R' f' a')) := by
  obtain ⟨⟨hn, hRO, hS8, hf1⟩, hK, hM, hW, hF, hSh⟩ := id I
  have z : (0 : Int32).toInt = 0 := rfl
  unfold vX10_sheet
  intro S1 hS1
  have I1 : Inv K n M S1 R (va_up f 0 0) a := by subst hS1; exact I.flt (fun i hi => by simp [va_up, hi]) (by simp [va_up, upd]) (by simp [va_up, upd]) (by simp [va_up, upd]) (by simp [va_up]) (by simp [va_up]) (by simp [va_up])
  refine i_sheet (fun k hk e => ?_) (fun ho => ?_)
  · subst e
    have v4 : vp_in (nI k) 4 := vp_in_nI (by omega) (by omega)
    have e1 : (nI k).toNatClampNeg = k := nI_clamp (by omega)
    simp only [vX11_sheet, n_sheet hk, z00, z10, not_true_eq_false, not_false_eq_true, false_implies, true_implies, true_and, and_true]
    refine j_w 0 2 rfl rfl (fun h => ?_) (fun h => ?_)
    · simp only [n_in (l := 0) (g := 2) 0 2 rfl rfl h, z00, z10, not_true_eq_false, not_false_eq_true, false_implies, true_implies, true_and, and_true]
      refine ⟨fun h60 => ⟨fun h0 => ⟨hk, ?_⟩, fun h0 => ?_⟩, fun h60 => ?_⟩
      · have hr : 0 ≤ x3.toInt ∧ x3.toInt ≤ (60 : Nat) := by
          rw [fa_le] at h60 h0
          have : (60 : Int32).toInt = 60 := rfl
          omega
        obtain ⟨c, hc, rfl⟩ := rg_nI (hi := 60) hr
        unfold vX6_renew
        intro S2 h2 S3 h3 S4 h4 S5 h5
        rw [e1]
        refine ⟨fun _ => ⟨fun _ => ⟨v4, fun a1 ha1 => ⟨v4, fun a2 ha2 => ?_⟩⟩, fun q => absurd h0 q⟩, fun q => absurd h60 q⟩
        have hO : ∀ i, i ≠ 21 + 2 * k → i ≠ 22 + 2 * k → S5 i = S1 i := fun i h6 h7 => by rw [h5, va_up_ne _ _ h7, h4, va_up_ne _ _ h6, h3, va_up_ne _ _ h6, h2, va_up_ne _ _ h6]
        refine ⟨_, n_sheet65 (a := a2) hk hc (fun a' g1 g2 => ⟨rfl, M, I1.sh (k := k) hO hk ?_ ?_ ?_ (fun j hj => ?_) (fun j hj => ?_) (fun j hj => ?_) (Or.inr ⟨c, hc, ?_, ?_, ?_, ?_, fun j hj => ?_⟩)⟩) c 0 a2 (by omega) (fun _ _ => rfl) (fun i => by rw [if_neg (by omega)])⟩
        · rw [g1 _ (by omega), ha2, va_up_ne _ _ (by omega), ha1, va_up_ne _ _ (by omega)]
        · rw [g1 _ (by omega), ha2, va_up_ne _ _ (by omega), ha1, va_up_ne _ _ (by omega)]
        · rw [g1 _ (by omega), ha2, va_up_ne _ _ (by omega), ha1, va_up_ne _ _ (by omega)]
        · rw [g1 _ (by omega), ha2, va_up_ne _ _ (by omega), ha1, va_up_self, upd_ne _ _ hj]
        · rw [g1 _ (by omega), ha2, va_up_self, upd_ne _ _ hj, ha1, va_up_ne _ _ (by omega)]
        · rw [g2, if_neg (by omega), ha2, va_up_ne _ _ (by omega), ha1, va_up_ne _ _ (by omega)]
        · rw [h5, va_up_ne _ _ (by omega), h4, va_up_self, upd_ne _ _ (by omega), h3, va_up_self, upd_ne _ _ (by omega), h2, va_up_self, upd_self]
        · rw [g1 _ (by omega), ha2, va_up_ne _ _ (by omega), ha1, va_up_self, upd_self]
        · rw [h5, va_up_ne _ _ (by omega), h4, va_up_self, upd_self]
        · rw [g1 _ (by omega), ha2, va_up_self, upd_self, h5, va_up_ne _ _ (by omega), h4, va_up_self, upd_ne _ _ (by omega), h3, va_up_self, upd_self]
        · rw [g2, if_pos (by omega), h5, va_up_self]
          unfold fillF
          rw [if_pos (by omega)]
      · rw [w_faulted, n_fail]
        subst hS1
        exact ⟨fun _ => ⟨fun q => absurd q h0, fun _ => ⟨rfl, M, I.flt (fun i hi => by simp [va_up, hi]) (by simp [va_up, upd]) (by simp [va_up, upd]) (by simp [va_up, upd]) (by simp [va_up]) (by simp [va_up]) (by simp [va_up])⟩⟩, fun q => absurd h60 q⟩
      · refine ⟨fun q => absurd q h60, fun _ => ?_⟩
        unfold vX11_sheet_31
        rw [n_ref]
        exact ⟨rfl, M, I1⟩
    · simp only [n_out (l := 0) (g := 2) 0 2 rfl rfl h, z00, z10, not_true_eq_false, not_false_eq_true, false_implies, true_implies, true_and, and_true]
      unfold vX11_sheet_31
      rw [n_ref]
      exact ⟨rfl, M, I1⟩
  · simp only [vX11_sheet, n_sheet0 ho, z00, z10, not_true_eq_false, not_false_eq_true, false_implies, true_implies, true_and, and_true]
    rw [n_ref]
    exact ⟨rfl, M, I1⟩
/-! copy -/
theorem n_copy144 {o j m : Nat} {Q : Int32 → (Nat → Int32) → (Nat → Nat → Int32) → Prop} (ho : o < 4) (hm : j + m ≤ 60) (hQ : ∀ a' : Nat → Nat → Int32, (∀ i, i ≠ 10 → a' i = a i) → (∀ i, a' 10 i = if 60 * o + j ≤ i ∧ i < 60 * o + j + m then a 11 (i - (60 * o + j)) else a 10 i) → Q (nI m) (va_up f 0 0) a') :
    ∀ d t : Nat, ∀ a1 : Nat → Nat → Int32, t + d = m → (∀ i, i ≠ 10 → a1 i = a i) → (∀ i, a1 10 i = if 60 * o + j ≤ i ∧ i < 60 * o + j + t then a 11 (i - (60 * o + j)) else a 10 i) → vX11_copy_144 Q (d + 1) (nI o) (nI j) (nI m) (nI t) f a1 := by
  intro d
  induction d with
  | zero =>
    intro t a1 hj h1 h2
    obtain rfl : t = m := by omega
    unfold vX11_copy_144
    rw [n_ref]
    exact ⟨fun _ => hQ a1 h1 h2, fun z => absurd (nI_le (Nat.le_refl _) (by omega)) z⟩
  | succ d ih =>
    intro t a1 hj h1 h2
    unfold vX11_copy_144
    refine ⟨fun z => absurd z (nI_ge (by omega) (by omega)), fun _ => ?_⟩
    rw [ix60, nI_add, nI_clamp (by omega), nI_clamp (by omega)]
    refine ⟨vp_in_nI (by omega) (by omega), vp_in_nI (by omega) (by omega), fun a2 h3 y hy => ?_⟩
    rw [hy, nI_1]
    refine ih (t + 1) a2 (by omega) (fun i hi => by rw [h3, va_up_ne _ _ hi]; exact h1 i hi) (fun i => ?_)
    rw [h3, va_up_self]
    by_cases e : i = 60 * o + j + t
    · subst e
      rw [upd_self, if_pos (by omega), h1 11 (by omega)]
      congr 1
      omega
    · rw [upd_ne _ _ e, h2 i]
      by_cases e2 : 60 * o + j ≤ i ∧ i < 60 * o + j + t
      · rw [if_pos e2, if_pos (by omega)]
      · rw [if_neg e2, if_neg (by omega)]
theorem n_copy107 {k i o j m : Nat} {Q : Int32 → (Nat → Int32) → (Nat → Nat → Int32) → Prop} (hk : k < 4) (ho : o < 4) (hm : j + m ≤ 60) (hm2 : i + m ≤ 60) (hQ : ∀ a' : Nat → Nat → Int32, (∀ u, u ≠ 10 → u ≠ 11 → a' u = a u) → (∀ u, a' 10 u = if 60 * o + j ≤ u ∧ u < 60 * o + j + m then a 10 (60 * k + i + (u - (60 * o + j))) else a 10 u) → Q (nI m) (va_up f 0 0) a') :
    ∀ d t : Nat, ∀ a1 : Nat → Nat → Int32, t + d = m → (∀ u, u ≠ 11 → a1 u = a u) → (∀ u, u < t → a1 11 u = a 10 (60 * k + i + u)) → vX11_copy_107 Q (d + 1) (nI k) (nI i) (nI o) (nI j) (nI m) (nI t) f a1 := by
  intro d
  induction d with
  | zero =>
    intro t a1 hj h1 h2
    obtain rfl : t = m := by omega
    unfold vX11_copy_107
    refine ⟨fun _ => ⟨_, n_copy144 (a := a1) ho hm (fun a' g1 g2 => hQ a' (fun u h3 h4 => (g1 u h3).trans (h1 u h4)) (fun u => ?_)) t 0 a1 (by omega) (fun _ _ => rfl) (fun u => by rw [if_neg (by omega)])⟩, fun z => absurd (nI_le (Nat.le_refl _) (by omega)) z⟩
    rw [g2 u]
    by_cases e : 60 * o + j ≤ u ∧ u < 60 * o + j + t
    · rw [if_pos e, if_pos e, h2 _ (by omega)]
    · rw [if_neg e, if_neg e, h1 10 (by omega)]
  | succ d ih =>
    intro t a1 hj h1 h2
    unfold vX11_copy_107
    refine ⟨fun z => absurd z (nI_ge (by omega) (by omega)), fun _ => ?_⟩
    rw [ix60, nI_add, nI_clamp (by omega), nI_clamp (by omega)]
    refine ⟨vp_in_nI (by omega) (by omega), vp_in_nI (by omega) (by omega), fun a2 h3 y hy => ?_⟩
    rw [hy, nI_1]
    refine ih (t + 1) a2 (by omega) (fun u hu => by rw [h3, va_up_ne _ _ hu]; exact h1 u hu) (fun u hu => ?_)
    rw [h3, va_up_self]
    by_cases e : u = t
    · subst e
      rw [upd_self, h1 10 (by omega)]
    · rw [upd_ne _ _ e]
      exact h2 u (by omega)
theorem pr_copy (I : Inv K n M S R f a) (x1 x2 x3 x4 x5 : Int32) : vX10_copy K n x1 x2 x3 x4 x5 S L R (fun r S' _ R' => vX11_copy x1 x2 x3 x4 x5 f a (fun r' f' a' => r = r' ∧ Jv K n S' R' f' a')) := by
  obtain ⟨⟨hn, hRO, hS8, hf1⟩, hK, hM, hW, hF, hSh⟩ := id I
  have z : (0 : Int32).toInt = 0 := rfl
  unfold vX10_copy
  intro S1 hS1
  have hs1 : ∀ i, i ≠ 0 → S1 i = S i := fun i hi => by rw [hS1, va_up_ne _ _ hi]
  have I1 : Inv K n M S1 R (va_up f 0 0) a := by subst hS1; exact I.flt (fun i hi => by simp [va_up, hi]) (by simp [va_up, upd]) (by simp [va_up, upd]) (by simp [va_up, upd]) (by simp [va_up]) (by simp [va_up]) (by simp [va_up])
  have hSh1 := I1.2.2.2.2.2
  have fl : ∀ (r : Int32), Jv K n (va_up S1 0 (upd (S1 0) 10 r)) R (va_up f 0 r) a := fun r => by subst hS1; exact ⟨M, I.flt (fun i hi => by simp [va_up, hi]) (by simp [va_up, upd]) (by simp [va_up, upd]) (by simp [va_up, upd]) (by simp [va_up]) (by simp [va_up]) (by simp [va_up])⟩
  refine i_sheetOf (fun k hk e => ?_) (fun ho => ?_)
  · subst e
    have v4 : vp_in (nI k) 4 := vp_in_nI (by omega) (by omega)
    have e1 : (nI k).toNatClampNeg = k := nI_clamp (by omega)
    refine i_sheetOf (fun o ho e => ?_) (fun ho => ?_)
    · subst e
      have w4 : vp_in (nI o) 4 := vp_in_nI (by omega) (by omega)
      have e2 : (nI o).toNatClampNeg = o := nI_clamp (by omega)
      refine ⟨fun q => (by cases q), fun mi hmi => ?_⟩
      cases hmi
      refine ⟨fun q => (by cases q), fun mi hmi => ?_⟩
      cases hmi
      refine ⟨hk, ?_⟩
      simp only [vX11_copy, n_sheet hk, z00, z10, not_true_eq_false, not_false_eq_true, false_implies, true_implies, true_and, and_true]
      simp only [n_sheet ho, e1, e2, z00, z10, not_true_eq_false, not_false_eq_true, false_implies, true_implies, true_and, and_true]
      rcases hSh1 k hk with ⟨c1, c2⟩ | ⟨c, c0, c1, c2, c3, c4, c5⟩
      · rw [c1, c2]
        refine ⟨fun _ => ?_, fun q => absurd rfl q⟩
        unfold vX10_copy_47 vX11_copy_38
        simp only [w_faulted, n_fail, z00, z10, not_true_eq_false, not_false_eq_true, false_implies, true_implies, true_and, and_true]
        exact ⟨v4, fun _ => fl 1, fun q => absurd (by decide) q⟩
      · rw [c1, c2]
        have np : ¬ nI c < 0 := nI_pos (by omega)
        refine ⟨fun q => absurd q (by decide), fun _ => ⟨ho, ?_⟩⟩
        rcases hSh1 o ho with ⟨d1, d2⟩ | ⟨d, d0, d1, d2, d3, d4, d5⟩
        · rw [d1, d2]
          refine ⟨fun q => absurd rfl q, fun _ => ?_⟩
          unfold vX10_copy_47 vX11_copy_38
          simp only [w_faulted, n_fail, z00, z10, not_true_eq_false, not_false_eq_true, false_implies, true_implies, true_and, and_true]
          exact ⟨v4, fun q => absurd q np, fun _ => ⟨w4, fun q => absurd q (by decide), fun _ => fl 1⟩⟩
        · rw [d1, d2]
          have np2 : (0 : Int32) ≤ nI d := nI_pos' (by omega)
          refine ⟨fun _ => ⟨fun hl => ?_, fun hl => ?_⟩, fun q => absurd q (by decide)⟩
          · have hl2 : a 9 k = a 9 o := by rw [c4, d4]; exact hl
            refine i_spans c3 c0 (fun sp1 => ⟨fun q => absurd q (by decide), fun _ => ?_⟩) (fun sp1 => ⟨fun _ => ?_, fun q => absurd rfl q⟩)
            · refine i_spans d3 d0 (fun sp2 => ⟨fun _ => ?_, fun q => absurd q (by decide)⟩) (fun sp2 => ⟨fun q => absurd rfl q, fun _ => ?_⟩)
              · have nn : ∀ y : Int32, 0 ≤ y.toInt → ¬ y < 0 := fun y hy => by rw [fa_lt, z]; omega
                obtain ⟨i, hi, rfl⟩ := rg_nI (x := x2) (hi := c) (by have := sp1.1; have := sp1.2.1; have := sp1.2.2; omega)
                obtain ⟨j, hj, rfl⟩ := rg_nI (x := x4) (hi := d) (by have := sp2.1; have := sp2.2.1; have := sp2.2.2; omega)
                obtain ⟨m, hm, rfl⟩ := rg_nI (x := x5) (hi := c) (by have := sp1.1; have := sp1.2.1; have := sp1.2.2; omega)
                have s1 := sp1.2.2
                have s2 := sp2.2.2
                rw [nI_toInt (by omega), nI_toInt (by omega)] at s1 s2
                simp only [n_bey1 c0 sp1, n_bey1 d0 sp2, nI_clamp (show i < 2 ^ 31 by omega), nI_clamp (show j < 2 ^ 31 by omega), nI_clamp (show m < 2 ^ 31 by omega)]
                refine ⟨nI_pos (by omega), nI_pos (by omega), nI_pos (by omega), by omega, by omega, fun S2 h2 => ?_⟩
                refine ⟨v4, fun q => absurd q np, fun _ => ⟨w4, fun _ => ⟨v4, w4, fun _ => ⟨v4, fun q => absurd trivial q, fun _ => ⟨w4, fun _ => ?_, fun q => absurd trivial q⟩⟩, fun q => absurd hl2 q⟩, fun q => absurd np2 q⟩⟩
                refine ⟨_, n_copy107 (a := a) hk ho (show j + m ≤ 60 by omega) (show i + m ≤ 60 by omega) (fun a' g1 g2 => ⟨rfl, M, I1.sh (k := o) (fun u h6 h7 => by rw [h2, va_up_ne _ _ h7]) ho (g1 _ (by omega) (by omega)) (g1 _ (by omega) (by omega)) (g1 _ (by omega) (by omega)) (fun u hu => by rw [g1 _ (by omega) (by omega)]) (fun u hu => by rw [g1 _ (by omega) (by omega)]) (fun u hu => by rw [g2 u, if_neg (by omega)]) (Or.inr ⟨d, d0, ?_, ?_, ?_, ?_, fun u hu => ?_⟩)⟩) m 0 a (by omega) (fun _ _ => rfl) (fun u hu => absurd hu (by omega))⟩
                · rw [h2, va_up_ne _ _ (by omega)]; exact d1
                · rw [g1 _ (by omega) (by omega)]; exact d2
                · rw [h2, va_up_ne _ _ (by omega)]; exact d3
                · rw [g1 _ (by omega) (by omega), h2, va_up_ne _ _ (by omega)]; exact d4
                · rw [g2 _, h2, va_up_self]
                  unfold va_cpy
                  by_cases e : j ≤ u ∧ u < j + m
                  · rw [if_pos e, if_pos (by omega), c5 _ (by omega)]
                    congr 1
                    omega
                  · rw [if_neg e, if_neg (by omega)]
                    exact d5 u hu
              · unfold vX10_copy_95 vX11_copy_98
                simp only [w_faulted, n_bey1 c0 sp1, n_bey0 d0 sp2, n_fail]
                refine ⟨v4, fun q => absurd q np, fun _ => ⟨w4, fun _ => ⟨v4, w4, fun _ => ⟨v4, fun q => absurd trivial q, fun _ => ⟨w4, fun q => absurd q (by decide), fun _ => ⟨trivial, fl 3⟩⟩⟩, fun q => absurd hl2 q⟩, fun q => absurd np2 q⟩⟩
            · unfold vX10_copy_95 vX11_copy_98
              simp only [w_faulted, n_bey0 c0 sp1, n_fail]
              refine ⟨v4, fun q => absurd q np, fun _ => ⟨w4, fun _ => ⟨v4, w4, fun _ => ⟨v4, fun _ => ⟨trivial, fl 3⟩, fun q => absurd q (by decide)⟩, fun q => absurd hl2 q⟩, fun q => absurd np2 q⟩⟩
          · have hl2 : ¬ a 9 k = a 9 o := by rw [c4, d4]; exact hl
            simp only [w_faulted, n_fail]
            exact ⟨v4, fun q => absurd q np, fun _ => ⟨w4, fun _ => ⟨v4, w4, fun q => absurd q hl2, fun _ => ⟨trivial, fl 2⟩⟩, fun q => absurd np2 q⟩⟩
    · refine ⟨fun q => (by cases q), fun mi hmi => ⟨fun _ => ?_, fun mi hmi => (by cases hmi)⟩⟩
      simp only [vX11_copy, n_sheet hk, z00, z10, not_true_eq_false, not_false_eq_true, false_implies, true_implies, true_and, and_true]
      simp only [n_sheet0 ho, z00, z10, not_true_eq_false, not_false_eq_true, false_implies, true_implies, true_and, and_true]
      unfold vX11_copy_14
      rw [n_ref]
      exact ⟨rfl, M, I1⟩
  · have out : vX11_copy x1 x2 x3 x4 x5 f a (fun r' f' a' => -1 = r' ∧ Jv K n S1 R f' a') := by
      simp only [vX11_copy, n_sheet0 ho, z00, z10, not_true_eq_false, not_false_eq_true, false_implies, true_implies, true_and, and_true]
      unfold vX11_copy_14
      rw [n_ref]
      exact ⟨rfl, M, I1⟩
    refine i_sheetOf (fun o ho e => ?_) (fun ho => ?_)
    · exact ⟨fun _ => out, fun mi hmi => (by cases hmi)⟩
    · exact ⟨fun _ => out, fun mi hmi => (by cases hmi)⟩
end RO
