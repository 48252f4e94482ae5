/-! numbers put on trial into a mill: better, line, years -/
def ScX (S0 S : Nat → Nat → Int32) (x w : Nat) : Prop := (∀ i, (i = 0 ∨ i = 3 ∨ i = 14 ∨ 21 ≤ i) → i ≠ 30 + 2 * x → S i = S0 i) ∧ ∀ j, j ≠ w → S (30 + 2 * x) j = S0 (30 + 2 * x) j
def AcX (a0 a : Nat → Nat → Int32) (x w : Nat) : Prop := (a 1 = a0 1 ∧ a 7 = a0 7 ∧ a 8 = a0 8 ∧ a 9 = a0 9 ∧ a 10 = a0 10) ∧ ∀ j, j ≠ 9 * x + w → a 2 j = a0 2 j
theorem ScX.rfl' {S : Nat → Nat → Int32} {x w : Nat} : ScX S S x w := ⟨fun _ _ _ => rfl, fun _ _ => rfl⟩
theorem AcX.rfl' {a : Nat → Nat → Int32} {x w : Nat} : AcX a a x w := ⟨⟨rfl, rfl, rfl, rfl, rfl⟩, fun _ _ => rfl⟩
theorem ScX.sc {S0 S S' : Nat → Nat → Int32} {x w : Nat} (h : ScX S0 S x w) (h2 : Sc S S') : ScX S0 S' x w := ⟨fun i h3 h4 => (h2 i h3).trans (h.1 i h3 h4), fun j hj => by rw [h2 _ (by omega)]; exact h.2 j hj⟩
theorem AcX.ac {a0 a a' : Nat → Nat → Int32} {x w : Nat} (h : AcX a0 a x w) (h2 : Ac a a') : AcX a0 a' x w := ⟨⟨h2.1.trans h.1.1, h2.2.2.1.trans h.1.2.1, h2.2.2.2.1.trans h.1.2.2.1, h2.2.2.2.2.1.trans h.1.2.2.2.1, h2.2.2.2.2.2.trans h.1.2.2.2.2⟩, fun j hj => by rw [h2.2.1]; exact h.2 j hj⟩
theorem ScX.set {S0 S : Nat → Nat → Int32} {x w : Nat} {v : Int32} (h : ScX S0 S x w) : ScX S0 (va_up S (30 + 2 * x) (upd (S (30 + 2 * x)) w v)) x w := ⟨fun i h3 h4 => by rw [va_up_ne _ _ h4]; exact h.1 i h3 h4, fun j hj => by rw [va_up_self, upd_ne _ _ hj]; exact h.2 j hj⟩
theorem AcX.set {a0 a : Nat → Nat → Int32} {x w : Nat} {v : Int32} (h : AcX a0 a x w) : AcX a0 (va_up a 2 (upd (a 2) (9 * x + w) v)) x w := by
  refine ⟨?_, fun j hj => by rw [va_up_self, upd_ne _ _ hj]; exact h.2 j hj⟩
  rw [va_up_ne _ _ (by omega), va_up_ne _ _ (by omega), va_up_ne _ _ (by omega), va_up_ne _ _ (by omega), va_up_ne _ _ (by omega)]
  exact h.1
theorem ScX.cm {S0 S : Nat → Nat → Int32} {x w v : Nat} {N : Nat → Nat} (h : ScX S0 S x w) (hC : CM S0 x N) : CM (va_up S (30 + 2 * x) (upd (S (30 + 2 * x)) w (nI v))) x (va_up N w v) := by
  intro u hu
  rw [va_up_self]
  by_cases e : u = w
  · subst e; rw [upd_self, va_up_self]
  · rw [upd_ne _ _ e, va_up_ne _ _ e, h.2 u e]; exact hC u hu
theorem AcX.rm {a0 a : Nat → Nat → Int32} {x w v : Nat} {N : Nat → Nat} (h : AcX a0 a x w) (hC : RM a0 x N) : RM (va_up a 2 (upd (a 2) (9 * x + w) (nI v))) x (va_up N w v) := by
  intro u hu
  rw [va_up_self]
  by_cases e : u = w
  · subst e; rw [upd_self, va_up_self]
  · rw [upd_ne _ _ (by omega), va_up_ne _ _ e, h.2 _ (by omega)]; exact hC u hu
theorem ScX.back {S0 S : Nat → Nat → Int32} {x w : Nat} {v : Int32} (h : ScX S0 S x w) (hv : v = S0 (30 + 2 * x) w) : Sc S0 (va_up S (30 + 2 * x) (upd (S (30 + 2 * x)) w v)) := by
  intro i hi
  by_cases e : i = 30 + 2 * x
  · subst e
    rw [va_up_self]
    funext j
    by_cases ej : j = w
    · subst ej; rw [upd_self, hv]
    · rw [upd_ne _ _ ej]; exact h.2 j ej
  · rw [va_up_ne _ _ e]; exact h.1 i hi e
theorem AcX.back {a0 a : Nat → Nat → Int32} {x w : Nat} {v : Int32} (h : AcX a0 a x w) (hv : v = a0 2 (9 * x + w)) : Ac a0 (va_up a 2 (upd (a 2) (9 * x + w) v)) := by
  have h2 := (h.set (v := v)).1
  refine ⟨h2.1, ?_, h2.2.1, h2.2.2.1, h2.2.2.2.1, h2.2.2.2.2⟩
  rw [va_up_self]
  funext j
  by_cases ej : j = 9 * x + w
  · subst ej; rw [upd_self, hv]
  · rw [upd_ne _ _ ej]; exact h.2 j ej
theorem MB.put {N : Nat → Nat} (h : MB N) {w v : Nat} (h1 : loN w ≤ v) (h2 : v ≤ hiN w) : MB (va_up N w v) := by
  intro u hu
  by_cases e : u = w
  · subst e; rw [va_up_self]; exact ⟨h1, h2⟩
  · rw [va_up_ne _ _ e]; exact h u hu
/-- what is found of the numbers lo .. lo + k - 1 -/
def cF (p : Nat → Bool) (lo : Nat) : Nat → Nat
  | 0 => 0
  | k + 1 => if p (lo + k) = true then cF p lo k + 1 else cF p lo k
def aF (p : Nat → Bool) (lo : Nat) : Nat → Int32
  | 0 => -9
  | k + 1 => if p (lo + k) = true then (if aF p lo k < 0 then nI (lo + k) else aF p lo k) else aF p lo k
def bF (p : Nat → Bool) (lo : Nat) : Nat → Int32
  | 0 => -9
  | k + 1 => if p (lo + k) = true then nI (lo + k) else bF p lo k
theorem cF_le (p : Nat → Bool) (lo k : Nat) : cF p lo k ≤ k := by
  induction k with
  | zero => exact Nat.le_refl 0
  | succ k ih => unfold cF; split <;> omega
theorem cF_a {p : Nat → Bool} {lo k : Nat} (hk : lo + k < 1000) : (cF p lo k = 0 → aF p lo k = -9 ∧ bF p lo k = -9) ∧ (¬ cF p lo k = 0 → ¬ aF p lo k < 0) := by
  induction k with
  | zero => exact ⟨fun _ => ⟨rfl, rfl⟩, fun h => absurd rfl h⟩
  | succ k ih =>
    have ih := ih (by omega)
    unfold cF aF bF
    by_cases hp : p (lo + k) = true
    · simp only [hp, if_true]
      refine ⟨fun h => by omega, fun _ => ?_⟩
      by_cases e : aF p lo k < 0
      · rw [if_pos e]; exact nI_pos (by omega)
      · rw [if_neg e]; exact e
    · simp only [hp]
      exact ih
/-- what found.told answers -/
def tF (p : Nat → Bool) (lo k : Nat) (what : Int32) : Int32 := if what = 0 then aF p lo k else if what = 1 then bF p lo k else nI (cF p lo k)
def FoC (S : Nat → Nat → Int32) (p : Nat → Bool) (lo k : Nat) : Prop := S 13 2 = nI (cF p lo k) ∧ (¬ cF p lo k = 0 → S 13 0 = aF p lo k ∧ S 13 1 = bF p lo k)
section LI
variable {K : Nat → Nat} {n : Nat} {M : Nat → Nat → Nat} {S : Nat → Nat → Int32} {L : Nat → Int64} {R : Nat → Option Nat} {f : Nat → Int32} {a : Nat → Nat → Int32}
variable {N : Nat → Nat} {x : Nat}
theorem w_told {p : Nat → Bool} {lo k : Nat} {what : Nat} {Q : Int32 → (Nat → Nat → Int32) → (Nat → Int64) → (Nat → Option Nat) → Prop} (hF : FoC S p lo k) (hk : lo + k < 1000) (hw : what ≤ 2) (hQ : Q (tF p lo k (nI what)) S L R) : vX1_told K n (nI what) S L R Q := by
  have hc := cF_le p lo k
  have ha := cF_a (p := p) hk
  unfold vX1_told
  rw [hF.1]
  unfold tF at hQ
  rcases (show what = 0 ∨ what = 1 ∨ what = 2 by omega) with rfl | rfl | rfl
  · rw [if_pos (show nI 0 = 0 from rfl)] at hQ
    refine ⟨fun _ => ⟨fun h => ⟨fun z => absurd rfl z, fun _ => ?_⟩, fun h => ?_⟩, fun z => absurd z (by decide)⟩
    · rw [(hF.2 (fun e => h (by rw [e]; rfl))).1]; exact hQ
    · rw [(ha.1 (by by_cases e : cF p lo k = 0; exact e; exact absurd h (nI_ne0 (by omega) (by omega)))).1] at hQ; exact hQ
  · rw [if_neg (by decide), if_pos (show nI 1 = 1 from rfl)] at hQ
    refine ⟨fun _ => ⟨fun h => ⟨fun _ => ?_, fun z => absurd z (by decide)⟩, fun h => ?_⟩, fun z => absurd z (by decide)⟩
    · rw [(hF.2 (fun e => h (by rw [e]; rfl))).2]; exact hQ
    · rw [(ha.1 (by by_cases e : cF p lo k = 0; exact e; exact absurd h (nI_ne0 (by omega) (by omega)))).2] at hQ; exact hQ
  · rw [if_neg (by decide), if_neg (by decide)] at hQ
    exact ⟨fun z => absurd rfl z, fun _ => hQ⟩
theorem w_take {p : Nat → Bool} {lo k : Nat} {Q : (Nat → Nat → Int32) → (Nat → Int64) → (Nat → Option Nat) → Prop} (hF : FoC S p lo k) (hk : lo + k < 999) (hp : p (lo + k) = true) (hQ : ∀ S', Sc S S' → FoC S' p lo (k + 1) → Q S' L R) : vX1_take K n (nI (lo + k)) S L R Q := by
  have hc := cF_le p lo k
  have ha := cF_a (p := p) (lo := lo) (k := k) (by omega)
  unfold vX1_take vX1_take_12
  rw [hF.1]
  refine ⟨fun h S1 h1 S2 h2 => ?_, fun h S0 h0 S1 h1 S2 h2 => ?_⟩
  · have hcn : ¬ cF p lo k = 0 := fun e => h (by rw [e]; rfl)
    refine hQ S2 (by rw [h2, h1]; exact (Sc.rfl'.up (by omega)).up (by omega)) ⟨?_, fun _ => ⟨?_, ?_⟩⟩
    · rw [h2, h1]; simp only [va_up_self, upd_self, cF, hp, if_true]
      rw [upd_ne _ _ (by omega), hF.1, nI_1]
    · rw [h2, h1]; simp only [va_up_self, aF, hp, if_true]
      rw [upd_ne _ _ (by omega), upd_ne _ _ (by omega), (hF.2 hcn).1, if_neg (ha.2 hcn)]
    · rw [h2, h1]; simp only [va_up_self, bF, hp, if_true]
      rw [upd_ne _ _ (by omega), upd_self]
  · have hcn : cF p lo k = 0 := by
      by_cases e : cF p lo k = 0
      · exact e
      · exact absurd h (nI_ne0 (by omega) (by omega))
    refine hQ S2 (by rw [h2, h1, h0]; exact ((Sc.rfl'.up (by omega)).up (by omega)).up (by omega)) ⟨?_, fun _ => ⟨?_, ?_⟩⟩
    · rw [h2, h1, h0]; simp only [va_up_self, upd_self, cF, hp, if_true]
      rw [upd_ne _ _ (by omega), upd_ne _ _ (by omega), hF.1, nI_1]
    · rw [h2, h1, h0]; simp only [va_up_self, aF, hp, if_true]
      rw [upd_ne _ _ (by omega), upd_ne _ _ (by omega), upd_self, (ha.1 hcn).1, if_pos (by decide)]
    · rw [h2, h1, h0]; simp only [va_up_self, bF, hp, if_true]
      rw [upd_ne _ _ (by omega), upd_self]
theorem FoC.skip {p : Nat → Bool} {lo k : Nat} (hF : FoC S p lo k) (hp : ¬ p (lo + k) = true) : FoC S p lo (k + 1) := by
  unfold FoC cF aF bF
  simp only [hp]
  exact hF
theorem FoC.same {S' : Nat → Nat → Int32} {p : Nat → Bool} {lo k : Nat} (hF : FoC S p lo k) (h : S' 13 = S 13) : FoC S' p lo k := by
  unfold FoC
  rw [h]
  exact hF
def stP (N : Nat → Nat) (w : Nat) : Nat → Bool := fun v => decide (neN (va_up N w v) = 2)
theorem w_line59 {w what kp : Nat} {Q : Int32 → (Nat → Nat → Int32) → (Nat → Int64) → (Nat → Option Nat) → Prop} (hx : x < n) (hw : w < 9) (hwh : what ≤ 2) (hC : CM S x N) (hB : MB N) (hkp : S (30 + 2 * x) w = nI kp) (hQ : ∀ S' L', Sc S S' → Q (tF (stP N w) (loN w) (hiN w + 1 - loN w) (nI what)) S' L' R) :
    ∀ d k : Nat, ∀ (S1 : Nat → Nat → Int32) (L1 : Nat → Int64), loN w + k + d = hiN w + 1 → ScX S S1 x w → FoC S1 (stP N w) (loN w) k → vX10_line_59 K n Q (d + 1) (nI w) (nI what) x (nI kp) (nI (loN w + k)) S1 L1 R := by
  have hlh := lohi w
  intro d
  induction d with
  | zero =>
    intro k S1 L1 hk hs hF
    unfold vX10_line_59
    rw [nI_clamp (by omega), greatest_nI hw]
    refine ⟨vp_in_nI (by omega) (by omega), fun _ => ⟨hx, vp_in_nI (by omega) (by omega), fun S2 h2 => ?_⟩, fun z => absurd (nI_lt (by omega) (by omega)) z⟩
    refine w_told (p := stP N w) (lo := loN w) (k := k) (by rw [h2]; exact hF.same (va_up_ne _ _ (by omega))) (by omega) hwh ?_
    have := hQ S2 L1 (by rw [h2]; exact hs.back hkp.symm)
    rw [show hiN w + 1 - loN w = k by omega] at this
    exact this
  | succ d ih =>
    intro k S1 L1 hk hs hF
    unfold vX10_line_59
    rw [nI_clamp (by omega), greatest_nI hw]
    refine ⟨vp_in_nI (by omega) (by omega), fun z => absurd z (nI_nlt (by omega) (by omega)), fun _ => ⟨hx, vp_in_nI (by omega) (by omega), fun S2 h2 => ?_⟩⟩
    subst h2
    refine w_standingOf hx (hs.cm hC) (hB.put (by omega) (by omega)) (fun S3 L3 h3 h13 => ?_)
    have hs3 := (hs.set (v := nI (loN w + k))).sc h3
    have hF3 : FoC S3 (stP N w) (loN w) k := hF.same (h13.trans (va_up_ne _ _ (by omega)))
    unfold vX10_line_97
    refine ⟨fun h y hy => ?_, fun h => w_take hF3 (by omega) (by simp [stP, h]) (fun S4 h4 hF4 y hy => ?_)⟩
    · rw [hy, nI_1, show loN w + k + 1 = loN w + (k + 1) by omega]
      exact ih (k + 1) S3 L3 (by omega) hs3 (hF3.skip (by simp [stP, h]))
    · rw [hy, nI_1, show loN w + k + 1 = loN w + (k + 1) by omega]
      exact ih (k + 1) S4 L3 (by omega) (hs3.sc h4) hF4
theorem n_line62 {w what kp : Nat} {Q : Int32 → (Nat → Int32) → (Nat → Nat → Int32) → Prop} (hx : x < 8) (hw : w < 9) (hwh : what ≤ 2) (hC : RM a x N) (hB : MB N) (hkp : a 2 (9 * x + w) = nI kp) (hQ : ∀ a', Ac a a' → Q (tF (stP N w) (loN w) (hiN w + 1 - loN w) (nI what)) f a') :
    ∀ d k : Nat, ∀ a1 : Nat → Nat → Int32, loN w + k + d = hiN w + 1 → AcX a a1 x w → vX11_line_62 Q (d + 1) (nI x) (nI w) (nI what) (nI kp) (nI (cF (stP N w) (loN w) k)) (aF (stP N w) (loN w) k) (bF (stP N w) (loN w) k) (nI (loN w + k)) f a1 := by
  have hlh := lohi w
  intro d
  induction d with
  | zero =>
    intro k a1 hk hs
    unfold vX11_line_62
    rw [n_greatest hw, ix9, nI_clamp (by omega)]
    refine ⟨fun _ => ⟨vp_in_nI (by omega) (by omega), fun a2 h2 => ?_⟩, fun z => absurd (nI_lt (by omega) (by omega)) z⟩
    have := hQ a2 (by rw [h2]; exact hs.back hkp.symm)
    rw [show hiN w + 1 - loN w = k by omega] at this
    unfold tF at this
    refine ⟨fun h0 => ⟨fun h1 => ?_, fun h1 => ?_⟩, fun h0 => ?_⟩
    · rw [if_neg h0, if_neg h1] at this; exact this
    · rw [if_neg h0, if_pos h1] at this; exact this
    · rw [if_pos h0] at this; exact this
  | succ d ih =>
    intro k a1 hk hs
    unfold vX11_line_62
    rw [n_greatest hw, ix9, nI_clamp (by omega)]
    refine ⟨fun z => absurd z (nI_nlt (by omega) (by omega)), fun _ => ⟨vp_in_nI (by omega) (by omega), fun a2 h2 => ?_⟩⟩
    subst h2
    have nx := ih (k + 1) _ (by omega) (hs.set (v := nI (loN w + k)))
    refine n_near hx (hs.rm hC) (hB.put (by omega) (by omega)) ?_
    simp only [vX11_line_98, vX11_line_112, vX11_line_130, vX11_line_132, vX11_line_146, forall_eq, nI_1, show loN w + k + 1 = loN w + (k + 1) by omega]
    refine ⟨fun h => ?_, fun h => ?_⟩
    · have hp : ¬ stP N w (loN w + k) = true := by simp [stP, h]
      unfold cF aF bF at nx
      simp only [hp] at nx
      simp only [z00, z10, not_true_eq_false, not_false_eq_true, false_implies, true_implies, true_and, and_true]
      rw [show nI (cF (stP N w) (loN w) k) + 0 = nI (cF (stP N w) (loN w) k) from by simp]
      exact nx
    · have hp : stP N w (loN w + k) = true := by simp [stP, h]
      unfold cF aF bF at nx
      simp only [hp, if_true] at nx
      simp only [z00, z10, not_true_eq_false, not_false_eq_true, false_implies, true_implies, true_and, and_true]
      refine ⟨fun h1 => ?_, fun h1 => ?_⟩
      · rw [if_neg (by rw [fa_le] at h1; rw [fa_lt]; omega)] at nx
        exact nx
      · rw [if_pos (by rw [fa_le] at h1; rw [fa_lt]; omega)] at nx
        exact nx
theorem pr_line (I : Inv K n M S R f a) (x1 x2 x3 : Int32) : vX10_line K n x1 x2 x3 S L R (fun r S' _ R' => vX11_line x1 x2 x3 f a (fun r' f' a' => r = r' ∧ Jv K n S' R' f' a')) := by
  obtain ⟨⟨hn, hRO, hS8, hf1⟩, hK, hM, hW, hF, hSh⟩ := id I
  unfold vX10_line
  refine i_mill hn hS8 (fun j hj e => ?_) (fun ho => ?_)
  · subst e
    have hm := hM j hj
    simp only [vX11_line, n_mill hn hf1 hj, z00, z10, not_true_eq_false, not_false_eq_true, false_implies, true_implies, true_and, and_true]
    refine j_w' 0 6 rfl rfl (fun h => ?_) (fun h => ?_)
    · simp only [n_in (l := 0) (g := 6) 0 6 rfl rfl h, z00, z10, not_true_eq_false, not_false_eq_true, false_implies, true_implies, true_and, and_true]
      obtain ⟨w, hw, rfl⟩ := rg_nI (hi := 6) h
      have hlh := lohi w
      refine j_w' 0 2 rfl rfl (fun h2 => ?_) (fun h2 => ?_)
      · have c5 := hm.2.1 w (by omega)
        have r5 := hm.2.2 w (by omega)
        simp only [n_in (l := 0) (g := 2) 0 2 rfl rfl h2, n_of (x := j) (w := w) (by omega) (by omega), n_least (w := w) (by omega), nI_clamp (n := w) (by omega), least_nI (w := w) (by omega), c5, r5, z00, z10, not_true_eq_false, not_false_eq_true, false_implies, true_implies, true_and, and_true]
        obtain ⟨wh, hwh, rfl⟩ := rg_nI (hi := 2) h2
        refine ⟨hj, vp_in_nI (by omega) (by omega), fun y hy => ?_⟩
        subst hy
        unfold vX1_clear
        intro S1 hS1
        refine ⟨vp_in_nI (by omega) (by omega), fun y hy => ?_⟩
        subst hy
        have s1 : Sc S S1 := by rw [hS1]; exact Sc.rfl'.up (by omega)
        refine ⟨_, w_line59 (S := S1) (N := M j) (kp := M j w) hj (by omega) hwh (hm.2.1.sc s1) hm.1 (by rw [s1 _ (by omega)]; exact c5) (fun S' L' h' => ?_) (hiN w + 1 - loN w) 0 S1 L (by omega) ScX.rfl' ⟨by rw [hS1, va_up_self, upd_self]; rfl, fun z => absurd rfl z⟩⟩
        refine ⟨_, n_line62 (N := M j) (kp := M j w) (by omega) (by omega) hwh hm.2.2 hm.1 r5 (fun a' ha' => ?_) (hiN w + 1 - loN w) 0 a (by omega) AcX.rfl'⟩
        exact ⟨rfl, M, I.go (s1.trans h') hRO Fc.rfl' ha'⟩
      · simp only [n_out (l := 0) (g := 2) 0 2 rfl rfl h2, z00, z10, not_true_eq_false, not_false_eq_true, false_implies, true_implies, true_and, and_true]
        exact ⟨M, I⟩
    · simp only [n_out (l := 0) (g := 6) 0 6 rfl rfl h, z00, z10, not_true_eq_false, not_false_eq_true, false_implies, true_implies, true_and, and_true]
      exact ⟨M, I⟩
  · simp only [vX11_line, n_mill0 hn hf1 ho, z00, z10, not_true_eq_false, not_false_eq_true, false_implies, true_implies, true_and, and_true]
    exact ⟨M, I⟩
theorem pr_better (I : Inv K n M S R f a) (x1 x2 : Int32) : vX10_better K n x1 x2 S L R (fun r S' _ R' => vX11_better x1 x2 f a (fun r' f' a' => r = r' ∧ Jv K n S' R' f' a')) := by
  obtain ⟨⟨hn, hRO, hS8, hf1⟩, hK, hM, hW, hF, hSh⟩ := id I
  unfold vX10_better
  refine i_mill hn hS8 (fun j hj e => ?_) (fun ho => ?_)
  · subst e
    have hm := hM j hj
    simp only [vX11_better, n_mill hn hf1 hj, z00, z10, not_true_eq_false, not_false_eq_true, false_implies, true_implies, true_and, and_true]
    refine j_w' 0 6 rfl rfl (fun h => ?_) (fun h => ?_)
    · simp only [n_in (l := 0) (g := 6) 0 6 rfl rfl h, z00, z10, not_true_eq_false, not_false_eq_true, false_implies, true_implies, true_and, and_true]
      obtain ⟨w, hw, rfl⟩ := rg_nI (hi := 6) h
      have hlh := lohi w
      have hb := hm.1 w (by omega)
      have c5 := hm.2.1 w (by omega)
      have r5 := hm.2.2 w (by omega)
      have v9 : vp_in (nI w) 9 := vp_in_nI (by omega) (by omega)
      have v72 : vp_in (nI (9 * j + w)) 72 := vp_in_nI (by omega) (by omega)
      simp only [n_of (x := j) (w := w) (show j < 8 by omega) (show w < 9 by omega), n_greatest (w := w) (by omega), nI_clamp (show w < 2 ^ 31 by omega), c5, r5, greatest_nI (show w < 9 by omega), ix9, nI_clamp (show 9 * j + w < 2 ^ 31 by omega)]
      refine ⟨hj, v9, fun y hy => ⟨v9, ?_⟩⟩
      subst hy
      refine ⟨fun h1 => ?_, fun h1 => ?_⟩
      · have hlt : M j w < hiN w := (nI_ltI (by omega) (by omega)).mp h1
        refine w_marginOf hj hm.2.1 hm.1 (fun S1 L1 h1 _ => ⟨v9, fun S2 h2 => ?_⟩)
        subst h2
        have hx1 : ScX S S1 j w := ScX.rfl'.sc h1
        rw [nI_1]
        refine w_marginOf hj (hx1.cm (v := M j w + 1) hm.2.1) (hm.1.put (by omega) (by omega)) (fun S3 L3 h3 _ => ⟨v9, fun S4 h4 => ?_⟩)
        have s4 : Sc S S4 := by rw [h4]; exact ((hx1.set).sc h3).back c5.symm
        have hne : ¬ nI (M j w) = nI (hiN w) := fun e => by rw [nI_eq (by omega) (by omega)] at e; omega
        simp only [n_margin (x := j) (N := M j) (a := a) (show j < 8 by omega) hm.2.2 hm.1, r5, nI_1]
        unfold vJ13_compare_74951
        have fin : ∀ r : Int32, ((r = -1 ∧ mgN (va_up (M j) w (M j w + 1)) < mgN (M j)) ∨ (r = 0 ∧ mgN (va_up (M j) w (M j w + 1)) = mgN (M j)) ∨ (r = 1 ∧ mgN (M j) < mgN (va_up (M j) w (M j w + 1)))) → (¬ nI (M j w) = nI (hiN w) → vp_in (nI (9 * j + w)) 72 ∧ vp_in (nI (9 * j + w)) 72 ∧ ∀ a17 : Nat → Nat → Int32, a17 = va_up a 2 (upd (a 2) (9 * j + w) (nI (M j w + 1))) → vX11_marginOf (nI j) f a17 (fun r18 f19 a20 => vp_in (nI (9 * j + w)) 72 ∧ vp_in (nI (9 * j + w)) 72 ∧ ∀ a23 : Nat → Nat → Int32, a23 = va_up a20 2 (upd (a20 2) (9 * j + w) (a20 2 (9 * j + w) - 1)) → (r18 ≤ mgN (M j) → (¬ r18 = mgN (M j) → r = -1 ∧ Jv K n S4 R f19 a23) ∧ (r18 = mgN (M j) → r = 0 ∧ Jv K n S4 R f19 a23)) ∧ (¬ r18 ≤ mgN (M j) → r = 1 ∧ Jv K n S4 R f19 a23))) ∧ (nI (M j w) = nI (hiN w) → r = -3 ∧ Jv K n S4 R f a) := by
          intro r hr
          refine ⟨fun _ => ⟨v72, v72, fun a17 h17 => ?_⟩, fun z => absurd z hne⟩
          subst h17
          rw [n_margin (N := va_up (M j) w (M j w + 1)) (by omega) (AcX.rfl'.rm hm.2.2) (hm.1.put (by omega) (by omega))]
          refine ⟨v72, v72, fun a23 h23 => ?_⟩
          have ha : Ac a a23 := by
            rw [h23, va_up_self, upd_self, nI_pred]
            have := (AcX.rfl' (a := a) (x := j) (w := w)).set (v := nI (M j w + 1))
            have := this.back (v := nI (M j w)) r5.symm
            rw [va_up_self] at this
            exact this
          have J : Jv K n S4 R f a23 := ⟨M, I.go s4 hRO Fc.rfl' ha⟩
          refine ⟨fun h5 => ⟨fun h6 => ⟨?_, J⟩, fun h6 => ⟨?_, J⟩⟩, fun h5 => ⟨?_, J⟩⟩
          · rcases hr with z | z | z
            · exact z.1
            · exact absurd z.2 h6
            · rw [fa_le64] at h5; rw [fa_lt64] at z; omega
          · rcases hr with z | z | z
            · rw [h6, fa_lt64] at z; omega
            · exact z.1
            · rw [h6, fa_lt64] at z; omega
          · rcases hr with z | z | z
            · rw [fa_le64] at h5; rw [fa_lt64] at z; omega
            · rw [fa_le64] at h5; rw [fa_eq64] at z; omega
            · exact z.1
        refine ⟨fun h5 => ⟨fun h6 => ?_, fun h6 => ?_⟩, fun h5 => ?_⟩
        · exact fin 1 (Or.inr (Or.inr ⟨rfl, by rw [fa_le64] at h5; rw [fa_eq64] at h6; rw [fa_lt64]; omega⟩))
        · exact fin 0 (Or.inr (Or.inl ⟨rfl, h6⟩))
        · exact fin (-1) (Or.inl ⟨rfl, by rw [fa_le64] at h5; rw [fa_lt64]; omega⟩)
      · have he : M j w = hiN w := by
          have := (not_congr (nI_ltI (show M j w < 2 ^ 31 by omega) (show hiN w < 2 ^ 31 by omega))).mp h1
          omega
        refine ⟨fun z => absurd (by rw [he]) z, fun _ => ?_⟩
        first | exact ⟨rfl, M, I⟩ | exact ⟨trivial, M, I⟩ | exact ⟨M, I⟩
    · simp only [n_out (l := 0) (g := 6) 0 6 rfl rfl h, z00, z10, not_true_eq_false, not_false_eq_true, false_implies, true_implies, true_and, and_true]
      exact ⟨M, I⟩
  · simp only [vX11_better, n_mill0 hn hf1 ho, z00, z10, not_true_eq_false, not_false_eq_true, false_implies, true_implies, true_and, and_true]
    exact ⟨M, I⟩
end LI
