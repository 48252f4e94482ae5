/-! far from rest: one tick, as a function; a mill at a gate is its nine numbers and its kind, or nothing -/
def wtN (N : Nat → Nat) (felt missed : Int32) : Int32 := bnd (50 - (nI (N 5) * (felt - 100) + nI (N 6) * missed / 10) / 10) 0 100
def msN (N : Nat → Nat) (felt missed : Int32) : Int32 := if N 6 = 0 then missed else bnd (missed + felt - 100) (-9999) 9999
def moN (N : Nat → Nat) : Int32 := if (1 : Int32) < 40 / nI (N 3 + 1) then 40 / nI (N 3 + 1) else 1
def obN (N : Nat → Nat) (v w : Int32) : Int32 := v + bnd (w - v) (-(moN N)) (moN N)
def vlN (k : Nat) (N : Nat → Nat) (v w : Int32) : Int32 := if k = 0 then w else if k = 1 then obN N v w else if nI (N 8) ≤ (if 0 ≤ w - v then w - v else 0 - (w - v)) then obN N v w else v
abbrev GM : Type := Option ((Nat → Nat) × Nat)
def nmG (q : GM) (w : Nat) : Int32 := match q with
  | none => 0
  | some q => nI (q.1 w)
def ltG (q : GM) : Nat := match q with
  | none => 0
  | some q => q.1 7
def vlG (q : GM) (v m felt : Int32) : Int32 := match q with
  | none => 0
  | some q => vlN q.2 q.1 v (wtN q.1 felt m)
def msG (q : GM) (m felt : Int32) : Int32 := match q with
  | none => 0
  | some q => msN q.1 felt m
/-- a tick: places 0 to 3 the beats (now, one ago ..), 4, 5 valve and missed of the one, 6, 7 of the other -/
def stR (p q : GM) (load : Int32) (s : Nat → Int32) : Nat → Int32 := fun c => match c with
  | 0 => bnd (s 0 + (10 * (vlG p (s 4) (s 5) (s (ltG p)) + vlG q (s 6) (s 7) (s (ltG q))) - 10 * load - (nmG p 1 + nmG q 1) * (s 0 - 100)) / (nmG p 0 + nmG q 0)) 0 999
  | 1 => s 0
  | 2 => s 1
  | 3 => s 2
  | 4 => vlG p (s 4) (s 5) (s (ltG p))
  | 5 => msG p (s 5) (s (ltG p))
  | 6 => vlG q (s 6) (s 7) (s (ltG q))
  | _ => msG q (s 7) (s (ltG q))
def rnR (p q : GM) (load : Int32) (s : Nat → Int32) : Nat → Nat → Int32
  | 0 => s
  | t + 1 => stR p q load (rnR p q load s t)
def uG (q : GM) (u : Int32) : Int32 := match q with
  | none => 0
  | some _ => u
def s0R (q : GM) (v u : Int32) : Nat → Int32 := fun c => if c ≤ 3 then v else if c = 4 then u else if c = 6 then uG q u else 0
def okG (q : GM) : Prop := ∀ z, q = some z → MB z.1 ∧ z.2 < 3
theorem okG.lt {q : GM} (h : okG q) : ltG q ≤ 3 := by
  cases q with
  | none => exact Nat.zero_le 3
  | some z => exact ((h z rfl).1 7 (by omega)).2
/-- a gate of the class -/
def GB (K : Nat → Nat) (n : Nat) (S : Nat → Nat → Int32) (R : Nat → Option Nat) (g : Nat) (q : GM) : Prop := match q with
  | none => R (15 + 3 * g) = none
  | some z => ∃ y, R (15 + 3 * g) = some y ∧ y < n ∧ CM S y z.1 ∧ K y = z.2 ∧ MB z.1
theorem GB.sc {K : Nat → Nat} {n : Nat} {S S' : Nat → Nat → Int32} {R : Nat → Option Nat} {g : Nat} {q : GM} (h : GB K n S R g q) (hs : Sc S S') : GB K n S' R g q := by
  cases q with
  | none => exact h
  | some z =>
    obtain ⟨y, h1, h2, h3, h4, h5⟩ := h
    exact ⟨y, h1, h2, h3.sc hs, h4, h5⟩
section TI
variable {K : Nat → Nat} {n : Nat} {M : Nat → Nat → Nat} {S : Nat → Nat → Int32} {L : Nat → Int64} {R : Nat → Option Nat} {f : Nat → Int32} {a : Nat → Nat → Int32}
variable {N : Nat → Nat}
theorem w_number {g w : Nat} {q : GM} {Q : Int32 → (Nat → Nat → Int32) → (Nat → Int64) → (Nat → Option Nat) → Prop} (hG : GB K n S R g q) (hw : w < 9) : vX2_number K n g (nI w) S L R Q = Q (nmG q w) S L R := by
  unfold vX2_number
  cases q with
  | none =>
    simp only [show R (15 + 3 * g) = none from hG, forall_eq, nmG, reduceCtorEq, false_implies, implies_true, and_true, true_implies]
  | some z =>
    obtain ⟨y, h1, h2, h3, h4, h5⟩ := hG
    simp only [h1, forall_eq, nmG, reduceCtorEq, false_implies, true_and, Option.some.injEq, forall_eq', exists_eq_left', h2, vpn hw (show 9 < 2 ^ 31 by omega), nI_clamp (show w < 2 ^ 31 by omega), h3 w hw]
theorem w_numberl {g w : Nat} {q : GM} {Q : Int32 → (Nat → Nat → Int32) → (Nat → Int64) → (Nat → Option Nat) → Prop} (hG : GB K n S R g q) (hw : w < 9) : vX2_number K n g (OfNat.ofNat w) S L R Q = Q (nmG q w) S L R := w_number hG hw
theorem w_ob {x : Nat} {v w : Int32} {Q : Int32 → (Nat → Nat → Int32) → (Nat → Int64) → (Nat → Option Nat) → Prop} (hC : CM S x N) (hB : MB N) : vX3_valveBehind K n x v w S L R Q = Q (obN N v w) S L R := by
  have b3 := hB.lt (w := 3) (by omega)
  unfold vX3_valveBehind
  rw [show (3 : Int32).toNatClampNeg = 3 from rfl, hC 3 (by omega), nI_1, w_quot (nI_ne0 (by omega) (by omega))]
  simp only [w_bounded, forall_eq, vpl (n := 3) (N := 9) (by omega) (by omega), true_and]
  rfl
theorem w_st {x : Nat} {v w : Int32} {Q : Int32 → (Nat → Nat → Int32) → (Nat → Int64) → (Nat → Option Nat) → Prop} (hC : CM S x N) (hB : MB N) : vX7_valveBehind K n x v w S L R Q = Q (vlN 2 N v w) S L R := by
  unfold vX7_valveBehind
  rw [show (8 : Int32).toNatClampNeg = 8 from rfl, hC 8 (by omega), w_ob hC hB]
  simp only [vpl (n := 8) (N := 9) (by omega) (by omega), true_and]
  have e : vlN 2 N v w = if nI (N 8) ≤ (if 0 ≤ w - v then w - v else 0 - (w - v)) then obN N v w else v := rfl
  rw [e]
  by_cases h : nI (N 8) ≤ (if 0 ≤ w - v then w - v else 0 - (w - v))
  · rw [if_pos h]
    exact propext ⟨fun x => x.1 h, fun x => ⟨fun _ => x, fun z => absurd h z⟩⟩
  · rw [if_neg h]
    exact propext ⟨fun x => x.2 h, fun x => ⟨fun z => absurd z h, fun _ => x⟩⟩
theorem w_wanted {x : Nat} {felt m : Int32} {Q : Int32 → (Nat → Nat → Int32) → (Nat → Int64) → (Nat → Option Nat) → Prop} (hC : CM S x N) : vX4_wanted K n x felt m S L R Q = Q (wtN N felt m) S L R := by
  unfold vX4_wanted
  rw [show (5 : Int32).toNatClampNeg = 5 from rfl, show (6 : Int32).toNatClampNeg = 6 from rfl, hC 5 (by omega), hC 6 (by omega)]
  simp only [w_bounded, forall_eq, vpl (n := 5) (N := 9) (by omega) (by omega), vpl (n := 6) (N := 9) (by omega) (by omega), true_and]
  rfl
theorem w_missed {x : Nat} {felt m : Int32} {Q : Int32 → (Nat → Nat → Int32) → (Nat → Int64) → (Nat → Option Nat) → Prop} (hC : CM S x N) (hB : MB N) : vX4_missedBehind K n x felt m S L R Q = Q (msN N felt m) S L R := by
  have b6 := hB.lt (w := 6) (by omega)
  unfold vX4_missedBehind
  rw [show (6 : Int32).toNatClampNeg = 6 from rfl, hC 6 (by omega)]
  have z6 : nI (N 6) = 0 ↔ N 6 = 0 := nI_eq (b := 0) (by omega) (by omega)
  simp only [w_bounded, vpl (n := 6) (N := 9) (by omega) (by omega), true_and, z6]
  unfold msN
  by_cases h : N 6 = 0
  · rw [if_pos h]
    simp only [h, z00, z10, not_true_eq_false, not_false_eq_true, false_implies, true_implies, true_and, and_true]
  · rw [if_neg h]
    simp only [h, z00, z10, not_true_eq_false, not_false_eq_true, false_implies, true_implies, true_and, and_true]
theorem w_gtick {g t : Nat} {q : GM} {felt : Int32} {Q : (Nat → Nat → Int32) → (Nat → Int64) → (Nat → Option Nat) → Prop} (hG : GB K n S R g q) (hg : g < 2) (hk : okG q) (ht : t < 300) (hQ : Q (va_up (va_up S (16 + 3 * g) (upd (S (16 + 3 * g)) (t + 1) (vlG q (S (16 + 3 * g) t) (S (17 + 3 * g) t) felt))) (17 + 3 * g) (upd (S (17 + 3 * g)) (t + 1) (msG q (S (17 + 3 * g) t) felt))) L R) : vX2_tick K n g (nI t) felt S L R Q := by
  have vt : vp_in (nI t) 301 := vp_in_nI (by omega) (by omega)
  have vt1 : vp_in (nI t + 1) 301 := by rw [nI_1]; exact vp_in_nI (by omega) (by omega)
  have ct : (nI t).toNatClampNeg = t := nI_clamp (by omega)
  have ct1 : (nI t + 1).toNatClampNeg = t + 1 := by rw [nI_1, nI_clamp (by omega)]
  unfold vX2_tick
  cases q with
  | none =>
    intro o ho
    rw [show R (15 + 3 * g) = none from hG] at ho
    subst ho
    refine ⟨fun _ => ⟨vt1, fun S1 h1 => ⟨vt1, fun S2 h2 => ?_⟩⟩, fun mi hmi => (by cases hmi)⟩
    rw [ct1] at h1 h2
    rw [h2, h1, va_up_ne _ _ (show 17 + 3 * g ≠ 16 + 3 * g by omega)]
    exact hQ
  | some z =>
    obtain ⟨y, h1, h2, h3, h4, h5⟩ := hG
    obtain ⟨-, hk3⟩ := hk z rfl
    intro o ho
    rw [h1] at ho
    subst ho
    refine ⟨fun q => (by cases q), fun mi hmi o7 ho7 => ⟨vt, fun o9 ho9 => ⟨vt, y, by rw [ho9, h1], h2, ?_⟩⟩⟩
    rw [w_wanted h3, ct]
    refine ⟨y, by rw [ho7, h1], h2, ?_⟩
    have fin : ∀ (S1 : Nat → Nat → Int32) (r : Int32), S1 = S → r = vlN z.2 z.1 (S (16 + 3 * g) t) (wtN z.1 felt (S (17 + 3 * g) t)) → vp_in (nI t + 1) 301 ∧ (∀ S24 : Nat → Nat → Int32, S24 = va_up S1 (16 + 3 * g) (upd (S1 (16 + 3 * g)) (nI t + 1).toNatClampNeg r) → ∀ o25 : Option Nat, o25 = R (15 + 3 * g) → vp_in (nI t) 301 ∧ (∃ mi27 : Nat, o25 = some mi27 ∧ (mi27 < n ∧ (vX4_missedBehind K n mi27 felt (S24 (17 + 3 * g) t) S24 L R (fun r28 S29 L30 R31 => vp_in (nI t + 1) 301 ∧ (∀ S34 : Nat → Nat → Int32, S34 = va_up S29 (17 + 3 * g) (upd (S29 (17 + 3 * g)) (nI t + 1).toNatClampNeg r28) → Q S34 L30 R31)))))) := by
      intro S1 r e1 er
      subst e1
      refine ⟨vt1, fun S2 e2 o25 ho25 => ⟨vt, y, by rw [ho25, h1], h2, ?_⟩⟩
      have hc2 : CM S2 y z.1 := fun w hw => by rw [e2, va_up_ne _ _ (by omega)]; exact h3 w hw
      rw [w_missed hc2 h5, ct1]
      refine ⟨vt1, fun S3 e3 => ?_⟩
      rw [e3, e2, va_up_ne _ _ (show 17 + 3 * g ≠ 16 + 3 * g by omega), er, ct1]
      exact hQ
    refine ⟨fun k0 => ?_, fun k1 => ?_, fun k0 k1 => ?_⟩
    · unfold vX4_valveBehind
      exact fin S _ rfl (by rw [← h4, k0]; rfl)
    · rw [w_ob h3 h5]
      exact fin S _ rfl (by rw [← h4, k1]; rfl)
    · rw [w_st h3 h5]
      exact fin S _ rfl (by rw [show z.2 = 2 by omega])
theorem nI_3 {t l : Nat} (hl : l ≤ 3) : (3 : Int32) + (nI t - nI l) = nI (3 + t - l) := by
  rw [← nI_sub (show l ≤ 3 + t by omega), ← nI_add, show (3 : Int32) = nI 3 from rfl, Int32.sub_eq_add_neg, Int32.sub_eq_add_neg, Int32.add_assoc]
theorem w_beatAgo {t l : Nat} {Q : Int32 → (Nat → Nat → Int32) → (Nat → Int64) → (Nat → Option Nat) → Prop} (ht : t ≤ 300) (hl : l ≤ 3) : vX5_beatAt K n (nI t - nI l) S L R Q = Q (S 10 (3 + t - l)) S L R := by
  unfold vX5_beatAt
  rw [nI_3 hl, nI_clamp (by omega)]
  simp only [vp_in_nI (show 3 + t - l < 304 by omega) (show 304 < 2 ^ 31 by omega), true_and]
theorem w_beatAt {t : Nat} {Q : Int32 → (Nat → Nat → Int32) → (Nat → Int64) → (Nat → Option Nat) → Prop} (ht : t ≤ 300) : vX5_beatAt K n (nI t) S L R Q = Q (S 10 (3 + t)) S L R := by
  unfold vX5_beatAt
  rw [show (3 : Int32) + nI t = nI (3 + t) from nI_add 3 t, nI_clamp (by omega)]
  simp only [vp_in_nI (show 3 + t < 304 by omega) (show 304 < 2 ^ 31 by omega), true_and]
/-- the class's rows hold ticks 0 to t of r -/
def CR (r : Nat → Nat → Int32) (t : Nat) (S : Nat → Nat → Int32) : Prop := ∀ j, j ≤ t → (∀ k, k ≤ 3 → S 10 (3 + j - k) = r j k) ∧ S 16 j = r j 4 ∧ S 17 j = r j 5 ∧ S 19 j = r j 6 ∧ S 20 j = r j 7
/-- a shaft that has begun -/
def ShB (S : Nat → Nat → Int32) (p q : GM) (load : Int32) (late : Nat) : Prop := S 9 5 = load ∧ S 9 6 = nI late ∧ S 9 7 = nmG p 1 + nmG q 1 ∧ S 9 8 = nmG p 0 + nmG q 0
theorem wheel_ne {p q : GM} (hp : okG p) (hq : okG q) {z : (Nat → Nat) × Nat} (hz : p = some z) : ¬ nmG p 0 + nmG q 0 = 0 := by
  subst hz
  have h1 := ((hp z rfl).1 0 (by omega)).1
  have h1' : 1 ≤ z.1 0 := h1
  have h2 := (hp z rfl).1.lt (w := 0) (by omega)
  cases q with
  | none =>
    simp only [nmG]
    rw [show nI (z.1 0) + 0 = nI (z.1 0) by simp]
    exact nI_ne0 (by omega) (by omega)
  | some y =>
    have h3 := (hq y rfl).1.lt (w := 0) (by omega)
    simp only [nmG]
    rw [nI_add]
    exact nI_ne0 (by omega) (by omega)
theorem w_tick {p q : GM} {load : Int32} {s : Nat → Int32} {t late : Nat} {z : (Nat → Nat) × Nat} {Q : (Nat → Nat → Int32) → (Nat → Int64) → (Nat → Option Nat) → Prop} (hz : p = some z) (hp : okG p) (hq : okG q) (gp : GB K n S R 0 p) (gq : GB K n S R 1 q) (hB : ShB S p q load late) (ht : t < 300) (hr : CR (rnR p q load s) t S)
    (hQ : ∀ S', Sc S S' → S' 9 = S 9 → S' 11 = S 11 → S' 12 = S 12 → S' 13 = S 13 → CR (rnR p q load s) (t + 1) S' → Q S' L R) : vX5_tick K n (nI t) S L R Q := by
  have lp := hp.lt
  have lq := hq.lt
  obtain ⟨rb, r16, r17, r19, r20⟩ := hr t (Nat.le_refl _)
  unfold vX5_tick
  rw [w_in (by rw [nI_toInt (by omega)]; show (0 : Int) ≤ _; omega) (by rw [nI_toInt (by omega)]; show _ ≤ (299 : Int); omega)]
  simp only [z00, z10, not_true_eq_false, not_false_eq_true, false_implies, true_implies, true_and, and_true]
  rw [w_numberl (w := 7) gp (by omega)]
  have e7 : ∀ {q : GM}, nmG q 7 = nI (ltG q) := fun {q} => by cases q <;> rfl
  rw [e7, w_beatAgo (by omega) lp, rb _ lp]
  refine w_gtick gp (by omega) hp ht ?_
  generalize hA : va_up (va_up S (16 + 3 * 0) (upd (S (16 + 3 * 0)) (t + 1) (vlG p (S (16 + 3 * 0) t) (S (17 + 3 * 0) t) (rnR p q load s t (ltG p))))) (17 + 3 * 0) (upd (S (17 + 3 * 0)) (t + 1) (msG p (S (17 + 3 * 0) t) (rnR p q load s t (ltG p)))) = S1
  have a16 : S1 16 = upd (S 16) (t + 1) (vlG p (S 16 t) (S 17 t) (rnR p q load s t (ltG p))) := by rw [← hA]; rw [va_up_ne _ _ (by omega)]; exact va_up_self _ _ _
  have a17 : S1 17 = upd (S 17) (t + 1) (msG p (S 17 t) (rnR p q load s t (ltG p))) := by rw [← hA]; exact va_up_self _ _ _
  have aO : ∀ i, i ≠ 16 → i ≠ 17 → S1 i = S i := fun i h1 h2 => by rw [← hA, va_up_ne _ _ (by omega), va_up_ne _ _ (by omega)]
  have sc1 : Sc S S1 := fun i hi => aO i (by omega) (by omega)
  rw [w_numberl (w := 7) (gq.sc sc1) (by omega), e7, w_beatAgo (by omega) lq, aO 10 (by omega) (by omega), rb _ lq]
  refine w_gtick (gq.sc sc1) (by omega) hq ht ?_
  generalize hA2 : va_up (va_up S1 (16 + 3 * 1) (upd (S1 (16 + 3 * 1)) (t + 1) (vlG q (S1 (16 + 3 * 1) t) (S1 (17 + 3 * 1) t) (rnR p q load s t (ltG q))))) (17 + 3 * 1) (upd (S1 (17 + 3 * 1)) (t + 1) (msG q (S1 (17 + 3 * 1) t) (rnR p q load s t (ltG q)))) = S2
  have b19 : S2 19 = upd (S 19) (t + 1) (vlG q (S 19 t) (S 20 t) (rnR p q load s t (ltG q))) := by rw [← hA2, va_up_ne _ _ (by omega)]; rw [show (16 + 3 * 1 : Nat) = 19 from rfl, show (17 + 3 * 1 : Nat) = 20 from rfl, va_up_self, aO 19 (by omega) (by omega), aO 20 (by omega) (by omega)]
  have b20 : S2 20 = upd (S 20) (t + 1) (msG q (S 20 t) (rnR p q load s t (ltG q))) := by rw [← hA2]; rw [show (16 + 3 * 1 : Nat) = 19 from rfl, show (17 + 3 * 1 : Nat) = 20 from rfl, va_up_self, aO 20 (by omega) (by omega)]
  have bO : ∀ i, i ≠ 16 → i ≠ 17 → i ≠ 19 → i ≠ 20 → S2 i = S i := fun i h1 h2 h3 h4 => by rw [← hA2, va_up_ne _ _ (by omega), va_up_ne _ _ (by omega)]; exact aO i h1 h2
  have b16 : S2 16 = S1 16 := by rw [← hA2, va_up_ne _ _ (by omega), va_up_ne _ _ (by omega)]
  have b17 : S2 17 = S1 17 := by rw [← hA2, va_up_ne _ _ (by omega), va_up_ne _ _ (by omega)]
  have vt1 : vp_in (nI t + 1) 301 := by rw [nI_1]; exact vp_in_nI (by omega) (by omega)
  have ct1 : (nI t + 1).toNatClampNeg = t + 1 := by rw [nI_1, nI_clamp (by omega)]
  rw [w_beatAt (by omega)]
  refine ⟨vt1, vt1, fun y hy y2 hy2 => ?_⟩
  rw [show (16 + 3 * 0 : Nat) = 16 from rfl, show (16 + 3 * 1 : Nat) = 19 from rfl, ct1, b16, a16, b19, upd_self, upd_self, r16, r17, r19, r20] at hy
  rw [bO 9 (by omega) (by omega) (by omega) (by omega), hB.1, hB.2.2.1, bO 10 (by omega) (by omega) (by omega) (by omega), (show S 10 (3 + t) = _ from rb 0 (by omega)), hy] at hy2
  rw [bO 9 (by omega) (by omega) (by omega) (by omega), hB.2.2.2, bO 10 (by omega) (by omega) (by omega) (by omega), (show S 10 (3 + t) = _ from rb 0 (by omega)), w_quot (wheel_ne hp hq hz), w_bounded, hy2]
  have ix : (3 : Int32) + nI t + 1 = nI (t + 4) := by rw [show (3 : Int32) = nI 3 from rfl, nI_add, nI_1]; congr 1; omega
  rw [ix, nI_clamp (by omega)]
  refine ⟨vp_in_nI (by omega) (by omega), fun S3 h3 => ?_⟩
  have cO : ∀ i, i ≠ 10 → i ≠ 16 → i ≠ 17 → i ≠ 19 → i ≠ 20 → S3 i = S i := fun i h0 h1 h2 h4 h5 => by rw [h3, va_up_ne _ _ h0]; exact bO i h1 h2 h4 h5
  refine hQ S3 (fun i hi => cO i (by omega) (by omega) (by omega) (by omega) (by omega)) (cO 9 (by omega) (by omega) (by omega) (by omega) (by omega)) (cO 11 (by omega) (by omega) (by omega) (by omega) (by omega)) (cO 12 (by omega) (by omega) (by omega) (by omega) (by omega)) (cO 13 (by omega) (by omega) (by omega) (by omega) (by omega)) (fun j hj => ?_)
  have c10 : S3 10 = upd (S 10) (t + 4) (stR p q load (rnR p q load s t) 0) := by rw [h3, va_up_self]; rfl
  have c16 : S3 16 = upd (S 16) (t + 1) (stR p q load (rnR p q load s t) 4) := by rw [h3, va_up_ne _ _ (by omega), b16, a16, r16, r17]; rfl
  have c17 : S3 17 = upd (S 17) (t + 1) (stR p q load (rnR p q load s t) 5) := by rw [h3, va_up_ne _ _ (by omega), b17, a17, r17]; rfl
  have c19 : S3 19 = upd (S 19) (t + 1) (stR p q load (rnR p q load s t) 6) := by rw [h3, va_up_ne _ _ (by omega), b19, r19, r20]; rfl
  have c20 : S3 20 = upd (S 20) (t + 1) (stR p q load (rnR p q load s t) 7) := by rw [h3, va_up_ne _ _ (by omega), b20, r20]; rfl
  rw [c10, c16, c17, c19, c20]
  rcases (show j ≤ t ∨ j = t + 1 by omega) with z | rfl
  · obtain ⟨g1, g2⟩ := hr j z
    rw [upd_ne _ _ (show j ≠ t + 1 by omega), upd_ne _ _ (show j ≠ t + 1 by omega), upd_ne _ _ (show j ≠ t + 1 by omega), upd_ne _ _ (show j ≠ t + 1 by omega)]
    exact ⟨fun k hk => by rw [upd_ne _ _ (by omega)]; exact g1 k hk, g2⟩
  · rw [upd_self, upd_self, upd_self, upd_self]
    refine ⟨fun k hk => ?_, rfl, rfl, rfl, rfl⟩
    rcases (show k = 0 ∨ k = 1 ∨ k = 2 ∨ k = 3 by omega) with rfl | rfl | rfl | rfl
    · rw [show 3 + (t + 1) - 0 = t + 4 by omega, upd_self]; rfl
    · rw [upd_ne _ _ (by omega), show 3 + (t + 1) - 1 = 3 + t - 0 by omega]; exact rb 0 (by omega)
    · rw [upd_ne _ _ (by omega), show 3 + (t + 1) - 2 = 3 + t - 1 by omega]; exact rb 1 (by omega)
    · rw [upd_ne _ _ (by omega), show 3 + (t + 1) - 3 = 3 + t - 2 by omega]; exact rb 2 (by omega)
end TI
