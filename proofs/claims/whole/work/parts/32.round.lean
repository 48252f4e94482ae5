/-! when it comes round: the class, by buckets -/
def lk (r : Nat → Nat → Int32) (late s t : Nat) : Prop := (∀ k, k ≤ late → r s k = r t k) ∧ r s 4 = r t 4 ∧ r s 5 = r t 5 ∧ r s 6 = r t 6 ∧ r s 7 = r t 7
def NR (r : Nat → Nat → Int32) (late t : Nat) : Prop := ∀ t', t' ≤ t → ∀ s, s < t' → ¬ lk r late s t'
def mnB (r : Nat → Nat → Int32) : Nat → Int32
  | 0 => r 0 0
  | t + 1 => if r (t + 1) 0 < mnB r t then r (t + 1) 0 else mnB r t
def mxB (r : Nat → Nat → Int32) : Nat → Int32
  | 0 => r 0 0
  | t + 1 => if mxB r t < r (t + 1) 0 then r (t + 1) 0 else mxB r t
def EnR (r : Nat → Nat → Int32) (late t d : Nat) : Prop := 1 ≤ t ∧ t ≤ 300 ∧ ((∃ s, s < t ∧ lk r late s t ∧ d = t - s ∧ NR r late (t - 1)) ∨ (t = 300 ∧ d = 0 ∧ NR r late 300))
theorem lk.symm {r : Nat → Nat → Int32} {late s t : Nat} (h : lk r late s t) : lk r late t s := ⟨fun k hk => (h.1 k hk).symm, h.2.1.symm, h.2.2.1.symm, h.2.2.2.1.symm, h.2.2.2.2.symm⟩
theorem lk.trans {r : Nat → Nat → Int32} {late s t u : Nat} (h : lk r late s t) (g : lk r late t u) : lk r late s u := ⟨fun k hk => (h.1 k hk).trans (g.1 k hk), h.2.1.trans g.2.1, h.2.2.1.trans g.2.2.1, h.2.2.2.1.trans g.2.2.2.1, h.2.2.2.2.trans g.2.2.2.2⟩
theorem EnR.uniq {r : Nat → Nat → Int32} {late t d t' d' : Nat} (h : EnR r late t d) (g : EnR r late t' d') : t' = t ∧ d' = d := by
  obtain ⟨h1, h2, h3⟩ := h
  obtain ⟨g1, g2, g3⟩ := g
  rcases h3 with ⟨s, s1, s2, s3, s4⟩ | ⟨e1, e2, e3⟩
  · rcases g3 with ⟨u, u1, u2, u3, u4⟩ | ⟨f1, f2, f3⟩
    · have et : t' = t := by
        rcases Nat.lt_trichotomy t' t with z | z | z
        · exact absurd u2 (s4 t' (by omega) u u1)
        · exact z
        · exact absurd s2 (u4 t (by omega) s s1)
      subst et
      have es : u = s := by
        rcases Nat.lt_trichotomy u s with z | z | z
        · exact absurd (u2.trans s2.symm) (s4 s (by omega) u z)
        · exact z
        · exact absurd (s2.trans u2.symm) (s4 u (by omega) s z)
      subst es
      exact ⟨rfl, by omega⟩
    · exact absurd s2 (f3 t (by omega) s s1)
  · rcases g3 with ⟨u, u1, u2, u3, u4⟩ | ⟨f1, f2, f3⟩
    · exact absurd u2 (e3 t' (by omega) u u1)
    · exact ⟨by omega, by omega⟩
def bkR (r : Nat → Nat → Int32) (t : Nat) : Int32 := ((((31 * r t 0) + (17 * r t 4)) + (7 * r t 6)) + r t 5 + (3 * r t 7)) &&& 255
theorem bkR_lk {r : Nat → Nat → Int32} {late s t : Nat} (h : lk r late s t) : bkR r s = bkR r t := by
  unfold bkR
  rw [h.1 0 (by omega), h.2.1, h.2.2.1, h.2.2.2.1, h.2.2.2.2]
theorem bkR_n (r : Nat → Nat → Int32) (t : Nat) : ∃ b : Nat, b < 256 ∧ bkR r t = nI b := pk_andE _ 8 (by decide)
def tpB (r : Nat → Nat → Int32) : Nat → Int32 → Int32
  | 0, _ => -1
  | t + 1, b => if bkR r t = b then nI t else tpB r t b
def LT (r : Nat → Nat → Int32) (t : Nat) (S : Nat → Nat → Int32) : Prop := (∀ b, b < 256 → S 11 b = tpB r t (nI b)) ∧ ∀ s, s < t → S 12 s = tpB r s (bkR r s)
section RD
variable {K : Nat → Nat} {n : Nat} {M : Nat → Nat → Nat} {S : Nat → Nat → Int32} {L : Nat → Int64} {R : Nat → Option Nat} {f : Nat → Int32} {a : Nat → Nat → Int32}
variable {r : Nat → Nat → Int32}
theorem w_gal {g s t : Nat} {Q : Int32 → (Nat → Nat → Int32) → (Nat → Int64) → (Nat → Option Nat) → Prop} (hs : s ≤ 300) (ht : t ≤ 300) (h1 : S (16 + 3 * g) s = S (16 + 3 * g) t → S (17 + 3 * g) s = S (17 + 3 * g) t → Q 1 S L R) (h0 : ¬ (S (16 + 3 * g) s = S (16 + 3 * g) t ∧ S (17 + 3 * g) s = S (17 + 3 * g) t) → Q 0 S L R) : vX2_isAlike K n g (nI s) (nI t) S L R Q := by
  have v1 : vp_in (nI s) 301 := vp_in_nI (by omega) (by omega)
  have v2 : vp_in (nI t) 301 := vp_in_nI (by omega) (by omega)
  unfold vX2_isAlike
  rw [nI_clamp (show s < 2 ^ 31 by omega), nI_clamp (show t < 2 ^ 31 by omega)]
  exact ⟨v1, v2, fun h => h0 (fun z => h z.1), fun h => ⟨v1, v2, fun g => h0 (fun z => g z.2), fun g => h1 h g⟩⟩
theorem w_alike {late s t u : Nat} {Q : Int32 → (Nat → Nat → Int32) → (Nat → Int64) → (Nat → Option Nat) → Prop} (h6 : S 9 6 = nI late) (hl : late ≤ 3) (hr : CR r u S) (hs : s ≤ u) (ht : t ≤ u) (hu : u ≤ 300) (h1 : lk r late s t → Q 1 S L R) (h0 : ¬ lk r late s t → Q 0 S L R) : vX5_isAlike K n (nI s) (nI t) S L R Q := by
  obtain ⟨sb, s16, s17, s19, s20⟩ := hr s hs
  obtain ⟨tb, t16, t17, t19, t20⟩ := hr t ht
  have key : ∀ d k : Nat, k + d = late + 1 → (∀ j, j < k → r s j = r t j) → vX5_isAlike_2 K n Q (d + 1) (nI s) (nI t) (nI k) S L R := by
    intro d
    induction d with
    | zero =>
      intro k hk hp
      unfold vX5_isAlike_2
      rw [h6]
      refine ⟨fun _ => ?_, fun z => absurd (nI_lt (by omega) (by omega)) z⟩
      refine w_gal (by omega) (by omega) (fun a1 a2 => ⟨fun z => absurd z (by decide), fun _ => ?_⟩) (fun hn => ⟨fun _ => h0 (fun l => hn ?_), fun z => absurd rfl z⟩)
      · refine w_gal (by omega) (by omega) (fun a3 a4 => ⟨fun z => absurd z (by decide), fun _ => h1 ⟨fun j hj => hp j (by omega), ?_, ?_, ?_, ?_⟩⟩) (fun hn => ⟨fun _ => h0 (fun l => hn ?_), fun z => absurd rfl z⟩)
        · rw [← s16, ← t16]; exact a1
        · rw [← s17, ← t17]; exact a2
        · rw [← s19, ← t19]; exact a3
        · rw [← s20, ← t20]; exact a4
        · show S 19 s = S 19 t ∧ S 20 s = S 20 t
          rw [s19, s20, t19, t20]
          exact ⟨l.2.2.2.1, l.2.2.2.2⟩
      · show S 16 s = S 16 t ∧ S 17 s = S 17 t
        rw [s16, s17, t16, t17]
        exact ⟨l.2.1, l.2.2.1⟩
    | succ d ih =>
      intro k hk hp
      unfold vX5_isAlike_2
      rw [h6]
      refine ⟨fun z => absurd z (nI_nlt (by omega) (by omega)), fun _ => ?_⟩
      rw [w_beatAgo (by omega) (by omega), w_beatAgo (by omega) (by omega), sb k (by omega), tb k (by omega)]
      refine ⟨fun h y hy => ?_, fun h => h0 (fun l => h (l.1 k (by omega)))⟩
      rw [hy, nI_1]
      refine ih (k + 1) (by omega) (fun j hj => ?_)
      rcases (show j < k ∨ j = k by omega) with z | rfl
      · exact hp j z
      · exact h
  exact ⟨late + 1 + 1, key (late + 1) 0 (by omega) (fun j hj => by omega)⟩
theorem w_bucket {t u : Nat} {Q : Int32 → (Nat → Nat → Int32) → (Nat → Int64) → (Nat → Option Nat) → Prop} (hr : CR r u S) (ht : t ≤ u) (hu : u ≤ 300) : vX5_bucketOf K n (nI t) S L R Q = Q (bkR r t) S L R := by
  obtain ⟨tb, t16, t17, t19, t20⟩ := hr t ht
  have v : vp_in (nI t) 301 := vp_in_nI (by omega) (by omega)
  unfold vX5_bucketOf
  rw [w_beatAt (by omega)]
  simp only [forall_eq, v, true_and, nI_clamp (show t < 2 ^ 31 by omega)]
  rw [show (16 + 3 * 0 : Nat) = 16 from rfl, show (16 + 3 * 1 : Nat) = 19 from rfl, show (17 + 3 * 0 : Nat) = 17 from rfl, show (17 + 3 * 1 : Nat) = 20 from rfl, t16, t17, t19, t20, (show S 10 (3 + t) = _ from tb 0 (by omega))]
  rfl
theorem w_remember {t : Nat} {Q : (Nat → Nat → Int32) → (Nat → Int64) → (Nat → Option Nat) → Prop} (hr : CR r t S) (ht : t ≤ 300) (hL : LT r t S) (hQ : ∀ S', (∀ i, i ≠ 11 → i ≠ 12 → S' i = S i) → LT r (t + 1) S' → Q S' L R) : vX5_remember K n (nI t) S L R Q := by
  obtain ⟨b, hb, eb⟩ := bkR_n r t
  have v1 : vp_in (nI b) 256 := vp_in_nI (by omega) (by omega)
  have v2 : vp_in (nI t) 301 := vp_in_nI (by omega) (by omega)
  unfold vX5_remember
  rw [w_bucket hr (Nat.le_refl _) ht, eb, nI_clamp (show b < 2 ^ 31 by omega), nI_clamp (show t < 2 ^ 31 by omega)]
  refine ⟨v1, v2, fun S1 h1 => ⟨v1, fun S2 h2 => hQ S2 (fun i i1 i2 => by rw [h2, va_up_ne _ _ i1, h1, va_up_ne _ _ i2]) ⟨fun c hc => ?_, fun s hs => ?_⟩⟩⟩
  · rw [h2, va_up_self, h1, va_up_ne _ _ (by omega)]
    unfold tpB
    by_cases e : c = b
    · subst e; rw [upd_self, if_pos eb]
    · rw [upd_ne _ _ e, if_neg (by rw [eb, nI_eq (by omega) (by omega)]; omega)]
      exact hL.1 c hc
  · rw [h2, va_up_ne _ _ (by omega), h1, va_up_self]
    by_cases e : s = t
    · subst e; rw [upd_self, eb]; exact hL.1 b hb
    · rw [upd_ne _ _ e]; exact hL.2 s (by omega)
theorem w_tickLike {t late : Nat} {Q : Int32 → (Nat → Nat → Int32) → (Nat → Int64) → (Nat → Option Nat) → Prop} (h6 : S 9 6 = nI late) (hl : late ≤ 3) (hr : CR r t S) (ht : t ≤ 300) (hL : LT r t S) (h1 : ∀ s, s < t → lk r late s t → Q (nI s) S L R) (h0 : (∀ s, s < t → ¬ lk r late s t) → Q (-1) S L R) : vX5_tickLike K n (nI t) S L R Q := by
  obtain ⟨b, hb, eb⟩ := bkR_n r t
  have key : ∀ u : Nat, u ≤ t → ∀ st : Nat, st + u ≤ 300 → (∀ s, u ≤ s → s < t → ¬ lk r late s t) → ∃ fu, vX5_tickLike_13 K n Q fu (nI t) (tpB r u (bkR r t)) (nI st) S L R := by
    intro u
    induction u with
    | zero =>
      intro hu st hst hn
      have q := h0 (fun s hs => hn s (by omega) hs)
      refine ⟨1, ?_⟩
      unfold vX5_tickLike_13
      exact ⟨fun _ => q, fun _ => ⟨fun _ => q, fun z => absurd rfl z⟩⟩
    | succ u ih =>
      intro hu st hst hn
      unfold tpB
      by_cases e : bkR r u = bkR r t
      · rw [if_pos e]
        by_cases hlk : lk r late u t
        · refine ⟨1, ?_⟩
          unfold vX5_tickLike_13
          refine ⟨fun z => absurd z (nI_nlt (a := 300) (by omega) (by omega)), fun _ => ⟨fun z => ?_, fun _ => ?_⟩⟩
          · have : (nI u).toInt = -1 := by rw [z]; decide
            rw [nI_toInt (by omega)] at this
            omega
          · exact w_alike h6 hl hr (by omega) (Nat.le_refl _) ht (fun l => ⟨fun z => absurd z (by decide), fun _ => h1 u (by omega) l⟩) (fun l => absurd hlk l)
        · obtain ⟨fu, hfu⟩ := ih (by omega) (st + 1) (by omega) (fun s h2 h3 => by
            rcases (show s = u ∨ u + 1 ≤ s by omega) with z | z
            · rw [z]; exact hlk
            · exact hn s z h3)
          refine ⟨fu + 1, ?_⟩
          unfold vX5_tickLike_13
          refine ⟨fun z => absurd z (nI_nlt (a := 300) (by omega) (by omega)), fun _ => ⟨fun z => ?_, fun _ => ?_⟩⟩
          · have : (nI u).toInt = -1 := by rw [z]; decide
            rw [nI_toInt (by omega)] at this
            omega
          · refine w_alike h6 hl hr (by omega) (Nat.le_refl _) ht (fun l => absurd l hlk) (fun _ => ⟨fun _ => ⟨vp_in_nI (by omega) (by omega), fun y hy y3 hy3 => ?_⟩, fun z => absurd rfl z⟩)
            rw [nI_clamp (by omega), hL.2 u (by omega), e] at hy
            rw [hy, hy3, nI_1]
            exact hfu
      · rw [if_neg e]
        exact ih (by omega) st (by omega) (fun s h2 h3 => by
          rcases (show s = u ∨ u + 1 ≤ s by omega) with z | z
          · rw [z]; exact fun l => e (bkR_lk l)
          · exact hn s z h3)
  unfold vX5_tickLike
  rw [w_bucket hr (Nat.le_refl _) ht]
  refine ⟨by rw [eb]; exact vp_in_nI hb (by omega), fun y hy => ?_⟩
  rw [eb, nI_clamp (by omega), hL.1 b hb, ← eb] at hy
  rw [hy]
  exact key t (Nat.le_refl _) 0 (by omega) (fun s h2 h3 => by omega)
theorem w_round {p q : GM} {load : Int32} {s0 : Nat → Int32} {late : Nat} {z : (Nat → Nat) × Nat} {Q : (Nat → Nat → Int32) → (Nat → Int64) → (Nat → Option Nat) → Prop} (hz : p = some z) (hp : okG p) (hq : okG q) (gp : GB K n S R 0 p) (gq : GB K n S R 1 q) (hB : ShB S p q load late) (hl : late ≤ 3) (hr : CR (rnR p q load s0) 0 S)
    (hQ : ∀ S' L' t d, Sc S S' → S' 13 = S 13 → EnR (rnR p q load s0) late t d → CR (rnR p q load s0) t S' → S' 9 9 = nI t → S' 9 10 = nI d → S' 9 11 = mnB (rnR p q load s0) t → S' 9 12 = mxB (rnR p q load s0) t → Q S' L' R) : vX5_runTillRound K n S L R Q := by
  have key : ∀ e t : Nat, ∀ S1 : Nat → Nat → Int32, 1 ≤ t → t + e = 301 → Sc S S1 → S1 13 = S 13 → ShB S1 p q load late → CR (rnR p q load s0) (t - 1) S1 → LT (rnR p q load s0) t S1 → S1 9 10 = 0 → S1 9 11 = mnB (rnR p q load s0) (t - 1) → S1 9 12 = mxB (rnR p q load s0) (t - 1) → NR (rnR p q load s0) late (t - 1) → (1 < t → S1 9 9 = nI (t - 1)) → vX5_runTillRound_38 K n Q (e + 2) (nI t) S1 L R := by
    intro e
    induction e with
    | zero =>
      intro t S1 ht1 ht sc s13 sb cr lt a10 a11 a12 nr a9
      obtain rfl : t = 301 := by omega
      unfold vX5_runTillRound_38
      refine ⟨fun _ => hQ S1 L 300 0 sc s13 ⟨by omega, by omega, Or.inr ⟨rfl, rfl, nr⟩⟩ cr (a9 (by omega)) a10 a11 a12, fun q => absurd (nI_lt (a := 300) (b := 301) (by omega) (by omega)) q⟩
    | succ e ih =>
      intro t S1 ht1 ht sc s13 sb cr lt a10 a11 a12 nr a9
      unfold vX5_runTillRound_38
      refine ⟨fun q => absurd q (nI_nlt (a := 300) (by omega) (by omega)), fun _ => ⟨fun q => absurd a10 q, fun _ => ?_⟩⟩
      obtain ⟨t0, rfl⟩ : ∃ t0, t = t0 + 1 := ⟨t - 1, by omega⟩
      rw [show t0 + 1 - 1 = t0 by omega] at cr a11 a12 nr a9
      rw [nI_pred]
      refine w_tick hz hp hq (gp.sc sc) (gq.sc sc) sb (by omega) cr (fun S2 sc2 e9 e11 e12 e13 cr2 => ?_)
      intro S3 h3
      rw [w_beatAt (by omega)]
      intro S4 h4
      rw [w_beatAt (by omega)]
      intro S5 h5
      obtain ⟨cb, -⟩ := cr2 (t0 + 1) (Nat.le_refl _)
      have cb0 : S2 10 (3 + (t0 + 1)) = rnR p q load s0 (t0 + 1) 0 := cb 0 (by omega)
      have o3 : ∀ i, i ≠ 9 → S3 i = S2 i := fun i hi => by rw [h3, va_up_ne _ _ hi]
      have o4 : ∀ i, i ≠ 9 → S4 i = S2 i := fun i hi => by rw [h4, va_up_ne _ _ hi]; exact o3 i hi
      have o5 : ∀ i, i ≠ 9 → S5 i = S2 i := fun i hi => by rw [h5, va_up_ne _ _ hi]; exact o4 i hi
      have n3 : S3 9 = upd (S1 9) 9 (nI (t0 + 1)) := by rw [h3, va_up_self, e9]
      have n4 : S4 9 = upd (S3 9) 11 (mnB (rnR p q load s0) (t0 + 1)) := by
        rw [h4, va_up_self, o3 10 (by omega), cb0]
        congr 1
        rw [n3, upd_ne _ _ (by omega), a11]
        rfl
      have n5 : S5 9 = upd (S4 9) 12 (mxB (rnR p q load s0) (t0 + 1)) := by
        rw [h5, va_up_self, o4 10 (by omega), cb0]
        congr 1
        rw [n4, upd_ne _ _ (by omega), n3, upd_ne _ _ (by omega), a12]
        rfl
      have f9 : S5 9 9 = nI (t0 + 1) := by rw [n5, upd_ne _ _ (by omega), n4, upd_ne _ _ (by omega), n3, upd_self]
      have f10 : S5 9 10 = 0 := by rw [n5, upd_ne _ _ (by omega), n4, upd_ne _ _ (by omega), n3, upd_ne _ _ (by omega)]; exact a10
      have f11 : S5 9 11 = mnB (rnR p q load s0) (t0 + 1) := by rw [n5, upd_ne _ _ (by omega), n4, upd_self]
      have f12 : S5 9 12 = mxB (rnR p q load s0) (t0 + 1) := by rw [n5, upd_self]
      have low : ∀ i, i < 9 → S5 9 i = S1 9 i := fun i hi => by rw [n5, upd_ne _ _ (by omega), n4, upd_ne _ _ (by omega), n3, upd_ne _ _ (by omega)]
      have sb5 : ShB S5 p q load late := by
        unfold ShB
        rw [low 5 (by omega), low 6 (by omega), low 7 (by omega), low 8 (by omega)]
        exact sb
      have sc5 : Sc S S5 := fun i hi => by rw [o5 i (by omega), sc2 i hi]; exact sc i hi
      have cr5 : CR (rnR p q load s0) (t0 + 1) S5 := fun j hj => by
        rw [o5 10 (by omega), o5 16 (by omega), o5 17 (by omega), o5 19 (by omega), o5 20 (by omega)]
        exact cr2 j hj
      have lt5 : LT (rnR p q load s0) (t0 + 1) S5 := by
        unfold LT
        rw [o5 11 (by omega), o5 12 (by omega), e11, e12]
        exact lt
      have s513 : S5 13 = S 13 := by rw [o5 13 (by omega), e13]; exact s13
      refine w_tickLike (r := rnR p q load s0) sb5.2.1 hl cr5 (by omega) lt5 (fun s hs l => ⟨fun _ S6 h6 => ?_, fun q => ?_⟩) (fun hno => ⟨fun q => absurd rfl q, fun _ => ?_⟩)
      · unfold vX5_runTillRound_122
        intro y hy
        rw [hy, nI_1]
        rw [nI_sub (by omega)] at h6
        have fin : Q S6 L R := by
          refine hQ S6 L (t0 + 1) (t0 + 1 - s) (by rw [h6]; exact sc5.up (by omega)) (by rw [h6, va_up_ne _ _ (by omega)]; exact s513) ⟨by omega, by omega, Or.inl ⟨s, hs, l, rfl, nr⟩⟩ (fun j hj => ?_) ?_ ?_ ?_ ?_
          · rw [h6, va_up_ne _ _ (by omega), va_up_ne _ _ (by omega), va_up_ne _ _ (by omega), va_up_ne _ _ (by omega), va_up_ne _ _ (by omega)]
            exact cr5 j hj
          · rw [h6, va_up_self, upd_ne _ _ (by omega)]; exact f9
          · rw [h6, va_up_self, upd_self]
          · rw [h6, va_up_self, upd_ne _ _ (by omega)]; exact f11
          · rw [h6, va_up_self, upd_ne _ _ (by omega)]; exact f12
        unfold vX5_runTillRound_38
        refine ⟨fun _ => fin, fun _ => ⟨fun _ => fin, fun q => ?_⟩⟩
        rw [h6, va_up_self, upd_self] at q
        exact absurd q (nI_ne0 (by omega) (by omega))
      · exfalso
        have : (nI s).toInt = -1 := by rw [q]; decide
        rw [nI_toInt (by omega)] at this
        omega
      · refine w_remember cr5 (by omega) lt5 (fun S6 o6 lt6 => ?_)
        unfold vX5_runTillRound_122
        intro y hy
        rw [hy, nI_1]
        refine ih (t0 + 1 + 1) S6 (by omega) (by omega) (fun i hi => by rw [o6 i (by omega) (by omega)]; exact sc5 i hi) (by rw [o6 13 (by omega) (by omega)]; exact s513) ?_ (fun j hj => ?_) lt6 ?_ ?_ ?_ (fun t' ht' s hs l => ?_) (fun _ => ?_)
        · unfold ShB
          rw [o6 9 (by omega) (by omega)]
          exact sb5
        · rw [o6 10 (by omega) (by omega), o6 16 (by omega) (by omega), o6 17 (by omega) (by omega), o6 19 (by omega) (by omega), o6 20 (by omega) (by omega)]
          exact cr5 j hj
        · rw [o6 9 (by omega) (by omega)]; exact f10
        · rw [o6 9 (by omega) (by omega)]; exact f11
        · rw [o6 9 (by omega) (by omega)]; exact f12
        · rcases (show t' ≤ t0 ∨ t' = t0 + 1 by omega) with w | rfl
          · exact nr t' w s hs l
          · exact hno s hs l
        · rw [o6 9 (by omega) (by omega)]; exact f9
  obtain ⟨cb, -⟩ := hr 0 (Nat.le_refl _)
  have cb0 : S 10 (3 + 0) = rnR p q load s0 0 0 := cb 0 (by omega)
  unfold vX5_runTillRound
  intro S1 h1 S2 h2
  rw [show (0 : Int32) = nI 0 from rfl, w_beatAt (by omega)]
  intro S3 h3
  rw [w_beatAt (by omega)]
  intro S4 h4
  have o2 : ∀ i, i ≠ 9 → i ≠ 11 → S2 i = S i := fun i i1 i2 => by rw [h2, va_up_ne _ _ i1, h1, va_up_ne _ _ i2]
  have o3 : ∀ i, i ≠ 9 → S3 i = S2 i := fun i i1 => by rw [h3, va_up_ne _ _ i1]
  have o4 : ∀ i, i ≠ 9 → S4 i = S2 i := fun i i1 => by rw [h4, va_up_ne _ _ i1]; exact o3 i i1
  have n2 : S2 9 = upd (S 9) 10 (nI 0) := by rw [h2, va_up_self, h1, va_up_ne _ _ (by omega)]; rfl
  have n3 : S3 9 = upd (S2 9) 11 (rnR p q load s0 0 0) := by rw [h3, va_up_self, o2 10 (by omega) (by omega), cb0]
  have n4 : S4 9 = upd (S3 9) 12 (rnR p q load s0 0 0) := by rw [h4, va_up_self, o3 10 (by omega), o2 10 (by omega) (by omega), cb0]
  have low : ∀ i, i < 9 → S4 9 i = S 9 i := fun i hi => by rw [n4, upd_ne _ _ (by omega), n3, upd_ne _ _ (by omega), n2, upd_ne _ _ (by omega)]
  have cr4 : CR (rnR p q load s0) 0 S4 := fun j hj => by
    rw [o4 10 (by omega), o4 16 (by omega), o4 17 (by omega), o4 19 (by omega), o4 20 (by omega), o2 10 (by omega) (by omega), o2 16 (by omega) (by omega), o2 17 (by omega) (by omega), o2 19 (by omega) (by omega), o2 20 (by omega) (by omega)]
    exact hr j hj
  have lt4 : LT (rnR p q load s0) 0 S4 := by
    refine ⟨fun b hb => ?_, fun s hs => by omega⟩
    rw [o4 11 (by omega), h2, va_up_ne _ _ (by omega), h1, va_up_self]
    unfold fillF tpB
    rw [if_pos hb]
  refine w_remember cr4 (by omega) lt4 (fun S5 o5 lt5 => ⟨302, ?_⟩)
  refine key 300 1 S5 (by omega) (by omega) (fun i hi => by rw [o5 i (by omega) (by omega), o4 i (by omega)]; exact o2 i (by omega) (by omega)) (by rw [o5 13 (by omega) (by omega), o4 13 (by omega)]; exact o2 13 (by omega) (by omega)) ?_ (fun j hj => ?_) lt5 ?_ ?_ ?_ (fun t' ht' s hs l => by omega) (fun q => by omega)
  · unfold ShB
    rw [o5 9 (by omega) (by omega), low 5 (by omega), low 6 (by omega), low 7 (by omega), low 8 (by omega)]
    exact hB
  · rw [o5 10 (by omega) (by omega), o5 16 (by omega) (by omega), o5 17 (by omega) (by omega), o5 19 (by omega) (by omega), o5 20 (by omega) (by omega)]
    exact cr4 j hj
  · rw [o5 9 (by omega) (by omega), n4, upd_ne _ _ (by omega), n3, upd_ne _ _ (by omega), n2, upd_self]; rfl
  · rw [o5 9 (by omega) (by omega), n4, upd_ne _ _ (by omega), n3, upd_self]; rfl
  · rw [o5 9 (by omega) (by omega), n4, upd_self]; rfl
end RD
