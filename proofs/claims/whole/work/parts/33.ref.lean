/-! when it comes round: the reference, by looking at all -/
section RF
variable {K : Nat → Nat} {n : Nat} {M : Nat → Nat → Nat} {S : Nat → Nat → Int32} {L : Nat → Int64} {R : Nat → Option Nat} {f : Nat → Int32} {a : Nat → Nat → Int32}
variable {r : Nat → Nat → Int32}
theorem n_as {late s t : Nat} {Q : Int32 → (Nat → Int32) → (Nat → Nat → Int32) → Prop} (h8 : f 8 = nI late) (hl : late ≤ 3) (hr : RR r t a) (hs : s ≤ t) (ht : t ≤ 300) (h1 : lk r late s t → Q 1 f a) (h0 : ¬ lk r late s t → Q 0 f a) : vX11_isAs (nI t) (nI s) f a Q := by
  obtain ⟨sb, s5, s6, s5', s6'⟩ := hr s hs
  obtain ⟨tb, t5, t6, t5', t6'⟩ := hr t (Nat.le_refl _)
  have cs : (nI s).toNatClampNeg = s := nI_clamp (by omega)
  have ct : (nI t).toNatClampNeg = t := nI_clamp (by omega)
  have is : (301 : Int32) + nI s = nI (301 + s) := nI_add 301 s
  have it : (301 : Int32) + nI t = nI (301 + t) := nI_add 301 t
  have v1 : vp_in (nI s) 301 := vp_in_nI (by omega) (by omega)
  have v2 : vp_in (nI t) 301 := vp_in_nI (by omega) (by omega)
  have v3 : vp_in (nI s) 602 := vp_in_nI (by omega) (by omega)
  have v4 : vp_in (nI t) 602 := vp_in_nI (by omega) (by omega)
  have v5 : vp_in (nI (301 + s)) 602 := vp_in_nI (by omega) (by omega)
  have v6 : vp_in (nI (301 + t)) 602 := vp_in_nI (by omega) (by omega)
  have no : ¬ lk r late s t → ∀ k : Int32, ∀ fu, vX11_isAs_110 Q (fu + 1) (nI t) (nI s) 0 k f a := by
    intro hn k fu
    unfold vX11_isAs_110
    exact ⟨fun _ => ⟨Or.inl rfl, h0 hn⟩, fun _ => ⟨fun _ => ⟨Or.inl rfl, h0 hn⟩, fun z => absurd rfl z⟩⟩
  have n105 : ¬ lk r late s t → vX11_isAs_105 Q (nI t) (nI s) f a := fun hn => ⟨1, no hn 1 0⟩
  have n57 : ¬ lk r late s t → vX11_isAs_57 Q (nI t) (nI s) f a := fun hn => ⟨fun _ => n105 hn, fun z => absurd rfl z⟩
  have key : ∀ d k : Nat, k + d = late + 1 → r s 4 = r t 4 → r s 5 = r t 5 → r s 6 = r t 6 → r s 7 = r t 7 → (∀ j, j < k → r s j = r t j) → vX11_isAs_110 Q (d + 2) (nI t) (nI s) 1 (nI k) f a := by
    intro d
    induction d with
    | zero =>
      intro k hk g4 g5 g6 g7 hp
      unfold vX11_isAs_110
      rw [h8]
      exact ⟨fun _ => ⟨Or.inr rfl, h1 ⟨fun j hj => hp j (by omega), g4, g5, g6, g7⟩⟩, fun z => absurd (nI_lt (by omega) (by omega)) z⟩
    | succ d ih =>
      intro k hk g4 g5 g6 g7 hp
      unfold vX11_isAs_110
      rw [h8]
      refine ⟨fun z => absurd z (nI_nlt (by omega) (by omega)), fun _ => ⟨fun z => absurd z (by decide), fun _ => ?_⟩⟩
      rw [n_beatAgo (by omega) (by omega), n_beatAgo (by omega) (by omega), sb k (by omega), tb k (by omega)]
      unfold vX11_isAs_145
      refine ⟨fun h y hy => ?_, fun h y hy => ?_⟩
      · rw [hy, nI_1]
        exact no (fun l => h (l.1 k (by omega)).symm) _ _
      · rw [hy, nI_1]
        refine ih (k + 1) (by omega) g4 g5 g6 g7 (fun j hj => ?_)
        rcases (show j < k ∨ j = k by omega) with z | rfl
        · exact hp j z
        · exact h.symm
  have sb0 : a 4 s = r s 0 := sb 0 (by omega)
  have tb0 : a 4 t = r t 0 := tb 0 (by omega)
  unfold vX11_isAs
  rw [is, it, cs, ct, nI_clamp (show 301 + s < 2 ^ 31 by omega), nI_clamp (show 301 + t < 2 ^ 31 by omega), sb0, tb0, s5, t5, s5', t5']
  refine ⟨v2, v1, fun h => n57 (fun l => h (l.1 0 (by omega)).symm), fun g0 => ⟨v4, v3, fun h => n57 (fun l => h l.2.1.symm), fun g4 => ⟨v6, v5, fun h => n57 (fun l => h l.2.2.2.1.symm), fun g6 => ?_⟩⟩⟩
  unfold vX11_isAs_58
  rw [is, it, cs, ct, nI_clamp (show 301 + s < 2 ^ 31 by omega), nI_clamp (show 301 + t < 2 ^ 31 by omega), s6, t6, s6', t6']
  refine ⟨fun z => absurd z (by decide), fun _ => ⟨v4, v3, fun h => n105 (fun l => h l.2.2.1.symm), fun g5 => ⟨v6, v5, fun h => n105 (fun l => h l.2.2.2.2.symm), fun g7 => ?_⟩⟩⟩
  refine ⟨late + 2, key late 1 (by omega) g4.symm g5.symm g6.symm g7.symm (fun j hj => ?_)⟩
  obtain rfl : j = 0 := by omega
  exact g0.symm
theorem n_48 {late t : Nat} {K11 : (Nat → Int32) → (Nat → Nat → Int32) → Prop} {Q : (Nat → Int32) → (Nat → Nat → Int32) → Prop} (h12 : f 12 = nI t) (h8 : f 8 = nI late) (hl : late ≤ 3) (hr : RR r t a) (ht : t ≤ 300)
    (hK : ∀ f', (∀ i, i ≠ 13 → f' i = f i) → ((∃ s, s < t ∧ lk r late s t ∧ f' 13 = nI (t - s)) ∨ ((∀ s, s < t → ¬ lk r late s t) ∧ f' 13 = -9)) → K11 f' a) :
    ∀ d s : Nat, ∀ f1 : Nat → Int32, s + d = t → (∀ i, i ≠ 13 → f1 i = f i) → f1 13 = -9 → (∀ s', s' < s → ¬ lk r late s' t) → vX11_goRound_48 K11 Q (d + 2) (nI s) f1 a := by
  intro d
  induction d with
  | zero =>
    intro s f1 hs g1 g13 gn
    obtain rfl : s = t := by omega
    unfold vX11_goRound_48 vX11_goRound_96
    rw [g1 12 (by omega), h12]
    exact ⟨fun _ => hK f1 g1 (Or.inr ⟨gn, g13⟩), fun z => absurd (nI_le (Nat.le_refl _) (by omega)) z⟩
  | succ d ih =>
    intro s f1 hs g1 g13 gn
    unfold vX11_goRound_48 vX11_goRound_96
    rw [g1 12 (by omega), h12, g13]
    refine ⟨fun z => absurd z (nI_ge (by omega) (by omega)), fun _ => ⟨fun z => absurd z (by decide), fun _ => ?_⟩⟩
    refine n_as (r := r) (by rw [g1 8 (by omega)]; exact h8) hl hr (by omega) ht (fun l => ⟨fun z => absurd z (by decide), fun _ => ?_⟩) (fun l => ⟨fun _ => ?_, fun z => absurd rfl z⟩)
    · unfold vX11_goRound_87
      intro f2 h2 y hy
      rw [g1 12 (by omega), h12, nI_sub (by omega)] at h2
      have fin := hK f2 (fun i hi => by rw [h2, va_up_ne _ _ hi]; exact g1 i hi) (Or.inl ⟨s, by omega, l, by rw [h2, va_up_self]⟩)
      unfold vX11_goRound_48 vX11_goRound_96
      refine ⟨fun _ => fin, fun _ => ⟨fun _ => fin, fun z => absurd ?_ z⟩⟩
      rw [h2, va_up_self]
      exact nI_pos' (by omega)
    · unfold vX11_goRound_87
      intro f2 h2 y hy
      rw [hy, nI_1]
      refine ih (s + 1) f2 (by omega) (fun i hi => by rw [h2, va_up_ne _ _ hi]; exact g1 i hi) (by rw [h2, va_up_self]) (fun s' hs' => ?_)
      rcases (show s' < s ∨ s' = s by omega) with z | rfl
      · exact gn s' z
      · exact l
theorem n_round {p q : GM} {load : Int32} {s0 : Nat → Int32} {late : Nat} {z : (Nat → Nat) × Nat} {Q : (Nat → Int32) → (Nat → Nat → Int32) → Prop} (hz : p = some z) (hp : okG p) (hq : okG q) (hB : RB f a p q load late) (hl : late ≤ 3) (hr : RR (rnR p q load s0) 0 a)
    (hQ : ∀ f' a' t d, Fc f f' → Ac a a' → EnR (rnR p q load s0) late t d → RR (rnR p q load s0) t a' → f' 12 = nI t → f' 13 = (if d = 0 then -9 else nI d) → Q f' a') : vX11_goRound f a Q := by
  have key : ∀ e t : Nat, ∀ (f1 : Nat → Int32) (a1 : Nat → Nat → Int32), t + e = 300 → (∀ i, i ≠ 12 → i ≠ 13 → f1 i = f i) → Ac a a1 → f1 12 = nI t → f1 13 = -9 → RR (rnR p q load s0) t a1 → NR (rnR p q load s0) late t → vX11_goRound_11 Q (e + 2) f1 a1 := by
    intro e
    induction e with
    | zero =>
      intro t f1 a1 ht g1 ac g12 g13 rr nr
      obtain rfl : t = 300 := by omega
      unfold vX11_goRound_11
      rw [g12, g13]
      refine ⟨fun _ => hQ f1 a1 300 0 ⟨g1 0 (by omega) (by omega), g1 1 (by omega) (by omega), g1 14 (by omega) (by omega), g1 20 (by omega) (by omega)⟩ ac ⟨by omega, by omega, Or.inr ⟨rfl, rfl, nr⟩⟩ rr g12 g13, fun q => absurd (nI_le (a := 300) (b := 300) (by omega) (by omega)) q⟩
    | succ e ih =>
      intro t f1 a1 ht g1 ac g12 g13 rr nr
      unfold vX11_goRound_11
      rw [g12, g13]
      refine ⟨fun q => absurd q (nI_ge (b := 300) (by omega) (by omega)), fun _ => ⟨fun q => absurd q (by decide), fun _ => ?_⟩⟩
      have rb1 : RB f1 a1 p q load late := by
        obtain ⟨b1, b2, b3, b4⟩ := hB
        refine ⟨?_, ?_, ?_, ?_⟩
        · rw [g1 5 (by omega) (by omega)]; exact b1.ac ac
        · rw [g1 6 (by omega) (by omega)]; exact b2.ac ac
        · rw [g1 7 (by omega) (by omega)]; exact b3
        · rw [g1 8 (by omega) (by omega)]; exact b4
      refine n_step hz hp hq rb1 (by omega) rr (fun a2 ac2 rr2 => ?_)
      intro f2 h2
      rw [g12, nI_1] at h2
      have k1 : ∀ i, i ≠ 12 → f2 i = f1 i := fun i hi => by rw [h2, va_up_ne _ _ hi]
      have k12 : f2 12 = nI (t + 1) := by rw [h2, va_up_self]
      refine ⟨t + 1 + 2, n_48 (r := rnR p q load s0) (f := f2) k12 (by rw [k1 8 (by omega), g1 8 (by omega) (by omega)]; exact hB.2.2.2) hl rr2 (by omega) (fun f3 g3 hor => ?_) (t + 1) 0 f2 (by omega) (fun _ _ => rfl) (by rw [k1 13 (by omega)]; exact g13) (fun s' hs' => by omega)⟩
      have g3f : ∀ i, i ≠ 12 → i ≠ 13 → f3 i = f i := fun i i1 i2 => by rw [g3 i i2, k1 i i1]; exact g1 i i1 i2
      have g312 : f3 12 = nI (t + 1) := by rw [g3 12 (by omega)]; exact k12
      rcases hor with ⟨s, hs, l, e13⟩ | ⟨hno, e13⟩
      · have fin := hQ f3 a2 (t + 1) (t + 1 - s) ⟨g3f 0 (by omega) (by omega), g3f 1 (by omega) (by omega), g3f 14 (by omega) (by omega), g3f 20 (by omega) (by omega)⟩ (ac.trans ac2) ⟨by omega, by omega, Or.inl ⟨s, hs, l, rfl, nr⟩⟩ rr2 g312 (by rw [if_neg (by omega)]; exact e13)
        unfold vX11_goRound_11
        refine ⟨fun _ => fin, fun _ => ⟨fun _ => fin, fun q => absurd ?_ q⟩⟩
        rw [e13]
        exact nI_pos' (by omega)
      · refine ih (t + 1) f3 a2 (by omega) g3f (ac.trans ac2) g312 e13 rr2 (fun t' ht' s hs l => ?_)
        rcases (show t' ≤ t ∨ t' = t + 1 by omega) with w | rfl
        · exact nr t' w s hs l
        · exact hno s hs l
  unfold vX11_goRound
  intro f1 h1 f2 h2
  refine ⟨302, key 300 0 f2 a (by omega) (fun i i1 i2 => by rw [h2, va_up_ne _ _ i1, h1, va_up_ne _ _ i2]) Ac.rfl' (by rw [h2, va_up_self]; rfl) (by rw [h2, va_up_ne _ _ (by omega), h1, va_up_self]) hr (fun t' ht' s hs l => by omega)⟩
def exS (r : Nat → Nat → Int32) (what : Int32) (t : Nat) : Int32 := if what = 3 then mnB r t else mxB r t
theorem exS_succ (r : Nat → Nat → Int32) (what : Int32) (t : Nat) : exS r what (t + 1) = if what = 3 then (if r (t + 1) 0 < exS r what t then r (t + 1) 0 else exS r what t) else (if exS r what t < r (t + 1) 0 then r (t + 1) 0 else exS r what t) := by
  have e1 : mnB r (t + 1) = if r (t + 1) 0 < mnB r t then r (t + 1) 0 else mnB r t := by rw [mnB]
  have e2 : mxB r (t + 1) = if mxB r t < r (t + 1) 0 then r (t + 1) 0 else mxB r t := by rw [mxB]
  by_cases h : what = 3
  · have e3 : ∀ u, exS r what u = mnB r u := fun u => by unfold exS; rw [if_pos h]
    rw [if_pos h, e3, e3, e1]
  · have e3 : ∀ u, exS r what u = mxB r u := fun u => by unfold exS; rw [if_neg h]
    rw [if_neg h, e3, e3, e2]
theorem n_ext {what : Int32} {t : Nat} {Q : Int32 → (Nat → Int32) → (Nat → Nat → Int32) → Prop} (h12 : f 12 = nI t) (hr : RR r t a) (ht : t ≤ 300) (hQ : Q (exS r what t) f a) : vX11_extreme what f a Q := by
  have key : ∀ d j : Nat, 1 ≤ j → j + d = t + 1 → vX11_extreme_9 Q (d + 1) what (exS r what (j - 1)) (nI j) f a := by
    intro d
    induction d with
    | zero =>
      intro j hj1 hj
      obtain rfl : j = t + 1 := by omega
      unfold vX11_extreme_9
      rw [h12]
      exact ⟨fun _ => hQ, fun z => absurd (nI_lt (by omega) (by omega)) z⟩
    | succ d ih =>
      intro j hj1 hj
      obtain ⟨j0, rfl⟩ : ∃ j0, j = j0 + 1 := ⟨j - 1, by omega⟩
      have nx := ih (j0 + 1 + 1) (by omega) (by omega)
      rw [show j0 + 1 + 1 - 1 = j0 + 1 by omega, exS_succ] at nx
      rw [show j0 + 1 - 1 = j0 by omega]
      have vj : vp_in (nI (j0 + 1)) 301 := vp_in_nI (by omega) (by omega)
      have b : a 4 (j0 + 1) = r (j0 + 1) 0 := (hr (j0 + 1) (by omega)).1 0 (by omega)
      unfold vX11_extreme_9
      rw [h12, nI_clamp (by omega), b]
      refine ⟨fun z => absurd z (nI_nlt (by omega) (by omega)), fun _ => ⟨vj, ?_⟩⟩
      simp only [vX11_extreme_32, vX11_extreme_56, vX11_extreme_68, vX11_extreme_69, forall_eq, nI_1, nI_clamp (show j0 + 1 < 2 ^ 31 by omega), b]
      generalize exS r what j0 = best at nx ⊢
      generalize r (j0 + 1) 0 = bt at nx ⊢
      refine ⟨fun h => ⟨vj, fun e => ?_, fun e => ⟨fun w => ⟨fun q => absurd trivial q, fun _ => ⟨vj, ?_⟩⟩, fun w => ⟨fun _ => ?_, fun q => absurd q (by decide)⟩⟩⟩, fun h => ⟨vj, fun e => ?_, fun e => ⟨fun w => ⟨fun _ => ?_, fun q => absurd q (by decide)⟩, fun w => ⟨fun q => absurd trivial q, fun _ => ⟨vj, ?_⟩⟩⟩⟩⟩
      · subst e
        have n1 : ¬ bt < bt := by rw [fa_lt]; omega
        rw [if_neg n1] at nx
        simpa using nx
      · rw [if_neg w, if_pos (by rw [fa_le] at h; rw [fa_eq] at e; rw [fa_lt]; omega)] at nx
        exact nx
      · rw [if_pos w, if_neg (by rw [fa_le] at h; rw [fa_lt]; omega)] at nx
        exact nx
      · subst e
        rw [fa_le] at h; omega
      · rw [if_neg w, if_neg (by rw [fa_le] at h; rw [fa_lt]; omega)] at nx
        exact nx
      · rw [if_pos w, if_pos (by rw [fa_le] at h; rw [fa_lt]; omega)] at nx
        exact nx
  have b0 : a 4 0 = r 0 0 := (hr 0 (by omega)).1 0 (by omega)
  unfold vX11_extreme
  refine ⟨vp_in_nI (n := 0) (by omega) (by omega), fun y hy => ?_⟩
  rw [show (0 : Int32).toNatClampNeg = 0 from rfl, b0] at hy
  rw [hy]
  refine ⟨t + 1, ?_⟩
  have := key t 1 (by omega) (by omega)
  rw [show exS r what (1 - 1) = r 0 0 by unfold exS; split <;> rfl] at this
  exact this
/-- what both tell of a run that ended at tick t, its ring d long (0: none) -/
def toA (r : Nat → Nat → Int32) (t d what : Nat) : Int32 := if what = 0 then (if d = 0 then 2 else if d = 1 then 0 else 1) else if what = 1 then (if d = 0 then -9 else nI t) else if what = 2 then (if d = 0 then -9 else nI d) else exS r (nI what) t
theorem n_toldOf {what t d : Nat} {Q : Int32 → (Nat → Int32) → (Nat → Nat → Int32) → Prop} (hw : what ≤ 4) (h12 : f 12 = nI t) (h13 : f 13 = (if d = 0 then -9 else nI d)) (hd : d ≤ 300) (hr : RR r t a) (ht : t ≤ 300) (hQ : Q (toA r t d what) f a) : vX11_toldOf (nI what) f a Q := by
  unfold vX11_toldOf
  have d1 : ¬ d = 0 → (nI d = 1 ↔ d = 1) := fun _ => nI_eq (b := 1) (by omega) (by omega)
  unfold toA at hQ
  rcases (show what = 0 ∨ what = 1 ∨ what = 2 ∨ 3 ≤ what by omega) with rfl | rfl | rfl | h3
  · rw [if_pos rfl] at hQ
    refine ⟨fun _ => ?_, fun z => absurd z (by decide), fun z => absurd z (by decide), fun z => absurd rfl z⟩
    rw [h13]
    by_cases e : d = 0
    · rw [if_pos e] at hQ ⊢
      exact ⟨fun z => absurd z (by decide), fun _ => hQ⟩
    · rw [if_neg e] at hQ ⊢
      rw [d1 e]
      refine ⟨fun _ => ⟨fun z => ?_, fun z => ?_⟩, fun z => absurd (nI_pos' (by omega)) z⟩
      · rw [if_neg z] at hQ; exact hQ
      · rw [if_pos z] at hQ; exact hQ
  · rw [if_neg (by omega), if_pos rfl] at hQ
    refine ⟨fun z => absurd z (by decide), fun _ => ?_, fun z => absurd z (by decide), fun _ z => absurd rfl z⟩
    rw [h13, h12]
    by_cases e : d = 0
    · rw [if_pos e] at hQ ⊢
      exact ⟨fun z => absurd z (by decide), fun _ => hQ⟩
    · rw [if_neg e] at hQ ⊢
      exact ⟨fun _ => hQ, fun z => absurd (nI_pos' (by omega)) z⟩
  · rw [if_neg (by omega), if_neg (by omega), if_pos rfl] at hQ
    refine ⟨fun z => absurd z (by decide), fun z => absurd z (by decide), fun _ => ?_, fun _ _ z => absurd rfl z⟩
    rw [h13]
    exact hQ
  · rw [if_neg (by omega), if_neg (by omega), if_neg (by omega)] at hQ
    refine ⟨fun z => ?_, fun z => ?_, fun z => ?_, fun _ _ _ => n_ext h12 hr ht hQ⟩
    · have := (nI_eq (b := 0) (by omega) (by omega)).mp z; omega
    · have := (nI_eq (b := 1) (by omega) (by omega)).mp z; omega
    · have := (nI_eq (b := 2) (by omega) (by omega)).mp z; omega
theorem w_told5 {what t d : Nat} {Q : Int32 → (Nat → Nat → Int32) → (Nat → Int64) → (Nat → Option Nat) → Prop} (hw : what ≤ 4) (h9 : S 9 9 = nI t) (h10 : S 9 10 = nI d) (h11 : S 9 11 = mnB r t) (h12 : S 9 12 = mxB r t) (hd : d ≤ 300) (hQ : Q (toA r t d what) S L R) : vX5_told K n (nI what) S L R Q := by
  unfold vX5_told vX5_ending
  have d0 : nI d = 0 ↔ d = 0 := nI_eq (b := 0) (by omega) (by omega)
  have d1 : nI d = 1 ↔ d = 1 := nI_eq (b := 1) (by omega) (by omega)
  rw [h9, h10, h11, h12, d0, d1]
  unfold toA exS at hQ
  rcases (show what = 0 ∨ what = 1 ∨ what = 2 ∨ what = 3 ∨ what = 4 by omega) with rfl | rfl | rfl | rfl | rfl
  · rw [if_pos rfl] at hQ
    refine ⟨fun _ => ⟨fun e => ⟨fun z => ?_, fun z => ?_⟩, fun e => ?_⟩, fun z => absurd z (by decide), fun z => absurd z (by decide), fun z => absurd z (by decide), fun z => absurd z (by decide), fun z => absurd z (by decide), fun z => absurd rfl z⟩
    · rw [if_neg e, if_neg z] at hQ; exact hQ
    · rw [if_neg e, if_pos z] at hQ; exact hQ
    · rw [if_pos e] at hQ; exact hQ
  · rw [if_neg (by omega), if_pos rfl] at hQ
    refine ⟨fun z => absurd z (by decide), fun _ => ⟨fun e => ?_, fun e => ?_⟩, fun z => absurd z (by decide), fun z => absurd z (by decide), fun z => absurd z (by decide), fun z => absurd z (by decide), fun _ z => absurd rfl z⟩
    · rw [if_neg e] at hQ; exact hQ
    · rw [if_pos e] at hQ; exact hQ
  · rw [if_neg (by omega), if_neg (by omega), if_pos rfl] at hQ
    refine ⟨fun z => absurd z (by decide), fun z => absurd z (by decide), fun _ => ⟨fun e => ?_, fun e => ?_⟩, fun z => absurd z (by decide), fun z => absurd z (by decide), fun z => absurd z (by decide), fun _ _ z => absurd rfl z⟩
    · rw [if_neg e] at hQ; exact hQ
    · rw [if_pos e] at hQ; exact hQ
  · rw [if_neg (by omega), if_neg (by omega), if_neg (by omega), if_pos (show nI 3 = 3 from rfl)] at hQ
    exact ⟨fun z => absurd z (by decide), fun z => absurd z (by decide), fun z => absurd z (by decide), fun _ => hQ, fun z => absurd z (by decide), fun z => absurd z (by decide), fun _ _ _ z => absurd rfl z⟩
  · rw [if_neg (by omega), if_neg (by omega), if_neg (by omega), if_neg (by decide)] at hQ
    exact ⟨fun z => absurd z (by decide), fun z => absurd z (by decide), fun z => absurd z (by decide), fun z => absurd z (by decide), fun _ => hQ, fun z => absurd z (by decide), fun _ _ _ _ z => absurd rfl z⟩
theorem EnR.dle {late t d : Nat} (h : EnR r late t d) : d ≤ 300 := by
  obtain ⟨h1, h2, h3⟩ := h
  rcases h3 with ⟨s, _, _, e, _⟩ | ⟨_, e, _⟩ <;> omega
end RF
