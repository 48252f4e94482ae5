/-! one tick of the reference; how both begin -/
theorem mo_dec : ∀ c : Fin 100, (c.val ≤ 39 → (if (1 : Int32) < 40 / nI (c.val + 1) then 40 / nI (c.val + 1) else 1) = 40 / nI (c.val + 1)) ∧ (¬ c.val ≤ 39 → (if (1 : Int32) < 40 / nI (c.val + 1) then 40 / nI (c.val + 1) else 1) = 1) := by decide +kernel
def lateN (p q : GM) : Nat := if ltG p < ltG q then ltG q else ltG p
theorem lateN_le {p q : GM} (hp : okG p) (hq : okG q) : lateN p q ≤ 3 := by
  have := hp.lt
  have := hq.lt
  unfold lateN
  split <;> omega
/-- the reference's rows hold ticks 0 to t of r -/
def RR (r : Nat → Nat → Int32) (t : Nat) (a : Nat → Nat → Int32) : Prop := ∀ j, j ≤ t → (∀ k, k ≤ 3 → a 4 (j - k) = r j k) ∧ a 5 j = r j 4 ∧ a 6 j = r j 5 ∧ a 5 (301 + j) = r j 6 ∧ a 6 (301 + j) = r j 7
def RG (a : Nat → Nat → Int32) (y : Int32) (q : GM) : Prop := match q with
  | none => y = -9
  | some z => ∃ x, y = nI x ∧ x < 8 ∧ RM a x z.1 ∧ a 1 x = nI z.2
def RB (f : Nat → Int32) (a : Nat → Nat → Int32) (p q : GM) (load : Int32) (late : Nat) : Prop := RG a (f 5) p ∧ RG a (f 6) q ∧ f 7 = load ∧ f 8 = nI late
theorem RG.ac {a a' : Nat → Nat → Int32} {y : Int32} {q : GM} (h : RG a y q) (ha : Ac a a') : RG a' y q := by
  cases q with
  | none => exact h
  | some z =>
    obtain ⟨x, h1, h2, h3, h4⟩ := h
    exact ⟨x, h1, h2, h3.ac ha, by rw [ha.1]; exact h4⟩
section ST
variable {K : Nat → Nat} {n : Nat} {M : Nat → Nat → Nat} {S : Nat → Nat → Int32} {L : Nat → Int64} {R : Nat → Option Nat} {f : Nat → Int32} {a : Nat → Nat → Int32}
variable {N : Nat → Nat}
theorem n_t71 {v w : Int32} {Q : Int32 → (Nat → Int32) → (Nat → Nat → Int32) → Prop} : vX11_towards_71 Q v (w - v) (moN N) f a = Q (obN N v w) f a := by
  unfold vX11_towards_71
  rw [w_held]
  rfl
theorem n_t31 {x k : Nat} {v w : Int32} {Q : Int32 → (Nat → Int32) → (Nat → Nat → Int32) → Prop} (hx : x < 8) (hM : RM a x N) (hk : a 1 x = nI k) (hk3 : k < 3) (hQ : Q (vlN k N v w) f a) : vX11_towards_31 Q (nI x) v w (w - v) (moN N) f a := by
  have v8 : vp_in (nI x) 8 := vp_in_nI (by omega) (by omega)
  unfold vX11_towards_31
  rw [nI_clamp (by omega), hk, n_t71]
  rcases (show k = 0 ∨ k = 1 ∨ k = 2 by omega) with rfl | rfl | rfl
  · exact ⟨v8, fun z => absurd rfl z, fun _ => hQ⟩
  · exact ⟨v8, fun _ => ⟨v8, fun _ => hQ, fun z => absurd z (by decide)⟩, fun z => absurd z (by decide)⟩
  · refine ⟨v8, fun _ => ⟨v8, fun z => absurd rfl z, fun _ => ?_⟩, fun z => absurd z (by decide)⟩
    have e : vlN 2 N v w = if nI (N 8) ≤ (if 0 ≤ w - v then w - v else 0 - (w - v)) then obN N v w else v := rfl
    rw [e] at hQ
    unfold vX11_sizeOf
    simp only [n_ofl (x := x) (w := 8) hx (by omega), hM 8 (by omega), n_t71]
    refine ⟨fun h => ?_, fun h => ?_⟩
    · rw [if_pos h] at hQ
      refine ⟨fun h2 => ?_, fun h2 => ?_⟩
      · rw [if_pos h2] at hQ; exact hQ
      · rw [if_neg h2] at hQ; exact hQ
    · rw [if_neg h, show (0 : Int32) - (w - v) = -(w - v) by simp] at hQ
      refine ⟨fun h2 => ?_, fun h2 => ?_⟩
      · rw [if_pos h2] at hQ; exact hQ
      · rw [if_neg h2] at hQ; exact hQ
theorem n_towards {x k : Nat} {v w : Int32} {Q : Int32 → (Nat → Int32) → (Nat → Nat → Int32) → Prop} (hx : x < 8) (hM : RM a x N) (hB : MB N) (hk : a 1 x = nI k) (hk3 : k < 3) (hQ : Q (vlN k N v w) f a) : vX11_towards (nI x) v w f a Q := by
  have b3 := hB.lt (w := 3) (by omega)
  have md := mo_dec ⟨N 3, by omega⟩
  unfold vX11_towards
  intro y hy
  subst hy
  rw [n_ofl (w := 3) hx (by omega), n_ofl (w := 3) hx (by omega), hM 3 (by omega), nI_1]
  have t31 := n_t31 (v := v) (w := w) hx hM hk hk3 hQ
  refine ⟨fun h => ⟨nI_ne0 (by omega) (by omega), ?_⟩, fun h => ?_⟩
  · rw [← md.1 ((nI_leI (b := 39) (by omega) (by omega)).mp h)]
    exact t31
  · have := md.2 (fun z => h ((nI_leI (b := 39) (by omega) (by omega)).mpr z))
    unfold moN at t31
    rw [this] at t31
    exact t31
theorem n_beatAgo {t l : Nat} {Q : Int32 → (Nat → Int32) → (Nat → Nat → Int32) → Prop} (ht : t ≤ 300) (hl : l ≤ 300) : vX11_beatAgo (nI t) (nI l) f a Q = Q (a 4 (t - l)) f a := by
  unfold vX11_beatAgo
  by_cases h : t ≤ l
  · have e : nI t ≤ nI l := nI_le h (by omega)
    rw [show t - l = 0 by omega]
    simp only [e, vpl (n := 0) (N := 301) (by omega) (by omega), z00, z10, not_true_eq_false, not_false_eq_true, false_implies, true_implies, true_and, and_true]
    rfl
  · have e : ¬ nI t ≤ nI l := nI_ge (by omega) (by omega)
    rw [nI_sub (by omega), nI_clamp (by omega)]
    simp only [e, vp_in_nI (show t - l < 301 by omega) (show 301 < 2 ^ 31 by omega), z00, z10, not_true_eq_false, not_false_eq_true, false_implies, true_implies, true_and, and_true]
theorem n_stepValve {x k at_ t : Nat} {Q : (Nat → Int32) → (Nat → Nat → Int32) → Prop} (hx : x < 8) (hM : RM a x N) (hB : MB N) (hk : a 1 x = nI k) (hk3 : k < 3) (hat : at_ ≤ 301) (ht : t < 300)
    (hQ : Q f (va_up (va_up a 6 (upd (a 6) (at_ + t + 1) (msN N (a 4 (t - N 7)) (a 6 (at_ + t))))) 5 (upd (a 5) (at_ + t + 1) (vlN k N (a 5 (at_ + t)) (wtN N (a 4 (t - N 7)) (a 6 (at_ + t))))))) : vX11_stepValve (nI x) (nI at_) (nI t) f a Q := by
  have b6 := hB.lt (w := 6) (by omega)
  have b7 : N 7 ≤ 3 := (hB 7 (by omega)).2
  have vat : vp_in (nI (at_ + t)) 602 := vp_in_nI (by omega) (by omega)
  have vat1 : vp_in (nI (at_ + t + 1)) 602 := vp_in_nI (by omega) (by omega)
  have hne : at_ + t ≠ at_ + t + 1 := by omega
  unfold vX11_stepValve
  rw [n_ofl (w := 7) hx (by omega), hM 7 (by omega), n_beatAgo (by omega) (by omega)]
  intro y4 h4
  rw [n_ofl (w := 6) hx (by omega), hM 6 (by omega), nI_add, nI_1, nI_clamp (by omega)]
  refine ⟨vat, fun y5 h5 => ?_⟩
  rw [n_ofl (w := 5) hx (by omega), hM 5 (by omega), w_held, n_ofl (w := 6) hx (by omega), hM 6 (by omega), h5, h4]
  have t114 : ∀ y0 : Int32, y0 = msN N (a 4 (t - N 7)) (a 6 (at_ + t)) → vX11_stepValve_114 Q (nI x) (nI at_) (nI t) (wtN N (a 4 (t - N 7)) (a 6 (at_ + t))) y0 (nI (at_ + t + 1)) f a := by
    intro y0 hy0
    unfold vX11_stepValve_114
    rw [nI_add, nI_1, nI_clamp (by omega), nI_clamp (by omega)]
    refine ⟨vat1, fun a1 h1 => ⟨vat, ?_⟩⟩
    have ac1 : Ac a a1 := by rw [h1]; exact Ac.rfl'.up (by omega)
    refine n_towards hx (hM.ac ac1) hB (by rw [ac1.1]; exact hk) hk3 ⟨vat1, fun a2 h2 => ?_⟩
    rw [h2, h1, va_up_ne _ _ (show 5 ≠ 6 by omega), hy0]
    exact hQ
  refine ⟨fun h6 => ⟨vat, t114 _ ?_⟩, fun h6 => ⟨vat, ?_⟩⟩
  · unfold msN
    rw [if_pos]
    by_cases e : N 6 = 0
    · exact e
    · exact absurd h6 (nI_nle (by omega) (by omega))
  · rw [w_held]
    refine t114 _ ?_
    unfold msN
    rw [if_neg (fun e => h6 (by rw [e]; decide)), Int32.sub_eq_add_neg, Int32.sub_eq_add_neg, ← Int32.add_assoc]
theorem n_step {p q : GM} {load : Int32} {s : Nat → Int32} {t late : Nat} {z : (Nat → Nat) × Nat} {Q : (Nat → Int32) → (Nat → Nat → Int32) → Prop} (hz : p = some z) (hp : okG p) (hq : okG q) (hB : RB f a p q load late) (ht : t < 300) (hr : RR (rnR p q load s) t a)
    (hQ : ∀ a', Ac a a' → RR (rnR p q load s) (t + 1) a' → Q f a') : vX11_stepOn (nI t) f a Q := by
  obtain ⟨rb, r5, r6, r5', r6'⟩ := hr t (Nat.le_refl _)
  obtain ⟨gp, gq, h7, h8⟩ := hB
  have wn := wheel_ne hp hq hz
  subst hz
  obtain ⟨x, x1, x2, x3, x4⟩ := gp
  obtain ⟨mz, kz⟩ := hp z rfl
  have l7 : z.1 7 ≤ 3 := (mz 7 (by omega)).2
  unfold vX11_stepOn
  rw [x1]
  refine n_stepValve (at_ := 0) x2 x3 mz x4 kz (by omega) ht ?_
  rw [rb _ l7, show 0 + t = t by omega, r5, r6]
  generalize hA : va_up (va_up a 6 (upd (a 6) (t + 1) (msN z.1 (rnR (some z) q load s t (z.1 7)) (rnR (some z) q load s t 5)))) 5 (upd (a 5) (t + 1) (vlN z.2 z.1 (rnR (some z) q load s t 4) (wtN z.1 (rnR (some z) q load s t (z.1 7)) (rnR (some z) q load s t 5)))) = a1
  have ac1 : Ac a a1 := by rw [← hA]; exact (Ac.rfl'.up (by omega)).up (by omega)
  have a5 : a1 5 = upd (a 5) (t + 1) (rnR (some z) q load s (t + 1) 4) := by rw [← hA]; exact va_up_self _ _ _
  have a6 : a1 6 = upd (a 6) (t + 1) (rnR (some z) q load s (t + 1) 5) := by rw [← hA, va_up_ne _ _ (by omega)]; exact va_up_self _ _ _
  have a4 : a1 4 = a 4 := by rw [← hA, va_up_ne _ _ (by omega), va_up_ne _ _ (by omega)]
  have x3' : RM a1 x z.1 := x3.ac ac1
  rw [nI_1, nI_clamp (by omega)]
  refine ⟨vp_in_nI (by omega) (by omega), fun y2 hy2 => ?_⟩
  rw [x1, n_ofl (w := 1) x2 (by omega), x1, n_ofl (w := 0) x2 (by omega), x3' 1 (by omega), x3' 0 (by omega)]
  rw [a5, upd_self] at hy2
  have ixo : (301 : Int32) + nI t + 1 = nI (301 + t + 1) := by rw [show (301 : Int32) = nI 301 from rfl, nI_add, nI_1]
  have v602 : vp_in (nI (301 + t + 1)) 602 := vp_in_nI (by omega) (by omega)
  have fin : ∀ (a2 : Nat → Nat → Int32) (o br wh : Int32), o = rnR (some z) q load s (t + 1) 4 + rnR (some z) q load s (t + 1) 6 → br = nmG (some z) 1 + nmG q 1 → wh = nmG (some z) 0 + nmG q 0 → Ac a a2 → a2 4 = a 4 → a2 5 (t + 1) = rnR (some z) q load s (t + 1) 4 → a2 6 (t + 1) = rnR (some z) q load s (t + 1) 5 → a2 5 (301 + (t + 1)) = rnR (some z) q load s (t + 1) 6 → a2 6 (301 + (t + 1)) = rnR (some z) q load s (t + 1) 7 → (∀ j, j ≤ t → a2 5 j = a 5 j ∧ a2 6 j = a 6 j ∧ a2 5 (301 + j) = a 5 (301 + j) ∧ a2 6 (301 + j) = a 6 (301 + j)) → vX11_stepOn_129 Q (nI t) o br wh f a2 := by
    intro a2 o br wh ho hbr hwh hac h4 g4 g5 g6 g7 gj
    unfold vX11_stepOn_129
    rw [nI_1, nI_clamp (by omega), nI_clamp (by omega), w_held, h4, (show a 4 t = _ from rb 0 (by omega)), h7, ho, hbr, hwh]
    refine ⟨vp_in_nI (by omega) (by omega), vp_in_nI (by omega) (by omega), wn, vp_in_nI (by omega) (by omega), fun a3 h3 => ?_⟩
    refine hQ a3 (by rw [h3]; exact hac.up (by omega)) (fun j hj => ?_)
    have c4 : a3 4 = upd (a 4) (t + 1) (rnR (some z) q load s (t + 1) 0) := by rw [h3, va_up_self]; rfl
    have c5 : a3 5 = a2 5 := by rw [h3, va_up_ne _ _ (by omega)]
    have c6 : a3 6 = a2 6 := by rw [h3, va_up_ne _ _ (by omega)]
    rw [c4, c5, c6]
    rcases (show j ≤ t ∨ j = t + 1 by omega) with zz | rfl
    · obtain ⟨q1, q2⟩ := hr j zz
      obtain ⟨u1, u2, u3, u4⟩ := gj j zz
      rw [u1, u2, u3, u4]
      exact ⟨fun k hk => by rw [upd_ne _ _ (by omega)]; exact q1 k hk, q2⟩
    · refine ⟨fun k hk => ?_, g4, g5, g6, g7⟩
      rcases (show k = 0 ∨ k = 1 ∨ k = 2 ∨ k = 3 by omega) with rfl | rfl | rfl | rfl
      · exact upd_self _ _ _
      · rw [upd_ne _ _ (by omega), show t + 1 - 1 = t - 0 by omega]; exact rb 0 (by omega)
      · rw [upd_ne _ _ (by omega), show t + 1 - 2 = t - 1 by omega]; exact rb 1 (by omega)
      · rw [upd_ne _ _ (by omega), show t + 1 - 3 = t - 2 by omega]; exact rb 2 (by omega)
  cases q with
  | none =>
    have gq' : f 6 = -9 := gq
    rw [gq', ixo, nI_clamp (by omega)]
    refine ⟨fun h => absurd h (by decide), fun _ => ⟨v602, fun a2 h2 => ⟨v602, fun a3 h3 => ?_⟩⟩⟩
    have c5 : a3 5 = upd (a1 5) (301 + t + 1) 0 := by rw [h3, va_up_ne _ _ (by omega), h2, va_up_self]
    have c6 : a3 6 = upd (a1 6) (301 + t + 1) 0 := by rw [h3, va_up_self, h2, va_up_ne _ _ (by omega)]
    refine fin a3 y2 _ _ ?_ ?_ ?_ ?_ ?_ ?_ ?_ ?_ ?_ (fun j hj => ?_)
    · rw [hy2]; show _ = _ + (0 : Int32); simp
    · show _ = _ + (0 : Int32); simp; rfl
    · show _ = _ + (0 : Int32); simp; rfl
    · rw [h3, h2]; exact (ac1.up (by omega)).up (by omega)
    · rw [h3, va_up_ne _ _ (by omega), h2, va_up_ne _ _ (by omega)]; exact a4
    · rw [c5, upd_ne _ _ (by omega), a5, upd_self]
    · rw [c6, upd_ne _ _ (by omega), a6, upd_self]
    · rw [c5, show 301 + (t + 1) = 301 + t + 1 by omega, upd_self]; rfl
    · rw [c6, show 301 + (t + 1) = 301 + t + 1 by omega, upd_self]; rfl
    · rw [c5, c6, upd_ne _ _ (by omega), upd_ne _ _ (by omega), upd_ne _ _ (by omega), upd_ne _ _ (by omega), a5, a6, upd_ne _ _ (by omega), upd_ne _ _ (by omega), upd_ne _ _ (by omega), upd_ne _ _ (by omega)]
      exact ⟨rfl, rfl, rfl, rfl⟩
  | some w =>
    obtain ⟨y, y1, y2', y3, y4⟩ := gq
    obtain ⟨mw, kw⟩ := hq w rfl
    have m7 : w.1 7 ≤ 3 := (mw 7 (by omega)).2
    have y3' : RM a1 y w.1 := y3.ac ac1
    rw [y1]
    refine ⟨fun _ => ?_, fun h => absurd (nI_pos' (by omega)) h⟩
    refine n_stepValve (at_ := 301) y2' y3' mw (by rw [ac1.1]; exact y4) kw (by omega) ht ?_
    rw [a4, rb _ m7, a5, a6, upd_ne _ _ (show 301 + t ≠ t + 1 by omega), upd_ne _ _ (show 301 + t ≠ t + 1 by omega), r5', r6', ixo, nI_clamp (by omega)]
    generalize hA2 : va_up (va_up a1 6 (upd (upd (a 6) (t + 1) (rnR (some z) (some w) load s (t + 1) 5)) (301 + t + 1) (msN w.1 (rnR (some z) (some w) load s t (w.1 7)) (rnR (some z) (some w) load s t 7)))) 5 (upd (upd (a 5) (t + 1) (rnR (some z) (some w) load s (t + 1) 4)) (301 + t + 1) (vlN w.2 w.1 (rnR (some z) (some w) load s t 6) (wtN w.1 (rnR (some z) (some w) load s t (w.1 7)) (rnR (some z) (some w) load s t 7)))) = a2
    have ac2 : Ac a a2 := by rw [← hA2]; exact (ac1.up (by omega)).up (by omega)
    have c5 : a2 5 = upd (upd (a 5) (t + 1) (rnR (some z) (some w) load s (t + 1) 4)) (301 + t + 1) (rnR (some z) (some w) load s (t + 1) 6) := by rw [← hA2]; exact va_up_self _ _ _
    have c6 : a2 6 = upd (upd (a 6) (t + 1) (rnR (some z) (some w) load s (t + 1) 5)) (301 + t + 1) (rnR (some z) (some w) load s (t + 1) 7) := by rw [← hA2, va_up_ne _ _ (by omega)]; exact va_up_self _ _ _
    have c4 : a2 4 = a 4 := by rw [← hA2, va_up_ne _ _ (by omega), va_up_ne _ _ (by omega)]; exact a4
    have y3'' : RM a2 y w.1 := y3.ac ac2
    refine ⟨v602, fun y5 hy5 => ?_⟩
    rw [y1, n_ofl (w := 1) y2' (by omega), y3'' 1 (by omega)]
    intro y6 hy6
    rw [y1, n_ofl (w := 0) y2' (by omega), y3'' 0 (by omega)]
    intro y7 hy7
    refine fin a2 y5 y6 y7 ?_ hy6 hy7 ac2 c4 ?_ ?_ ?_ ?_ (fun j hj => ?_)
    · rw [hy5, hy2, c5, upd_self]
    · rw [c5, upd_ne _ _ (by omega), upd_self]
    · rw [c6, upd_ne _ _ (by omega), upd_self]
    · rw [c5, show 301 + (t + 1) = 301 + t + 1 by omega, upd_self]
    · rw [c6, show 301 + (t + 1) = 301 + t + 1 by omega, upd_self]
    · rw [c5, c6, upd_ne _ _ (by omega), upd_ne _ _ (by omega), upd_ne _ _ (by omega), upd_ne _ _ (by omega), upd_ne _ _ (by omega), upd_ne _ _ (by omega), upd_ne _ _ (by omega), upd_ne _ _ (by omega)]
      exact ⟨rfl, rfl, rfl, rfl⟩
end ST
