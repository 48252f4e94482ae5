/-! pair: mill -/
section MP
variable {K : Nat → Nat} {n : Nat} {M : Nat → Nat → Nat} {S : Nat → Nat → Int32} {L : Nat → Int64} {R : Nat → Option Nat} {f : Nat → Int32} {a : Nat → Nat → Int32}
variable {cd : Nat → Int32} {k i m c : Nat}
theorem w_begin18 {Q : (Nat → Nat → Int32) → (Nat → Int64) → (Nat → Option Nat) → Prop} (hQ : ∀ S' : Nat → Nat → Int32, (∀ u, u ≠ 5 → u ≠ 6 → S' u = S u) → CD S' (fun _ => none) → Q S' L R) :
    ∀ d w : Nat, ∀ S1 : Nat → Nat → Int32, w + d = 9 → (∀ u, u ≠ 5 → u ≠ 6 → S1 u = S u) → (∀ j, j < w → S1 6 j = 0 ∧ S1 5 j = nI (firstN j)) → vX0_begin_18 K n Q (d + 1) (nI w) S1 L R := by
  intro d
  induction d with
  | zero =>
    intro w S1 hw g1 g2
    obtain rfl : w = 9 := by omega
    unfold vX0_begin_18
    exact ⟨fun _ => hQ S1 g1 (fun u hu => ⟨fun _ => g2 u hu, fun v q => (by cases q)⟩), fun z => absurd (nI_le (a := 9) (b := 9) (by omega) (by omega)) z⟩
  | succ d ih =>
    intro w S1 hw g1 g2
    have v9 : vp_in (nI w) 9 := vp_in_nI (by omega) (by omega)
    unfold vX0_begin_18
    refine ⟨fun z => absurd z (nI_ge (b := 9) (by omega) (by omega)), fun _ => ⟨v9, v9, fun S2 h2 => ⟨v9, fun S3 h3 y hy => ?_⟩⟩⟩
    rw [nI_clamp (by omega), first_nI (by omega)] at h2
    rw [nI_clamp (by omega), nar0] at h3
    rw [hy, nI_1]
    refine ih (w + 1) S3 (by omega) (fun u u5 u6 => by rw [h3, va_up_ne _ _ u6, h2, va_up_ne _ _ u5]; exact g1 u u5 u6) (fun j hj => ?_)
    have e6 : S3 6 = upd (S1 6) w 0 := by rw [h3, va_up_self, h2, va_up_ne _ _ (by omega)]
    have e5 : S3 5 = upd (S1 5) w (nI (firstN w)) := by rw [h3, va_up_ne _ _ (by omega), h2, va_up_self]
    rw [e5, e6]
    by_cases e : j = w
    · subst e; rw [upd_self, upd_self]; exact ⟨rfl, rfl⟩
    · rw [upd_ne _ _ e, upd_ne _ _ e]; exact g2 j (by omega)
theorem w_read {Q : Int32 → (Nat → Nat → Int32) → (Nat → Int64) → (Nat → Option Nat) → Prop} (hk : k < 4) (h3 : S (21 + 2 * k) 3 = nI c) (hc : c ≤ 60) (him : i + m ≤ c) (hcd : ∀ t, t < m → S (22 + 2 * k) (i + t) = cd t)
    (hf : ∀ p S', (rdF cd m 9 0 (fun _ => none)).1 = some p → Sc S S' → Q (nI p) S' L (va_up R 4 (some k))) (hs : ∀ S', (rdF cd m 9 0 (fun _ => none)).1 = none → Sc S S' → CD S' (rdF cd m 9 0 (fun _ => none)).2 → DB (rdF cd m 9 0 (fun _ => none)).2 → Q (-1) S' L (va_up R 4 (some k))) : vX0_read K n k (nI i) (nI m) S L R Q := by
  unfold vX0_read vX0_begin
  intro R1 hR1 S2 h2 S3 h3'
  rw [hR1]
  have o3 : ∀ u, u ≠ 4 → S3 u = S u := fun u hu => by rw [h3', va_up_ne _ _ hu, h2, va_up_ne _ _ hu]
  refine ⟨10, w_begin18 (S := S3) (fun S4 g1 hC => ⟨10, ?_⟩) 9 0 S3 (by omega) (fun _ _ _ => rfl) (fun j hj => by omega)⟩
  have sc4 : Sc S S4 := fun u hu => by rw [g1 u (by omega) (by omega)]; exact o3 u (by omega)
  have hT : CT S4 (va_up R 4 (some k)) cd k i m c := by
    refine ⟨va_up_self _ _ _, hk, ?_, ?_, by rw [sc4 _ (by omega)]; exact h3, hc, him, fun t ht => by rw [sc4 _ (by omega)]; exact hcd t ht⟩
    · rw [g1 4 (by omega) (by omega), h3', va_up_self, upd_ne _ _ (by omega), h2, va_up_self, upd_self]
    · rw [g1 4 (by omega) (by omega), h3', va_up_self, upd_self]
  exact w_read13 (S := S) (cd := cd) 9 0 (fun _ => none) S4 (by omega) (by omega) hT (fun w hw v q => (by cases q)) hC sc4 hf hs
def dN (D : Nat → Option Nat) (w : Nat) : Nat := match D w with
  | none => firstN w
  | some v => v
theorem dN_mb {D : Nat → Option Nat} (h : DB D) : MB (dN D) := by
  intro w hw
  unfold dN
  cases hd : D w with
  | none => exact first_b hw
  | some v => exact h w hw v hd
theorem n_first {w : Nat} {Q : Int32 → Prop} (hw : w < 9) : vX11_firstOf (nI w) Q = Q (nI (firstN w)) :=
  by9 (P := fun w => vX11_firstOf (nI w) Q = Q (nI (firstN w))) (by simp [vX11_firstOf, nI, firstN]) (by simp [vX11_firstOf, nI, firstN]) (by simp [vX11_firstOf, nI, firstN]) (by simp [vX11_firstOf, nI, firstN]) (by simp [vX11_firstOf, nI, firstN]) (by simp [vX11_firstOf, nI, firstN]) (by simp [vX11_firstOf, nI, firstN]) (by simp [vX11_firstOf, nI, firstN]) (by simp [vX11_firstOf, nI, firstN]) w hw
theorem n_mill124 {D : Nat → Option Nat} {Q : Int32 → (Nat → Int32) → (Nat → Nat → Int32) → Prop} (hn : n < 8) (hf1 : f 1 = nI n) (hR : RD a D) (hD : DB D)
    (hQ : ∀ a', (∀ u, u ≠ 2 → a' u = a u) → (∀ j, j < 9 * n → a' 2 j = a 2 j) → (∀ w, w < 9 → a' 2 (9 * n + w) = nI (dN D w)) → Q (nI n) (va_up (va_up f 1 (nI (n + 1))) 0 0) a') :
    ∀ d w : Nat, ∀ a1 : Nat → Nat → Int32, w + d = 9 → (∀ u, u ≠ 2 → a1 u = a u) → (∀ j, j < 9 * n → a1 2 j = a 2 j) → (∀ j, j < w → a1 2 (9 * n + j) = nI (dN D j)) → vX11_mill_124 Q (d + 1) (nI w) f a1 := by
  intro d
  induction d with
  | zero =>
    intro w a1 hw g1 g2 g3
    obtain rfl : w = 9 := by omega
    unfold vX11_mill_124
    refine ⟨fun _ f2 h2 => ?_, fun z => absurd (nI_le (a := 9) (b := 9) (by omega) (by omega)) z⟩
    rw [n_ref]
    have := hQ a1 g1 g2 g3
    rw [h2, va_up_self, hf1, nI_1, nI_pred]
    exact this
  | succ d ih =>
    intro w a1 hw g1 g2 g3
    have v9 : vp_in (nI w) 9 := vp_in_nI (by omega) (by omega)
    have go : ∀ y0 : Int32, y0 = nI (dN D w) → vX11_mill_170 (vX11_mill_124 Q (d + 1)) Q (nI w) y0 (nI (9 * n + w)) f a1 := by
      intro y0 hy0
      unfold vX11_mill_170
      rw [nI_clamp (by omega)]
      refine ⟨vp_in_nI (by omega) (by omega), fun a2 h2 y hy => ?_⟩
      rw [hy, nI_1]
      refine ih (w + 1) a2 (by omega) (fun u hu => by rw [h2, va_up_ne _ _ hu]; exact g1 u hu) (fun j hj => by rw [h2, va_up_self, upd_ne _ _ (by omega)]; exact g2 j hj) (fun j hj => ?_)
      rw [h2, va_up_self]
      by_cases e : j = w
      · subst e; rw [upd_self, hy0]
      · rw [upd_ne _ _ (by omega)]; exact g3 j (by omega)
    unfold vX11_mill_124
    rw [nI_clamp (by omega), hf1, ix9, g1 3 (by omega), n_first (by omega)]
    refine ⟨fun z => absurd z (nI_ge (b := 9) (by omega) (by omega)), fun _ => ⟨v9, fun h => ⟨v9, go _ ?_⟩, fun h => go _ ?_⟩⟩
    · unfold dN
      cases hd : D w with
      | none => rw [(hR w (by omega)).1 hd] at h; exact absurd h (by decide)
      | some v => exact (hR w (by omega)).2 v hd
    · unfold dN
      cases hd : D w with
      | none => rfl
      | some v =>
        rw [(hR w (by omega)).2 v hd] at h
        have := hD w (by omega) v hd
        have := lohi w
        exact absurd (nI_pos' (by omega)) h
theorem kN_nI {kd : Nat} (h : kd ≤ 2) : kN (nI kd) = kd := by
  rcases (show kd = 0 ∨ kd = 1 ∨ kd = 2 by omega) with rfl | rfl | rfl <;> decide
theorem Inv.mil {kd : Nat} {D : Nat → Option Nat} {S' : Nat → Nat → Int32} {f' : Nat → Int32} {a' : Nat → Nat → Int32} {R' : Nat → Option Nat} (h : Inv K n M S R f a) (hn : n < 8) (hkd : kd ≤ 2) (hD : DB D) (hRO : RO n R')
    (s0 : S' 0 8 = nI (n + 1)) (s9 : S' 0 9 = S 0 9) (s10 : S' 0 10 = f' 0) (s3 : S' 3 = S 3) (s14 : S' 14 = S 14) (s21 : ∀ u, 21 ≤ u → u ≠ 30 + 2 * n → S' u = S u) (sN : ∀ w, w < 9 → S' (30 + 2 * n) w = nI (dN D w))
    (f1 : f' 1 = nI (n + 1)) (f14 : f' 14 = f 14) (f20 : f' 20 = f 20) (a1 : a' 1 = upd (a 1) n (nI kd)) (a2 : ∀ j, j < 9 * n → a' 2 j = a 2 j) (aN : ∀ w, w < 9 → a' 2 (9 * n + w) = nI (dN D w)) (a7 : a' 7 = a 7) (a8 : a' 8 = a 8) (a9 : a' 9 = a 9) (a10 : a' 10 = a 10) :
    Inv (va_up K n kd) (n + 1) (va_up M n (dN D)) S' R' f' a' := by
  obtain ⟨⟨g1, g2, g3, g4⟩, g5, g6, ⟨c, w1, w2, w3, w4⟩, ⟨g8, g9⟩, g10⟩ := h
  refine ⟨⟨by omega, ⟨hRO.1, fun x hx => Nat.lt_succ_of_lt (hRO.2.1 x hx), fun x hx => Nat.lt_succ_of_lt (hRO.2.2 x hx)⟩, s0, f1⟩, fun x hx => ?_, fun x hx => ?_, ⟨c, w1, s9.trans w2, f14.trans w3, fun j hj => by rw [s3, a7]; exact w4 j hj⟩, ⟨s10, by rw [s14, f20]; exact g9⟩, fun k hk => ?_⟩
  · rw [a1]
    by_cases e : x = n
    · subst e; rw [va_up_self, upd_self]; exact ⟨by omega, rfl⟩
    · rw [va_up_ne _ _ e, upd_ne _ _ e]; exact g5 x (by omega)
  · by_cases e : x = n
    · subst e
      rw [va_up_self]
      exact ⟨dN_mb hD, sN, aN⟩
    · rw [va_up_ne _ _ e]
      obtain ⟨m1, m2, m3⟩ := g6 x (by omega)
      refine ⟨m1, fun w hw => by rw [s21 _ (by omega) (by omega)]; exact m2 w hw, fun w hw => by rw [a2 _ (by omega)]; exact m3 w hw⟩
  · have := g10 k hk
    unfold ShC at this ⊢
    rw [s21 (21 + 2 * k) (by omega) (by omega), s21 (22 + 2 * k) (by omega) (by omega), a8, a9, a10]
    exact this
theorem pr_mill (I : Inv K n M S R f a) (x1 x2 x3 x4 x5 : Int32) : vX10_mill K n x1 x2 x3 x4 x5 S L R (fun r K' n' S' _ R' => vX11_mill x1 x2 x3 x4 x5 f a (fun r' f' a' => r = r' ∧ Jv K' n' S' R' f' a')) := by
  obtain ⟨⟨hn, hRO, hS8, hf1⟩, hK, hM, hW, hF, hSh⟩ := id I
  unfold vX10_mill
  intro S1 hS1
  have I1 : Inv K n M S1 R (va_up f 0 0) a := by subst hS1; exact I.flt (fun i hi => by simp [va_up, hi]) (by simp [va_up, upd]) (by simp [va_up, upd]) (by simp [va_up, upd]) (by simp [va_up]) (by simp [va_up]) (by simp [va_up])
  have fl : ∀ (r : Int32), Jv K n (va_up S1 0 (upd (S1 0) 10 r)) R (va_up f 0 r) a := fun r => by subst hS1; exact ⟨M, I.flt (fun i hi => by simp [va_up, hi]) (by simp [va_up, upd]) (by simp [va_up, upd]) (by simp [va_up, upd]) (by simp [va_up]) (by simp [va_up]) (by simp [va_up])⟩
  refine i_sheet (fun k hk e => ?_) (fun ho => ?_)
  · subst e
    simp only [vX11_mill, vX11_mill_37, n_sheet hk, n_ref, z00, z10, not_true_eq_false, not_false_eq_true, false_implies, true_implies, true_and, and_true]
    refine j_w 0 2 rfl rfl (fun hkd => ?_) (fun hkd => ?_)
    · simp only [n_in (l := 0) (g := 2) 0 2 rfl rfl hkd, z00, z10, not_true_eq_false, not_false_eq_true, false_implies, true_implies, true_and, and_true]
      refine j_w' 0 2 rfl rfl (fun hla => ⟨hk, ?_⟩) (fun hla => ?_)
      · simp only [n_in (l := 0) (g := 2) 0 2 rfl rfl hla, z00, z10, not_true_eq_false, not_false_eq_true, false_implies, true_implies, true_and, and_true]
        obtain ⟨kd, hkd2, rfl⟩ := rg_nI (hi := 2) hkd
        refine i_take (a := a) (f := f) (P := fun r S' _ R' => vX11_barred (nI k) x3 x4 x5.toInt64 f a _) hk (I1.2.2.2.2.2 k hk) (fun c c0 c3 c2 c5 sp hb => ?_) (fun r hr hb => ?_)
        · obtain ⟨s1, s2, s3⟩ := id sp
          obtain ⟨i, hi, rfl⟩ := rg_nI (x := x4) (hi := c) (by omega)
          obtain ⟨m, hm, rfl⟩ := rg_nI (x := x5) (hi := c) (by omega)
          rw [nI_toInt (by omega), nI_toInt (by omega)] at s3
          have cdE : ∀ t, t < m → S1 (22 + 2 * k) (i + t) = a 10 (60 * k + i + t) := fun t ht => by rw [c5 _ (by omega), show 60 * k + (i + t) = 60 * k + i + t by omega]
          have ib : (60 : Int32) * nI k + nI i = nI (60 * k + i) := ix60 k i
          have refRead : ∀ {Q' : Int32 → (Nat → Int32) → (Nat → Nat → Int32) → Prop}, (∀ p a', (rdF (fun t => a 10 (60 * k + i + t)) m 9 0 (fun _ => none)).1 = some p → (∀ u, u ≠ 3 → a' u = a u) → Q' (nI p) f a') → (∀ a', (rdF (fun t => a 10 (60 * k + i + t)) m 9 0 (fun _ => none)).1 = none → (∀ u, u ≠ 3 → a' u = a u) → RD a' (rdF (fun t => a 10 (60 * k + i + t)) m 9 0 (fun _ => none)).2 → DB (rdF (fun t => a 10 (60 * k + i + t)) m 9 0 (fun _ => none)).2 → Q' (-9) f a') → vX11_readDrawing (nI (60 * k + i)) (nI m) f a Q' := by
            intro Q' h1 h2
            refine ⟨10, n_rd2 (a := a) (fun a' g1 hR => ?_) 9 0 a (by omega) (fun _ _ => rfl) (fun j hj => by omega)⟩
            exact n_rd30 (a := a') (cd := fun t => a 10 (60 * k + i + t)) (by omega) (by omega) (fun u hu => by rw [g1 10 (by omega)]) 8 0 (fun _ => none) a' (by omega) (by omega) hR (fun w hw v q => (by cases q)) (fun _ _ => rfl) (fun p a'' hp g2 => h1 p a'' hp (fun u hu => (g2 u hu).trans (g1 u hu))) (fun a'' hp g2 hr hd => h2 a'' hp (fun u hu => (g2 u hu).trans (g1 u hu)) hr hd)
          have acE : ∀ {a' : Nat → Nat → Int32}, (∀ u, u ≠ 3 → a' u = a u) → Ac a a' := fun g => ⟨g 1 (by omega), g 2 (by omega), g 7 (by omega), g 8 (by omega), g 9 (by omega), g 10 (by omega)⟩
          have ro4 : ∀ {R' : Nat → Option Nat}, R' = va_up R 4 (some k) → RO n R' := fun e => by
            subst e
            refine ⟨fun y hy => ?_, fun x hx => hRO.2.1 x (by rw [va_up_ne _ _ (by omega)] at hx; exact hx), fun x hx => hRO.2.2 x (by rw [va_up_ne _ _ (by omega)] at hx; exact hx)⟩
            rw [va_up_self] at hy; cases hy; exact hk
          have plt : ∀ p, (rdF (fun t => a 10 (60 * k + i + t)) m 9 0 (fun _ => none)).1 = some p → p ≤ 1000 := rdF_lt _ m 9 0 _ (by omega)
          rw [ib]
          refine w_read (cd := fun t => a 10 (60 * k + i + t)) hk c3 c0 (by omega) cdE (fun p S2 hp sc2 => ⟨fun z => ?_, fun _ => ?_⟩) (fun S2 hp sc2 hC hD => ⟨fun _ => ⟨fun hlt => ?_, fun hge => ?_⟩, fun z => absurd rfl z⟩)
          · exfalso
            have p1 := plt p hp
            have : (nI p).toInt = -1 := by rw [z]; decide
            rw [nI_toInt (by omega)] at this
            omega
          · rw [hb]
            refine ⟨fun _ => refRead (fun p' a' hp' g => ?_) (fun a' hp' g _ _ => ?_), fun z => absurd (by decide) z⟩
            · rw [hp] at hp'; cases hp'
              refine ⟨fun z => absurd z (nI_pos (by have := plt p hp; omega)), fun _ => ⟨rfl, M, I1.go sc2 (ro4 rfl) Fc.rfl' (acE g)⟩⟩
            · rw [hp] at hp'; cases hp'
          · have e8 : S2 0 8 = nI n := by rw [sc2 0 (by omega)]; exact I1.1.2.2.1
            rw [e8] at hlt
            have hn8 : n < 8 := (nI_ltI (b := 8) (by omega) (by omega)).mp hlt
            refine ⟨hn8, ro4 rfl, e8, ?_⟩
            unfold vX10_mill_127
            intro S3 h3
            rw [va_up_ne _ _ (show 0 ≠ 30 + 2 * n by omega), e8, nI_1] at h3
            have q08 : S3 0 8 = nI (n + 1) := by rw [h3, va_up_self, upd_self]
            rw [q08, nI_pred, hb, kN_nI hkd2]
            refine ⟨fun _ => refRead (fun p' a' hp' g => ?_) (fun a' hp' g hR _ => ⟨fun _ => ⟨fun hne => ?_, fun he => ?_⟩, fun z => absurd (by decide) z⟩), fun z => absurd (by decide) z⟩
            · rw [hp] at hp'; cases hp'
            · rw [hf1, nI_clamp (by omega)]
              refine ⟨vp_in_nI (by omega) (by omega), fun a1 h1 => ⟨10, ?_⟩⟩
              have o1 : ∀ u, u ≠ 1 → a1 u = a' u := fun u hu => by rw [h1, va_up_ne _ _ hu]
              refine n_mill124 (a := a1) (D := (rdF (fun t => a 10 (60 * k + i + t)) m 9 0 (fun _ => none)).2) hn8 hf1 (fun w hw => by rw [o1 3 (by omega)]; exact hR w hw) hD (fun a2 g2 g3 g4 => ⟨rfl, _, I1.mil (R' := va_up R 4 (some k)) hn8 hkd2 hD (ro4 rfl) q08 ?_ ?_ ?_ ?_ (fun u hu hne' => ?_) (fun w hw => ?_) ?_ ?_ ?_ ?_ (fun j hj => ?_) g4 ?_ ?_ ?_ ?_⟩) 9 0 a1 (by omega) (fun _ _ => rfl) (fun _ _ => rfl) (fun j hj => by omega)
              · rw [h3, va_up_self, upd_ne _ _ (by omega), sc2 0 (by omega)]
              · rw [h3, va_up_self, upd_ne _ _ (by omega), sc2 0 (by omega), I1.2.2.2.2.1.1, va_up_self, va_up_self]
              · rw [h3, va_up_ne _ _ (by omega), va_up_ne _ _ (by omega), sc2 3 (by omega)]
              · rw [h3, va_up_ne _ _ (by omega), va_up_ne _ _ (by omega), sc2 14 (by omega)]
              · rw [h3, va_up_ne _ _ (by omega), va_up_ne _ _ hne', sc2 u (by omega)]
              · rw [h3, va_up_ne _ _ (by omega), va_up_self]
                unfold dN
                cases hd : (rdF (fun t => a 10 (60 * k + i + t)) m 9 0 (fun _ => none)).2 w with
                | none => exact ((hC w hw).1 hd).2
                | some v => exact ((hC w hw).2 v hd).2
              · rw [va_up_ne _ _ (by omega), va_up_self]
              · rw [va_up_ne _ _ (by omega), va_up_ne _ _ (by omega), va_up_ne _ _ (by omega)]
              · rw [va_up_ne _ _ (by omega), va_up_ne _ _ (by omega), va_up_ne _ _ (by omega)]
              · rw [g2 1 (by omega), h1, va_up_self, g 1 (by omega)]
              · rw [g3 j hj, o1 2 (by omega), g 2 (by omega)]
              · rw [g2 7 (by omega), o1 7 (by omega), g 7 (by omega)]
              · rw [g2 8 (by omega), o1 8 (by omega), g 8 (by omega)]
              · rw [g2 9 (by omega), o1 9 (by omega), g 9 (by omega)]
              · rw [g2 10 (by omega), o1 10 (by omega), g 10 (by omega)]
            · rw [hf1] at he
              have := (nI_eq (b := 8) (by omega) (by omega)).mp he
              omega
          · have e8 : S2 0 8 = nI n := by rw [sc2 0 (by omega)]; exact I1.1.2.2.1
            rw [e8] at hge
            have hn8 : n = 8 := by
              have : ¬ n < 8 := fun q => hge (nI_lt (b := 8) q (by omega))
              omega
            rw [hb]
            refine ⟨fun _ => refRead (fun p' a' hp' g => ?_) (fun a' hp' g _ _ => ⟨fun _ => ⟨fun hne => ?_, fun _ => ⟨M, I1.go sc2 (ro4 rfl) Fc.rfl' (acE g)⟩⟩, fun z => absurd (by decide) z⟩), fun z => absurd (by decide) z⟩
            · rw [hp] at hp'; cases hp'
            · exact absurd (by rw [hf1, hn8]; rfl) hne
        · rw [hb]
          refine ⟨fun z => absurd z ?_, fun _ => ⟨rfl, fl r⟩⟩
          rcases hr with rfl | rfl | rfl | rfl <;> decide
      · simp only [n_out (l := 0) (g := 2) 0 2 rfl rfl hla, z00, z10, not_true_eq_false, not_false_eq_true, false_implies, true_implies, true_and, and_true]
        exact ⟨M, I1⟩
    · simp only [n_out (l := 0) (g := 2) 0 2 rfl rfl hkd, z00, z10, not_true_eq_false, not_false_eq_true, false_implies, true_implies, true_and, and_true]
      exact ⟨M, I1⟩
  · simp only [vX11_mill, n_sheet0 ho, n_ref, z00, z10, not_true_eq_false, not_false_eq_true, false_implies, true_implies, true_and, and_true]
    exact ⟨M, I1⟩
end MP
