/-! the reference reads a drawing; mill -/
section MI
variable {K : Nat → Nat} {n : Nat} {M : Nat → Nat → Nat} {S : Nat → Nat → Int32} {L : Nat → Int64} {R : Nat → Option Nat} {f : Nat → Int32} {a : Nat → Nat → Int32}
theorem n_what {c : Int32} {Q : Int32 → Prop} (h1 : ∀ w, w < 9 → letN c = some w → Q (nI w)) (h0 : letN c = none → Q (-9)) : vX11_whatBy c Q := by
  unfold vX11_whatBy
  refine ⟨fun e => ?_, fun e => ?_, fun e => ?_, fun e => ?_, fun e => ?_, fun e => ?_, fun e => ?_, fun e => ?_, fun e => ?_, fun a1 a2 a3 a4 a5 a6 a7 a8 a9 => ?_⟩
  · subst e; exact h1 2 (by omega) rfl
  · subst e; exact h1 7 (by omega) rfl
  · subst e; exact h1 5 (by omega) rfl
  · subst e; exact h1 6 (by omega) rfl
  · subst e; exact h1 4 (by omega) rfl
  · subst e; exact h1 3 (by omega) rfl
  · subst e; exact h1 1 (by omega) rfl
  · subst e; exact h1 8 (by omega) rfl
  · subst e; exact h1 0 (by omega) rfl
  · refine h0 ?_
    unfold letN
    rw [if_neg a9, if_neg a7, if_neg a1, if_neg a6, if_neg a5, if_neg a3, if_neg a4, if_neg a2, if_neg a8]
theorem n_rd2 {b m : Nat} {Q : Int32 → (Nat → Int32) → (Nat → Nat → Int32) → Prop} (hK : ∀ a', (∀ u, u ≠ 3 → a' u = a u) → RD a' (fun _ => none) → ∃ n30, vX11_readDrawing_30 Q n30 (nI b) (nI m) 0 0 1 f a') :
    ∀ d w : Nat, ∀ a1 : Nat → Nat → Int32, w + d = 9 → (∀ u, u ≠ 3 → a1 u = a u) → (∀ j, j < w → a1 3 j = -9) → vX11_readDrawing_2 Q (d + 1) (nI b) (nI m) (nI w) f a1 := by
  intro d
  induction d with
  | zero =>
    intro w a1 hw g1 g2
    obtain rfl : w = 9 := by omega
    unfold vX11_readDrawing_2
    exact ⟨fun _ => hK a1 g1 (fun u hu => ⟨fun _ => g2 u hu, fun v q => (by cases q)⟩), fun z => absurd (nI_le (a := 9) (b := 9) (by omega) (by omega)) z⟩
  | succ d ih =>
    intro w a1 hw g1 g2
    unfold vX11_readDrawing_2
    refine ⟨fun z => absurd z (nI_ge (b := 9) (by omega) (by omega)), fun _ => ⟨vp_in_nI (by omega) (by omega), fun a2 h2 y hy => ?_⟩⟩
    rw [nI_clamp (by omega)] at h2
    rw [hy, nI_1]
    refine ih (w + 1) a2 (by omega) (fun u hu => by rw [h2, va_up_ne _ _ hu]; exact g1 u hu) (fun j hj => ?_)
    rw [h2, va_up_self]
    by_cases e : j = w
    · subst e; exact upd_self _ _ _
    · rw [upd_ne _ _ e]; exact g2 j (by omega)
variable {cd : Nat → Int32} {b m : Nat}
theorem n_rd84 {K30 : Int32 → Int32 → Int32 → Int32 → Int32 → (Nat → Int32) → (Nat → Nat → Int32) → Prop} {Q : Int32 → (Nat → Int32) → (Nat → Nat → Int32) → Prop} {t w : Nat} {x4 : Int32} (hb : b + m ≤ 240) (ht : t < 1000) (hcd : ∀ u, u < m → a 10 (b + u) = cd u)
    (h : vX11_readDrawing_143 K30 Q (nI b) (nI m) (nI (t + dgN cd m t)) x4 (nI w) (nI t) (nvI cd m t) f a) : ∃ n84, vX11_readDrawing_84 K30 Q n84 (nI b) (nI m) (nI t) x4 (nI w) (nI t) 0 f a := by
  have hd := dgN_le cd m t
  have two : nI t + 2 = nI (t + 2) := nI_add t 2
  have one : ∀ u, u < m → u < t + 2 → ∀ (x8 : Int32) (fu : Nat), (isD (cd u) → vX11_readDrawing_84 K30 Q fu (nI b) (nI m) (nI (u + 1)) x4 (nI w) (nI t) (10 * x8 + cd u - 48) f a) → (¬ isD (cd u) → vX11_readDrawing_143 K30 Q (nI b) (nI m) (nI u) x4 (nI w) (nI t) x8 f a) → vX11_readDrawing_84 K30 Q (fu + 1) (nI b) (nI m) (nI u) x4 (nI w) (nI t) x8 f a := by
    intro u hu hu2 x8 fu hy hn
    unfold vX11_readDrawing_84
    rw [two, nI_add, nI_clamp (by omega), hcd u hu]
    refine ⟨fun z => absurd z (nI_ge (by omega) (by omega)), fun _ => ⟨fun z => absurd z (nI_ge (by omega) (by omega)), fun _ => ⟨vp_in_nI (by omega) (by omega), i_n 48 57 rfl rfl (fun h => ⟨fun z => absurd z (by decide), fun _ => ⟨vp_in_nI (by omega) (by omega), fun y hy8 y2 hy2 => ?_⟩⟩) (fun h => ⟨fun _ => hn h, fun z => absurd rfl z⟩)⟩⟩⟩
    rw [hy8, hy2, nI_1]
    exact hy h
  have stop : ∀ u, (m ≤ u ∨ t + 2 ≤ u) → u < 1003 → ∀ (x8 : Int32), vX11_readDrawing_143 K30 Q (nI b) (nI m) (nI u) x4 (nI w) (nI t) x8 f a → vX11_readDrawing_84 K30 Q 1 (nI b) (nI m) (nI u) x4 (nI w) (nI t) x8 f a := by
    intro u hu hu3 x8 hx
    unfold vX11_readDrawing_84
    rw [two]
    refine ⟨fun _ => hx, fun z => ⟨fun _ => hx, fun z2 => ?_⟩⟩
    rcases hu with q | q
    · exact absurd (nI_le q (by omega)) z
    · exact absurd (nI_le q (by omega)) z2
  have cm : ∀ u, u < m → cdO cd m u = cd u := fun u hu => by unfold cdO; rw [if_pos hu]
  have cn : ∀ u, ¬ u < m → ¬ isD (cdO cd m u) := fun u hu => by unfold cdO; rw [if_neg hu]; exact not_isD_m1
  by_cases h1 : isD (cdO cd m t)
  · have t1 : t < m := by
      rcases Nat.lt_or_ge t m with q | q
      · exact q
      · exact absurd h1 (cn t (by omega))
    by_cases h2 : isD (cdO cd m (t + 1))
    · have t2 : t + 1 < m := by
        rcases Nat.lt_or_ge (t + 1) m with q | q
        · exact q
        · exact absurd h2 (cn (t + 1) (by omega))
      have ed : dgN cd m t = 2 := by unfold dgN; rw [if_pos h1, if_pos h2]
      have ev : nvI cd m t = 10 * (10 * 0 + cd t - 48) + cd (t + 1) - 48 := by unfold nvI; rw [ed, if_neg (by omega), if_neg (by omega), cm t t1, cm (t + 1) t2]
      rw [ed, ev] at h
      rw [cm t t1] at h1
      rw [cm (t + 1) t2] at h2
      exact ⟨3, one t t1 (by omega) 0 2 (fun _ => one (t + 1) t2 (by omega) _ 1 (fun _ => stop (t + 1 + 1) (by omega) (by omega) _ h) (fun q => absurd h2 q)) (fun q => absurd h1 q)⟩
    · have ed : dgN cd m t = 1 := by unfold dgN; rw [if_pos h1, if_neg h2]
      have ev : nvI cd m t = 10 * 0 + cd t - 48 := by unfold nvI; rw [ed, if_neg (by omega), if_pos rfl, cm t t1]
      rw [ed, ev] at h
      rw [cm t t1] at h1
      by_cases t2 : t + 1 < m
      · rw [cm (t + 1) t2] at h2
        exact ⟨2, one t t1 (by omega) 0 1 (fun _ => one (t + 1) t2 (by omega) _ 0 (fun q => absurd q h2) (fun _ => h)) (fun q => absurd h1 q)⟩
      · exact ⟨2, one t t1 (by omega) 0 1 (fun _ => stop (t + 1) (by omega) (by omega) _ h) (fun q => absurd h1 q)⟩
  · have ed : dgN cd m t = 0 := by unfold dgN; rw [if_neg h1]
    have ev : nvI cd m t = 0 := by unfold nvI; rw [ed, if_pos rfl]
    rw [ed, ev] at h
    by_cases t1 : t < m
    · rw [cm t t1] at h1
      exact ⟨1, one t t1 (by omega) 0 0 (fun q => absurd q h1) (fun _ => h)⟩
    · exact ⟨1, stop t (by omega) (by omega) _ h⟩
theorem n_rdstep {Q : Int32 → (Nat → Int32) → (Nat → Nat → Int32) → Prop} (hb : b + m ≤ 240) (hm : m ≤ 60) (hcd : ∀ u, u < m → a 10 (b + u) = cd u)
    (e t : Nat) (D : Nat → Option Nat) (a1 : Nat → Nat → Int32) (he : e ≤ 8) (ht : t + 4 * (e + 1) ≤ 1000) (hR : RD a1 D) (hD : DB D) (g1 : ∀ u, u ≠ 3 → a1 u = a u)
      (hf : ∀ p a', (rdF cd m (e + 1) t D).1 = some p → (∀ u, u ≠ 3 → a' u = a u) → Q (nI p) f a') (hs : ∀ a', (rdF cd m (e + 1) t D).1 = none → (∀ u, u ≠ 3 → a' u = a u) → RD a' (rdF cd m (e + 1) t D).2 → DB (rdF cd m (e + 1) t D).2 → Q (-9) f a')
      (ih : ¬ e = 0 → ∀ (t' : Nat) (D' : Nat → Option Nat) (a' : Nat → Nat → Int32), t' + 4 * e ≤ 1000 → RD a' D' → DB D' → (∀ u, u ≠ 3 → a' u = a u) → (∀ p a'', (rdF cd m e t' D').1 = some p → (∀ u, u ≠ 3 → a'' u = a u) → Q (nI p) f a'') → (∀ a'', (rdF cd m e t' D').1 = none → (∀ u, u ≠ 3 → a'' u = a u) → RD a'' (rdF cd m e t' D').2 → DB (rdF cd m e t' D').2 → Q (-9) f a'') → ∃ fu, vX11_readDrawing_30 Q fu (nI b) (nI m) (nI t') (nI (8 - e + 1)) 1 f a') : ∃ fu, vX11_readDrawing_30 Q fu (nI b) (nI m) (nI t) (nI (8 - e)) 1 f a1 := by
  have dle := dgN_le cd m (t + 1)
  have hcd1 : ∀ u, u < m → a1 10 (b + u) = cd u := fun u hu => by rw [g1 10 (by omega)]; exact hcd u hu
  have hT : ∃ K30 : Int32 → Int32 → Int32 → Int32 → Int32 → (Nat → Int32) → (Nat → Nat → Int32) → Prop, (∃ fu, K30 = vX11_readDrawing_30 Q fu) ∧ (∀ w, w < 9 → letN (cdO cd m t) = some w → vX11_readDrawing_56 K30 Q (nI b) (nI m) (nI t) (nI (8 - e)) (nI w) f a1) := by
    cases hl : letN (cdO cd m t) with
    | none => exact ⟨vX11_readDrawing_30 Q 0, ⟨0, rfl⟩, fun w _ q => (by cases q)⟩
    | some w0 =>
      unfold rdF at hf hs
      rw [hl] at hf hs
      simp only at hf hs
      by_cases hDs : (D w0).isSome = true
      · rw [if_pos hDs] at hf
        refine ⟨vX11_readDrawing_30 Q 0, ⟨0, rfl⟩, fun w hw q => ?_⟩
        cases q
        unfold vX11_readDrawing_56
        rw [nI_clamp (by omega)]
        have hpos : ¬ a1 3 w0 < 0 := by
          cases hd : D w0 with
          | none => rw [hd] at hDs; cases hDs
          | some v => rw [(hR w0 hw).2 v hd]; exact nI_pos (by have := hD w0 hw v hd; have := lohi w0; omega)
        exact ⟨fun z => absurd z (nI_pos (by omega)), fun _ => ⟨vp_in_nI (by omega) (by omega), fun z => absurd z hpos, fun _ => hf t a1 rfl g1⟩⟩
      · rw [if_neg hDs] at hf hs
        have hDn : D w0 = none := by
          cases hd : D w0 with
          | none => rfl
          | some v => rw [hd] at hDs; exact absurd rfl hDs
        have go : ∀ K30 : Int32 → Int32 → Int32 → Int32 → Int32 → (Nat → Int32) → (Nat → Nat → Int32) → Prop, (∀ w, w < 9 → w = w0 → vX11_readDrawing_143 K30 Q (nI b) (nI m) (nI (t + 1 + dgN cd m (t + 1))) (nI (8 - e)) (nI w) (nI (t + 1)) (nvI cd m (t + 1)) f a1) → ∀ w, w < 9 → some w0 = some w → vX11_readDrawing_56 K30 Q (nI b) (nI m) (nI t) (nI (8 - e)) (nI w) f a1 := by
          intro K30 h143 w hw q
          cases q
          unfold vX11_readDrawing_56
          rw [nI_clamp (by omega)]
          have hneg : a1 3 w0 < 0 := by rw [(hR w0 hw).1 hDn]; decide
          refine ⟨fun z => absurd z (nI_pos (by omega)), fun _ => ⟨vp_in_nI (by omega) (by omega), fun _ y hy => ?_, fun z => absurd hneg z⟩⟩
          rw [hy, nI_1]
          exact n_rd84 hb (by omega) hcd1 (h143 w0 hw rfl)
        have eqs : nI (t + 1 + dgN cd m (t + 1)) = nI (t + 1) ↔ dgN cd m (t + 1) = 0 := (nI_eq (by omega) (by omega)).trans (by omega)
        by_cases hbad : dgN cd m (t + 1) = 0 ∨ ¬ ((loN w0 : Int) ≤ (nvI cd m (t + 1)).toInt ∧ (nvI cd m (t + 1)).toInt ≤ hiN w0)
        · rw [if_pos hbad] at hf
          refine ⟨vX11_readDrawing_30 Q 0, ⟨0, rfl⟩, go _ (fun w hw q => ?_)⟩
          subst q
          unfold vX11_readDrawing_143
          rw [eqs]
          refine ⟨fun _ => hf (t + 1) a1 rfl g1, fun h0 => ?_⟩
          rw [n_isNumber0 hw (by rcases hbad with q | q; exact absurd q h0; exact q)]
          exact ⟨fun z => absurd rfl z, fun _ => hf (t + 1) a1 rfl g1⟩
        · rw [if_neg hbad] at hf hs
          have h0 : ¬ dgN cd m (t + 1) = 0 := fun q => hbad (Or.inl q)
          have hr : (loN w0 : Int) ≤ (nvI cd m (t + 1)).toInt ∧ (nvI cd m (t + 1)).toInt ≤ hiN w0 := by
            by_cases q : (loN w0 : Int) ≤ (nvI cd m (t + 1)).toInt ∧ (nvI cd m (t + 1)).toInt ≤ hiN w0
            · exact q
            · exact absurd (Or.inr q) hbad
          have hlh := lohi w0
          obtain ⟨v, hv, ev⟩ := rg_nI (x := nvI cd m (t + 1)) (hi := hiN w0) ⟨by omega, hr.2⟩
          have hr' := hr
          rw [ev, nI_toInt (by omega)] at hr'
          rw [ev, nI_clamp (by omega)] at hf hs
          have hD3 := hD.put (w := w0) (v := v) (by omega)
          have hR3 : ∀ w, w < 9 → w = w0 → RD (va_up a1 3 (upd (a1 3) w (nI v))) (va_up D w0 (some v)) := by
            intro w hw q u hu
            subst q
            rw [va_up_self]
            by_cases eu : u = w
            · subst eu
              rw [va_up_self, upd_self]
              refine ⟨fun q => (by cases q), fun v' q => ?_⟩
              cases q
              rfl
            · rw [va_up_ne _ _ eu, upd_ne _ _ eu]
              exact hR u hu
          have g3 : ∀ w, ∀ u, u ≠ 3 → va_up a1 3 (upd (a1 3) w (nI v)) u = a u := fun w u hu => by rw [va_up_ne _ _ hu]; exact g1 u hu
          have h143 : ∀ K30 : Int32 → Int32 → Int32 → Int32 → Int32 → (Nat → Int32) → (Nat → Nat → Int32) → Prop, (∀ w, w < 9 → w = w0 → (m ≤ t + 1 + dgN cd m (t + 1) → vX11_readDrawing_184 K30 Q (nI b) (nI m) (nI (t + 1 + dgN cd m (t + 1))) (nI (8 - e + 1)) 0 f (va_up a1 3 (upd (a1 3) w (nI v)))) ∧ (¬ m ≤ t + 1 + dgN cd m (t + 1) → vX11_readDrawing_184 K30 Q (nI b) (nI m) (nI (t + 1 + dgN cd m (t + 1))) (nI (8 - e + 1)) 1 f (va_up a1 3 (upd (a1 3) w (nI v))))) → ∀ w, w < 9 → w = w0 → vX11_readDrawing_143 K30 Q (nI b) (nI m) (nI (t + 1 + dgN cd m (t + 1))) (nI (8 - e)) (nI w) (nI (t + 1)) (nvI cd m (t + 1)) f a1 := by
            intro K30 hh w hw q
            have hh2 := hh w hw q
            subst q
            unfold vX11_readDrawing_143
            rw [eqs, n_isNumber hw hr, ev, nI_clamp (by omega)]
            refine ⟨fun q => absurd q h0, fun _ => ⟨fun _ => ⟨vp_in_nI (by omega) (by omega), fun a2 h2 y hy => ?_⟩, fun q => absurd q (by decide)⟩⟩
            rw [h2, hy, nI_1]
            refine ⟨fun q => hh2.1 ((nI_leI (by omega) (by omega)).mp q), fun q => hh2.2 (fun q2 => q (nI_le q2 (by omega)))⟩
          by_cases hge : m ≤ t + 1 + dgN cd m (t + 1)
          · rw [if_pos hge] at hs
            refine ⟨vX11_readDrawing_30 Q 1, ⟨1, rfl⟩, go _ (h143 _ (fun w hw q => ⟨fun _ => ?_, fun q2 => absurd hge q2⟩))⟩
            have fin := hs _ rfl (g3 w) (hR3 w hw q) hD3
            unfold vX11_readDrawing_184 vX11_readDrawing_213 vX11_readDrawing_224
            refine ⟨fun _ => ⟨fun _ y hy => ?_, fun z => absurd rfl z⟩, fun z => absurd rfl z⟩
            unfold vX11_readDrawing_30
            exact ⟨fun _ => fin, fun z => absurd rfl z⟩
          · rw [if_neg hge] at hf hs
            have ec : ∀ w, va_up a1 3 (upd (a1 3) w (nI v)) 10 (b + (t + 1 + dgN cd m (t + 1))) = cd (t + 1 + dgN cd m (t + 1)) := fun w => by rw [g3 w 10 (by omega)]; exact hcd _ (by omega)
            have e9 : nI (8 - e + 1) = 9 ↔ e = 0 := (nI_eq (b := 9) (by omega) (by omega)).trans (by omega)
            by_cases hstop : ¬ cd (t + 1 + dgN cd m (t + 1)) = 59 ∨ e = 0
            · rw [if_pos hstop] at hf
              refine ⟨vX11_readDrawing_30 Q 0, ⟨0, rfl⟩, go _ (h143 _ (fun w hw q => ⟨fun q2 => absurd q2 hge, fun _ => ?_⟩))⟩
              have fin := hf _ _ rfl (g3 w)
              unfold vX11_readDrawing_184
              rw [nI_add, nI_clamp (by omega), ec w, e9]
              refine ⟨fun z => absurd z (by decide), fun _ => ⟨vp_in_nI (by omega) (by omega), fun _ => fin, fun h59 => ⟨fun ne => ?_, fun _ => fin⟩⟩⟩
              rcases hstop with q2 | q2
              · exact absurd h59 q2
              · exact absurd q2 ne
            · rw [if_neg hstop] at hf hs
              have h59 : cd (t + 1 + dgN cd m (t + 1)) = 59 := by
                by_cases q : cd (t + 1 + dgN cd m (t + 1)) = 59
                · exact q
                · exact absurd (Or.inl q) hstop
              have ne : ¬ e = 0 := fun q => hstop (Or.inr q)
              have nx := fun w hw q => ih ne (t + 1 + dgN cd m (t + 1) + 1) (va_up D w0 (some v)) (va_up a1 3 (upd (a1 3) w (nI v))) (by omega) (hR3 w hw q) hD3 (g3 w) hf hs
              by_cases hw0 : w0 < 9
              · obtain ⟨fu, hfu⟩ := nx w0 hw0 rfl
                refine ⟨vX11_readDrawing_30 Q fu, ⟨fu, rfl⟩, go _ (h143 _ (fun w hw q => ⟨fun q2 => absurd q2 hge, fun _ => ?_⟩))⟩
                subst q
                unfold vX11_readDrawing_184 vX11_readDrawing_213 vX11_readDrawing_224
                rw [nI_add, nI_clamp (by omega), ec w, e9]
                refine ⟨fun z => absurd z (by decide), fun _ => ⟨vp_in_nI (by omega) (by omega), fun q2 => absurd h59 q2, fun _ => ⟨fun _ => ⟨fun z => absurd z (by decide), fun _ y hy => ?_⟩, fun q2 => absurd q2 ne⟩⟩⟩
                rw [hy, nI_1]
                exact hfu
              · exact ⟨vX11_readDrawing_30 Q 0, ⟨0, rfl⟩, fun w hw q => by cases q; exact absurd hw hw0⟩
  obtain ⟨K30, ⟨fu, rfl⟩, h56⟩ := hT
  refine ⟨fu + 1, ?_⟩
  have none56 : letN (cdO cd m t) = none → vX11_readDrawing_56 (vX11_readDrawing_30 Q fu) Q (nI b) (nI m) (nI t) (nI (8 - e)) (-9) f a1 := by
    intro hl
    unfold rdF at hf
    rw [hl] at hf
    unfold vX11_readDrawing_56
    exact ⟨fun _ => hf t a1 rfl g1, fun z => absurd (by decide) z⟩
  unfold vX11_readDrawing_30
  refine ⟨fun z => absurd z (by decide), fun _ => ⟨fun hge => none56 ?_, fun hlt => ?_⟩⟩
  · have : ¬ t < m := fun q => absurd hge (nI_ge q (by omega))
    unfold cdO
    rw [if_neg this]
    rfl
  · have tm : t < m := by
      rcases Nat.lt_or_ge t m with q | q
      · exact q
      · exact absurd (nI_le q (by omega)) hlt
    rw [nI_add, nI_clamp (by omega), hcd1 t tm]
    have ec : cdO cd m t = cd t := by unfold cdO; rw [if_pos tm]
    rw [ec] at h56 none56
    exact ⟨vp_in_nI (by omega) (by omega), n_what (fun w hw hl => h56 w hw hl) (fun hl => none56 hl)⟩
theorem n_rd30 {Q : Int32 → (Nat → Int32) → (Nat → Nat → Int32) → Prop} (hb : b + m ≤ 240) (hm : m ≤ 60) (hcd : ∀ u, u < m → a 10 (b + u) = cd u) :
    ∀ (e t : Nat) (D : Nat → Option Nat) (a1 : Nat → Nat → Int32), e ≤ 8 → t + 4 * (e + 1) ≤ 1000 → RD a1 D → DB D → (∀ u, u ≠ 3 → a1 u = a u) →
      (∀ p a', (rdF cd m (e + 1) t D).1 = some p → (∀ u, u ≠ 3 → a' u = a u) → Q (nI p) f a') → (∀ a', (rdF cd m (e + 1) t D).1 = none → (∀ u, u ≠ 3 → a' u = a u) → RD a' (rdF cd m (e + 1) t D).2 → DB (rdF cd m (e + 1) t D).2 → Q (-9) f a') → ∃ fu, vX11_readDrawing_30 Q fu (nI b) (nI m) (nI t) (nI (8 - e)) 1 f a1 := by
  intro e
  induction e with
  | zero =>
    intro t D a1 he ht hR hD g1 hf hs
    exact n_rdstep hb hm hcd 0 t D a1 he ht hR hD g1 hf hs (fun q => absurd rfl q)
  | succ e ih =>
    intro t D a1 he ht hR hD g1 hf hs
    exact n_rdstep hb hm hcd (e + 1) t D a1 he ht hR hD g1 hf hs (fun _ t' D' a' h1 h2 h3 h4 h5 h6 => by
      have := ih t' D' a' (by omega) h1 h2 h3 h4 h5 h6
      rw [show 8 - e = 8 - (e + 1) + 1 by omega] at this
      exact this)
end MI
