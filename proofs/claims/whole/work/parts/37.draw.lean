/-! a drawing, as a function: codes cd 0 .. cd (m - 1); D: what is drawn so far -/
def firstN : Nat → Nat := fun w => match w with
  | 0 => 10
  | 1 => 1
  | 2 => 1
  | 3 => 5
  | 4 => 5
  | 5 => 10
  | 6 => 0
  | 7 => 0
  | _ => 5
theorem first_nI {w : Nat} (h : w < 9) : firstV w = nI (firstN w) := by9 (P := fun w => firstV w = nI (firstN w)) rfl rfl rfl rfl rfl rfl rfl rfl rfl w h
theorem first_b {w : Nat} (h : w < 9) : loN w ≤ firstN w ∧ firstN w ≤ hiN w := by9 (P := fun w => loN w ≤ firstN w ∧ firstN w ≤ hiN w) (by decide) (by decide) (by decide) (by decide) (by decide) (by decide) (by decide) (by decide) (by decide) w h
def letN (c : Int32) : Option Nat := if c = 119 then some 0 else if c = 114 then some 1 else if c = 98 then some 2 else if c = 111 then some 3 else if c = 107 then some 4 else if c = 103 then some 5 else if c = 105 then some 6 else if c = 100 then some 7 else if c = 115 then some 8 else none
theorem let_some {w : Nat} {c : Int32} (h : w < 9) (e : letterV w = c) : letN c = some w := by
  subst e
  exact by9 (P := fun w => letN (letterV w) = some w) rfl rfl rfl rfl rfl rfl rfl rfl rfl w h
theorem let_none {c : Int32} (h : ∀ w, w < 9 → ¬ letterV w = c) : letN c = none := by
  unfold letN
  rw [if_neg (fun e => h 0 (by omega) e.symm), if_neg (fun e => h 1 (by omega) e.symm), if_neg (fun e => h 2 (by omega) e.symm), if_neg (fun e => h 3 (by omega) e.symm), if_neg (fun e => h 4 (by omega) e.symm), if_neg (fun e => h 5 (by omega) e.symm), if_neg (fun e => h 6 (by omega) e.symm), if_neg (fun e => h 7 (by omega) e.symm), if_neg (fun e => h 8 (by omega) e.symm)]
def cdO (cd : Nat → Int32) (m t : Nat) : Int32 := if t < m then cd t else -1
def isD (c : Int32) : Prop := 48 ≤ c.toInt ∧ c.toInt ≤ 57
theorem not_isD_m1 : ¬ isD (-1) := fun h => by
  have : (-1 : Int32).toInt = -1 := by decide
  unfold isD at h
  omega
noncomputable def dgN (cd : Nat → Int32) (m t : Nat) : Nat := @ite _ (isD (cdO cd m t)) (Classical.propDecidable _) (@ite _ (isD (cdO cd m (t + 1))) (Classical.propDecidable _) 2 1) 0
noncomputable def nvI (cd : Nat → Int32) (m t : Nat) : Int32 := if dgN cd m t = 0 then 0 else if dgN cd m t = 1 then 10 * 0 + cdO cd m t - 48 else 10 * (10 * 0 + cdO cd m t - 48) + cdO cd m (t + 1) - 48
noncomputable def rdF (cd : Nat → Int32) (m : Nat) : Nat → Nat → (Nat → Option Nat) → Option Nat × (Nat → Option Nat)
  | 0, t, D => (some t, D)
  | e + 1, t, D => match letN (cdO cd m t) with
    | none => (some t, D)
    | some w => if (D w).isSome = true then (some t, D) else if dgN cd m (t + 1) = 0 ∨ ¬ ((loN w : Int) ≤ (nvI cd m (t + 1)).toInt ∧ (nvI cd m (t + 1)).toInt ≤ hiN w) then (some (t + 1), D) else if m ≤ t + 1 + dgN cd m (t + 1) then (none, va_up D w (some (nvI cd m (t + 1)).toNatClampNeg)) else if ¬ cd (t + 1 + dgN cd m (t + 1)) = 59 ∨ e = 0 then (some (t + 1 + dgN cd m (t + 1)), va_up D w (some (nvI cd m (t + 1)).toNatClampNeg)) else rdF cd m e (t + 1 + dgN cd m (t + 1) + 1) (va_up D w (some (nvI cd m (t + 1)).toNatClampNeg))
theorem dgN_le (cd : Nat → Int32) (m t : Nat) : dgN cd m t ≤ 2 := by
  unfold dgN
  split
  · split <;> omega
  · omega
theorem dgN_m {cd : Nat → Int32} {m t : Nat} (h : ¬ dgN cd m t = 0) : t + dgN cd m t ≤ m := by
  unfold dgN at h ⊢
  by_cases h1 : isD (cdO cd m t)
  · have t1 : t < m := by
      rcases Nat.lt_or_ge t m with z | z
      · exact z
      · unfold cdO at h1; rw [if_neg (by omega)] at h1; exact absurd h1 not_isD_m1
    rw [if_pos h1]
    by_cases h2 : isD (cdO cd m (t + 1))
    · have t2 : t + 1 < m := by
        rcases Nat.lt_or_ge (t + 1) m with z | z
        · exact z
        · unfold cdO at h2; rw [if_neg (by omega)] at h2; exact absurd h2 not_isD_m1
      rw [if_pos h2]; omega
    · rw [if_neg h2]; omega
  · rw [if_neg h1] at h; exact absurd rfl h
/-- a place that a fault names is below 10000 -/
theorem rdF_lt (cd : Nat → Int32) (m : Nat) : ∀ (e t : Nat) (D : Nat → Option Nat), t + 4 * e ≤ 1000 → ∀ p, (rdF cd m e t D).1 = some p → p ≤ 1000 := by
  intro e
  induction e with
  | zero => intro t D ht p hp; unfold rdF at hp; cases hp; omega
  | succ e ih =>
    intro t D ht p hp
    have := dgN_le cd m (t + 1)
    unfold rdF at hp
    split at hp
    · cases hp; omega
    · split at hp
      · cases hp; omega
      · split at hp
        · cases hp; omega
        · split at hp
          · cases hp
          · split at hp
            · cases hp; omega
            · exact ih _ _ (by omega) p hp
def DB (D : Nat → Option Nat) : Prop := ∀ w, w < 9 → ∀ v, D w = some v → loN w ≤ v ∧ v ≤ hiN w
theorem DB.put {D : Nat → Option Nat} (h : DB D) {w v : Nat} (h1 : loN w ≤ v ∧ v ≤ hiN w) : DB (va_up D w (some v)) := by
  intro u hu y hy
  by_cases e : u = w
  · subst e; rw [va_up_self] at hy; cases hy; exact h1
  · rw [va_up_ne _ _ e] at hy; exact h u hu y hy
/-- what is read, in the class and in the reference -/
def CD (S : Nat → Nat → Int32) (D : Nat → Option Nat) : Prop := ∀ w, w < 9 → (D w = none → S 6 w = 0 ∧ S 5 w = nI (firstN w)) ∧ (∀ v, D w = some v → S 6 w = 1 ∧ S 5 w = nI v)
def RD (a : Nat → Nat → Int32) (D : Nat → Option Nat) : Prop := ∀ w, w < 9 → (D w = none → a 3 w = -9) ∧ (∀ v, D w = some v → a 3 w = nI v)
/-- the class reads m codes of sheet k from i on -/
def CT (S : Nat → Nat → Int32) (R : Nat → Option Nat) (cd : Nat → Int32) (k i m c : Nat) : Prop := R 4 = some k ∧ k < 4 ∧ S 4 3 = nI i ∧ S 4 4 = nI m ∧ S (21 + 2 * k) 3 = nI c ∧ c ≤ 60 ∧ i + m ≤ c ∧ ∀ t, t < m → S (22 + 2 * k) (i + t) = cd t
theorem CT.go {S S' : Nat → Nat → Int32} {R : Nat → Option Nat} {cd : Nat → Int32} {k i m c : Nat} (h : CT S R cd k i m c) (h4 : S' 4 = S 4) (hs : ∀ u, 21 ≤ u → S' u = S u) : CT S' R cd k i m c := by
  obtain ⟨h1, h2, h3, h5, h6, h7, h8, h9⟩ := h
  exact ⟨h1, h2, by rw [h4]; exact h3, by rw [h4]; exact h5, by rw [hs _ (by omega)]; exact h6, h7, h8, fun t ht => by rw [hs _ (by omega)]; exact h9 t ht⟩
section DR
variable {K : Nat → Nat} {n : Nat} {M : Nat → Nat → Nat} {S : Nat → Nat → Int32} {L : Nat → Int64} {R : Nat → Option Nat} {f : Nat → Int32} {a : Nat → Nat → Int32}
variable {cd : Nat → Int32} {k i m c : Nat}
theorem w_code {t : Nat} {Q : Int32 → (Nat → Nat → Int32) → (Nat → Int64) → (Nat → Option Nat) → Prop} (hT : CT S R cd k i m c) (ht : t < 2000) (hQ : Q (cdO cd m t) S L R) : vX0_codeAt K n (nI t) S L R Q := by
  obtain ⟨h1, h2, h3, h5, h6, h7, h8, h9⟩ := hT
  unfold vX0_codeAt
  rw [h5, h3]
  unfold cdO at hQ
  by_cases h : t < m
  · rw [if_pos h] at hQ
    refine ⟨fun z => absurd z (nI_ge (by omega) (by omega)), fun _ o ho => ⟨k, by rw [ho, h1], h2, ?_⟩⟩
    rw [nI_add]
    exact w_at h6 h7 (show i + t < c by omega) (by rw [h9 t h]; exact hQ)
  · rw [if_neg h] at hQ
    exact ⟨fun _ => hQ, fun z => absurd (nI_le (by omega) (by omega)) z⟩
theorem w_letter {t : Nat} {Q : Int32 → (Nat → Nat → Int32) → (Nat → Int64) → (Nat → Option Nat) → Prop} (hT : CT S R cd k i m c) (ht : t < 2000) (h1 : ∀ w, w < 9 → letN (cdO cd m t) = some w → Q (nI w) S L R) (h0 : letN (cdO cd m t) = none → Q (-1) S L R) : vX0_letterAt K n (nI t) S L R Q := by
  have key : ∀ d u : Nat, u + d = 9 → (∀ w, w < u → ¬ letterV w = cdO cd m t) → vX0_letterAt_8 K n Q (d + 1) (cdO cd m t) (nI u) S L R := by
    intro d
    induction d with
    | zero =>
      intro u hu hn
      obtain rfl : u = 9 := by omega
      unfold vX0_letterAt_8
      exact ⟨fun _ => h0 (let_none hn), fun z => absurd (nI_le (a := 9) (b := 9) (by omega) (by omega)) z⟩
    | succ d ih =>
      intro u hu hn
      unfold vX0_letterAt_8
      refine ⟨fun z => absurd z (nI_ge (b := 9) (by omega) (by omega)), fun _ => ⟨vp_in_nI (by omega) (by omega), ?_⟩⟩
      rw [nI_clamp (by omega)]
      refine ⟨fun h y hy => ?_, fun h => h1 u (by omega) (let_some (by omega) h)⟩
      rw [hy, nI_1]
      refine ih (u + 1) (by omega) (fun w hw => ?_)
      rcases (show w < u ∨ w = u by omega) with z | rfl
      · exact hn w z
      · exact h
  unfold vX0_letterAt
  exact w_code hT ht ⟨10, key 9 0 (by omega) (fun w hw => by omega)⟩
theorem w_digits {t : Nat} {Q : Int32 → (Nat → Nat → Int32) → (Nat → Int64) → (Nat → Option Nat) → Prop} (hT : CT S R cd k i m c) (ht : t < 1999) (hQ : Q (nI (dgN cd m t)) S L R) : vX0_digitsFrom K n (nI t) S L R Q := by
  unfold vX0_digitsFrom
  unfold dgN at hQ
  refine w_code hT (by omega) (j_w' 48 57 rfl rfl (fun h => ?_) (fun h => ?_))
  · rw [if_pos (show isD (cdO cd m t) from h)] at hQ
    rw [nI_1]
    refine w_code hT (by omega) (j_w 48 57 rfl rfl (fun h2 => ?_) (fun h2 => ?_))
    · rw [if_pos (show isD (cdO cd m (t + 1)) from h2)] at hQ
      exact hQ
    · rw [if_neg (show ¬ isD (cdO cd m (t + 1)) from h2)] at hQ
      exact hQ
  · rw [if_neg (show ¬ isD (cdO cd m t) from h)] at hQ
    exact hQ
theorem w_numberFrom {t : Nat} {Q : Int32 → (Nat → Nat → Int32) → (Nat → Int64) → (Nat → Option Nat) → Prop} (hT : CT S R cd k i m c) (ht : t < 1999) (hQ : Q (nvI cd m t) S L R) : vX0_numberFrom K n (nI t) (nI (dgN cd m t)) S L R Q := by
  have hd := dgN_le cd m t
  unfold vX0_numberFrom
  unfold nvI at hQ
  rcases (show dgN cd m t = 0 ∨ dgN cd m t = 1 ∨ dgN cd m t = 2 by omega) with e | e | e
  · rw [e] at hQ ⊢
    rw [if_pos rfl] at hQ
    refine ⟨1, ?_⟩
    unfold vX0_numberFrom_5
    exact ⟨fun _ => hQ, fun z => absurd (by decide) z⟩
  · rw [e] at hQ ⊢
    rw [if_neg (by omega), if_pos rfl] at hQ
    refine ⟨2, ?_⟩
    unfold vX0_numberFrom_5
    refine ⟨fun z => absurd z (by decide), fun _ => ?_⟩
    rw [show nI t + 0 = nI t by simp]
    refine w_code hT (by omega) (fun y hy y2 hy2 => ?_)
    rw [hy, hy2]
    unfold vX0_numberFrom_5
    exact ⟨fun _ => hQ, fun z => absurd (by decide) z⟩
  · rw [e] at hQ ⊢
    rw [if_neg (by omega), if_neg (by omega)] at hQ
    refine ⟨3, ?_⟩
    unfold vX0_numberFrom_5
    refine ⟨fun z => absurd z (by decide), fun _ => ?_⟩
    rw [show nI t + 0 = nI t by simp]
    refine w_code hT (by omega) (fun y hy y2 hy2 => ?_)
    rw [hy, hy2]
    unfold vX0_numberFrom_5
    refine ⟨fun z => absurd z (by decide), fun _ => ?_⟩
    rw [show nI t + (0 + 1) = nI (t + 1) by rw [show (0 : Int32) + 1 = 1 from rfl, nI_1]]
    refine w_code hT (by omega) (fun y hy y2 hy2 => ?_)
    rw [hy, hy2]
    unfold vX0_numberFrom_5
    exact ⟨fun _ => hQ, fun z => absurd (by decide) z⟩
theorem nar1 : vp_nar .boolean (1 : Int32) = 1 := by decide
theorem nar0 : vp_nar .boolean (0 : Int32) = 0 := by decide
/-- the class's loop over items -/
theorem w_read13 {Q : Int32 → (Nat → Nat → Int32) → (Nat → Int64) → (Nat → Option Nat) → Prop} :
    ∀ (e t : Nat) (D : Nat → Option Nat) (S1 : Nat → Nat → Int32), e ≤ 9 → t + 4 * e ≤ 1000 → CT S1 R cd k i m c → DB D → CD S1 D → Sc S S1 →
      (∀ p S', (rdF cd m e t D).1 = some p → Sc S S' → Q (nI p) S' L R) → (∀ S', (rdF cd m e t D).1 = none → Sc S S' → CD S' (rdF cd m e t D).2 → DB (rdF cd m e t D).2 → Q (-1) S' L R) → vX0_read_13 K n Q (e + 1) (nI t) (nI (10 - e)) S1 L R := by
  intro e
  induction e with
  | zero =>
    intro t D S1 he ht hT hD hC sc hf hs
    unfold vX0_read_13
    exact ⟨fun _ => hf t S1 rfl sc, fun z => absurd (nI_lt (a := 9) (b := 10) (by omega) (by omega)) z⟩
  | succ e ih =>
    intro t D S1 he ht hT hD hC sc hf hs
    have dle := dgN_le cd m (t + 1)
    unfold rdF at hf hs
    unfold vX0_read_13
    refine ⟨fun z => absurd z (nI_nlt (a := 9) (by omega) (by omega)), fun _ => ?_⟩
    refine w_letter hT (by omega) (fun w hw hl => ⟨fun z => ?_, fun _ => ⟨vp_in_nI (by omega) (by omega), ?_⟩⟩) (fun hl => ⟨fun _ => ?_, fun z => absurd rfl z⟩)
    · exfalso
      have : (nI w).toInt = -1 := by rw [z]; decide
      rw [nI_toInt (by omega)] at this
      omega
    · rw [hl] at hf hs
      simp only at hf hs
      have v9 : vp_in (nI w) 9 := vp_in_nI (by omega) (by omega)
      rw [nI_clamp (by omega)]
      obtain ⟨cn, cs⟩ := hC w hw
      have hlh := lohi w
      refine ⟨fun h6 y hy => ?_, fun h6 => ?_⟩
      · have hDn : D w = none := by
          cases hd : D w with
          | none => rfl
          | some v => rw [(cs v hd).1] at h6; exact absurd h6 (by decide)
        rw [if_neg (by rw [hDn]; decide)] at hf hs
        rw [hy, nI_1]
        refine w_digits hT (by omega) (w_numberFrom hT (by omega) ?_)
        have dz : nI (dgN cd m (t + 1)) = 0 ↔ dgN cd m (t + 1) = 0 := nI_eq (b := 0) (by omega) (by omega)
        rw [dz]
        refine ⟨fun h0 => ?_, fun h0 => ⟨v9, v9, ?_⟩⟩
        · rw [if_pos (Or.inl h0)] at hf
          exact hf (t + 1) S1 rfl sc
        · refine j_w' (loN w) (hiN w) (by rw [least_nI (by omega), nI_toInt (by omega)]) (by rw [greatest_nI (by omega), nI_toInt (by omega)]) (fun hr => ⟨v9, fun S2 h2 => ⟨v9, fun S3 h3 y2 hy2 => ?_⟩⟩) (fun hr => ?_)
          · obtain ⟨v, hv, ev⟩ := rg_nI (x := nvI cd m (t + 1)) (hi := hiN w) ⟨by omega, hr.2⟩
            have hr' := hr
            rw [ev, nI_toInt (by omega)] at hr'
            rw [if_neg (by intro q; rcases q with q | q; exact h0 q; exact q hr), ev, nI_clamp (by omega)] at hf hs
            rw [ev] at h2
            rw [nar1] at h3
            have hd4 : S3 4 = S1 4 := by rw [h3, va_up_ne _ _ (by omega), h2, va_up_ne _ _ (by omega)]
            have hd21 : ∀ u, 21 ≤ u → S3 u = S1 u := fun u hu => by rw [h3, va_up_ne _ _ (by omega), h2, va_up_ne _ _ (by omega)]
            have hT3 := hT.go hd4 hd21
            have hD3 := hD.put (w := w) (v := v) (by omega)
            have sc3 : Sc S S3 := by rw [h3, h2]; exact (sc.up (by omega)).up (by omega)
            have hC3 : CD S3 (va_up D w (some v)) := by
              intro u hu
              have e6 : S3 6 = upd (S1 6) w 1 := by rw [h3, va_up_self, h2, va_up_ne _ _ (by omega)]
              have e5 : S3 5 = upd (S1 5) w (nI v) := by rw [h3, va_up_ne _ _ (by omega), h2, va_up_self]
              rw [e5, e6]
              by_cases eu : u = w
              · subst eu
                rw [va_up_self, upd_self, upd_self]
                refine ⟨fun q => (by cases q), fun v' q => ?_⟩
                cases q
                exact ⟨rfl, rfl⟩
              · rw [va_up_ne _ _ eu, upd_ne _ _ eu, upd_ne _ _ eu]
                exact hC u hu
            rw [nI_add] at hy2
            rw [hy2, hT3.2.2.2.1]
            refine ⟨fun hlt => ?_, fun hlt => ?_⟩
            · have hltn : t + 1 + dgN cd m (t + 1) < m := (nI_ltI (by omega) (by have := hT.2.2.2.2.2.1; have := hT.2.2.2.2.2.2.1; omega)).mp hlt
              rw [if_neg (by omega)] at hf hs
              refine w_code hT3 (by omega) ?_
              have ec : cdO cd m (t + 1 + dgN cd m (t + 1)) = cd (t + 1 + dgN cd m (t + 1)) := by unfold cdO; rw [if_pos hltn]
              rw [ec]
              have e9 : nI (10 - (e + 1)) = 9 ↔ e = 0 := (nI_eq (b := 9) (by omega) (by omega)).trans (by omega)
              rw [e9]
              refine ⟨fun h59 => ?_, fun h59 => ⟨fun he0 y3 hy3 y4 hy4 => ?_, fun he0 => ?_⟩⟩
              · rw [if_pos (Or.inl h59)] at hf
                exact hf _ S3 rfl sc3
              · rw [if_neg (by intro q; rcases q with q | q; exact q h59; exact he0 q)] at hf hs
                rw [hy3, hy4, nI_1, nI_1, show 10 - (e + 1) + 1 = 10 - e by omega]
                exact ih _ _ S3 (by omega) (by omega) hT3 hD3 hC3 sc3 hf hs
              · rw [if_pos (Or.inr he0)] at hf
                exact hf _ S3 rfl sc3
            · have hge : m ≤ t + 1 + dgN cd m (t + 1) := by
                rcases Nat.lt_or_ge (t + 1 + dgN cd m (t + 1)) m with q | q
                · exact absurd (nI_lt q (by have := hT.2.2.2.2.2.1; have := hT.2.2.2.2.2.2.1; omega)) hlt
                · exact q
              rw [if_pos hge] at hs
              exact hs S3 rfl sc3 hC3 hD3
          · rw [if_pos (Or.inr hr)] at hf
            exact hf (t + 1) S1 rfl sc
      · have hDs : (D w).isSome = true := by
          cases hd : D w with
          | none => rw [(cn hd).1] at h6; exact absurd rfl h6
          | some v => rfl
        rw [if_pos hDs] at hf
        exact hf t S1 rfl sc
    · rw [hl] at hf
      exact hf t S1 rfl sc
end DR
