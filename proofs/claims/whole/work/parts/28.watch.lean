/-! watch -/
section WA
variable {K : Nat → Nat} {n : Nat} {M : Nat → Nat → Nat} {S : Nat → Nat → Int32} {L : Nat → Int64} {R : Nat → Option Nat} {f : Nat → Int32} {a : Nat → Nat → Int32}
def bOk (a : Nat → Nat → Int32) (k i j : Nat) : Prop := 0 ≤ (a 10 (60 * k + i + j)).toInt ∧ (a 10 (60 * k + i + j)).toInt ≤ 999
theorem w_are {k i m c : Nat} {Q : Int32 → (Nat → Nat → Int32) → (Nat → Int64) → (Nat → Option Nat) → Prop} (hk : k < 4) (h3 : S (21 + 2 * k) 3 = nI c) (hc : c ≤ 60) (him : i + m ≤ c) (h5 : ∀ j, j < c → S (22 + 2 * k) j = a 10 (60 * k + j)) (h1 : (∀ j, j < m → bOk a k i j) → Q 1 S L R) (h0 : (∃ j, j < m ∧ ¬ bOk a k i j) → Q 0 S L R) :
    ∀ d t : Nat, t + d = m → (∀ j, j < t → bOk a k i j) → vX10_areBeats_2 K n Q (d + 1) k (nI i) (nI m) (nI t) S L R := by
  intro d
  induction d with
  | zero =>
    intro t ht hp
    obtain rfl : t = m := by omega
    unfold vX10_areBeats_2
    exact ⟨fun _ => h1 hp, fun z => absurd (nI_le (Nat.le_refl _) (by omega)) z⟩
  | succ d ih =>
    intro t ht hp
    unfold vX10_areBeats_2
    refine ⟨fun z => absurd z (nI_ge (by omega) (by omega)), fun _ => ⟨hk, ?_⟩⟩
    rw [nI_add]
    refine w_at h3 hc (show i + t < c by omega) ?_
    rw [h5 _ (by omega), show 60 * k + (i + t) = 60 * k + i + t by omega]
    refine j_w' 0 999 rfl rfl (fun h y hy => ?_) (fun h => h0 ⟨t, by omega, h⟩)
    rw [hy, nI_1]
    refine ih (t + 1) (by omega) (fun j hj => ?_)
    rcases (show j < t ∨ j = t by omega) with z | rfl
    · exact hp j z
    · exact h
theorem w_watch82 {k i m c : Nat} {Q : Int32 → (Nat → Nat → Int32) → (Nat → Int64) → (Nat → Option Nat) → Prop} (hk : k < 4) (h3 : S (21 + 2 * k) 3 = nI c) (hc : c ≤ 60) (him : i + m ≤ c) (hm : m ≤ 30) (h5 : ∀ j, j < c → S (22 + 2 * k) j = a 10 (60 * k + j)) (hQ : ∀ S' : Nat → Nat → Int32, (∀ u, u ≠ 0 → u ≠ 3 → S' u = S u) → S' 0 = upd (S 0) 9 (nI m) → (∀ j, j < m → S' 3 j = a 10 (60 * k + i + j)) → Q (nI m) S' L R) :
    ∀ d t : Nat, ∀ S1 : Nat → Nat → Int32, t + d = m → (∀ u, u ≠ 3 → S1 u = S u) → (∀ j, j < t → S1 3 j = a 10 (60 * k + i + j)) → vX10_watch_82 K n Q (d + 1) (nI i) (nI m) k (nI t) S1 L R := by
  intro d
  induction d with
  | zero =>
    intro t S1 ht g1 g2
    obtain rfl : t = m := by omega
    unfold vX10_watch_82
    refine ⟨fun _ S2 h2 => hQ S2 (fun u u0 u3 => by rw [h2, va_up_ne _ _ u0]; exact g1 u u3) (by rw [h2, va_up_self, g1 0 (by omega)]) (fun j hj => by rw [h2, va_up_ne _ _ (by omega)]; exact g2 j hj), fun z => absurd (nI_le (Nat.le_refl _) (by omega)) z⟩
  | succ d ih =>
    intro t S1 ht g1 g2
    unfold vX10_watch_82
    refine ⟨fun z => absurd z (nI_ge (by omega) (by omega)), fun _ => ⟨hk, ?_⟩⟩
    rw [nI_add]
    refine w_at (c := c) (by rw [g1 _ (by omega)]; exact h3) hc (show i + t < c by omega) ⟨vp_in_nI (by omega) (by omega), fun S2 h2 y hy => ?_⟩
    rw [hy, nI_1]
    rw [nI_clamp (by omega), g1 (22 + 2 * k) (by omega), h5 _ (by omega)] at h2
    refine ih (t + 1) S2 (by omega) (fun u hu => by rw [h2, va_up_ne _ _ hu]; exact g1 u hu) (fun j hj => ?_)
    rw [h2, va_up_self]
    by_cases e : j = t
    · subst e
      rw [upd_self, show 60 * k + (i + j) = 60 * k + i + j by omega]
    · rw [upd_ne _ _ e]; exact g2 j (by omega)
theorem n_watch132 {k i m : Nat} {Q : Int32 → (Nat → Int32) → (Nat → Nat → Int32) → Prop} (hk : k < 4) (him : i + m ≤ 60) (hm : m ≤ 30) (hQ : ∀ a' : Nat → Nat → Int32, (∀ u, u ≠ 7 → a' u = a u) → (∀ j, j < m → a' 7 j = a 10 (60 * k + i + j)) → Q (nI m) (va_up f 0 0) a') :
    ∀ d t : Nat, ∀ a1 : Nat → Nat → Int32, t + d = m → (∀ u, u ≠ 7 → a1 u = a u) → (∀ j, j < t → a1 7 j = a 10 (60 * k + i + j)) → vX11_watch_132 Q (d + 1) (nI k) (nI i) (nI m) (nI t) f a1 := by
  intro d
  induction d with
  | zero =>
    intro t a1 ht g1 g2
    obtain rfl : t = m := by omega
    unfold vX11_watch_132
    rw [n_ref]
    exact ⟨fun _ => hQ a1 g1 g2, fun z => absurd (nI_le (Nat.le_refl _) (by omega)) z⟩
  | succ d ih =>
    intro t a1 ht g1 g2
    unfold vX11_watch_132
    refine ⟨fun z => absurd z (nI_ge (by omega) (by omega)), fun _ => ?_⟩
    rw [ix60, nI_add, nI_clamp (by omega), nI_clamp (by omega)]
    refine ⟨vp_in_nI (by omega) (by omega), vp_in_nI (by omega) (by omega), fun a2 h2 y hy => ?_⟩
    rw [hy, nI_1]
    refine ih (t + 1) a2 (by omega) (fun u hu => by rw [h2, va_up_ne _ _ hu]; exact g1 u hu) (fun j hj => ?_)
    rw [h2, va_up_self]
    by_cases e : j = t
    · subst e
      rw [upd_self, g1 10 (by omega)]
    · rw [upd_ne _ _ e]; exact g2 j (by omega)
theorem n_watch69 {k i m : Nat} {Q : Int32 → (Nat → Int32) → (Nat → Nat → Int32) → Prop} (hk : k < 4) (him : i + m ≤ 60) (h1 : (∀ j, j < m → bOk a k i j) → vX11_watch_111 Q (nI k) (nI i) (nI m) 1 f a) (h0 : (∃ j, j < m ∧ ¬ bOk a k i j) → vX11_watch_111 Q (nI k) (nI i) (nI m) 0 f a) :
    ∀ d t : Nat, t + d = m → (∀ j, j < t → bOk a k i j) → vX11_watch_69 Q (d + 1) (nI k) (nI i) (nI m) 1 (nI t) f a := by
  intro d
  induction d with
  | zero =>
    intro t ht hp
    obtain rfl : t = m := by omega
    unfold vX11_watch_69
    exact ⟨fun _ => h1 hp, fun z => absurd (nI_le (Nat.le_refl _) (by omega)) z⟩
  | succ d ih =>
    intro t ht hp
    unfold vX11_watch_69
    refine ⟨fun z => absurd z (nI_ge (by omega) (by omega)), fun _ => ⟨fun z => absurd z (by decide), fun _ => ?_⟩⟩
    rw [ix60, nI_add, nI_clamp (by omega)]
    refine ⟨vp_in_nI (by omega) (by omega), i_n 0 999 rfl rfl (fun h y hy => ?_) (fun h y hy => ?_)⟩
    · rw [hy, nI_1]
      refine ih (t + 1) (by omega) (fun j hj => ?_)
      rcases (show j < t ∨ j = t by omega) with z | rfl
      · exact hp j z
      · exact h
    · have := h0 ⟨t, by omega, h⟩
      unfold vX11_watch_69
      exact ⟨fun _ => this, fun _ => ⟨fun _ => this, fun z => absurd rfl z⟩⟩
theorem Inv.wat {S' a' : Nat → Nat → Int32} {f' : Nat → Int32} {m : Nat} (h : Inv K n M S R f a) (hm : 2 ≤ m ∧ m ≤ 30) (hs : ∀ u, u ≠ 0 → u ≠ 3 → S' u = S u) (h8 : S' 0 8 = S 0 8) (h9 : S' 0 9 = nI m) (h10 : S' 0 10 = S 0 10) (f0 : f' 0 = f 0) (f1 : f' 1 = f 1) (f14 : f' 14 = nI m) (f20 : f' 20 = f 20) (ha : ∀ u, u ≠ 7 → a' u = a u) (h7 : ∀ j, j < m → S' 3 j = a' 7 j) : Inv K n M S' R f' a' := by
  obtain ⟨⟨g1, g2, g3, g4⟩, g5, g6, -, ⟨g8, g9⟩, g10⟩ := h
  refine ⟨⟨g1, g2, h8.trans g3, f1.trans g4⟩, fun x hx => by rw [ha 1 (by omega)]; exact g5 x hx, fun x hx => ⟨(g6 x hx).1, fun w hw => by rw [hs _ (by omega) (by omega)]; exact (g6 x hx).2.1 w hw, fun w hw => by rw [ha 2 (by omega)]; exact (g6 x hx).2.2 w hw⟩, ⟨m, Or.inr hm, h9, f14, h7⟩, ⟨by rw [h10, f0]; exact g8, by rw [hs 14 (by omega) (by omega), f20]; exact g9⟩, fun k hk => ?_⟩
  have := g10 k hk
  unfold ShC at this ⊢
  rw [hs (21 + 2 * k) (by omega) (by omega), hs (22 + 2 * k) (by omega) (by omega), ha 8 (by omega), ha 9 (by omega), ha 10 (by omega)]
  exact this
theorem pr_watch (I : Inv K n M S R f a) (x1 x2 x3 x4 : Int32) : vX10_watch K n x1 x2 x3 x4 S L R (fun r S' _ R' => vX11_watch x1 x2 x3 x4 f a (fun r' f' a' => r = r' ∧ Jv K n S' R' f' a')) := by
  obtain ⟨⟨hn, hRO, hS8, hf1⟩, hK, hM, hW, hF, hSh⟩ := id I
  unfold vX10_watch
  intro S1 hS1
  have I1 : Inv K n M S1 R (va_up f 0 0) a := by subst hS1; exact I.flt (fun i hi => by simp [va_up, hi]) (by simp [va_up, upd]) (by simp [va_up, upd]) (by simp [va_up, upd]) (by simp [va_up]) (by simp [va_up]) (by simp [va_up])
  have fl : ∀ (r : Int32), Jv K n (va_up S1 0 (upd (S1 0) 10 r)) R (va_up f 0 r) a := fun r => by subst hS1; exact ⟨M, I.flt (fun i hi => by simp [va_up, hi]) (by simp [va_up, upd]) (by simp [va_up, upd]) (by simp [va_up, upd]) (by simp [va_up]) (by simp [va_up]) (by simp [va_up])⟩
  refine i_sheet (fun k hk e => ?_) (fun ho => ?_)
  · subst e
    simp only [vX11_watch, n_sheet hk, z00, z10, not_true_eq_false, not_false_eq_true, false_implies, true_implies, true_and, and_true]
    refine j_w' 0 2 rfl rfl (fun h => ⟨hk, ?_⟩) (fun h => ?_)
    · simp only [n_in (l := 0) (g := 2) 0 2 rfl rfl h, z00, z10, not_true_eq_false, not_false_eq_true, false_implies, true_implies, true_and, and_true]
      refine i_take (a := a) (f := f) hk (I1.2.2.2.2.2 k hk) (fun c c0 c3 c2 c5 sp hb => ?_) (fun r hr hb => ?_)
      · have hwk : ∀ Q' : Int32 → (Nat → Int32) → (Nat → Nat → Int32) → Prop, (¬ (2 ≤ x4.toInt ∧ x4.toInt ≤ 30)) → (∃ n69, vX11_watch_69 Q' n69 (nI k) x3 x4 0 0 f a) = Q' (-2) (va_up f 0 0) a ∨ (Q' (-2) (va_up f 0 0) a → ∃ n69, vX11_watch_69 Q' n69 (nI k) x3 x4 0 0 f a) := by
          intro Q' _
          right
          intro q
          refine ⟨1, ?_⟩
          have : vX11_watch_111 Q' (nI k) x3 x4 0 f a := by
            unfold vX11_watch_111
            rw [n_ref]
            exact ⟨fun z => absurd rfl z, fun _ => q⟩
          unfold vX11_watch_69
          exact ⟨fun _ => this, fun _ => ⟨fun _ => this, fun z => absurd rfl z⟩⟩
        obtain ⟨s1, s2, s3⟩ := id sp
        obtain ⟨i, hi, rfl⟩ := rg_nI (x := x3) (hi := c) (by omega)
        obtain ⟨m, hm, rfl⟩ := rg_nI (x := x4) (hi := c) (by omega)
        rw [nI_toInt (by omega), nI_toInt (by omega)] at s3
        have bad : ∀ S2 R2, S2 = S1 → R2 = R → (¬ (2 ≤ (nI m).toInt ∧ (nI m).toInt ≤ 30) ∨ ∃ j, j < m ∧ ¬ bOk a k i j) → vX11_barred (nI k) x2 (nI i) (nI m).toInt64 f a (fun r5 f6 a7 => (0 ≤ r5 → vX11_in (nI m).toInt64 2 30 (fun r9 => ∃ n69, vX11_watch_69 (fun r' f' a' => -2 = r' ∧ Jv K n S2 R2 f' a') n69 (nI k) (nI i) (nI m) r9 0 f6 a7)) ∧ (¬ (0 ≤ r5) → -2 = r5 ∧ Jv K n S2 R2 f6 a7)) := by
          intro S2 R2 e1 e2 hor
          subst e1 e2
          rw [hb]
          refine ⟨fun _ => i_n 2 30 rfl rfl (fun hg => ?_) (fun hg => ?_), fun z => absurd (by decide) z⟩
          · have hex : ∃ j, j < m ∧ ¬ bOk a k i j := by
              rcases hor with z | z
              · exact absurd hg z
              · exact z
            refine ⟨_, n_watch69 hk (by omega) (fun hall => ?_) (fun _ => ?_) m 0 (by omega) (fun j hj => by omega)⟩
            · obtain ⟨j, hj, hj2⟩ := hex
              exact absurd (hall j hj) hj2
            · unfold vX11_watch_111
              rw [n_ref]
              exact ⟨fun z => absurd rfl z, fun _ => ⟨rfl, M, I1⟩⟩
          · rcases hwk (fun r' f' a' => -2 = r' ∧ Jv K n S2 R2 f' a') hg with z | z
            · rw [z]; exact ⟨rfl, M, I1⟩
            · exact z ⟨rfl, M, I1⟩
        refine j_w 2 30 rfl rfl (fun hg => ?_) (fun hg => bad S1 R rfl rfl (Or.inl hg))
        have hm2 : 2 ≤ m ∧ m ≤ 30 := by
          rw [nI_toInt (by omega)] at hg
          omega
        refine ⟨_, w_are hk c3 c0 (by omega) c5 (fun hall => ⟨fun _ => ?_, fun z => absurd z (by decide)⟩) (fun hex => ⟨fun z => absurd rfl z, fun _ => bad S1 R rfl rfl (Or.inr hex)⟩) m 0 (by omega) (fun j hj => by omega)⟩
        refine ⟨_, w_watch82 hk c3 c0 (by omega) hm2.2 c5 (fun S2 g1 g2 g3 => ?_) m 0 S1 (by omega) (fun _ _ => rfl) (fun j hj => by omega)⟩
        rw [hb]
        refine ⟨fun _ => ?_, fun z => absurd (by decide) z⟩
        rw [n_in (l := 2) (g := 30) 2 30 rfl rfl hg]
        refine ⟨_, n_watch69 hk (by omega) (fun _ => ?_) (fun hex => ?_) m 0 (by omega) (fun j hj => by omega)⟩
        · unfold vX11_watch_111
          refine ⟨fun _ f1 hf1' => ⟨_, n_watch132 (a := a) hk (by omega) hm2.2 (fun a' q1 q2 => ⟨rfl, M, I1.wat hm2 g1 ?_ ?_ ?_ ?_ ?_ ?_ ?_ q1 (fun j hj => (g3 j hj).trans (q2 j hj).symm)⟩) m 0 a (by omega) (fun _ _ => rfl) (fun j hj => by omega)⟩, fun z => absurd z (by decide)⟩
          · rw [g2, upd_ne _ _ (by omega)]
          · rw [g2, upd_self]
          · rw [g2, upd_ne _ _ (by omega)]
          · rw [hf1', va_up_self, va_up_self]
          · rw [hf1', va_up_ne _ _ (by omega), va_up_ne _ _ (by omega), va_up_ne _ _ (by omega)]
          · rw [hf1', va_up_ne _ _ (by omega), va_up_self]
          · rw [hf1', va_up_ne _ _ (by omega), va_up_ne _ _ (by omega), va_up_ne _ _ (by omega)]
        · obtain ⟨j, hj, hj2⟩ := hex
          exact absurd (hall j hj) hj2
      · rw [hb]
        refine ⟨fun z => absurd z ?_, fun _ => ⟨rfl, fl r⟩⟩
        rcases hr with rfl | rfl | rfl | rfl <;> decide
    · simp only [n_out (l := 0) (g := 2) 0 2 rfl rfl h, n_ref, z00, z10, not_true_eq_false, not_false_eq_true, false_implies, true_implies, true_and, and_true]
      exact ⟨M, I1⟩
  · simp only [vX11_watch, n_sheet0 ho, n_ref, z00, z10, not_true_eq_false, not_false_eq_true, false_implies, true_implies, true_and, and_true]
    exact ⟨M, I1⟩
end WA
