/-! pairs of the small methods: the class's answer is the reference's, and the common state goes on -/
def Jv (K : Nat → Nat) (n : Nat) (S : Nat → Nat → Int32) (R : Nat → Option Nat) (f : Nat → Int32) (a : Nat → Nat → Int32) : Prop := ∃ M, Inv K n M S R f a
section SM
variable {K : Nat → Nat} {n : Nat} {M : Nat → Nat → Nat} {S : Nat → Nat → Int32} {L : Nat → Int64} {R : Nat → Option Nat} {f : Nat → Int32} {a : Nat → Nat → Int32}
theorem Inv.flt (h : Inv K n M S R f a) {S' : Nat → Nat → Int32} {f' : Nat → Int32} (hs : ∀ i, i ≠ 0 → S' i = S i) (h8 : S' 0 8 = S 0 8) (h9 : S' 0 9 = S 0 9) (h10 : S' 0 10 = f' 0) (f1 : f' 1 = f 1) (f14 : f' 14 = f 14) (f20 : f' 20 = f 20) : Inv K n M S' R f' a := by
  obtain ⟨⟨h1, h2, h3, h4⟩, h5, h6, ⟨c, w1, w2, w3, w4⟩, ⟨g8, g9⟩, g10⟩ := h
  refine ⟨⟨h1, h2, h8.trans h3, f1.trans h4⟩, h5, fun x hx => ⟨(h6 x hx).1, fun w hw => by rw [hs _ (by omega)]; exact (h6 x hx).2.1 w hw, (h6 x hx).2.2⟩, ⟨c, w1, h9.trans w2, f14.trans w3, fun j hj => by rw [hs 3 (by omega)]; exact w4 j hj⟩, ⟨h10, by rw [hs 14 (by omega), f20]; exact g9⟩, fun k hk => ?_⟩
  have := g10 k hk
  unfold ShC at this ⊢
  rw [hs (21 + 2 * k) (by omega), hs (22 + 2 * k) (by omega)]
  exact this
theorem i_mill {x : Int32} {A : (Nat → Nat → Int32) → (Nat → Int64) → (Nat → Option Nat) → Prop} {B : Nat → (Nat → Nat → Int32) → (Nat → Int64) → (Nat → Option Nat) → Prop} (hn : n ≤ 8) (hS : S 0 8 = nI n) (h1 : ∀ j, j < n → x = nI j → B j S L R) (h0 : ¬ (0 ≤ x.toInt ∧ x.toInt < n) → A S L R) : vX10_millOf K n x S L R (fun o S L R => (o = none → A S L R) ∧ (∀ mi : Nat, o = some mi → B mi S L R)) :=
  i_millOf hn hS (fun j hj e => ⟨fun z => absurd z (fun h => by cases h), fun mi h => by cases h; exact h1 j hj e⟩) (fun ho => ⟨fun _ => h0 ho, fun mi h => by cases h⟩)
theorem i_sheet {x : Int32} {A : (Nat → Nat → Int32) → (Nat → Int64) → (Nat → Option Nat) → Prop} {B : Nat → (Nat → Nat → Int32) → (Nat → Int64) → (Nat → Option Nat) → Prop} (h1 : ∀ j, j < 4 → x = nI j → B j S L R) (h0 : ¬ (0 ≤ x.toInt ∧ x.toInt ≤ 3) → A S L R) : vX10_sheetOf K n x S L R (fun o S L R => (o = none → A S L R) ∧ (∀ mi : Nat, o = some mi → B mi S L R)) :=
  i_sheetOf (fun j hj e => ⟨fun z => absurd z (fun h => by cases h), fun mi h => by cases h; exact h1 j hj e⟩) (fun ho => ⟨fun _ => h0 ho, fun mi h => by cases h⟩)
theorem j_w {x l g : Int32} {A B : Prop} (lo hi : Int) (hl : l.toInt = lo) (hg : g.toInt = hi) (h1 : lo ≤ x.toInt ∧ x.toInt ≤ hi → A) (h0 : ¬ (lo ≤ x.toInt ∧ x.toInt ≤ hi) → B) : vX10_within x l g (fun r => (r = 0 → B) ∧ (¬ (r = 0) → A)) :=
  i_w lo hi hl hg (fun h => ⟨fun z => absurd z (by decide), fun _ => h1 h⟩) (fun h => ⟨fun _ => h0 h, fun z => absurd rfl z⟩)
theorem j_w' {x l g : Int32} {A B : Prop} (lo hi : Int) (hl : l.toInt = lo) (hg : g.toInt = hi) (h1 : lo ≤ x.toInt ∧ x.toInt ≤ hi → A) (h0 : ¬ (lo ≤ x.toInt ∧ x.toInt ≤ hi) → B) : vX10_within x l g (fun r => (¬ r = 0 → A) ∧ (r = 0 → B)) :=
  i_w lo hi hl hg (fun h => ⟨fun _ => h1 h, fun z => absurd z (by decide)⟩) (fun h => ⟨fun z => absurd rfl z, fun _ => h0 h⟩)
theorem n_ref {c : Int32} {Q : Int32 → (Nat → Int32) → (Nat → Nat → Int32) → Prop} : vX11_refused c f a Q = Q c (va_up f 0 0) a := by simp only [vX11_refused, forall_eq]
theorem n_fail {c : Int32} {Q : Int32 → (Nat → Int32) → (Nat → Nat → Int32) → Prop} : vX11_failed c f a Q = Q ((-10 : Int32) - c) (va_up f 0 c) a := by simp only [vX11_failed, forall_eq]
theorem n_failL {c : Int32} {Q : Int64 → (Nat → Int32) → (Nat → Nat → Int32) → Prop} : vX11_failedLong c f a Q = Q (-9223372036854775808 : Int64) (va_up f 0 c) a := by simp only [vX11_failedLong, vX11_lost, forall_eq]
theorem w_faulted {c : Int32} {Q : Int32 → (Nat → Nat → Int32) → (Nat → Int64) → (Nat → Option Nat) → Prop} : vX10_faulted K n c S L R Q = Q ((-10 : Int32) - c) (va_up S 0 (upd (S 0) 10 c)) L R := by simp only [vX10_faulted, forall_eq]
theorem n_isNumber {w : Nat} {v : Int32} {Q : Int32 → Prop} (hw : w < 9) (h : (loN w : Int) ≤ v.toInt ∧ v.toInt ≤ hiN w) : vX11_isNumber (nI w) v Q = Q 1 := by
  have := lohi w
  unfold vX11_isNumber
  rw [n_least hw, n_greatest hw, n_in (loN w) (hiN w) (by rw [Int32.toInt_toInt64, nI_toInt (by omega)]) (by rw [Int32.toInt_toInt64, nI_toInt (by omega)]) h]
  simp
theorem n_isNumber0 {w : Nat} {v : Int32} {Q : Int32 → Prop} (hw : w < 9) (h : ¬ ((loN w : Int) ≤ v.toInt ∧ v.toInt ≤ hiN w)) : vX11_isNumber (nI w) v Q = Q 0 := by
  have := lohi w
  unfold vX11_isNumber
  rw [n_least hw, n_greatest hw, n_out (loN w) (hiN w) (by rw [Int32.toInt_toInt64, nI_toInt (by omega)]) (by rw [Int32.toInt_toInt64, nI_toInt (by omega)]) h]
  simp
theorem pr_trace (I : Inv K n M S R f a) : vX10_trace K n S L R (fun r S' _ R' => vX11_trace f a (fun r' f' a' => r = r' ∧ Jv K n S' R' f' a')) :=
  ⟨I.2.2.2.2.1.2, M, I⟩
theorem pr_fault (I : Inv K n M S R f a) : vX10_fault K n S L R (fun r S' _ R' => vX11_fault f a (fun r' f' a' => r = r' ∧ Jv K n S' R' f' a')) :=
  ⟨I.2.2.2.2.1.1, M, I⟩
theorem pr_many (I : Inv K n M S R f a) (x1 : Int32) : vX10_many K n x1 S L R (fun r S' _ R' => vX11_many x1 f a (fun r' f' a' => r = r' ∧ Jv K n S' R' f' a')) := by
  obtain ⟨⟨hn, hRO, hS8, hf1⟩, hK, hM, hW, hF, hSh⟩ := id I
  obtain ⟨c, w1, w2, w3, w4⟩ := hW
  unfold vX10_many vX11_many
  refine j_w' 0 1 rfl rfl (fun h => ?_) (fun h => ?_)
  · refine ⟨fun h1 => ⟨fun _ => ⟨fun h2 => ?_, fun _ => ⟨w2.trans w3.symm, M, I⟩⟩, fun z => absurd z h1⟩, fun h1 => ⟨fun z => absurd h1 z, fun _ => ⟨hS8.trans hf1.symm, M, I⟩⟩⟩
    obtain ⟨j, hj, rfl⟩ := rg_nI (hi := 1) h
    rcases (show j = 0 ∨ j = 1 by omega) with rfl | rfl
    · exact absurd rfl h1
    · exact absurd rfl h2
  · refine ⟨fun _ => ⟨fun _ => ⟨rfl, M, I⟩, fun e => ?_⟩, fun e => ?_⟩
    · subst e; exact absurd (by decide) h
    · subst e; exact absurd (by decide) h
theorem pr_ofMill (I : Inv K n M S R f a) (x1 x2 : Int32) : vX10_ofMill K n x1 x2 S L R (fun r S' _ R' => vX11_ofMill x1 x2 f a (fun r' f' a' => r = r' ∧ Jv K n S' R' f' a')) := by
  obtain ⟨⟨hn, hRO, hS8, hf1⟩, hK, hM, hW, hF, hSh⟩ := id I
  unfold vX10_ofMill
  refine i_mill hn hS8 (fun j hj e => ?_) (fun ho => ?_)
  · subst e
    have hk := hK j hj
    have hm := hM j hj
    unfold vX11_ofMill
    refine j_w' 0 9 rfl rfl (fun h => ?_) (fun h => ?_)
    · simp only [n_mill hn hf1 hj, n_in (l := 0) (g := 9) 0 9 rfl rfl h, z00, z10, not_true_eq_false, not_false_eq_true, false_implies, true_implies, true_and, and_true]
      obtain ⟨w, hw, rfl⟩ := rg_nI (hi := 9) h
      refine ⟨fun h1 => ⟨hj, ?_⟩, fun h1 => ⟨hj, ?_⟩⟩
      · have hw9 : w < 9 := by
          rcases (show w < 9 ∨ w = 9 by omega) with z | rfl
          · exact z
          · exact absurd rfl h1
        refine ⟨vp_in_nI (by omega) (by omega), fun _ => ?_, fun z => absurd z h1⟩
        rw [n_of (by omega) (by omega), nI_clamp (by omega)]
        exact ⟨(hm.2.1 w (by omega)).trans (hm.2.2 w (by omega)).symm, M, I⟩
      · refine ⟨fun k => ?_, fun k => ?_, fun k k1 => ?_⟩
        · refine ⟨fun z => absurd h1 z, fun _ => ⟨vp_in_nI (by omega) (by omega), ?_, M, I⟩⟩
          rw [nI_clamp (by omega), hk.2, k]; rfl
        · refine ⟨fun z => absurd h1 z, fun _ => ⟨vp_in_nI (by omega) (by omega), ?_, M, I⟩⟩
          rw [nI_clamp (by omega), hk.2, k]; rfl
        · refine ⟨fun z => absurd h1 z, fun _ => ⟨vp_in_nI (by omega) (by omega), ?_, M, I⟩⟩
          rw [nI_clamp (by omega), hk.2, show K j = 2 by omega]; rfl
    · simp only [n_mill hn hf1 hj, n_out (l := 0) (g := 9) 0 9 rfl rfl h, z00, z10, not_true_eq_false, not_false_eq_true, false_implies, true_implies, true_and, and_true]
      exact ⟨M, I⟩
  · simp only [vX11_ofMill, n_mill0 hn hf1 ho, z00, z10, not_true_eq_false, not_false_eq_true, false_implies, true_implies, true_and, and_true]
    exact ⟨M, I⟩
theorem Inv.num (h : Inv K n M S R f a) {x w v : Nat} (hx : x < n) (hw : w < 9) (h1 : loN w ≤ v) (h2 : v ≤ hiN w) : Inv K n (va_up M x (va_up (M x) w v)) (va_up S (30 + 2 * x) (upd (S (30 + 2 * x)) w (nI v))) R f (va_up a 2 (upd (a 2) (9 * x + w) (nI v))) := by
  obtain ⟨⟨g1, g2, g3, g4⟩, g5, g6, ⟨c, w1, w2, w3, w4⟩, ⟨g8, g9⟩, g10⟩ := h
  refine ⟨⟨g1, g2, by rw [va_up_ne _ _ (by omega)]; exact g3, g4⟩, fun y hy => by rw [va_up_ne _ _ (by omega)]; exact g5 y hy, fun y hy => ?_, ⟨c, w1, by rw [va_up_ne _ _ (by omega)]; exact w2, w3, fun j hj => by rw [va_up_ne _ _ (by omega), va_up_ne _ _ (by omega)]; exact w4 j hj⟩, ⟨by rw [va_up_ne _ _ (by omega)]; exact g8, by rw [va_up_ne _ _ (by omega)]; exact g9⟩, fun k hk => ?_⟩
  · obtain ⟨m1, m2, m3⟩ := g6 y hy
    by_cases hyx : y = x
    · subst hyx
      rw [va_up_self]
      refine ⟨fun u hu => ?_, fun u hu => ?_, fun u hu => ?_⟩
      · by_cases e : u = w
        · subst e; rw [va_up_self]; exact ⟨h1, h2⟩
        · rw [va_up_ne _ _ e]; exact m1 u hu
      · rw [va_up_self]
        by_cases e : u = w
        · subst e; rw [va_up_self, upd_self]
        · rw [va_up_ne _ _ e, upd_ne _ _ e]; exact m2 u hu
      · rw [va_up_self]
        by_cases e : u = w
        · subst e; rw [va_up_self, upd_self]
        · rw [va_up_ne _ _ e, upd_ne _ _ (by omega)]; exact m3 u hu
    · rw [va_up_ne _ _ hyx]
      refine ⟨m1, fun u hu => ?_, fun u hu => ?_⟩
      · rw [va_up_ne _ _ (by omega)]; exact m2 u hu
      · rw [va_up_self, upd_ne _ _ (by omega)]; exact m3 u hu
  · have := g10 k hk
    unfold ShC at this ⊢
    rw [va_up_ne _ _ (show 21 + 2 * k ≠ 30 + 2 * x by omega), va_up_ne _ _ (show 22 + 2 * k ≠ 30 + 2 * x by omega), va_up_ne _ _ (show 8 ≠ 2 by omega), va_up_ne _ _ (show 9 ≠ 2 by omega), va_up_ne _ _ (show 10 ≠ 2 by omega)]
    exact this
theorem ix9 (x w : Nat) : (9 : Int32) * nI x + nI w = nI (9 * x + w) := by rw [show (9 : Int32) = nI 9 from rfl, nI_mul, nI_add]
theorem pr_turn (I : Inv K n M S R f a) (x1 x2 x3 : Int32) : vX10_turn K n x1 x2 x3 S L R (fun r S' _ R' => vX11_turn x1 x2 x3 f a (fun r' f' a' => r = r' ∧ Jv K n S' R' f' a')) := by
  obtain ⟨⟨hn, hRO, hS8, hf1⟩, hK, hM, hW, hF, hSh⟩ := id I
  unfold vX10_turn
  refine i_mill hn hS8 (fun j hj e => ?_) (fun ho => ?_)
  · subst e
    have hm := hM j hj
    simp only [vX11_turn, n_mill hn hf1 hj, z00, z10, not_true_eq_false, not_false_eq_true, false_implies, true_implies, true_and, and_true]
    refine j_w' 0 8 rfl rfl (fun h => ?_) (fun h => ?_)
    · simp only [n_in (l := 0) (g := 8) 0 8 rfl rfl h, z00, z10, not_true_eq_false, not_false_eq_true, false_implies, true_implies, true_and, and_true]
      obtain ⟨w, hw, rfl⟩ := rg_nI (hi := 8) h
      have hv := vp_in_nI (n := w) (N := 9) (by omega) (by omega)
      refine ⟨hv, hv, ?_⟩
      have hb := lohi w
      rw [nI_clamp (by omega)]
      refine j_w' (loN w) (hiN w) (by rw [least_nI (by omega), nI_toInt (by omega)]) (by rw [greatest_nI (by omega), nI_toInt (by omega)]) (fun h3 => ?_) (fun h3 => ?_)
      · refine ⟨hj, hv, fun y hy => ⟨hv, fun S1 hS1 => ?_⟩⟩
        rw [n_isNumber (by omega) h3]
        simp only [z00, z10, not_true_eq_false, not_false_eq_true, false_implies, true_implies, true_and, and_true]
        rw [n_of (by omega) (by omega), ix9, nI_clamp (by omega)]
        refine ⟨vp_in_nI (by omega) (by omega), fun a1 ha1 => ?_⟩
        obtain ⟨v, hv3, rfl⟩ := rg_nI (hi := hiN w) ⟨by omega, h3.2⟩
        rw [nI_toInt (by omega)] at h3
        subst hS1 ha1 hy
        exact ⟨(hm.2.1 w (by omega)).trans (hm.2.2 w (by omega)).symm, _, I.num hj (by omega) (by omega) hv3⟩
      · rw [n_isNumber0 (by omega) h3]
        simp only [z00, z10, not_true_eq_false, not_false_eq_true, false_implies, true_implies, true_and, and_true]
        exact ⟨M, I⟩
    · simp only [n_out (l := 0) (g := 8) 0 8 rfl rfl h, z00, z10, not_true_eq_false, not_false_eq_true, false_implies, true_implies, true_and, and_true]
      exact ⟨M, I⟩
  · simp only [vX11_turn, n_mill0 hn hf1 ho, z00, z10, not_true_eq_false, not_false_eq_true, false_implies, true_implies, true_and, and_true]
    exact ⟨M, I⟩
theorem Inv.trc (h : Inv K n M S R f a) {v : Int32} : Inv K n M (va_up S 14 (upd (S 14) 0 v)) R (va_up f 20 v) a := by
  obtain ⟨⟨g1, g2, g3, g4⟩, g5, g6, ⟨c, w1, w2, w3, w4⟩, ⟨g8, g9⟩, g10⟩ := h
  refine ⟨⟨g1, g2, by rw [va_up_ne _ _ (by omega)]; exact g3, by rw [va_up_ne _ _ (by omega)]; exact g4⟩, g5, fun x hx => ⟨(g6 x hx).1, fun w hw => by rw [va_up_ne _ _ (by omega)]; exact (g6 x hx).2.1 w hw, (g6 x hx).2.2⟩, ⟨c, w1, by rw [va_up_ne _ _ (by omega)]; exact w2, by rw [va_up_ne _ _ (by omega)]; exact w3, fun j hj => by rw [va_up_ne _ _ (by omega)]; exact w4 j hj⟩, ⟨by rw [va_up_ne _ _ (by omega), va_up_ne _ _ (by omega)]; exact g8, by rw [va_up_self, va_up_self, upd_self]⟩, fun k hk => ?_⟩
  have := g10 k hk
  unfold ShC at this ⊢
  rw [va_up_ne _ _ (show 21 + 2 * k ≠ 14 by omega), va_up_ne _ _ (show 22 + 2 * k ≠ 14 by omega)]
  exact this
theorem w_leave {c : Int32} {Q : (Nat → Nat → Int32) → (Nat → Int64) → (Nat → Option Nat) → Prop} : vX9_leave K n c S L R Q = Q (va_up S 14 (upd (S 14) 0 (31 * S 14 0 + c))) L R := by simp only [vX9_leave, forall_eq]
theorem n_traced {c : Int32} {Q : (Nat → Int32) → (Nat → Nat → Int32) → Prop} : vX11_traced c f a Q = Q (va_up f 20 (31 * f 20 + c)) a := by simp only [vX11_traced, forall_eq]
end SM
