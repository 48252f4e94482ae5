/-! pairs: tell, ring, as; sheets -/
section SH
variable {K : Nat → Nat} {n : Nat} {M : Nat → Nat → Nat} {S : Nat → Nat → Int32} {L : Nat → Int64} {R : Nat → Option Nat} {f : Nat → Int32} {a : Nat → Nat → Int32}
theorem n_ofl {x w : Nat} {Q : Int32 → (Nat → Int32) → (Nat → Nat → Int32) → Prop} (hx : x < 8) (hw : w < 9) : vX11_of (nI x) (OfNat.ofNat w) f a Q = Q (a 2 (9 * x + w)) f a := n_of hx hw
theorem Inv.trc1 (I : Inv K n M S R f a) (c : Int32) : Inv K n M (va_up S 14 (upd (S 14) 0 (31 * S 14 0 + c))) R (va_up f 20 (31 * f 20 + c)) a := by
  rw [I.2.2.2.2.1.2]
  exact I.trc
theorem n_tell {j : Nat} {Q : Int32 → (Nat → Int32) → (Nat → Nat → Int32) → Prop} (hn : n ≤ 8) (hf : f 1 = nI n) (hj : j < n) : vX11_tell (nI j) f a Q = ((¬ a 1 j = 2 → vX11_tell_27 Q (nI j) (a 1 j) f a) ∧ (a 1 j = 2 → vX11_tell_27 Q (nI j) (a 1 j) (va_up f 20 (31 * f 20 + 3)) a)) := by
  simp only [vX11_tell, n_mill hn hf hj, z00, z10, not_true_eq_false, not_false_eq_true, false_implies, true_implies, true_and, and_true]
  simp only [z00, not_true_eq_false, true_implies, false_implies, and_true, forall_eq, nI_clamp (show j < 2 ^ 31 by omega), vpn (show j < 8 by omega) (show 8 < 2 ^ 31 by omega), true_and, n_traced]
theorem pr_tell (I : Inv K n M S R f a) (x1 : Int32) : vX10_tell K n x1 S L R (fun r S' _ R' => vX11_tell x1 f a (fun r' f' a' => r = r' ∧ Jv K n S' R' f' a')) := by
  obtain ⟨⟨hn, hRO, hS8, hf1⟩, hK, hM, hW, hF, hSh⟩ := id I
  unfold vX10_tell
  refine i_mill hn hS8 (fun j hj e => ?_) (fun ho => ?_)
  · subst e
    have hk := hK j hj
    have hm := hM j hj
    have v0 : vp_in (0 : Int32) 9 := vp_in_nI (n := 0) (by omega) (by omega)
    have hc := hm.2.1 0 (by omega)
    have hr := hm.2.2 0 (by omega)
    have c0 : (0 : Int32).toNatClampNeg = 0 := rfl
    refine ⟨hj, fun k => ?_, fun k => ?_, fun k k1 => ?_⟩
    · simp only [vX4_telling, vX4_plainTelling, w_leave]
      refine ⟨v0, ?_⟩
      rw [n_tell hn hf1 hj, hk.2, k]
      refine ⟨fun _ => ⟨fun _ => ?_, fun z => absurd (by decide) z⟩, fun z => absurd z (by decide)⟩
      unfold vX11_tell_36 vX11_tell_51
      rw [n_traced]
      refine ⟨fun _ => ?_, fun z => absurd z (by decide)⟩
      rw [n_ofl (w := 0) (by omega) (by decide)]
      refine ⟨fun z => absurd rfl z, fun _ => ⟨?_, M, I.trc1 1⟩⟩
      rw [va_up_ne _ _ (by omega), c0, hc, hr]
    · simp only [vX3_telling, vX4_telling, vX4_plainTelling, w_leave]
      refine ⟨v0, ?_⟩
      rw [n_tell hn hf1 hj, hk.2, k]
      refine ⟨fun _ => ⟨fun z => absurd z (by decide), fun _ => ?_⟩, fun z => absurd z (by decide)⟩
      unfold vX11_tell_36 vX11_tell_51
      rw [n_traced, n_traced]
      refine ⟨fun _ => ?_, fun z => absurd z (by decide)⟩
      rw [n_ofl (w := 0) (by omega) (by decide)]
      refine ⟨fun _ => ⟨fun z => absurd rfl z, fun _ => ⟨?_, M, (I.trc1 2).trc1 1⟩⟩, fun z => absurd z (by decide)⟩
      rw [va_up_ne _ _ (by omega), va_up_ne _ _ (by omega), c0, hc, hr]
    · simp only [vX7_telling, vX3_telling, vX4_telling, vX4_plainTelling, w_leave]
      refine ⟨v0, v0, ?_⟩
      rw [n_tell hn hf1 hj, hk.2, show K j = 2 by omega]
      refine ⟨fun z => absurd rfl z, fun _ => ⟨fun z => absurd z (by decide), fun _ => ?_⟩⟩
      unfold vX11_tell_36 vX11_tell_51
      rw [n_traced, n_traced]
      refine ⟨fun z => absurd rfl z, fun _ => ?_⟩
      rw [n_traced, n_ofl (w := 0) (by omega) (by decide)]
      refine ⟨fun _ => ⟨fun _ => ⟨?_, M, (((I.trc1 3).trc1 2).trc1 1).trc1 1⟩, fun z => absurd z (by decide)⟩, fun z => absurd z (by decide)⟩
      have hne : 30 + 2 * j ≠ 14 := by omega
      simp only [va_up_ne (k := 14) (j := 30 + 2 * j) _ _ hne]
      rw [c0, hc, hr, show (2 : Int32) = nI 2 from rfl, show (100 : Int32) = nI 100 from rfl, nI_mul, nI_add, nI_add, nI_add]
      congr 1
      omega
  · simp only [vX11_tell, n_mill0 hn hf1 ho, z00, z10, not_true_eq_false, not_false_eq_true, false_implies, true_implies, true_and, and_true]
    exact ⟨M, I⟩
theorem pr_ring (I : Inv K n M S R f a) (x1 : Int32) : vX10_ring K n x1 S L R (fun r S' _ R' => vX11_ring x1 f a (fun r' f' a' => r = r' ∧ Jv K n S' R' f' a')) := by
  obtain ⟨⟨hn, hRO, hS8, hf1⟩, hK, hM, hW, hF, hSh⟩ := id I
  unfold vX10_ring
  refine i_mill hn hS8 (fun j hj e => ?_) (fun ho => ?_)
  · subst e
    have hk := hK j hj
    have v8 : vp_in (nI j) 8 := vp_in_nI (by omega) (by omega)
    have e1 : (nI j).toNatClampNeg = j := nI_clamp (by omega)
    simp only [vX11_ring, vX11_ring_26, n_mill hn hf1 hj, z00, z10, not_true_eq_false, not_false_eq_true, false_implies, true_implies, true_and, and_true]
    simp only [vX4_rung, vX7_rung, w_leave, n_traced, e1, hk.2, z00, z10, not_true_eq_false, not_false_eq_true, false_implies, true_implies, true_and, and_true]
    refine ⟨hj, fun k => ⟨v8, ?_⟩, fun k => ⟨v8, ?_⟩, fun k k1 => ⟨v8, ?_⟩⟩
    · rw [k]
      exact ⟨fun _ => ⟨v8, fun _ => ⟨M, I.trc1 4⟩, fun z => absurd z (by decide)⟩, fun z => absurd z (by decide)⟩
    · rw [k]
      exact ⟨fun _ => ⟨v8, fun _ => ⟨M, I.trc1 4⟩, fun z => absurd z (by decide)⟩, fun z => absurd z (by decide)⟩
    · rw [show K j = 2 by omega]
      exact ⟨fun z => absurd rfl z, fun _ => ⟨v8, fun z => absurd rfl z, fun _ => ⟨M, I.trc1 5⟩⟩⟩
  · simp only [vX11_ring, n_mill0 hn hf1 ho, z00, z10, not_true_eq_false, not_false_eq_true, false_implies, true_implies, true_and, and_true]
    exact ⟨M, I⟩
theorem pr_as (I : Inv K n M S R f a) (x1 x2 : Int32) : vX10_as K n x1 x2 S L R (fun r S' _ R' => vX11_as x1 x2 f a (fun r' f' a' => r = r' ∧ Jv K n S' R' f' a')) := by
  obtain ⟨⟨hn, hRO, hS8, hf1⟩, hK, hM, hW, hF, hSh⟩ := id I
  unfold vX10_as
  intro S1 hS1
  subst hS1
  refine i_mill hn (by simp [va_up, upd, hS8]) (fun j hj e => ?_) (fun ho => ?_)
  · subst e
    have hk := hK j hj
    have v8 : vp_in (nI j) 8 := vp_in_nI (by omega) (by omega)
    have e1 : (nI j).toNatClampNeg = j := nI_clamp (by omega)
    simp only [vX11_as, n_mill hn hf1 hj, z00, z10, not_true_eq_false, not_false_eq_true, false_implies, true_implies, true_and, and_true]
    refine j_w' 0 2 rfl rfl (fun h => ?_) (fun h => ?_)
    · simp only [n_in (l := 0) (g := 2) 0 2 rfl rfl h, z00, z10, not_true_eq_false, not_false_eq_true, false_implies, true_implies, true_and, and_true]
      simp only [vX4_kind, vX3_kind, vX7_kind, w_faulted, n_fail, n_ref, e1, hk.2, z00, z10, not_true_eq_false, not_false_eq_true, false_implies, true_implies, true_and, and_true]
      have key : ∀ r : Int32, r = nI (K j) → (r < x2 → vp_in (nI j) 8 ∧ (nI (K j) < x2 → Jv K n (va_up (va_up S 0 (upd (S 0) 10 0)) 0 (upd (va_up S 0 (upd (S 0) 10 0) 0) 10 2)) R (va_up f 0 2) a) ∧ (¬ nI (K j) < x2 → (-10 : Int32) - 2 = 1 ∧ Jv K n (va_up (va_up S 0 (upd (S 0) 10 0)) 0 (upd (va_up S 0 (upd (S 0) 10 0) 0) 10 2)) R (va_up f 0 0) a)) ∧ (¬ r < x2 → vp_in (nI j) 8 ∧ (nI (K j) < x2 → (1 : Int32) = -10 - 2 ∧ Jv K n (va_up S 0 (upd (S 0) 10 0)) R (va_up f 0 2) a) ∧ (¬ nI (K j) < x2 → Jv K n (va_up S 0 (upd (S 0) 10 0)) R (va_up f 0 0) a)) := by
        intro r hr
        subst hr
        refine ⟨fun c => ⟨v8, fun _ => ⟨M, I.flt (fun i hi => by simp [va_up, hi]) (by simp [va_up, upd]) (by simp [va_up, upd]) (by simp [va_up, upd]) (by simp [va_up]) (by simp [va_up]) (by simp [va_up])⟩, fun z => absurd c z⟩, fun c => ⟨v8, fun z => absurd z c, fun _ => ⟨M, I.flt (fun i hi => by simp [va_up, hi]) (by simp [va_up, upd]) (by simp [va_up, upd]) (by simp [va_up, upd]) (by simp [va_up]) (by simp [va_up]) (by simp [va_up])⟩⟩⟩
      refine ⟨hj, fun k => ?_, fun k => ?_, fun k k1 => ?_⟩
      · exact key 0 (by rw [k]; rfl)
      · exact key 1 (by rw [k]; rfl)
      · exact key 2 (by rw [show K j = 2 by omega]; rfl)
    · simp only [n_out (l := 0) (g := 2) 0 2 rfl rfl h, z00, z10, not_true_eq_false, not_false_eq_true, false_implies, true_implies, true_and, and_true]
      rw [n_ref]
      exact ⟨rfl, M, I.flt (fun i hi => by simp [va_up, hi]) (by simp [va_up, upd]) (by simp [va_up, upd]) (by simp [va_up, upd]) (by simp [va_up]) (by simp [va_up]) (by simp [va_up])⟩
  · simp only [vX11_as, n_mill0 hn hf1 ho, z00, z10, not_true_eq_false, not_false_eq_true, false_implies, true_implies, true_and, and_true]
    rw [n_ref]
    exact ⟨rfl, M, I.flt (fun i hi => by simp [va_up, hi]) (by simp [va_up, upd]) (by simp [va_up, upd]) (by simp [va_up, upd]) (by simp [va_up]) (by simp [va_up]) (by simp [va_up])⟩
theorem Inv.sh (h : Inv K n M S R f a) {k : Nat} {S' : Nat → Nat → Int32} {a' : Nat → Nat → Int32} (hs : ∀ i, i ≠ 21 + 2 * k → i ≠ 22 + 2 * k → S' i = S i) (hk : k < 4) (a1 : a' 1 = a 1) (a2 : a' 2 = a 2) (a7 : a' 7 = a 7) (a8 : ∀ j, j ≠ k → a' 8 j = a 8 j) (a9 : ∀ j, j ≠ k → a' 9 j = a 9 j) (a10 : ∀ j, (j < 60 * k ∨ 60 * k + 60 ≤ j) → a' 10 j = a 10 j) (hsh : ShC S' a' k) : Inv K n M S' R f a' := by
  obtain ⟨⟨g1, g2, g3, g4⟩, g5, g6, ⟨c, w1, w2, w3, w4⟩, ⟨g8, g9⟩, g10⟩ := h
  refine ⟨⟨g1, g2, by rw [hs 0 (by omega) (by omega)]; exact g3, g4⟩, fun x hx => by rw [a1]; exact g5 x hx, fun x hx => ⟨(g6 x hx).1, fun w hw => by rw [hs _ (by omega) (by omega)]; exact (g6 x hx).2.1 w hw, fun w hw => by rw [a2]; exact (g6 x hx).2.2 w hw⟩, ⟨c, w1, by rw [hs 0 (by omega) (by omega)]; exact w2, w3, fun j hj => by rw [hs 3 (by omega) (by omega), a7]; exact w4 j hj⟩, ⟨by rw [hs 0 (by omega) (by omega)]; exact g8, by rw [hs 14 (by omega) (by omega)]; exact g9⟩, fun k' hk' => ?_⟩
  by_cases e : k' = k
  · subst e; exact hsh
  · have := g10 k' hk'
    unfold ShC at this ⊢
    rw [hs (21 + 2 * k') (by omega) (by omega), hs (22 + 2 * k') (by omega) (by omega), a8 _ e, a9 _ e]
    rcases this with z | ⟨c, c1, c2, c3, c4, c5, c6⟩
    · exact Or.inl z
    · refine Or.inr ⟨c, c1, c2, c3, c4, c5, fun j hj => ?_⟩
      rw [a10 _ (by omega)]
      exact c6 j hj
theorem pr_lose (I : Inv K n M S R f a) (x1 : Int32) : vX10_lose K n x1 S L R (fun r S' _ R' => vX11_lose x1 f a (fun r' f' a' => r = r' ∧ Jv K n S' R' f' a')) := by
  obtain ⟨⟨hn, hRO, hS8, hf1⟩, hK, hM, hW, hF, hSh⟩ := id I
  unfold vX10_lose
  refine i_sheet (fun k hk e => ?_) (fun ho => ?_)
  · subst e
    have v4 : vp_in (nI k) 4 := vp_in_nI (by omega) (by omega)
    have e1 : (nI k).toNatClampNeg = k := nI_clamp (by omega)
    refine ⟨hk, fun y hy S1 hS1 => ?_⟩
    subst hy hS1
    simp only [vX11_lose, vX11_lose_23, n_sheet hk, e1, z00, z10, not_true_eq_false, not_false_eq_true, false_implies, true_implies, true_and, and_true]
    have J : Jv K n (va_up S (21 + 2 * k) (upd (S (21 + 2 * k)) 1 0)) R f (va_up a 8 (upd (a 8) k (-1))) := by
      refine ⟨M, I.sh (k := k) (fun i h1 h2 => va_up_ne _ _ h1) hk (va_up_ne _ _ (by omega)) (va_up_ne _ _ (by omega)) (va_up_ne _ _ (by omega)) (fun j hj => by rw [va_up_self, upd_ne _ _ hj]) (fun j hj => by rw [va_up_ne _ _ (by omega)]) (fun j hj => by rw [va_up_ne _ _ (by omega)]) (Or.inl ⟨?_, ?_⟩)⟩
      · rw [va_up_self, upd_self]
      · rw [va_up_self, upd_self]
    rcases hSh k hk with ⟨c1, c2⟩ | ⟨c, c0, c1, c2, c3, c4, c5⟩
    · rw [c1, c2]
      exact ⟨fun _ => ⟨v4, fun z => absurd z (by decide), fun _ => ⟨v4, fun a1 ha => by rw [ha]; exact J⟩⟩, fun z => absurd rfl z⟩
    · rw [c1, c2]
      exact ⟨fun z => absurd z (by decide), fun _ => ⟨v4, fun _ => ⟨v4, fun a1 ha => by rw [ha]; exact J⟩, fun z => absurd (nI_pos' (by omega)) z⟩⟩
  · simp only [vX11_lose, n_sheet0 ho, z00, z10, not_true_eq_false, not_false_eq_true, false_implies, true_implies, true_and, and_true]
    exact ⟨M, I⟩
/-- cells of a sheet -/
theorem nI_m1 {c : Nat} (h : c < 2 ^ 31) : (nI c - 1).toInt = (c : Int) - 1 := by
  rcases c with _ | k
  · decide
  · rw [nI_pred, nI_toInt (by omega)]; omega
theorem i_hasCell {k c : Nat} {x : Int32} {Q : Int32 → (Nat → Nat → Int32) → (Nat → Int64) → (Nat → Option Nat) → Prop} (h3 : S (21 + 2 * k) 3 = nI c) (hc : c ≤ 60) (h1 : ∀ j, j < c → x = nI j → Q 1 S L R) (h0 : ¬ (0 ≤ x.toInt ∧ x.toInt < c) → Q 0 S L R) : vX6_hasCell K n k x S L R Q := by
  unfold vX6_hasCell
  refine i_w 0 ((c : Int) - 1) rfl (by rw [h3, nI_m1 (by omega)]) (fun h => ⟨Or.inr rfl, ?_⟩) (fun h => ⟨Or.inl rfl, h0 (by omega)⟩)
  obtain ⟨j, hj, rfl⟩ := rg_nI (x := x) (hi := c - 1) (by omega)
  rw [nI_toInt (by omega)] at h
  exact h1 j (by omega) rfl
theorem w_hasCell {k c j : Nat} {Q : Int32 → (Nat → Nat → Int32) → (Nat → Int64) → (Nat → Option Nat) → Prop} (h3 : S (21 + 2 * k) 3 = nI c) (hc : c ≤ 60) (hj : j < c) (h1 : Q 1 S L R) : vX6_hasCell K n k (nI j) S L R Q :=
  i_hasCell h3 hc (fun _ _ _ => h1) (fun h => absurd (by rw [nI_toInt (by omega)]; omega) h)
theorem w_at {k c j : Nat} {Q : Int32 → (Nat → Nat → Int32) → (Nat → Int64) → (Nat → Option Nat) → Prop} (h3 : S (21 + 2 * k) 3 = nI c) (hc : c ≤ 60) (hj : j < c) (h1 : Q (S (22 + 2 * k) j) S L R) : vX6_at K n k (nI j) S L R Q := by
  unfold vX6_at
  refine w_hasCell h3 hc hj ⟨fun z => absurd z (by decide), fun _ => ⟨vp_in_nI (by omega) (by omega), ?_⟩⟩
  rw [nI_clamp (by omega)]
  exact h1
theorem n_noCell {k c j : Nat} {Q : Int32 → (Nat → Int32) → (Nat → Nat → Int32) → Prop} (hk : k < 4) (h : a 8 k = nI c) (hc : c ≤ 60) (hj : j < c) : vX11_noCell (nI k) (nI j) f a Q = Q 0 f a := by
  have v4 : vp_in (nI k) 4 := vp_in_nI (by omega) (by omega)
  have e1 : (nI k).toNatClampNeg = k := nI_clamp (by omega)
  have p : (0 : Int32) ≤ nI c := nI_pos' (by omega)
  unfold vX11_noCell
  rw [e1, h, n_in 0 ((c : Int) - 1) rfl (by rw [nI_l (by omega), lN_m1 (by omega)]) (by rw [nI_toInt (by omega)]; omega)]
  simp [v4, p]
theorem n_noCell3 {k c : Nat} {x : Int32} {Q : Int32 → (Nat → Int32) → (Nat → Nat → Int32) → Prop} (hk : k < 4) (h : a 8 k = nI c) (hc : c ≤ 60) (hj : ¬ (0 ≤ x.toInt ∧ x.toInt < c)) : vX11_noCell (nI k) x f a Q = Q 3 f a := by
  have v4 : vp_in (nI k) 4 := vp_in_nI (by omega) (by omega)
  have e1 : (nI k).toNatClampNeg = k := nI_clamp (by omega)
  have p : (0 : Int32) ≤ nI c := nI_pos' (by omega)
  unfold vX11_noCell
  rw [e1, h, n_out 0 ((c : Int) - 1) rfl (by rw [nI_l (by omega), lN_m1 (by omega)]) (by omega)]
  simp [v4, p]
theorem n_noCell1 {k : Nat} {x : Int32} {Q : Int32 → (Nat → Int32) → (Nat → Nat → Int32) → Prop} (hk : k < 4) (h : a 8 k = -1) : vX11_noCell (nI k) x f a Q = Q 1 f a := by
  have v4 : vp_in (nI k) 4 := vp_in_nI (by omega) (by omega)
  have e1 : (nI k).toNatClampNeg = k := nI_clamp (by omega)
  have p : ¬ (0 : Int32) ≤ -1 := by decide
  unfold vX11_noCell
  rw [e1, h]
  simp [v4, p]
theorem ix60 (x w : Nat) : (60 : Int32) * nI x + nI w = nI (60 * x + w) := by rw [show (60 : Int32) = nI 60 from rfl, nI_mul, nI_add]
def cutL (l v : Int32) : Int32 := if l = 0 then v.toInt8.toInt32 else if l = 1 then v.toInt16.toInt32 else v
theorem w_cut {k : Nat} {v : Int32} {Q : Int32 → (Nat → Nat → Int32) → (Nat → Int64) → (Nat → Option Nat) → Prop} : vX6_cut K n k v S L R Q = Q (cutL (S (21 + 2 * k) 2) v) S L R := by
  unfold vX6_cut cutL
  by_cases h1 : S (21 + 2 * k) 2 = 0 <;> by_cases h2 : S (21 + 2 * k) 2 = 1 <;> simp [h1, h2]
theorem pr_put (I : Inv K n M S R f a) (x1 x2 x3 : Int32) : vX10_put K n x1 x2 x3 S L R (fun r S' _ R' => vX11_put x1 x2 x3 f a (fun r' f' a' => r = r' ∧ Jv K n S' R' f' a')) := by
  obtain ⟨⟨hn, hRO, hS8, hf1⟩, hK, hM, hW, hF, hSh⟩ := id I
  unfold vX10_put
  intro S1 hS1
  have hs1 : ∀ i, i ≠ 0 → S1 i = S i := fun i hi => by rw [hS1, va_up_ne _ _ hi]
  have I1 : Inv K n M S1 R (va_up f 0 0) a := by subst hS1; exact I.flt (fun i hi => by simp [va_up, hi]) (by simp [va_up, upd]) (by simp [va_up, upd]) (by simp [va_up, upd]) (by simp [va_up]) (by simp [va_up]) (by simp [va_up])
  refine i_sheet (fun k hk e => ?_) (fun ho => ?_)
  · subst e
    have v4 : vp_in (nI k) 4 := vp_in_nI (by omega) (by omega)
    have e1 : (nI k).toNatClampNeg = k := nI_clamp (by omega)
    refine ⟨hk, ?_⟩
    simp only [vX11_put, n_sheet hk, z00, z10, not_true_eq_false, not_false_eq_true, false_implies, true_implies, true_and, and_true]
    rcases hSh k hk with ⟨c1, c2⟩ | ⟨c, c0, c1, c2, c3, c4, c5⟩
    · rw [hs1 _ (by omega), c1]
      refine ⟨fun z => absurd rfl z, fun _ => ?_⟩
      rw [w_faulted]
      try dsimp only
      rw [n_noCell1 hk c2]
      refine ⟨fun z => absurd z (by decide), fun _ => ?_⟩
      rw [n_noCell1 hk c2, n_fail]
      subst hS1
      exact ⟨rfl, M, I.flt (fun i hi => by simp [va_up, hi]) (by simp [va_up, upd]) (by simp [va_up, upd]) (by simp [va_up, upd]) (by simp [va_up]) (by simp [va_up]) (by simp [va_up])⟩
    · rw [hs1 _ (by omega), c1]
      refine ⟨fun _ => ?_, fun z => absurd z (by decide)⟩
      have c3' : S1 (21 + 2 * k) 3 = nI c := by rw [hs1 _ (by omega)]; exact c3
      refine i_hasCell c3' c0 (fun j hj e => ⟨fun _ => ?_, fun z => absurd z (by decide)⟩) (fun h => ⟨fun z => absurd rfl z, fun _ => ?_⟩)
      · subst e
        unfold vX6_set
        refine w_hasCell c3' c0 hj ⟨fun z => absurd z (by decide), fun _ => ?_⟩
        rw [w_cut]
        refine ⟨vp_in_nI (by omega) (by omega), fun S2 hS2 => ?_⟩
        try dsimp only
        rw [n_noCell hk c2 c0 hj]
        refine ⟨fun _ => ⟨v4, ?_⟩, fun z => absurd (by decide) z⟩
        have hl : S1 (21 + 2 * k) 2 = a 9 k := by rw [hs1 _ (by omega)]; exact c4.symm
        have J : ∀ v : Int32, v = cutL (a 9 k) x3 → vX11_put_73 (fun r' f' a' => 1 = r' ∧ Jv K n S2 R f' a') v (60 * nI k + nI j) f a := by
          intro v hv
          unfold vX11_put_73
          rw [ix60, nI_clamp (by omega)]
          refine ⟨vp_in_nI (by omega) (by omega), fun a1 ha1 => ?_⟩
          rw [n_ref]
          refine ⟨rfl, M, I1.sh (k := k) (fun i h1 h2 => by rw [hS2, va_up_ne _ _ h2]) hk (by rw [ha1, va_up_ne _ _ (by omega)]) (by rw [ha1, va_up_ne _ _ (by omega)]) (by rw [ha1, va_up_ne _ _ (by omega)]) (fun j hj => by rw [ha1, va_up_ne _ _ (by omega)]) (fun j hj => by rw [ha1, va_up_ne _ _ (by omega)]) (fun i hi => by rw [ha1, va_up_self, upd_ne _ _ (by omega)]) (Or.inr ⟨c, c0, ?_, ?_, ?_, ?_, fun i hi => ?_⟩)⟩
          · rw [hS2, va_up_ne _ _ (by omega), hs1 _ (by omega)]; exact c1
          · rw [ha1, va_up_ne _ _ (by omega)]; exact c2
          · rw [hS2, va_up_ne _ _ (by omega)]; exact c3'
          · rw [ha1, hS2, va_up_ne _ _ (by omega), va_up_ne _ _ (by omega)]; exact hl.symm
          · rw [ha1, hS2, va_up_self, va_up_self, nI_clamp (by omega)]
            by_cases e : i = j
            · subst e; rw [upd_self, upd_self, hv, hl]
            · rw [upd_ne _ _ e, upd_ne _ _ (by omega), hs1 _ (by omega)]; exact c5 i hi
        rw [e1]
        refine ⟨fun h0 => ⟨v4, fun h1 => J _ (by simp [cutL, h0, h1]), fun h1 => J _ (by simp [cutL, h1])⟩, fun h0 => J _ (by simp [cutL, h0])⟩
      · rw [w_faulted]
        try dsimp only
        rw [n_noCell3 hk c2 c0 h]
        refine ⟨fun z => absurd z (by decide), fun _ => ?_⟩
        rw [n_noCell3 hk c2 c0 h, n_fail]
        subst hS1
        exact ⟨rfl, M, I.flt (fun i hi => by simp [va_up, hi]) (by simp [va_up, upd]) (by simp [va_up, upd]) (by simp [va_up, upd]) (by simp [va_up]) (by simp [va_up]) (by simp [va_up])⟩
  · simp only [vX11_put, n_sheet0 ho, z00, z10, not_true_eq_false, not_false_eq_true, false_implies, true_implies, true_and, and_true]
    rw [n_ref]
    exact ⟨rfl, M, I1⟩
theorem pr_cell (I : Inv K n M S R f a) (x1 x2 x3 : Int32) : vX10_cell K n x1 x2 x3 S L R (fun r S' _ R' => vX11_cell x1 x2 x3 f a (fun r' f' a' => r = r' ∧ Jv K n S' R' f' a')) := by
  obtain ⟨⟨hn, hRO, hS8, hf1⟩, hK, hM, hW, hF, hSh⟩ := id I
  unfold vX10_cell
  intro S1 hS1
  have hs1 : ∀ i, i ≠ 0 → S1 i = S i := fun i hi => by rw [hS1, va_up_ne _ _ hi]
  have I1 : Inv K n M S1 R (va_up f 0 0) a := by subst hS1; exact I.flt (fun i hi => by simp [va_up, hi]) (by simp [va_up, upd]) (by simp [va_up, upd]) (by simp [va_up, upd]) (by simp [va_up]) (by simp [va_up]) (by simp [va_up])
  refine i_sheet (fun k hk e => ?_) (fun ho => ?_)
  · subst e
    have v4 : vp_in (nI k) 4 := vp_in_nI (by omega) (by omega)
    have e1 : (nI k).toNatClampNeg = k := nI_clamp (by omega)
    unfold vX11_cell
    refine j_w' 0 2 rfl rfl (fun h => ?_) (fun h => ?_)
    · refine ⟨hk, ?_⟩
      simp only [forall_eq]
      simp only [n_sheet hk, n_in (l := 0) (g := 2) 0 2 rfl rfl h, e1, z00, z10, not_true_eq_false, not_false_eq_true, false_implies, true_implies, true_and, and_true]
      unfold vX6_faultOfTakingAs
      rw [hs1 _ (by omega)]
      rcases hSh k hk with ⟨c1, c2⟩ | ⟨c, c0, c1, c2, c3, c4, c5⟩
      · rw [c1, c2]
        refine ⟨fun z => absurd rfl z, fun _ => ⟨fun _ => ?_, fun z => absurd z (by decide)⟩⟩
        refine ⟨fun z => absurd z (by decide), fun _ S2 hS2 => ⟨v4, fun _ => ?_, fun z => absurd (by decide) z⟩⟩
        unfold vX11_cell_53
        rw [n_noCell1 hk c2]
        refine ⟨fun z => absurd z (by decide), fun _ => ?_⟩
        rw [n_noCell1 hk c2, n_failL]
        subst hS2 hS1
        exact ⟨rfl, M, I.flt (fun i hi => by simp [va_up, hi]) (by simp [va_up, upd]) (by simp [va_up, upd]) (by simp [va_up, upd]) (by simp [va_up]) (by simp [va_up]) (by simp [va_up])⟩
      · rw [c1, c2, c4]
        have np : ¬ nI c < 0 := nI_pos (by omega)
        have c3' : S1 (21 + 2 * k) 3 = nI c := by rw [hs1 _ (by omega)]; exact c3
        refine ⟨fun _ => ⟨fun hl => ?_, fun hl => ?_⟩, fun z => absurd z (by decide)⟩
        · refine ⟨fun _ => ⟨fun z => absurd z (by decide), fun _ S2 hS2 => ⟨v4, fun z => absurd z np, fun _ => ⟨v4, fun z => absurd z hl, fun _ => ?_⟩⟩⟩, fun z => absurd z (by decide)⟩
          rw [n_failL]
          subst hS2 hS1
          exact ⟨rfl, M, I.flt (fun i hi => by simp [va_up, hi]) (by simp [va_up, upd]) (by simp [va_up, upd]) (by simp [va_up, upd]) (by simp [va_up]) (by simp [va_up]) (by simp [va_up])⟩
        · refine ⟨fun z => absurd rfl z, fun _ => ?_⟩
          refine i_hasCell c3' c0 (fun j hj e => ⟨fun _ => ⟨fun _ => ⟨hk, ?_⟩, fun z => absurd rfl z⟩, fun z => absurd z (by decide)⟩) (fun h => ⟨fun z => absurd rfl z, fun _ => ⟨fun z => absurd z (by decide), fun _ S2 hS2 => ?_⟩⟩)
          · subst e
            refine w_at c3' c0 hj ⟨v4, fun z => absurd z np, fun _ => ⟨v4, fun _ => ?_, fun z => absurd hl z⟩⟩
            unfold vX11_cell_53
            rw [n_noCell hk c2 c0 hj]
            refine ⟨fun _ => ?_, fun z => absurd (by decide) z⟩
            rw [ix60, nI_clamp (by omega)]
            refine ⟨vp_in_nI (by omega) (by omega), ?_, M, I1⟩
            rw [hs1 _ (by omega), c5 j hj]
          · refine ⟨v4, fun z => absurd z np, fun _ => ⟨v4, fun _ => ?_, fun z => absurd hl z⟩⟩
            unfold vX11_cell_53
            rw [n_noCell3 hk c2 c0 h]
            refine ⟨fun z => absurd z (by decide), fun _ => ?_⟩
            rw [n_noCell3 hk c2 c0 h, n_failL]
            subst hS2 hS1
            exact ⟨rfl, M, I.flt (fun i hi => by simp [va_up, hi]) (by simp [va_up, upd]) (by simp [va_up, upd]) (by simp [va_up, upd]) (by simp [va_up]) (by simp [va_up]) (by simp [va_up])⟩
    · simp only [forall_eq]
      simp only [n_sheet hk, n_out (l := 0) (g := 2) 0 2 rfl rfl h, z00, z10, not_true_eq_false, not_false_eq_true, false_implies, true_implies, true_and, and_true]
      exact ⟨rfl, M, I1⟩
  · unfold vX11_cell
    simp only [forall_eq]
    simp only [n_sheet0 ho, z00, z10, not_true_eq_false, not_false_eq_true, false_implies, true_implies, true_and, and_true]
    exact ⟨rfl, M, I1⟩
end SH
