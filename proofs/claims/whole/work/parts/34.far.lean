/-! pairs: far, after, two -/
def RgS (v u l : Int32) : Prop := (0 ≤ v.toInt ∧ v.toInt ≤ 999) ∧ (0 ≤ u.toInt ∧ u.toInt ≤ 100) ∧ (0 ≤ l.toInt ∧ l.toInt ≤ 100)
section FA
variable {K : Nat → Nat} {n : Nat} {M : Nat → Nat → Nat} {S : Nat → Nat → Int32} {L : Nat → Int64} {R : Nat → Option Nat} {f : Nat → Int32} {a : Nat → Nat → Int32}
theorem i_canRun {v u l : Int32} {A B : Prop} (h1 : RgS v u l → A) (h0 : ¬ RgS v u l → B) : vX10_canRun v u l (fun r6 => (r6 = 0 → B) ∧ (¬ (r6 = 0) → A)) := by
  unfold vX10_canRun
  refine j_w 0 999 rfl rfl (fun a => ?_) (fun a => ⟨fun _ => h0 (fun z => a z.1), fun z => absurd rfl z⟩)
  refine j_w 0 100 rfl rfl (fun b => ?_) (fun b => ⟨fun _ => h0 (fun z => b z.2.1), fun z => absurd rfl z⟩)
  refine j_w 0 100 rfl rfl (fun c => ⟨fun z => absurd z (by decide), fun _ => h1 ⟨a, b, c⟩⟩) (fun c => ⟨fun _ => h0 (fun z => c z.2.2), fun z => absurd rfl z⟩)
theorem n_start1 {v u l : Int32} {Q : Int32 → Prop} (h : RgS v u l) : vX11_isStart v u l Q = Q 1 := by
  unfold vX11_isStart
  simp only [n_in (l := 0) (g := 999) 0 999 rfl rfl h.1, n_in (l := 0) (g := 100) 0 100 rfl rfl h.2.1, n_in (l := 0) (g := 100) 0 100 rfl rfl h.2.2, z00, z10, not_true_eq_false, not_false_eq_true, false_implies, true_implies, true_and, and_true]
theorem n_start0 {v u l : Int32} {Q : Int32 → Prop} (h : ¬ RgS v u l) : vX11_isStart v u l Q = Q 0 := by
  unfold vX11_isStart
  by_cases a : 0 ≤ v.toInt ∧ v.toInt ≤ 999
  · by_cases b : 0 ≤ u.toInt ∧ u.toInt ≤ 100
    · have c : ¬ (0 ≤ l.toInt ∧ l.toInt ≤ 100) := fun c => h ⟨a, b, c⟩
      simp only [n_in (l := 0) (g := 999) 0 999 rfl rfl a, n_in (l := 0) (g := 100) 0 100 rfl rfl b, n_out (l := 0) (g := 100) 0 100 rfl rfl c, z00, z10, not_true_eq_false, not_false_eq_true, false_implies, true_implies, true_and, and_true]
    · simp only [n_in (l := 0) (g := 999) 0 999 rfl rfl a, n_out (l := 0) (g := 100) 0 100 rfl rfl b, z00, z10, not_true_eq_false, not_false_eq_true, false_implies, true_implies, true_and, and_true]
  · simp only [n_out (l := 0) (g := 999) 0 999 rfl rfl a, z00, z10, not_true_eq_false, not_false_eq_true, false_implies, true_implies, true_and, and_true]
theorem okG_none : okG none := fun z h => by cases h
theorem Inv.ok (I : Inv K n M S R f a) {j : Nat} (hj : j < n) : okG (some (M j, K j)) := fun z h => by
  cases h
  exact ⟨(I.2.2.1 j hj).1, (I.2.1 j hj).1⟩
theorem Inv.go_ (I : Inv K n M S R f a) {j : Nat} (hj : j < n) {S' : Nat → Nat → Int32} (hs : Sc S S') : GO K n S' (some j) (some (M j, K j)) := ⟨j, rfl, hj, (I.2.2.1 j hj).2.1.sc hs, rfl, (I.2.2.1 j hj).1⟩
theorem Inv.rg (I : Inv K n M S R f a) {j : Nat} (hj : j < n) {a' : Nat → Nat → Int32} (ha : Ac a a') : RG a' (nI j) (some (M j, K j)) := ⟨j, rfl, by have := I.1.1; omega, (I.2.2.1 j hj).2.2.ac ha, by rw [ha.1]; exact (I.2.1 j hj).2⟩
theorem pr_far (I : Inv K n M S R f a) (x1 x2 x3 x4 x5 : Int32) : vX10_far K n x1 x2 x3 x4 x5 S L R (fun r S' _ R' => vX11_far x1 x2 x3 x4 x5 f a (fun r' f' a' => r = r' ∧ Jv K n S' R' f' a')) := by
  obtain ⟨⟨hn, hRO, hS8, hf1⟩, hK, hM, hW, hF, hSh⟩ := id I
  unfold vX10_far
  refine i_mill hn hS8 (fun j hj e => ?_) (fun ho => ?_)
  · subst e
    simp only [vX11_far, n_mill hn hf1 hj, z00, z10, not_true_eq_false, not_false_eq_true, false_implies, true_implies, true_and, and_true]
    refine i_canRun (fun hs => ?_) (fun hs => ?_)
    · simp only [n_start1 hs, z00, z10, not_true_eq_false, not_false_eq_true, false_implies, true_implies, true_and, and_true]
      refine j_w' 0 4 rfl rfl (fun h => ?_) (fun h => ?_)
      · simp only [n_in (l := 0) (g := 4) 0 4 rfl rfl h, z00, z10, not_true_eq_false, not_false_eq_true, false_implies, true_implies, true_and, and_true]
        obtain ⟨w, hw, rfl⟩ := rg_nI (hi := 4) h
        have okp := I.ok hj
        have hl := lateN_le okp okG_none
        refine w_begin (p := some (M j, K j)) (q := none) rfl okp okG_none (I.go_ hj Sc.rfl') rfl hRO (fun S1 R1 sc1 _ ro1 g0 g1 sb cr => ?_)
        refine w_round rfl okp okG_none g0 g1 sb hl cr (fun S2 L2 t d sc2 _ en cr2 a9 a10 a11 a12 => ?_)
        refine w_told5 hw a9 a10 a11 a12 en.dle ?_
        refine n_begin (p := some (M j, K j)) (q := none) rfl okp okG_none (I.rg hj Ac.rfl') rfl (fun f1 a1 fc1 ac1 rb rr => ?_)
        refine n_round rfl okp okG_none rb hl rr (fun f2 a2 t' d' fc2 ac2 en' rr2 g12 g13 => ?_)
        obtain ⟨rfl, rfl⟩ := en.uniq en'
        exact n_toldOf hw g12 g13 en'.dle rr2 en'.2.1 ⟨rfl, M, I.go (sc1.trans sc2) ro1 (fc1.trans fc2) (ac1.trans ac2)⟩
      · simp only [n_out (l := 0) (g := 4) 0 4 rfl rfl h, z00, z10, not_true_eq_false, not_false_eq_true, false_implies, true_implies, true_and, and_true]
        exact ⟨M, I⟩
    · simp only [n_start0 hs, z00, z10, not_true_eq_false, not_false_eq_true, false_implies, true_implies, true_and, and_true]
      exact ⟨M, I⟩
  · simp only [vX11_far, n_mill0 hn hf1 ho, z00, z10, not_true_eq_false, not_false_eq_true, false_implies, true_implies, true_and, and_true]
    exact ⟨M, I⟩
theorem w_runTicks {p q : GM} {load : Int32} {s0 : Nat → Int32} {late m : Nat} {z : (Nat → Nat) × Nat} {Q : (Nat → Nat → Int32) → (Nat → Int64) → (Nat → Option Nat) → Prop} (hz : p = some z) (hp : okG p) (hq : okG q) (gp : GB K n S R 0 p) (gq : GB K n S R 1 q) (hB : ShB S p q load late) (hm : m ≤ 300) (hr : CR (rnR p q load s0) 0 S)
    (hQ : ∀ S', Sc S S' → CR (rnR p q load s0) m S' → Q S' L R) : vX5_runTicks K n (nI m) S L R Q := by
  have key : ∀ d t : Nat, ∀ S1 : Nat → Nat → Int32, t + d = m → Sc S S1 → S1 9 = S 9 → CR (rnR p q load s0) t S1 → vX5_runTicks_2 K n Q (d + 1) (nI m) (nI t) S1 L R := by
    intro d
    induction d with
    | zero =>
      intro t S1 ht sc e9 cr
      obtain rfl : t = m := by omega
      unfold vX5_runTicks_2
      exact ⟨fun _ => hQ S1 sc cr, fun w => absurd (nI_le (Nat.le_refl _) (by omega)) w⟩
    | succ d ih =>
      intro t S1 ht sc e9 cr
      unfold vX5_runTicks_2
      refine ⟨fun w => absurd w (nI_ge (by omega) (by omega)), fun _ => ?_⟩
      refine w_tick hz hp hq (gp.sc sc) (gq.sc sc) (by unfold ShB; rw [e9]; exact hB) (by omega) cr (fun S2 sc2 f9 _ _ _ cr2 y hy => ?_)
      rw [hy, nI_1]
      exact ih (t + 1) S2 (by omega) (sc.trans sc2) (f9.trans e9) cr2
  exact ⟨m + 1, key m 0 S (by omega) Sc.rfl' rfl hr⟩
theorem n_after63 {p q : GM} {load : Int32} {s0 : Nat → Int32} {late m w : Nat} {z : (Nat → Nat) × Nat} {Q : Int32 → (Nat → Int32) → (Nat → Nat → Int32) → Prop} (hz : p = some z) (hp : okG p) (hq : okG q) (hB : RB f a p q load late) (hm : m ≤ 300) (hw : w ≤ 2)
    (hQ : ∀ a', Ac a a' → Q (rnR p q load s0 m (if w = 0 then 0 else if w = 1 then 4 else 5)) f a') :
    ∀ d t : Nat, ∀ a1 : Nat → Nat → Int32, t + d = m → Ac a a1 → RR (rnR p q load s0) t a1 → vX11_after_63 Q (d + 1) (nI m) (nI w) (nI t) f a1 := by
  intro d
  induction d with
  | zero =>
    intro t a1 ht ac rr
    obtain rfl : t = m := by omega
    have fin := hQ a1 ac
    obtain ⟨rb, r5, r6, -, -⟩ := rr t (Nat.le_refl _)
    unfold vX11_after_63
    rw [nI_clamp (by omega), r5, r6, (show a1 4 t = _ from rb 0 (by omega))]
    refine ⟨fun _ => ⟨fun h0 => ⟨fun h1 => ⟨vp_in_nI (by omega) (by omega), ?_⟩, fun h1 => ⟨vp_in_nI (by omega) (by omega), ?_⟩⟩, fun h0 => ⟨vp_in_nI (by omega) (by omega), ?_⟩⟩, fun w => absurd (nI_le (Nat.le_refl _) (by omega)) w⟩
    · rw [if_neg (fun e => h0 (by rw [e]; rfl)), if_neg (fun e => h1 (by rw [e]; rfl))] at fin
      exact fin
    · have e1 : w = 1 := (nI_eq (b := 1) (by omega) (by omega)).mp h1
      rw [if_neg (by omega), if_pos e1] at fin
      exact fin
    · have e0 : w = 0 := (nI_eq (b := 0) (by omega) (by omega)).mp h0
      rw [if_pos e0] at fin
      exact fin
  | succ d ih =>
    intro t a1 ht ac rr
    unfold vX11_after_63
    refine ⟨fun w => absurd w (nI_ge (by omega) (by omega)), fun _ => ?_⟩
    obtain ⟨b1, b2, b3, b4⟩ := id hB
    refine n_step hz hp hq ⟨b1.ac ac, b2.ac ac, b3, b4⟩ (by omega) rr (fun a2 ac2 rr2 y hy => ?_)
    rw [hy, nI_1]
    exact ih (t + 1) a2 (by omega) (ac.trans ac2) rr2
theorem pr_after (I : Inv K n M S R f a) (x1 x2 x3 x4 x5 x6 : Int32) : vX10_after K n x1 x2 x3 x4 x5 x6 S L R (fun r S' _ R' => vX11_after x1 x2 x3 x4 x5 x6 f a (fun r' f' a' => r = r' ∧ Jv K n S' R' f' a')) := by
  obtain ⟨⟨hn, hRO, hS8, hf1⟩, hK, hM, hW, hF, hSh⟩ := id I
  unfold vX10_after
  refine i_mill hn hS8 (fun j hj e => ?_) (fun ho => ?_)
  · subst e
    simp only [vX11_after, n_mill hn hf1 hj, z00, z10, not_true_eq_false, not_false_eq_true, false_implies, true_implies, true_and, and_true]
    refine i_canRun (fun hs => ?_) (fun hs => ?_)
    · simp only [n_start1 hs, z00, z10, not_true_eq_false, not_false_eq_true, false_implies, true_implies, true_and, and_true]
      refine j_w 0 300 rfl rfl (fun ht => ?_) (fun ht => ?_)
      · simp only [n_in (l := 0) (g := 300) 0 300 rfl rfl ht, z00, z10, not_true_eq_false, not_false_eq_true, false_implies, true_implies, true_and, and_true]
        refine j_w' 0 2 rfl rfl (fun h => ?_) (fun h => ?_)
        · simp only [n_in (l := 0) (g := 2) 0 2 rfl rfl h, z00, z10, not_true_eq_false, not_false_eq_true, false_implies, true_implies, true_and, and_true]
          obtain ⟨w, hw, rfl⟩ := rg_nI (hi := 2) h
          obtain ⟨m, hm, rfl⟩ := rg_nI (hi := 300) ht
          have okp := I.ok hj
          refine w_begin (p := some (M j, K j)) (q := none) rfl okp okG_none (I.go_ hj Sc.rfl') rfl hRO (fun S1 R1 sc1 _ ro1 g0 g1 sb cr => ?_)
          refine w_runTicks rfl okp okG_none g0 g1 sb hm cr (fun S2 sc2 cr2 => ?_)
          obtain ⟨rb, r16, r17, -, -⟩ := cr2 m (Nat.le_refl _)
          have v : vp_in (nI m) 301 := vp_in_nI (by omega) (by omega)
          have fin : ∀ r : Int32, r = rnR (some (M j, K j)) none x4 (s0R none x2 x3) m (if w = 0 then 0 else if w = 1 then 4 else 5) → vX11_begin (nI j) (-9) x2 x3 x4 f a (fun f11 a12 => ∃ n63, vX11_after_63 (fun r' f' a' => r = r' ∧ Jv K n S2 R1 f' a') n63 (nI m) (nI w) 0 f11 a12) := by
            intro r hr
            refine n_begin (p := some (M j, K j)) (q := none) rfl okp okG_none (I.rg hj Ac.rfl') rfl (fun f1 a1 fc1 ac1 rb rr => ?_)
            exact ⟨m + 1, n_after63 (s0 := s0R none x2 x3) rfl okp okG_none rb hm hw (fun a2 ac2 => ⟨hr, M, I.go (sc1.trans sc2) ro1 fc1 (ac1.trans ac2)⟩) m 0 a1 (by omega) Ac.rfl' rr⟩
          rw [w_beatAt (by omega), nI_clamp (by omega)]
          refine ⟨fun h0 => ⟨fun h1 => ⟨v, fin _ ?_⟩, fun h1 => ⟨v, fin _ ?_⟩⟩, fun h0 => fin _ ?_⟩
          · rw [if_neg (fun e => h0 (by rw [e]; rfl)), if_neg (fun e => h1 (by rw [e]; rfl))]; exact r17
          · have e1 : w = 1 := (nI_eq (b := 1) (by omega) (by omega)).mp h1
            rw [if_neg (by omega), if_pos e1]; exact r16
          · have e0 : w = 0 := (nI_eq (b := 0) (by omega) (by omega)).mp h0
            rw [if_pos e0]; exact rb 0 (by omega)
        · simp only [n_out (l := 0) (g := 2) 0 2 rfl rfl h, z00, z10, not_true_eq_false, not_false_eq_true, false_implies, true_implies, true_and, and_true]
          exact ⟨M, I⟩
      · simp only [n_out (l := 0) (g := 300) 0 300 rfl rfl ht, z00, z10, not_true_eq_false, not_false_eq_true, false_implies, true_implies, true_and, and_true]
        exact ⟨M, I⟩
    · simp only [n_start0 hs, z00, z10, not_true_eq_false, not_false_eq_true, false_implies, true_implies, true_and, and_true]
      exact ⟨M, I⟩
  · simp only [vX11_after, n_mill0 hn hf1 ho, z00, z10, not_true_eq_false, not_false_eq_true, false_implies, true_implies, true_and, and_true]
    exact ⟨M, I⟩
theorem pr_two (I : Inv K n M S R f a) (x1 x2 x3 x4 x5 : Int32) : vX10_two K n x1 x2 x3 x4 x5 S L R (fun r S' _ R' => vX11_two x1 x2 x3 x4 x5 f a (fun r' f' a' => r = r' ∧ Jv K n S' R' f' a')) := by
  obtain ⟨⟨hn, hRO, hS8, hf1⟩, hK, hM, hW, hF, hSh⟩ := id I
  unfold vX10_two
  refine i_mill2 hn hS8 (fun i j hi hj ei ej => ?_) (fun i hi ei ho => ?_) (fun ho => ?_)
  · subst ei ej
    simp only [vX11_two, n_mill hn hf1 hi, n_mill hn hf1 hj, z00, z10, not_true_eq_false, not_false_eq_true, false_implies, true_implies, true_and, and_true]
    refine j_w 0 999 rfl rfl (fun hv => ?_) (fun hv => ?_)
    · simp only [n_in (l := 0) (g := 999) 0 999 rfl rfl hv, z00, z10, not_true_eq_false, not_false_eq_true, false_implies, true_implies, true_and, and_true]
      refine j_w 0 200 rfl rfl (fun hlo => ?_) (fun hlo => ?_)
      · simp only [n_in (l := 0) (g := 200) 0 200 rfl rfl hlo, z00, z10, not_true_eq_false, not_false_eq_true, false_implies, true_implies, true_and, and_true]
        refine j_w 0 6 rfl rfl (fun h => ?_) (fun h => ?_)
        · simp only [n_in (l := 0) (g := 6) 0 6 rfl rfl h, z00, z10, not_true_eq_false, not_false_eq_true, false_implies, true_implies, true_and, and_true]
          obtain ⟨w, hw, rfl⟩ := rg_nI (hi := 6) h
          refine ⟨fun hne => ?_, fun he => ?_⟩
          · have okp := I.ok hi
            have okq := I.ok hj
            have hl := lateN_le okp okq
            refine w_begin (p := some (M i, K i)) (q := some (M j, K j)) rfl okp okq (I.go_ hi Sc.rfl') (I.go_ hj Sc.rfl') hRO (fun S1 R1 sc1 _ ro1 g0 g1 sb cr => ?_)
            refine w_round rfl okp okq g0 g1 sb hl cr (fun S2 L2 t d sc2 _ en cr2 a9 a10 a11 a12 => ?_)
            obtain ⟨-, c16, -, c19, -⟩ := cr2 t (Nat.le_refl _)
            have ht := en.2.1
            have vt : vp_in (nI t) 301 := vp_in_nI (by omega) (by omega)
            have fin : ∀ r : Int32, (w ≤ 4 → r = toA (rnR (some (M i, K i)) (some (M j, K j)) x4 (s0R (some (M j, K j)) x3 50)) t d w) → (w = 5 → r = rnR (some (M i, K i)) (some (M j, K j)) x4 (s0R (some (M j, K j)) x3 50) t 4) → (w = 6 → r = rnR (some (M i, K i)) (some (M j, K j)) x4 (s0R (some (M j, K j)) x3 50) t 6) → (¬ nI i = nI j → vX11_begin (nI i) (nI j) x3 50 x4 f a (fun f16 a17 => vX11_goRound f16 a17 (fun f18 a19 => (¬ nI w = 5 → (¬ nI w = 6 → vX11_toldOf (nI w) f18 a19 (fun r' f' a' => r = r' ∧ Jv K n S2 R1 f' a')) ∧ (nI w = 6 → vp_in (301 + f18 12) 602 ∧ r = a19 5 (301 + f18 12).toNatClampNeg ∧ Jv K n S2 R1 f18 a19)) ∧ (nI w = 5 → vp_in (f18 12) 602 ∧ r = a19 5 (f18 12).toNatClampNeg ∧ Jv K n S2 R1 f18 a19)))) ∧ (nI i = nI j → r = -2 ∧ Jv K n S2 R1 f a) := by
              intro r q4 q5 q6
              refine ⟨fun _ => ?_, fun z => absurd z hne⟩
              refine n_begin (p := some (M i, K i)) (q := some (M j, K j)) rfl okp okq (I.rg hi Ac.rfl') (I.rg hj Ac.rfl') (fun f1 a1 fc1 ac1 rb rr => ?_)
              refine n_round rfl okp okq rb hl rr (fun f2 a2 t' d' fc2 ac2 en' rr2 g12 g13 => ?_)
              obtain ⟨rfl, rfl⟩ := en.uniq en'
              have J : Jv K n S2 R1 f2 a2 := ⟨M, I.go (sc1.trans sc2) ro1 (fc1.trans fc2) (ac1.trans ac2)⟩
              obtain ⟨-, u5, -, u5', -⟩ := rr2 t' (Nat.le_refl _)
              have ix : (301 : Int32) + nI t' = nI (301 + t') := nI_add 301 t'
              rw [g12, ix, nI_clamp (by omega), nI_clamp (by omega), u5, u5']
              refine ⟨fun n5 => ⟨fun n6 => ?_, fun e6 => ⟨vp_in_nI (by omega) (by omega), q6 ((nI_eq (b := 6) (by omega) (by omega)).mp e6), J⟩⟩, fun e5 => ⟨vp_in_nI (by omega) (by omega), q5 ((nI_eq (b := 5) (by omega) (by omega)).mp e5), J⟩⟩
              have hw4 : w ≤ 4 := by
                rcases (show w ≤ 4 ∨ w = 5 ∨ w = 6 by omega) with z | z | z
                · exact z
                · exact absurd (by rw [z]; rfl) n5
                · exact absurd (by rw [z]; rfl) n6
              exact n_toldOf hw4 g12 g13 en'.dle rr2 ht ⟨q4 hw4, J⟩
            rcases (show w ≤ 4 ∨ w = 5 ∨ w = 6 by omega) with z | z | z
            · exact w_told5 z a9 a10 a11 a12 en.dle (fin _ (fun _ => rfl) (fun q => by omega) (fun q => by omega))
            · subst z
              unfold vX5_told
              rw [a9, nI_clamp (by omega)]
              exact ⟨fun q => absurd q (by decide), fun q => absurd q (by decide), fun q => absurd q (by decide), fun q => absurd q (by decide), fun q => absurd q (by decide), fun _ => ⟨vt, fin _ (fun q => by omega) (fun _ => c16) (fun q => by omega)⟩, fun _ _ _ _ _ q => absurd rfl q⟩
            · subst z
              unfold vX5_told
              rw [a9, nI_clamp (by omega)]
              exact ⟨fun q => absurd q (by decide), fun q => absurd q (by decide), fun q => absurd q (by decide), fun q => absurd q (by decide), fun q => absurd q (by decide), fun q => absurd q (by decide), fun _ _ _ _ _ _ => ⟨vt, fin _ (fun q => by omega) (fun q => by omega) (fun _ => c19)⟩⟩
          · exact ⟨fun z => absurd he z, fun _ => by first | exact ⟨rfl, M, I⟩ | exact ⟨trivial, M, I⟩ | exact ⟨M, I⟩⟩
        · simp only [n_out (l := 0) (g := 6) 0 6 rfl rfl h, z00, z10, not_true_eq_false, not_false_eq_true, false_implies, true_implies, true_and, and_true]
          exact ⟨M, I⟩
      · simp only [n_out (l := 0) (g := 200) 0 200 rfl rfl hlo, z00, z10, not_true_eq_false, not_false_eq_true, false_implies, true_implies, true_and, and_true]
        exact ⟨M, I⟩
    · simp only [n_out (l := 0) (g := 999) 0 999 rfl rfl hv, z00, z10, not_true_eq_false, not_false_eq_true, false_implies, true_implies, true_and, and_true]
      exact ⟨M, I⟩
  · subst ei
    simp only [vX11_two, n_mill hn hf1 hi, n_mill0 hn hf1 ho, z00, z10, not_true_eq_false, not_false_eq_true, false_implies, true_implies, true_and, and_true]
    exact ⟨M, I⟩
  · simp only [vX11_two, n_mill0 hn hf1 ho, z00, z10, not_true_eq_false, not_false_eq_true, false_implies, true_implies, true_and, and_true]
    exact ⟨M, I⟩
end FA
