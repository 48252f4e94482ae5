/-! pair: fits -/
def fiB (r : Nat → Nat → Int32) (wb : Nat → Int32) : Nat → Bool
  | 0 => true
  | k + 1 => fiB r wb k && decide (r (k + 1) 0 = wb (k + 1))
theorem fiB_not {r : Nat → Nat → Int32} {wb : Nat → Int32} {t k : Nat} (h1 : 1 ≤ t) (h2 : t ≤ k) (h : ¬ r t 0 = wb t) : fiB r wb k = false := by
  induction k with
  | zero => omega
  | succ k ih =>
    by_cases e : t = k + 1
    · subst e; simp [fiB, h]
    · simp [fiB, ih (by omega)]
section FT
variable {K : Nat → Nat} {n : Nat} {M : Nat → Nat → Nat} {S : Nat → Nat → Int32} {L : Nat → Int64} {R : Nat → Option Nat} {f : Nat → Int32} {a : Nat → Nat → Int32}
theorem w_runs {p : GM} {z : (Nat → Nat) × Nat} {j c : Nat} {wb : Nat → Int32} {load : Int32} {Q : Int32 → (Nat → Nat → Int32) → (Nat → Int64) → (Nat → Option Nat) → Prop} (hz : p = some z) (hp : okG p) (hg : GO K n S (some j) p) (hRO : RO n R) (hc : 2 ≤ c ∧ c ≤ 30) (h9 : S 0 9 = nI c) (h3 : ∀ i, i < c → S 3 i = wb i)
    (hQ : ∀ S' L' R', Sc S S' → S' 13 = S 13 → RO n R' → Q (if fiB (rnR p none load (s0R none (wb 0) 50)) wb (c - 1) = true then 1 else 0) S' L' R') : vX10_runsAsWatched K n j load S L R Q := by
  unfold vX10_runsAsWatched
  refine ⟨vp_in_nI (n := 0) (by omega) (by omega), ?_⟩
  rw [show (0 : Int32).toNatClampNeg = 0 from rfl, h3 0 (by omega)]
  refine w_begin (q := none) hz hp okG_none hg rfl hRO (fun S1 R1 sc1 e13 ro1 g0 g1 sb cr => ?_)
  have key : ∀ d t : Nat, ∀ S2 : Nat → Nat → Int32, 1 ≤ t → t + d = c → Sc S1 S2 → S2 13 = S 13 → S2 9 = S1 9 → CR (rnR p none load (s0R none (wb 0) 50)) (t - 1) S2 → fiB (rnR p none load (s0R none (wb 0) 50)) wb (t - 1) = true → vX10_runsAsWatched_20 K n Q (d + 1) (nI t) S2 L R1 := by
    intro d
    induction d with
    | zero =>
      intro t S2 h1 ht sc f13 f9 cr2 hf
      obtain rfl : t = c := by omega
      unfold vX10_runsAsWatched_20
      rw [(sc1.trans sc) 0 (by omega), h9]
      have := hQ S2 L R1 (sc1.trans sc) f13 ro1
      rw [if_pos hf] at this
      exact ⟨fun _ => this, fun w => absurd (nI_le (Nat.le_refl _) (by omega)) w⟩
    | succ d ih =>
      intro t S2 h1 ht sc f13 f9 cr2 hf
      unfold vX10_runsAsWatched_20
      rw [(sc1.trans sc) 0 (by omega), h9]
      refine ⟨fun w => absurd w (nI_ge (by omega) (by omega)), fun _ => ?_⟩
      obtain ⟨t0, rfl⟩ : ∃ t0, t = t0 + 1 := ⟨t - 1, by omega⟩
      rw [nI_pred]
      rw [show t0 + 1 - 1 = t0 by omega] at cr2 hf
      refine w_tick hz hp okG_none (g0.sc sc) (g1.sc sc) (by unfold ShB; rw [f9]; exact sb) (by omega) cr2 (fun S3 sc3 e9 _ _ e13' cr3 => ?_)
      obtain ⟨cb, -⟩ := cr3 (t0 + 1) (Nat.le_refl _)
      have cb0 : S3 10 (3 + (t0 + 1)) = _ := cb 0 (by omega)
      have sc4 := (sc1.trans sc).trans sc3
      rw [w_beatAt (by omega), cb0, nI_clamp (by omega), sc4 3 (by omega), h3 _ (by omega)]
      refine ⟨vp_in_nI (by omega) (by omega), fun h y hy => ?_, fun h => ?_⟩
      · rw [hy, nI_1]
        exact ih (t0 + 1 + 1) S3 (by omega) (by omega) (sc.trans sc3) (e13'.trans f13) (e9.trans f9) cr3 (by simp [fiB, hf, h])
      · have := hQ S3 L R1 sc4 (e13'.trans f13) ro1
        rw [fiB_not (t := t0 + 1) (by omega) (by omega) h] at this
        exact this
  exact ⟨c, by
    have := key (c - 1) 1 S1 (by omega) (by omega) Sc.rfl' e13 rfl cr rfl
    rw [show c - 1 + 1 = c by omega] at this
    exact this⟩
theorem n_doesFit {p : GM} {z : (Nat → Nat) × Nat} {j c : Nat} {load : Int32} {Q : Int32 → (Nat → Int32) → (Nat → Nat → Int32) → Prop} (hz : p = some z) (hp : okG p) (hg : RG a (nI j) p) (hc : 2 ≤ c ∧ c ≤ 30) (h14 : f 14 = nI c)
    (hQ : ∀ f' a', Fc f f' → Ac a a' → Q (if fiB (rnR p none load (s0R none (a 7 0) 50)) (a 7) (c - 1) = true then 1 else 0) f' a') : vX11_doesFit (nI j) load f a Q := by
  unfold vX11_doesFit
  refine ⟨vp_in_nI (n := 0) (by omega) (by omega), ?_⟩
  rw [show (0 : Int32).toNatClampNeg = 0 from rfl]
  refine n_begin (q := none) hz hp okG_none hg rfl (fun f1 a1 fc1 ac1 rb rr => ?_)
  have key : ∀ d t : Nat, ∀ a2 : Nat → Nat → Int32, 1 ≤ t → t + d = c → Ac a1 a2 → RR (rnR p none load (s0R none (a 7 0) 50)) (t - 1) a2 → fiB (rnR p none load (s0R none (a 7 0) 50)) (a 7) (t - 1) = true → vX11_doesFit_21 Q (d + 2) 1 (nI t) f1 a2 := by
    intro d
    induction d with
    | zero =>
      intro t a2 h1 ht ac rr2 hf
      obtain rfl : t = c := by omega
      unfold vX11_doesFit_21
      rw [fc1.2.2.1, h14]
      have := hQ f1 a2 fc1 (ac1.trans ac)
      rw [if_pos hf] at this
      exact ⟨fun _ => ⟨Or.inr rfl, this⟩, fun w => absurd (nI_le (Nat.le_refl _) (by omega)) w⟩
    | succ d ih =>
      intro t a2 h1 ht ac rr2 hf
      unfold vX11_doesFit_21
      rw [fc1.2.2.1, h14]
      refine ⟨fun w => absurd w (nI_ge (by omega) (by omega)), fun _ => ⟨fun w => absurd w (by decide), fun _ => ?_⟩⟩
      obtain ⟨t0, rfl⟩ : ∃ t0, t = t0 + 1 := ⟨t - 1, by omega⟩
      rw [nI_pred]
      rw [show t0 + 1 - 1 = t0 by omega] at rr2 hf
      obtain ⟨b1, b2, b3, b4⟩ := id rb
      refine n_step hz hp okG_none ⟨b1.ac ac, b2.ac ac, b3, b4⟩ (by omega) rr2 (fun a3 ac3 rr3 => ?_)
      obtain ⟨cb, -⟩ := rr3 (t0 + 1) (Nat.le_refl _)
      have cb0 : a3 4 (t0 + 1) = _ := cb 0 (by omega)
      have ac4 := (ac1.trans ac).trans ac3
      rw [nI_clamp (by omega), cb0, ac4.2.2.1]
      unfold vX11_doesFit_64
      refine ⟨vp_in_nI (by omega) (by omega), vp_in_nI (by omega) (by omega), fun h y hy => ?_, fun h y hy => ?_⟩
      · have := hQ f1 a3 fc1 ac4
        rw [fiB_not (t := t0 + 1) (by omega) (by omega) h] at this
        unfold vX11_doesFit_21
        exact ⟨fun _ => ⟨Or.inl rfl, this⟩, fun _ => ⟨fun _ => ⟨Or.inl rfl, this⟩, fun w => absurd rfl w⟩⟩
      · rw [hy, nI_1]
        exact ih (t0 + 1 + 1) a3 (by omega) (by omega) (ac.trans ac3) rr3 (by simp [fiB, hf, h])
  exact ⟨c + 1, by
    have := key (c - 1) 1 a1 (by omega) (by omega) Ac.rfl' rr rfl
    rw [show c - 1 + 2 = c + 1 by omega] at this
    exact this⟩
def ftP (N : Nat → Nat) (k w : Nat) (load : Int32) (wb : Nat → Int32) (c : Nat) : Nat → Bool := fun v => fiB (rnR (some (va_up N w v, k)) none load (s0R none (wb 0) 50)) wb (c - 1)
variable {N : Nat → Nat} {x : Nat}
theorem w_fits80 {w what kp k c : Nat} {load : Int32} {wb : Nat → Int32} {Q : Int32 → (Nat → Nat → Int32) → (Nat → Int64) → (Nat → Option Nat) → Prop} (hx : x < n) (hw : w < 9) (hwh : what ≤ 2) (hC : CM S x N) (hB : MB N) (hk : K x = k) (hk3 : k < 3) (hc : 2 ≤ c ∧ c ≤ 30) (h9 : S 0 9 = nI c) (h3 : ∀ i, i < c → S 3 i = wb i) (hkp : S (30 + 2 * x) w = nI kp) (hQ : ∀ S' L' R', Sc S S' → RO n R' → Q (tF (ftP N k w load wb c) (loN w) (hiN w + 1 - loN w) (nI what)) S' L' R') :
    ∀ d u : Nat, ∀ (S1 : Nat → Nat → Int32) (L1 : Nat → Int64) (R1 : Nat → Option Nat), loN w + u + d = hiN w + 1 → ScX S S1 x w → RO n R1 → FoC S1 (ftP N k w load wb c) (loN w) u → vX10_fits_80 K n Q (d + 1) (nI w) load (nI what) x (nI kp) (nI (loN w + u)) S1 L1 R1 := by
  have hlh := lohi w
  intro d
  induction d with
  | zero =>
    intro u S1 L1 R1 hu hs ro hF
    unfold vX10_fits_80
    rw [nI_clamp (by omega), greatest_nI hw]
    refine ⟨vp_in_nI (by omega) (by omega), fun _ => ⟨hx, vp_in_nI (by omega) (by omega), fun S2 h2 => ?_⟩, fun q => absurd (nI_lt (by omega) (by omega)) q⟩
    refine w_told (p := ftP N k w load wb c) (lo := loN w) (k := u) (by rw [h2]; exact hF.same (va_up_ne _ _ (by omega))) (by omega) hwh ?_
    have := hQ S2 L1 R1 (by rw [h2]; exact hs.back hkp.symm) ro
    rw [show hiN w + 1 - loN w = u by omega] at this
    exact this
  | succ d ih =>
    intro u S1 L1 R1 hu hs ro hF
    unfold vX10_fits_80
    rw [nI_clamp (by omega), greatest_nI hw]
    refine ⟨vp_in_nI (by omega) (by omega), fun q => absurd q (nI_nlt (by omega) (by omega)), fun _ => ⟨hx, vp_in_nI (by omega) (by omega), fun S2 h2 => ?_⟩⟩
    subst h2
    have mb : MB (va_up N w (loN w + u)) := hB.put (by omega) (by omega)
    have hs2 := hs.set (v := nI (loN w + u))
    refine w_runs (p := some (va_up N w (loN w + u), k)) (c := c) (wb := wb) rfl (fun z hz => by cases hz; exact ⟨mb, hk3⟩) ⟨x, rfl, hx, hs.cm hC, hk, mb⟩ ro hc (by rw [hs2.1 0 (by omega) (by omega)]; exact h9) (fun i hi => by rw [hs2.1 3 (by omega) (by omega)]; exact h3 i hi) (fun S3 L3 R3 sc3 h13 ro3 => ?_)
    have hs3 := hs2.sc sc3
    have hF3 : FoC S3 (ftP N k w load wb c) (loN w) u := hF.same (h13.trans (va_up_ne _ _ (by omega)))
    unfold vX10_fits_118
    have pe : ftP N k w load wb c (loN w + u) = fiB (rnR (some (va_up N w (loN w + u), k)) none load (s0R none (wb 0) 50)) wb (c - 1) := rfl
    by_cases hp : ftP N k w load wb c (loN w + u) = true
    · rw [if_pos (by rw [← pe]; exact hp)]
      refine ⟨fun q => absurd q (by decide), fun _ => w_take hF3 (by omega) hp (fun S4 h4 hF4 y hy => ?_)⟩
      rw [hy, nI_1, show loN w + u + 1 = loN w + (u + 1) by omega]
      exact ih (u + 1) S4 L3 R3 (by omega) (hs3.sc h4) ro3 hF4
    · rw [if_neg (by rw [← pe]; exact hp)]
      refine ⟨fun _ y hy => ?_, fun q => absurd rfl q⟩
      rw [hy, nI_1, show loN w + u + 1 = loN w + (u + 1) by omega]
      exact ih (u + 1) S3 L3 R3 (by omega) hs3 ro3 (hF3.skip hp)
theorem n_fits85 {w what kp k c : Nat} {load : Int32} {Q : Int32 → (Nat → Int32) → (Nat → Nat → Int32) → Prop} (hx : x < 8) (hw : w < 9) (hwh : what ≤ 2) (hC : RM a x N) (hB : MB N) (hk : a 1 x = nI k) (hk3 : k < 3) (hc : 2 ≤ c ∧ c ≤ 30) (h14 : f 14 = nI c) (hkp : a 2 (9 * x + w) = nI kp) (hQ : ∀ f' a', Fc f f' → Ac a a' → Q (tF (ftP N k w load (a 7) c) (loN w) (hiN w + 1 - loN w) (nI what)) f' a') :
    ∀ d u : Nat, ∀ (f1 : Nat → Int32) (a1 : Nat → Nat → Int32), loN w + u + d = hiN w + 1 → Fc f f1 → AcX a a1 x w → vX11_fits_85 Q (d + 1) (nI x) (nI w) load (nI what) (nI kp) (nI (cF (ftP N k w load (a 7) c) (loN w) u)) (aF (ftP N k w load (a 7) c) (loN w) u) (bF (ftP N k w load (a 7) c) (loN w) u) (nI (loN w + u)) f1 a1 := by
  have hlh := lohi w
  intro d
  induction d with
  | zero =>
    intro u f1 a1 hu fc hs
    unfold vX11_fits_85
    rw [n_greatest hw, ix9, nI_clamp (by omega)]
    refine ⟨fun _ => ⟨vp_in_nI (by omega) (by omega), fun a2 h2 => ?_⟩, fun z => absurd (nI_lt (by omega) (by omega)) z⟩
    have := hQ f1 a2 fc (by rw [h2]; exact hs.back hkp.symm)
    rw [show hiN w + 1 - loN w = u by omega] at this
    unfold tF at this
    refine ⟨fun h0 => ⟨fun h1 => ?_, fun h1 => ?_⟩, fun h0 => ?_⟩
    · rw [if_neg h0, if_neg h1] at this; exact this
    · rw [if_neg h0, if_pos h1] at this; exact this
    · rw [if_pos h0] at this; exact this
  | succ d ih =>
    intro u f1 a1 hu fc hs
    unfold vX11_fits_85
    rw [n_greatest hw, ix9, nI_clamp (by omega)]
    refine ⟨fun z => absurd z (nI_nlt (by omega) (by omega)), fun _ => ⟨vp_in_nI (by omega) (by omega), fun a2 h2 => ?_⟩⟩
    subst h2
    have mb : MB (va_up N w (loN w + u)) := hB.put (by omega) (by omega)
    have hs2 := hs.set (v := nI (loN w + u))
    have e7 : va_up a1 2 (upd (a1 2) (9 * x + w) (nI (loN w + u))) 7 = a 7 := hs2.1.2.1
    refine n_doesFit (p := some (va_up N w (loN w + u), k)) (c := c) rfl (fun z hz => by cases hz; exact ⟨mb, hk3⟩) ⟨x, rfl, hx, hs.rm hC, by rw [hs2.1.1]; exact hk⟩ hc (by rw [fc.2.2.1]; exact h14) (fun f3 a3 fc3 ac3 => ?_)
    have nx := ih (u + 1) f3 a3 (by omega) (fc.trans fc3) (hs2.ac ac3)
    rw [e7]
    have pe : ftP N k w load (a 7) c (loN w + u) = fiB (rnR (some (va_up N w (loN w + u), k)) none load (s0R none (a 7 0) 50)) (a 7) (c - 1) := rfl
    simp only [vX11_fits_127, vX11_fits_145, vX11_fits_147, vX11_fits_161, forall_eq, nI_1, show loN w + u + 1 = loN w + (u + 1) by omega]
    by_cases hp : ftP N k w load (a 7) c (loN w + u) = true
    · rw [if_pos (by rw [← pe]; exact hp)]
      unfold cF aF bF at nx
      simp only [hp, if_true] at nx
      simp only [z00, z10, not_true_eq_false, not_false_eq_true, false_implies, true_implies, true_and, and_true]
      refine ⟨fun h1 => ?_, fun h1 => ?_⟩
      · rw [if_neg (by rw [fa_le] at h1; rw [fa_lt]; omega)] at nx
        exact nx
      · rw [if_pos (by rw [fa_le] at h1; rw [fa_lt]; omega)] at nx
        exact nx
    · rw [if_neg (by rw [← pe]; exact hp)]
      unfold cF aF bF at nx
      simp only [hp] at nx
      simp only [z00, z10, not_true_eq_false, not_false_eq_true, false_implies, true_implies, true_and, and_true]
      rw [show nI (cF (ftP N k w load (a 7) c) (loN w) u) + 0 = nI (cF (ftP N k w load (a 7) c) (loN w) u) from by simp]
      exact nx
theorem pr_fits (I : Inv K n M S R f a) (x1 x2 x3 x4 : Int32) : vX10_fits K n x1 x2 x3 x4 S L R (fun r S' _ R' => vX11_fits x1 x2 x3 x4 f a (fun r' f' a' => r = r' ∧ Jv K n S' R' f' a')) := by
  obtain ⟨⟨hn, hRO, hS8, hf1⟩, hK, hM, hW, hF, hSh⟩ := id I
  obtain ⟨c, w1, w2, w3, w4⟩ := hW
  unfold vX10_fits
  refine i_mill hn hS8 (fun j hj e => ?_) (fun ho => ?_)
  · subst e
    have hm := hM j hj
    have hk := hK j hj
    simp only [vX11_fits, n_mill hn hf1 hj, z00, z10, not_true_eq_false, not_false_eq_true, false_implies, true_implies, true_and, and_true]
    refine j_w' 0 8 rfl rfl (fun h => ?_) (fun h => ?_)
    · simp only [n_in (l := 0) (g := 8) 0 8 rfl rfl h, z00, z10, not_true_eq_false, not_false_eq_true, false_implies, true_implies, true_and, and_true]
      obtain ⟨w, hw, rfl⟩ := rg_nI (hi := 8) h
      have hlh := lohi w
      refine j_w 0 100 rfl rfl (fun hlo => ?_) (fun hlo => ?_)
      · simp only [n_in (l := 0) (g := 100) 0 100 rfl rfl hlo, z00, z10, not_true_eq_false, not_false_eq_true, false_implies, true_implies, true_and, and_true]
        refine j_w' 0 2 rfl rfl (fun h2 => ?_) (fun h2 => ?_)
        · have c5 := hm.2.1 w (by omega)
          have r5 := hm.2.2 w (by omega)
          have zc : nI c = 0 ↔ c = 0 := nI_eq (b := 0) (by omega) (by omega)
          simp only [n_in (l := 0) (g := 2) 0 2 rfl rfl h2, n_of (x := j) (w := w) (show j < 8 by omega) (show w < 9 by omega), n_least (w := w) (by omega), nI_clamp (show w < 2 ^ 31 by omega), least_nI (show w < 9 by omega), c5, r5, w2, w3, zc, z00, z10, not_true_eq_false, not_false_eq_true, false_implies, true_implies, true_and, and_true]
          obtain ⟨wh, hwh, rfl⟩ := rg_nI (hi := 2) h2
          refine ⟨fun hc0 => ?_, fun hc0 => ?_⟩
          · have hc2 : 2 ≤ c ∧ c ≤ 30 := by omega
            refine ⟨hj, vp_in_nI (by omega) (by omega), fun y hy => ?_⟩
            subst hy
            unfold vX1_clear
            intro S1 hS1
            refine ⟨vp_in_nI (by omega) (by omega), fun y hy => ?_⟩
            subst hy
            have s1 : Sc S S1 := by rw [hS1]; exact Sc.rfl'.up (by omega)
            refine ⟨_, w_fits80 (S := S1) (N := M j) (kp := M j w) (wb := a 7) hj (by omega) hwh (hm.2.1.sc s1) hm.1 rfl hk.1 hc2 (by rw [s1 0 (by omega)]; exact w2) (fun i hi => by rw [s1 3 (by omega)]; exact w4 i hi) (by rw [s1 _ (by omega)]; exact c5) (fun S' L' R' h' ro' => ?_) (hiN w + 1 - loN w) 0 S1 L R (by omega) ScX.rfl' hRO ⟨by rw [hS1, va_up_self, upd_self]; rfl, fun q => absurd rfl q⟩⟩
            refine ⟨fun _ => ⟨_, n_fits85 (N := M j) (kp := M j w) (k := K j) (by omega) (by omega) hwh hm.2.2 hm.1 hk.2 hk.1 hc2 w3 r5 (fun f' a' hf' ha' => ?_) (hiN w + 1 - loN w) 0 f a (by omega) Fc.rfl' AcX.rfl'⟩, fun q => absurd q hc0⟩
            exact ⟨rfl, M, I.go (s1.trans h') ro' hf' ha'⟩
          · refine ⟨fun q => absurd hc0 q, fun _ => ?_⟩
            first | exact ⟨rfl, M, I⟩ | exact ⟨trivial, M, I⟩ | exact ⟨M, I⟩
        · simp only [n_out (l := 0) (g := 2) 0 2 rfl rfl h2, z00, z10, not_true_eq_false, not_false_eq_true, false_implies, true_implies, true_and, and_true]
          exact ⟨M, I⟩
      · simp only [n_out (l := 0) (g := 100) 0 100 rfl rfl hlo, z00, z10, not_true_eq_false, not_false_eq_true, false_implies, true_implies, true_and, and_true]
        exact ⟨M, I⟩
    · simp only [n_out (l := 0) (g := 8) 0 8 rfl rfl h, z00, z10, not_true_eq_false, not_false_eq_true, false_implies, true_implies, true_and, and_true]
      exact ⟨M, I⟩
  · simp only [vX11_fits, n_mill0 hn hf1 ho, z00, z10, not_true_eq_false, not_false_eq_true, false_implies, true_implies, true_and, and_true]
    exact ⟨M, I⟩
end FT
