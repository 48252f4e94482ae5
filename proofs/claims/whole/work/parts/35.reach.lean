/-! pairs: reach, best -/
noncomputable def dR (r : Nat → Nat → Int32) (late : Nat) : Nat := Classical.epsilon (fun d => ∃ t, EnR r late t d)
noncomputable def tR (r : Nat → Nat → Int32) (late : Nat) : Nat := Classical.epsilon (fun t => ∃ d, EnR r late t d)
theorem dR_eq {r : Nat → Nat → Int32} {late t d : Nat} (h : EnR r late t d) : dR r late = d := by
  have h2 : ∃ t', EnR r late t' (dR r late) := Classical.epsilon_spec (p := fun d => ∃ t, EnR r late t d) ⟨d, t, h⟩
  obtain ⟨t', h3⟩ := h2
  exact (h.uniq h3).2
theorem tR_eq {r : Nat → Nat → Int32} {late t d : Nat} (h : EnR r late t d) : tR r late = t := by
  have h2 : ∃ d', EnR r late (tR r late) d' := Classical.epsilon_spec (p := fun t => ∃ d, EnR r late t d) ⟨t, d, h⟩
  obtain ⟨d', h3⟩ := h2
  exact (h.uniq h3).1
noncomputable def reP (p : GM) (v : Nat) : Prop := dR (rnR p none 50 (s0R none (nI (100 + v)) 50)) (lateN p none) = 1
noncomputable def reA (p : GM) : Nat → Nat → Int32
  | 0, _ => 99
  | e + 1, k => @ite _ (reP p k) (Classical.propDecidable _) (reA p e (k + 1)) (if k = 0 then -9 else nI (k - 1))
section RE
variable {K : Nat → Nat} {n : Nat} {M : Nat → Nat → Nat} {S : Nat → Nat → Int32} {L : Nat → Int64} {R : Nat → Option Nat} {f : Nat → Int32} {a : Nat → Nat → Int32}
theorem w_reach18 {p : GM} {z : (Nat → Nat) × Nat} {j : Nat} {Q : Int32 → (Nat → Nat → Int32) → (Nat → Int64) → (Nat → Option Nat) → Prop} (hz : p = some z) (hp : okG p) (hg : ∀ S', Sc S S' → GO K n S' (some j) p) :
    ∀ e k : Nat, ∀ (S1 : Nat → Nat → Int32) (L1 : Nat → Int64) (R1 : Nat → Option Nat), k + e = 100 → Sc S S1 → RO n R1 → (∀ S' L' R', Sc S S' → RO n R' → Q (reA p e k) S' L' R') → vX10_reach_18 K n Q (e + 1) j (if k = 0 then -9 else nI (k - 1)) (nI k) S1 L1 R1 := by
  have hl := lateN_le hp okG_none
  intro e
  induction e with
  | zero =>
    intro k S1 L1 R1 hk sc ro hQ
    obtain rfl : k = 100 := by omega
    unfold vX10_reach_18
    exact ⟨fun _ => hQ S1 L1 R1 sc ro, fun w => absurd (nI_lt (a := 99) (b := 100) (by omega) (by omega)) w⟩
  | succ e ih =>
    intro k S1 L1 R1 hk sc ro hQ
    unfold vX10_reach_18
    refine ⟨fun w => absurd w (nI_nlt (a := 99) (by omega) (by omega)), fun _ => ?_⟩
    rw [show (100 : Int32) + nI k = nI (100 + k) from nI_add 100 k]
    refine w_begin (q := none) hz hp okG_none (hg S1 sc) rfl ro (fun S2 R2 sc2 _ ro2 g0 g1 sb cr => ?_)
    refine w_round hz hp okG_none g0 g1 sb hl cr (fun S3 L3 t d sc3 _ en cr3 a9 a10 a11 a12 => ?_)
    have sc4 := (sc.trans sc2).trans sc3
    have hd := dR_eq en
    have dle := en.dle
    have d0 : nI d = 0 ↔ d = 0 := nI_eq (b := 0) (by omega) (by omega)
    have d1 : nI d = 1 ↔ d = 1 := nI_eq (b := 1) (by omega) (by omega)
    unfold vX5_ending
    rw [a10, d0, d1]
    unfold reA at hQ
    have no : ¬ d = 1 → Q (if k = 0 then -9 else nI (k - 1)) S3 L3 R2 := by
      intro hne
      rw [if_neg (show ¬ reP p k by unfold reP; rw [hd]; exact hne)] at hQ
      exact hQ S3 L3 R2 sc4 ro2
    refine ⟨fun h0 => ⟨fun h1 => ⟨fun w => absurd w (by decide), fun _ => no h1⟩, fun h1 => ⟨fun _ y hy => ?_, fun w => absurd rfl w⟩⟩, fun h0 => ⟨fun w => absurd w (by decide), fun _ => no (by omega)⟩⟩
    rw [if_pos (show reP p k by unfold reP; rw [hd]; exact h1)] at hQ
    rw [hy, nI_1]
    have := ih (k + 1) S3 L3 R2 (by omega) sc4 ro2 hQ
    rw [if_neg (by omega), show k + 1 - 1 = k by omega] at this
    exact this
theorem n_reach12 {p : GM} {z : (Nat → Nat) × Nat} {j : Nat} {Q : Int32 → (Nat → Int32) → (Nat → Nat → Int32) → Prop} (hz : p = some z) (hp : okG p) (hg : ∀ a', Ac a a' → RG a' (nI j) p) :
    ∀ e k : Nat, ∀ (f1 : Nat → Int32) (a1 : Nat → Nat → Int32), k + e = 100 → Fc f f1 → Ac a a1 → (∀ f' a', Fc f f' → Ac a a' → Q (reA p e k) f' a') → vX11_reach_12 Q (e + 1) (nI j) (nI k) f1 a1 := by
  have hl := lateN_le hp okG_none
  intro e
  induction e with
  | zero =>
    intro k f1 a1 hk fc ac hQ
    obtain rfl : k = 100 := by omega
    unfold vX11_reach_12
    exact ⟨fun _ => hQ f1 a1 fc ac, fun w => absurd (nI_le (a := 100) (b := 100) (by omega) (by omega)) w⟩
  | succ e ih =>
    intro k f1 a1 hk fc ac hQ
    unfold vX11_reach_12
    refine ⟨fun w => absurd w (nI_ge (b := 100) (by omega) (by omega)), fun _ => ?_⟩
    rw [show (100 : Int32) + nI k = nI (100 + k) from nI_add 100 k]
    refine n_begin (q := none) hz hp okG_none (hg a1 ac) rfl (fun f2 a2 fc2 ac2 rb rr => ?_)
    refine n_round hz hp okG_none rb hl rr (fun f3 a3 t d fc3 ac3 en rr3 g12 g13 => ?_)
    have hd := dR_eq en
    have dle := en.dle
    have fc4 := (fc.trans fc2).trans fc3
    have ac4 := (ac.trans ac2).trans ac3
    have k0 : nI k = 0 ↔ k = 0 := nI_eq (b := 0) (by omega) (by omega)
    rw [g13, k0]
    unfold reA at hQ
    refine ⟨fun h y hy => ?_, fun h => ?_⟩
    · have h1 : d = 1 := by
        by_cases e0 : d = 0
        · rw [if_pos e0] at h; exact absurd h (by decide)
        · rw [if_neg e0] at h; exact (nI_eq (b := 1) (by omega) (by omega)).mp h
      rw [if_pos (show reP p k by unfold reP; rw [hd]; exact h1)] at hQ
      rw [hy, nI_1]
      exact ih (k + 1) f3 a3 (by omega) fc4 ac4 hQ
    · have h1 : ¬ d = 1 := by
        intro e1
        subst e1
        exact h rfl
      rw [if_neg (show ¬ reP p k by unfold reP; rw [hd]; exact h1)] at hQ
      have fin := hQ f3 a3 fc4 ac4
      refine ⟨fun w => ?_, fun w => ?_⟩
      · rw [if_neg w] at fin
        rw [show nI k - 1 = nI (k - 1) from nI_sub (a := k) (b := 1) (by omega)]
        exact fin
      · rw [if_pos w] at fin; exact fin
theorem pr_reach (I : Inv K n M S R f a) (x1 : Int32) : vX10_reach K n x1 S L R (fun r S' _ R' => vX11_reach x1 f a (fun r' f' a' => r = r' ∧ Jv K n S' R' f' a')) := by
  obtain ⟨⟨hn, hRO, hS8, hf1⟩, hK, hM, hW, hF, hSh⟩ := id I
  unfold vX10_reach
  refine i_mill hn hS8 (fun j hj e => ?_) (fun ho => ?_)
  · subst e
    simp only [vX11_reach, n_mill hn hf1 hj, z00, z10, not_true_eq_false, not_false_eq_true, false_implies, true_implies, true_and, and_true]
    refine ⟨101, w_reach18 (S := S) rfl (I.ok hj) (fun S' sc => I.go_ hj sc) 100 0 S L R (by omega) Sc.rfl' hRO (fun S' L' R' sc ro => ?_)⟩
    exact ⟨101, n_reach12 (a := a) rfl (I.ok hj) (fun a' ac => I.rg hj ac) 100 0 f a (by omega) Fc.rfl' Ac.rfl' (fun f' a' fc ac => ⟨rfl, M, I.go sc ro fc ac⟩)⟩
  · simp only [vX11_reach, n_mill0 hn hf1 ho, z00, z10, not_true_eq_false, not_false_eq_true, false_implies, true_implies, true_and, and_true]
    exact ⟨M, I⟩
/-! best -/
noncomputable def loR (p : GM) (load : Int32) : Int32 := mnB (rnR p none load (s0R none 100 50)) (tR (rnR p none load (s0R none 100 50)) (lateN p none))
def bsB (m k : Nat) : Bool := m / 2 ^ k % 2 == 1
noncomputable def bsF (P : Nat → GM) (load : Int32) (m : Nat) : Nat → Int32 × Int32
  | 0 => (-9, 0)
  | k + 1 => if bsB m k = true then (if (bsF P load m k).1 < 0 ∨ (bsF P load m k).2 < loR (P k) load then (nI k, loR (P k) load) else bsF P load m k) else bsF P load m k
theorem bsF_9 (P : Nat → GM) (load : Int32) (m k : Nat) (hk : k ≤ 8) : (bsF P load m k).1 = -9 ∨ ∃ j, j < k ∧ (bsF P load m k).1 = nI j := by
  induction k with
  | zero => exact Or.inl rfl
  | succ k ih =>
    unfold bsF
    have ih := ih (by omega)
    split
    · split
      · exact Or.inr ⟨k, by omega, rfl⟩
      · rcases ih with z | ⟨j, hj, z⟩
        · exact Or.inl z
        · exact Or.inr ⟨j, by omega, z⟩
    · rcases ih with z | ⟨j, hj, z⟩
      · exact Or.inl z
      · exact Or.inr ⟨j, by omega, z⟩
theorem sh_u : ∀ k : Fin 9, (((nI k.val).toUInt32 &&& Int32.toUInt32 31).toBitVec % 32).toNat = k.val := by decide +kernel
theorem sh_s : ∀ k : Fin 9, ((nI k.val &&& 31).toBitVec.smod 32).toNat = k.val := by decide +kernel
theorem sh_l : ∀ k : Fin 9, (((1 : Int64) <<< ((nI k.val).toInt64 &&& 63)) - (1 : Int64)).toInt = (2 : Int) ^ k.val - 1 := by decide +kernel
theorem bs_c {m k : Nat} (hm : m < 256) (hk : k < 8) : (((nI m).toUInt32 >>> ((nI k).toUInt32 &&& Int32.toUInt32 31)).toInt32 &&& 1) = nI (m / 2 ^ k % 2) := by
  rw [pk_ushrN (by omega) (nI k) k (sh_u ⟨k, by omega⟩), pk_andN (k := 1) (by
    have : m / 2 ^ k ≤ m := Nat.div_le_self _ _
    omega) (by decide)]
theorem bs_r {m k : Nat} (hm : m < 256) (hk : k < 8) : (nI m >>> (nI k &&& 31)) &&& 1 = nI (m / 2 ^ k % 2) := by
  rw [pk_shrN (by omega) (nI k &&& 31) k (sh_s ⟨k, by omega⟩), pk_andN (k := 1) (by
    have : m / 2 ^ k ≤ m := Nat.div_le_self _ _
    omega) (by decide)]
theorem w_best31 {P : Nat → GM} {load : Int32} {m : Nat} {Q : Int32 → (Nat → Nat → Int32) → (Nat → Int64) → (Nat → Option Nat) → Prop} (hn : n ≤ 8) (hS8 : S 0 8 = nI n) (hm : m < 256) (hP : ∀ j, j < n → okG (P j) ∧ (∃ z, P j = some z) ∧ ∀ S', Sc S S' → GO K n S' (some j) (P j)) :
    ∀ e k : Nat, ∀ (S1 : Nat → Nat → Int32) (L1 : Nat → Int64) (R1 : Nat → Option Nat), k + e = n → Sc S S1 → RO n R1 → (∀ S' L' R', Sc S S' → RO n R' → Q (bsF P load m n).1 S' L' R') → vX10_best_31 K n Q (e + 1) (nI m) load (bsF P load m k).1 (bsF P load m k).2 (nI k) S1 L1 R1 := by
  intro e
  induction e with
  | zero =>
    intro k S1 L1 R1 hk sc ro hQ
    obtain rfl : k = n := by omega
    unfold vX10_best_31
    rw [sc 0 (by omega), hS8]
    exact ⟨fun _ => hQ S1 L1 R1 sc ro, fun w => absurd (nI_le (Nat.le_refl _) (by omega)) w⟩
  | succ e ih =>
    intro k S1 L1 R1 hk sc ro hQ
    have nx := fun (S' : Nat → Nat → Int32) (L' : Nat → Int64) (R' : Nat → Option Nat) sc' ro' => ih (k + 1) S' L' R' (by omega) sc' ro' hQ
    unfold vX10_best_31
    rw [sc 0 (by omega), hS8, bs_c hm (by omega)]
    have b01 : m / 2 ^ k % 2 = 0 ∨ m / 2 ^ k % 2 = 1 := by omega
    refine ⟨fun w => absurd w (nI_ge (by omega) (by omega)), fun _ => ⟨fun hb => ⟨vp_in_nI (by omega) (by omega), fun o ho => ?_⟩, fun hb => ?_⟩⟩
    · have hb1 : bsB m k = true := by
        rcases b01 with z | z
        · exact absurd (by rw [z]; rfl) hb
        · unfold bsB; rw [z]; rfl
      rw [nI_clamp (by omega), if_pos (by omega)] at ho
      subst ho
      obtain ⟨okp, ⟨z, hz⟩, go⟩ := hP k (by omega)
      have hl := lateN_le okp okG_none
      refine w_begin (p := P k) (q := none) hz okp okG_none (go S1 sc) rfl ro (fun S2 R2 sc2 _ ro2 g0 g1 sb cr => ?_)
      refine w_round hz okp okG_none g0 g1 sb hl cr (fun S3 L3 t d sc3 _ en cr3 a9 a10 a11 a12 => ?_)
      have sc4 := (sc.trans sc2).trans sc3
      have el : mnB (rnR (P k) none load (s0R none 100 50)) t = loR (P k) load := by unfold loR; rw [tR_eq en]
      have nx3 := nx S3 L3 R2 sc4 ro2
      rw [a11, el]
      unfold vX10_best_97 vX10_best_109
      rw [a11, el]
      unfold bsF at nx3
      simp only [hb1, if_true] at nx3
      have h9 := bsF_9 P load m k (by omega)
      refine ⟨fun h y hy y2 hy2 => ?_, fun h => ⟨fun h2 y hy => ?_, fun h2 y hy y2 hy2 => ?_⟩⟩
      · rw [if_pos (Or.inl (by rw [h]; decide))] at nx3
        rw [hy, hy2, nI_1]
        exact nx3
      · rw [if_neg (by
          intro q
          rcases q with q | q
          · rcases h9 with w | ⟨j, hj, w⟩
            · exact h w
            · rw [w] at q; exact nI_pos (by omega) q
          · rw [fa_le] at h2; rw [fa_lt] at q; omega)] at nx3
        rw [hy, nI_1]
        exact nx3
      · rw [if_pos (Or.inr (by rw [fa_le] at h2; rw [fa_lt]; omega))] at nx3
        rw [hy, hy2, nI_1]
        exact nx3
    · have hb1 : ¬ bsB m k = true := by
        rcases b01 with z | z
        · unfold bsB; rw [z]; decide
        · rw [z] at hb; exact absurd hb (by decide)
      have nx3 := nx S1 L1 R1 sc ro
      unfold bsF at nx3
      simp only [hb1] at nx3
      unfold vX10_best_109
      intro y hy
      rw [hy, nI_1]
      exact nx3
theorem n_best41 {P : Nat → GM} {load : Int32} {m : Nat} {Q : Int32 → (Nat → Int32) → (Nat → Nat → Int32) → Prop} (hn : n ≤ 8) (hf1 : f 1 = nI n) (hm : m < 256) (hP : ∀ j, j < n → okG (P j) ∧ (∃ z, P j = some z) ∧ ∀ a', Ac a a' → RG a' (nI j) (P j)) :
    ∀ e k : Nat, ∀ (f1 : Nat → Int32) (a1 : Nat → Nat → Int32), k + e = n → Fc f f1 → Ac a a1 → (∀ f' a', Fc f f' → Ac a a' → Q (bsF P load m n).1 f' a') → vX11_best_41 Q (e + 1) (nI m) load (bsF P load m k).1 (bsF P load m k).2 (nI k) f1 a1 := by
  intro e
  induction e with
  | zero =>
    intro k f1 a1 hk fc ac hQ
    obtain rfl : k = n := by omega
    unfold vX11_best_41
    rw [fc.2.1, hf1]
    exact ⟨fun _ => hQ f1 a1 fc ac, fun w => absurd (nI_le (Nat.le_refl _) (by omega)) w⟩
  | succ e ih =>
    intro k f1 a1 hk fc ac hQ
    have nx := fun (f' : Nat → Int32) (a' : Nat → Nat → Int32) fc' ac' => ih (k + 1) f' a' (by omega) fc' ac' hQ
    unfold vX11_best_41
    rw [fc.2.1, hf1, bs_r hm (by omega)]
    have b01 : m / 2 ^ k % 2 = 0 ∨ m / 2 ^ k % 2 = 1 := by omega
    refine ⟨fun w => absurd w (nI_ge (by omega) (by omega)), fun _ => ⟨fun hb => ?_, fun hb => ?_⟩⟩
    · have hb1 : ¬ bsB m k = true := by
        rcases b01 with z | z
        · unfold bsB; rw [z]; decide
        · exact absurd (by rw [z]; rfl) hb
      have nx3 := nx f1 a1 fc ac
      unfold bsF at nx3
      simp only [hb1] at nx3
      unfold vX11_best_128
      intro y hy
      rw [hy, nI_1]
      exact nx3
    · have hb1 : bsB m k = true := by
        rcases b01 with z | z
        · rw [z] at hb; exact absurd hb (by decide)
        · unfold bsB; rw [z]; rfl
      obtain ⟨okp, ⟨z, hz⟩, go⟩ := hP k (by omega)
      have hl := lateN_le okp okG_none
      refine n_begin (p := P k) (q := none) hz okp okG_none (go a1 ac) rfl (fun f2 a2 fc2 ac2 rb rr => ?_)
      refine n_round hz okp okG_none rb hl rr (fun f3 a3 t d fc3 ac3 en rr3 g12 g13 => ?_)
      have fc4 := (fc.trans fc2).trans fc3
      have ac4 := (ac.trans ac2).trans ac3
      have el : exS (rnR (P k) none load (s0R none 100 50)) 3 t = loR (P k) load := by unfold loR exS; rw [tR_eq en, if_pos rfl]
      have nx3 := nx f3 a3 fc4 ac4
      unfold bsF at nx3
      simp only [hb1, if_true] at nx3
      have h9 := bsF_9 P load m k (by omega)
      refine n_ext g12 rr3 en.2.1 ?_
      rw [el]
      simp only [vX11_best_95, vX11_best_100, vX11_best_113, vX11_best_126, vX11_best_128, forall_eq, nI_1, z00, z10, not_true_eq_false, not_false_eq_true, false_implies, true_implies, true_and, and_true]
      refine ⟨fun h => ?_, fun h => ⟨fun h2 => ?_, fun h2 => ?_⟩⟩
      · rw [if_pos (Or.inl h)] at nx3
        exact nx3
      · rw [if_neg (by
          intro q
          rcases q with q | q
          · exact h q
          · rw [fa_le] at h2; rw [fa_lt] at q; omega)] at nx3
        exact nx3
      · rw [if_pos (Or.inr (by rw [fa_le] at h2; rw [fa_lt]; omega))] at nx3
        exact nx3
theorem pr_best (I : Inv K n M S R f a) (x1 x2 : Int32) : vX10_best K n x1 x2 S L R (fun r S' _ R' => vX11_best x1 x2 f a (fun r' f' a' => r = r' ∧ Jv K n S' R' f' a')) := by
  obtain ⟨⟨hn, hRO, hS8, hf1⟩, hK, hM, hW, hF, hSh⟩ := id I
  have pw : (2 : Nat) ^ n ≤ 256 := by
    have : (2 : Nat) ^ n ≤ 2 ^ 8 := Nat.pow_le_pow_right (by omega) hn
    exact this
  have hg : (((1 : Int64) <<< ((f 1).toInt64 &&& 63)) - (1 : Int64)).toInt = (2 : Int) ^ n - 1 := by rw [hf1]; exact sh_l ⟨n, by omega⟩
  have key : (x1.toUInt32 >>> ((S 0 8).toUInt32 &&& Int32.toUInt32 31)).toInt32 = 0 ↔ (0 ≤ x1.toInt ∧ x1.toInt ≤ (2 : Int) ^ n - 1) := by
    rw [hS8]
    have h1 := pk_ushr x1 (nI n) n (sh_u ⟨n, by omega⟩)
    have e2 : ∀ y : Int32, y = 0 ↔ y.toBitVec.toNat = 0 := fun y => by
      constructor
      · intro h; rw [h]; rfl
      · intro h
        apply Int32.toBitVec_inj.1
        apply BitVec.eq_of_toNat_eq
        rw [h]; rfl
    rw [e2, h1]
    have hp : 0 < (2 : Nat) ^ n := Nat.two_pow_pos n
    rw [Nat.div_eq_zero_iff_lt hp]
    have ei : x1.toInt = if 2 * x1.toBitVec.toNat < 2 ^ 32 then (x1.toBitVec.toNat : Int) else (x1.toBitVec.toNat : Int) - (2 : Int) ^ 32 := by
      show x1.toBitVec.toInt = _
      exact BitVec.toInt_eq_toNat_cond _
    have hlt := x1.toBitVec.isLt
    have hc : ((2 ^ n : Nat) : Int) = (2 : Int) ^ n := by simp
    rw [← hc, ei]
    split <;> omega
  unfold vX10_best
  refine ⟨fun h => ?_, fun h => ?_⟩
  · simp only [vX11_best, n_out (l := 0) (g := ((1 : Int64) <<< ((f 1).toInt64 &&& 63)) - (1 : Int64)) 0 ((2 : Int) ^ n - 1) rfl hg (fun z => h (key.mpr z)), z00, z10, not_true_eq_false, not_false_eq_true, false_implies, true_implies, true_and, and_true]
    exact ⟨M, I⟩
  · have hr := key.mp h
    simp only [vX11_best, n_in (l := 0) (g := ((1 : Int64) <<< ((f 1).toInt64 &&& 63)) - (1 : Int64)) 0 ((2 : Int) ^ n - 1) rfl hg hr, z00, z10, not_true_eq_false, not_false_eq_true, false_implies, true_implies, true_and, and_true]
    have hc : ((2 ^ n : Nat) : Int) = (2 : Int) ^ n := by simp
    obtain ⟨m, hm, rfl⟩ := rg_nI (x := x1) (hi := 2 ^ n - 1) (by omega)
    refine j_w' 0 100 rfl rfl (fun h2 => ?_) (fun h2 => ?_)
    · simp only [n_in (l := 0) (g := 100) 0 100 rfl rfl h2, z00, z10, not_true_eq_false, not_false_eq_true, false_implies, true_implies, true_and, and_true]
      refine ⟨n + 1, w_best31 (S := S) (P := fun j => some (M j, K j)) hn hS8 (by omega) (fun j hj => ⟨I.ok hj, ⟨_, rfl⟩, fun S' sc => I.go_ hj sc⟩) n 0 S L R (by omega) Sc.rfl' hRO (fun S' L' R' sc ro => ?_)⟩
      exact ⟨n + 1, n_best41 (a := a) (P := fun j => some (M j, K j)) hn hf1 (by omega) (fun j hj => ⟨I.ok hj, ⟨_, rfl⟩, fun a' ac => I.rg hj ac⟩) n 0 f a (by omega) Fc.rfl' Ac.rfl' (fun f' a' fc ac => ⟨rfl, M, I.go sc ro fc ac⟩)⟩
    · simp only [n_out (l := 0) (g := 100) 0 100 rfl rfl h2, z00, z10, not_true_eq_false, not_false_eq_true, false_implies, true_implies, true_and, and_true]
      exact ⟨M, I⟩
end RE
