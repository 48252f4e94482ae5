/-! pure layer: plain facts on ints -/
theorem fa_lt (a b : Int32) : a < b ↔ a.toInt < b.toInt := Int32.lt_iff_toInt_lt
theorem fa_le (a b : Int32) : a ≤ b ↔ a.toInt ≤ b.toInt := Int32.le_iff_toInt_le
theorem fa_eq (a b : Int32) : a = b ↔ a.toInt = b.toInt := Int32.toInt_inj.symm
theorem fa_lt64 (a b : Int64) : a < b ↔ a.toInt < b.toInt := Int64.lt_iff_toInt_lt
theorem fa_le64 (a b : Int64) : a ≤ b ↔ a.toInt ≤ b.toInt := Int64.le_iff_toInt_le
theorem fa_eq64 (a b : Int64) : a = b ↔ a.toInt = b.toInt := Int64.toInt_inj.symm
theorem lt_lit {n : Nat} (h : n < 2 ^ 31) : (OfNat.ofNat n : Int32).toInt = (n : Int) := nI_toInt h
theorem lc_lit {n : Nat} (h : n < 2 ^ 31) : (OfNat.ofNat n : Int32).toNatClampNeg = n := nI_clamp h
theorem li_m1 : (-1 : Int32).toInt = -1 := by decide
theorem li_m9 : (-9 : Int32).toInt = -9 := by decide
theorem vpl {n N : Nat} (h : n < N) (hN : N < 2 ^ 31) : vp_in (OfNat.ofNat n : Int32) N = True := eq_true (vp_in_nI h hN)
theorem vpn {n N : Nat} (h : n < N) (hN : N < 2 ^ 31) : vp_in (nI n) N = True := eq_true (vp_in_nI h hN)
theorem z10 : ((1 : Int32) = 0) = False := eq_false (by decide)
theorem z00 : ((0 : Int32) = 0) = True := eq_self _
theorem nI_sub {a b : Nat} (h : b ≤ a) : nI a - nI b = nI (a - b) := by
  apply Int32.toInt_inj.mp
  have e : nI a = nI (a - b) + nI b := by rw [nI_add]; congr 1; omega
  rw [e]
  simp
theorem nI_mul (a b : Nat) : nI a * nI b = nI (a * b) := (Int32.ofNat_mul a b).symm
theorem lN_m1 {c : Nat} (h : c < 2 ^ 31) : (lN c - 1).toInt = (c : Int) - 1 := by
  rcases c with _ | k
  · decide
  · rw [show lN (k + 1) - 1 = lN k from lN_sub (b := 1) (by omega), lN_toInt (by omega)]
    omega
theorem upd_self (f : Nat → Int32) (k : Nat) (x : Int32) : upd f k x k = x := by simp [upd]
theorem upd_ne (f : Nat → Int32) {k j : Nat} (x : Int32) (h : j ≠ k) : upd f k x j = f j := by simp [upd, h]
/-! the leaves -/
def bnd (x l g : Int32) : Int32 := if l ≤ x then (if x ≤ g then x else g) else l
theorem w_bounded (x l g : Int32) (Q : Int32 → Prop) : vX10_bounded x l g Q = Q (bnd x l g) := by
  unfold vX10_bounded bnd
  by_cases h1 : l ≤ x <;> by_cases h2 : x ≤ g <;> simp [h1, h2]
theorem w_held (x l g : Int32) (Q : Int32 → Prop) : vX11_held x l g Q = Q (bnd x l g) := by
  unfold vX11_held bnd
  by_cases h1 : l ≤ x <;> by_cases h2 : x ≤ g <;> simp [h1, h2]
theorem w_quot {x y : Int32} (h : ¬ y = 0) (Q : Int32 → Prop) : vX10_quotient x y Q = Q (x / y) := by
  unfold vX10_quotient
  simp [h]
theorem i_w {x l g : Int32} {Q : Int32 → Prop} (lo hi : Int) (hl : l.toInt = lo) (hg : g.toInt = hi) (h1 : lo ≤ x.toInt ∧ x.toInt ≤ hi → Q 1) (h0 : ¬ (lo ≤ x.toInt ∧ x.toInt ≤ hi) → Q 0) : vX10_within x l g Q := by
  unfold vX10_within
  rw [fa_lt, fa_lt, hl, hg]
  refine ⟨fun h => h0 (by omega), fun h => ⟨fun h2 => h0 (by omega), fun h2 => h1 (by omega)⟩⟩
theorem w_in {x l g : Int32} {Q : Int32 → Prop} (h1 : l.toInt ≤ x.toInt) (h2 : x.toInt ≤ g.toInt) : vX10_within x l g Q = Q 1 := by
  unfold vX10_within
  have a : ¬ x < l := by rw [fa_lt]; omega
  have b : ¬ g < x := by rw [fa_lt]; omega
  simp [a, b]
theorem w_out {x l g : Int32} {Q : Int32 → Prop} (h : ¬ (l.toInt ≤ x.toInt ∧ x.toInt ≤ g.toInt)) : vX10_within x l g Q = Q 0 := by
  unfold vX10_within
  by_cases a : x < l
  · simp [a]
  · have b : g < x := by rw [fa_lt] at a ⊢; omega
    simp [a, b]
theorem i_n {x : Int32} {l g : Int64} {Q : Int32 → Prop} (lo hi : Int) (hl : l.toInt = lo) (hg : g.toInt = hi) (h1 : lo ≤ x.toInt ∧ x.toInt ≤ hi → Q 1) (h0 : ¬ (lo ≤ x.toInt ∧ x.toInt ≤ hi) → Q 0) : vX11_in x.toInt64 l g Q := by
  unfold vX11_in
  rw [fa_lt64, fa_lt64, Int32.toInt_toInt64, hl, hg]
  refine ⟨fun h => h0 (by omega), fun h => ⟨fun h2 => h0 (by omega), fun h2 => h1 (by omega)⟩⟩
theorem n_in {x : Int32} {l g : Int64} {Q : Int32 → Prop} (lo hi : Int) (hl : l.toInt = lo) (hg : g.toInt = hi) (h : lo ≤ x.toInt ∧ x.toInt ≤ hi) : vX11_in x.toInt64 l g Q = Q 1 := by
  unfold vX11_in
  rw [fa_lt64, fa_lt64, Int32.toInt_toInt64, hl, hg]
  have a : ¬ x.toInt < lo := by omega
  have b : ¬ hi < x.toInt := by omega
  simp [a, b]
theorem n_out {x : Int32} {l g : Int64} {Q : Int32 → Prop} (lo hi : Int) (hl : l.toInt = lo) (hg : g.toInt = hi) (h : ¬ (lo ≤ x.toInt ∧ x.toInt ≤ hi)) : vX11_in x.toInt64 l g Q = Q 0 := by
  unfold vX11_in
  rw [fa_lt64, fa_lt64, Int32.toInt_toInt64, hl, hg]
  by_cases a : x.toInt < lo
  · simp [a]
  · have b : hi < x.toInt := by omega
    simp [a, b]
/-- an int between two numbers from 0 on, by its number -/
theorem rg_nI {x : Int32} {hi : Nat} (h : 0 ≤ x.toInt ∧ x.toInt ≤ hi) : ∃ j : Nat, j ≤ hi ∧ x = nI j := by
  refine ⟨x.toInt.toNat, by omega, ?_⟩
  apply Int32.toInt_inj.mp
  have h2 : x.toInt < 2 ^ 31 := Int32.toInt_lt x
  rw [nI_toInt (by omega)]
  omega
/-! the state: what the two have in common -/
def loN : Nat → Nat := fun w => match w with
  | 0 => 1
  | 1 => 0
  | 2 => 1
  | 3 => 0
  | 4 => 0
  | 5 => 1
  | 6 => 0
  | 7 => 0
  | _ => 1
def hiN : Nat → Nat := fun w => match w with
  | 0 => 99
  | 1 => 20
  | 2 => 99
  | 3 => 99
  | 4 => 99
  | 5 => 99
  | 6 => 20
  | 7 => 3
  | _ => 50
theorem by9 {P : Nat → Prop} (h0 : P 0) (h1 : P 1) (h2 : P 2) (h3 : P 3) (h4 : P 4) (h5 : P 5) (h6 : P 6) (h7 : P 7) (h8 : P 8) (w : Nat) (h : w < 9) : P w := by
  match w, h with
  | 0, _ => exact h0
  | 1, _ => exact h1
  | 2, _ => exact h2
  | 3, _ => exact h3
  | 4, _ => exact h4
  | 5, _ => exact h5
  | 6, _ => exact h6
  | 7, _ => exact h7
  | 8, _ => exact h8
theorem least_nI {w : Nat} (h : w < 9) : leastV w = nI (loN w) := by9 (P := fun w => leastV w = nI (loN w)) rfl rfl rfl rfl rfl rfl rfl rfl rfl w h
theorem greatest_nI {w : Nat} (h : w < 9) : greatestV w = nI (hiN w) := by9 (P := fun w => greatestV w = nI (hiN w)) rfl rfl rfl rfl rfl rfl rfl rfl rfl w h
theorem lohi (w : Nat) : loN w ≤ 1 ∧ loN w ≤ hiN w ∧ hiN w ≤ 99 := by
  unfold loN hiN
  split <;> simp
def MB (N : Nat → Nat) : Prop := ∀ w, w < 9 → loN w ≤ N w ∧ N w ≤ hiN w
theorem MB.lt {N : Nat → Nat} (h : MB N) {w : Nat} (hw : w < 9) : N w ≤ 99 := Nat.le_trans (h w hw).2 (lohi w).2.2
/-- the numbers of a mill, in the class and in the reference -/
def CM (S : Nat → Nat → Int32) (x : Nat) (N : Nat → Nat) : Prop := ∀ w, w < 9 → S (30 + 2 * x) w = nI (N w)
def RM (a : Nat → Nat → Int32) (x : Nat) (N : Nat → Nat) : Prop := ∀ w, w < 9 → a 2 (9 * x + w) = nI (N w)
def ShC (S : Nat → Nat → Int32) (a : Nat → Nat → Int32) (k : Nat) : Prop :=
  (S (21 + 2 * k) 1 = 0 ∧ a 8 k = -1) ∨ (∃ c, c ≤ 60 ∧ S (21 + 2 * k) 1 = 1 ∧ a 8 k = nI c ∧ S (21 + 2 * k) 3 = nI c ∧ a 9 k = S (21 + 2 * k) 2 ∧ ∀ j, j < c → S (22 + 2 * k) j = a 10 (60 * k + j))
def WaC (S : Nat → Nat → Int32) (f : Nat → Int32) (a : Nat → Nat → Int32) : Prop :=
  ∃ c, (c = 0 ∨ (2 ≤ c ∧ c ≤ 30)) ∧ S 0 9 = nI c ∧ f 14 = nI c ∧ ∀ j, j < c → S 3 j = a 7 j
def Inv (K : Nat → Nat) (n : Nat) (M : Nat → Nat → Nat) (S : Nat → Nat → Int32) (R : Nat → Option Nat) (f : Nat → Int32) (a : Nat → Nat → Int32) : Prop :=
  (n ≤ 8 ∧ RO n R ∧ S 0 8 = nI n ∧ f 1 = nI n) ∧ (∀ x, x < n → K x < 3 ∧ a 1 x = nI (K x)) ∧ (∀ x, x < n → MB (M x) ∧ CM S x (M x) ∧ RM a x (M x)) ∧ WaC S f a ∧ (S 0 10 = f 0 ∧ S 14 0 = f 20) ∧ ∀ k, k < 4 → ShC S a k
/-- what may change in between -/
def Sc (S S' : Nat → Nat → Int32) : Prop := ∀ i, (i = 0 ∨ i = 3 ∨ i = 14 ∨ 21 ≤ i) → S' i = S i
def Fc (f f' : Nat → Int32) : Prop := f' 0 = f 0 ∧ f' 1 = f 1 ∧ f' 14 = f 14 ∧ f' 20 = f 20
def Ac (a a' : Nat → Nat → Int32) : Prop := a' 1 = a 1 ∧ a' 2 = a 2 ∧ a' 7 = a 7 ∧ a' 8 = a 8 ∧ a' 9 = a 9 ∧ a' 10 = a 10
theorem Sc.rfl' {S : Nat → Nat → Int32} : Sc S S := fun _ _ => rfl
theorem Sc.trans {S S' S'' : Nat → Nat → Int32} (h : Sc S S') (h2 : Sc S' S'') : Sc S S'' := fun i hi => (h2 i hi).trans (h i hi)
theorem Sc.up {S S' : Nat → Nat → Int32} (h : Sc S S') {i : Nat} {F : Nat → Int32} (hi : ¬ (i = 0 ∨ i = 3 ∨ i = 14 ∨ 21 ≤ i)) : Sc S (va_up S' i F) := fun j hj => by
  rw [va_up_ne _ _ (show j ≠ i from fun e => hi (by rw [← e]; exact hj))]
  exact h j hj
theorem Fc.rfl' {f : Nat → Int32} : Fc f f := ⟨rfl, rfl, rfl, rfl⟩
theorem Fc.trans {f f' f'' : Nat → Int32} (h : Fc f f') (h2 : Fc f' f'') : Fc f f'' := ⟨h2.1.trans h.1, h2.2.1.trans h.2.1, h2.2.2.1.trans h.2.2.1, h2.2.2.2.trans h.2.2.2⟩
theorem Fc.up {f f' : Nat → Int32} (h : Fc f f') {i : Nat} {v : Int32} (hi : i ≠ 0 ∧ i ≠ 1 ∧ i ≠ 14 ∧ i ≠ 20) : Fc f (va_up f' i v) := by
  unfold Fc
  rw [va_up_ne _ _ hi.1.symm, va_up_ne _ _ hi.2.1.symm, va_up_ne _ _ hi.2.2.1.symm, va_up_ne _ _ hi.2.2.2.symm]
  exact h
theorem Ac.rfl' {a : Nat → Nat → Int32} : Ac a a := ⟨rfl, rfl, rfl, rfl, rfl, rfl⟩
theorem Ac.trans {a a' a'' : Nat → Nat → Int32} (h : Ac a a') (h2 : Ac a' a'') : Ac a a'' := ⟨h2.1.trans h.1, h2.2.1.trans h.2.1, h2.2.2.1.trans h.2.2.1, h2.2.2.2.1.trans h.2.2.2.1, h2.2.2.2.2.1.trans h.2.2.2.2.1, h2.2.2.2.2.2.trans h.2.2.2.2.2⟩
theorem Ac.up {a a' : Nat → Nat → Int32} (h : Ac a a') {i : Nat} {F : Nat → Int32} (hi : i ≠ 1 ∧ i ≠ 2 ∧ i ≠ 7 ∧ i ≠ 8 ∧ i ≠ 9 ∧ i ≠ 10) : Ac a (va_up a' i F) := by
  unfold Ac
  rw [va_up_ne _ _ hi.1.symm, va_up_ne _ _ hi.2.1.symm, va_up_ne _ _ hi.2.2.1.symm, va_up_ne _ _ hi.2.2.2.1.symm, va_up_ne _ _ hi.2.2.2.2.1.symm, va_up_ne _ _ hi.2.2.2.2.2.symm]
  exact h
theorem CM.sc {S S' : Nat → Nat → Int32} {x : Nat} {N : Nat → Nat} (h : CM S x N) (hs : Sc S S') : CM S' x N := fun w hw => by
  rw [hs _ (by omega)]
  exact h w hw
theorem RM.ac {a a' : Nat → Nat → Int32} {x : Nat} {N : Nat → Nat} (h : RM a x N) (hs : Ac a a') : RM a' x N := fun w hw => by
  rw [hs.2.1]
  exact h w hw
theorem Inv.go {K : Nat → Nat} {n : Nat} {M : Nat → Nat → Nat} {S S' : Nat → Nat → Int32} {R R' : Nat → Option Nat} {f f' : Nat → Int32} {a a' : Nat → Nat → Int32} (h : Inv K n M S R f a) (hs : Sc S S') (hr : RO n R') (hf : Fc f f') (ha : Ac a a') : Inv K n M S' R' f' a' := by
  obtain ⟨⟨h1, h2, h3, h4⟩, h5, h6, ⟨c, w1, w2, w3, w4⟩, ⟨h8, h9⟩, h10⟩ := h
  obtain ⟨f0, f1, f2, f3⟩ := hf
  obtain ⟨a1, a2, a7, a8, a9, a10⟩ := ha
  have s0 : S' 0 = S 0 := hs 0 (by omega)
  have s3 : S' 3 = S 3 := hs 3 (by omega)
  have s14 : S' 14 = S 14 := hs 14 (by omega)
  refine ⟨⟨h1, hr, by rw [s0]; exact h3, by rw [f1]; exact h4⟩, fun x hx => by rw [a1]; exact h5 x hx, fun x hx => ⟨(h6 x hx).1, (h6 x hx).2.1.sc hs, (h6 x hx).2.2.ac ⟨a1, a2, a7, a8, a9, a10⟩⟩, ⟨c, w1, by rw [s0]; exact w2, by rw [f2]; exact w3, fun j hj => by rw [s3, a7]; exact w4 j hj⟩, ⟨by rw [s0, f0]; exact h8, by rw [s14, f3]; exact h9⟩, fun k hk => ?_⟩
  have sk : S' (21 + 2 * k) = S (21 + 2 * k) := hs _ (by omega)
  have sk2 : S' (22 + 2 * k) = S (22 + 2 * k) := hs _ (by omega)
  have := h10 k hk
  unfold ShC at this ⊢
  rw [sk, sk2, a8, a9, a10]
  exact this
/-! the doors of both -/
section DO
variable {K : Nat → Nat} {n : Nat} {M : Nat → Nat → Nat} {S : Nat → Nat → Int32} {L : Nat → Int64} {R : Nat → Option Nat} {f : Nat → Int32} {a : Nat → Nat → Int32}
theorem i_millOf {x : Int32} {Q : Option Nat → (Nat → Nat → Int32) → (Nat → Int64) → (Nat → Option Nat) → Prop} (hn : n ≤ 8) (hS : S 0 8 = nI n) (h1 : ∀ j, j < n → x = nI j → Q (some j) S L R) (h0 : ¬ (0 ≤ x.toInt ∧ x.toInt < n) → Q none S L R) : vX10_millOf K n x S L R Q := by
  unfold vX10_millOf
  have e : (nI n - 1).toInt = (n : Int) - 1 := by
    rcases n with _ | k
    · decide
    · rw [nI_pred, nI_toInt (by omega)]; omega
  refine i_w 0 ((n : Int) - 1) rfl (by rw [hS, e]) (fun h => ?_) (fun h => ?_)
  · obtain ⟨j, hj, rfl⟩ := rg_nI (x := x) (hi := n - 1) (by omega)
    have hj2 : j < n := by
      rw [nI_toInt (by omega)] at h
      omega
    refine ⟨fun z => absurd z (by decide), fun _ => ⟨vp_in_nI (by omega) (by omega), fun o ho => ?_⟩⟩
    rw [ho, nI_clamp (by omega), if_pos hj2]
    exact h1 j hj2 rfl
  · exact ⟨fun _ => h0 (by omega), fun z => absurd rfl z⟩
theorem n_mill {j : Nat} {Q : Int32 → (Nat → Int32) → (Nat → Nat → Int32) → Prop} (hn : n ≤ 8) (hf : f 1 = nI n) (hj : j < n) : vX11_noMill (nI j) f a Q = Q 0 f a := by
  unfold vX11_noMill
  rw [n_in 0 ((n : Int) - 1) rfl (by rw [hf, nI_l (by omega), lN_m1 (by omega)]) (by rw [nI_toInt (by omega)]; omega)]
  simp
theorem n_mill0 {x : Int32} {Q : Int32 → (Nat → Int32) → (Nat → Nat → Int32) → Prop} (hn : n ≤ 8) (hf : f 1 = nI n) (hj : ¬ (0 ≤ x.toInt ∧ x.toInt < n)) : vX11_noMill x f a Q = Q 1 f a := by
  unfold vX11_noMill
  rw [n_out 0 ((n : Int) - 1) rfl (by rw [hf, nI_l (by omega), lN_m1 (by omega)]) (by omega)]
  simp
theorem n_of {x w : Nat} {Q : Int32 → (Nat → Int32) → (Nat → Nat → Int32) → Prop} (hx : x < 8) (hw : w < 9) : vX11_of (nI x) (nI w) f a Q = Q (a 2 (9 * x + w)) f a := by
  unfold vX11_of
  rw [show ((9 : Int32) * nI x) + nI w = nI (9 * x + w) by rw [show (9 : Int32) = nI 9 from rfl, nI_mul, nI_add], nI_clamp (by omega)]
  simp only [vp_in_nI (show 9 * x + w < 72 by omega) (by omega), true_and]
theorem i_sheetOf {x : Int32} {Q : Option Nat → (Nat → Nat → Int32) → (Nat → Int64) → (Nat → Option Nat) → Prop} (h1 : ∀ j, j < 4 → x = nI j → Q (some j) S L R) (h0 : ¬ (0 ≤ x.toInt ∧ x.toInt ≤ 3) → Q none S L R) : vX10_sheetOf K n x S L R Q := by
  unfold vX10_sheetOf
  refine i_w 0 3 rfl rfl (fun h => ?_) (fun h => ?_)
  · obtain ⟨j, hj, rfl⟩ := rg_nI (x := x) (hi := 3) (by omega)
    refine ⟨fun z => absurd z (by decide), fun _ => ⟨vp_in_nI (by omega) (by omega), ?_⟩⟩
    rw [nI_clamp (by omega)]
    exact h1 j (by omega) rfl
  · exact ⟨fun _ => h0 (by omega), fun z => absurd rfl z⟩
theorem n_sheet {j : Nat} {Q : Int32 → Prop} (hj : j < 4) : vX11_noSheet (nI j) Q = Q 0 := by
  unfold vX11_noSheet
  rw [n_in 0 3 rfl rfl (by rw [nI_toInt (by omega)]; omega)]
  simp
theorem n_sheet0 {x : Int32} {Q : Int32 → Prop} (hj : ¬ (0 ≤ x.toInt ∧ x.toInt ≤ 3)) : vX11_noSheet x Q = Q 1 := by
  unfold vX11_noSheet
  rw [n_out 0 3 rfl rfl hj]
  simp
theorem n_least {w : Nat} {Q : Int32 → Prop} (hw : w < 9) : vX11_leastOf (nI w) Q = Q (nI (loN w)) :=
  by9 (P := fun w => vX11_leastOf (nI w) Q = Q (nI (loN w))) (by simp [vX11_leastOf, nI, loN]) (by simp [vX11_leastOf, nI, loN]) (by simp [vX11_leastOf, nI, loN]) (by simp [vX11_leastOf, nI, loN]) (by simp [vX11_leastOf, nI, loN]) (by simp [vX11_leastOf, nI, loN]) (by simp [vX11_leastOf, nI, loN]) (by simp [vX11_leastOf, nI, loN]) (by simp [vX11_leastOf, nI, loN]) w hw
theorem n_greatest {w : Nat} {Q : Int32 → Prop} (hw : w < 9) : vX11_greatestOf (nI w) Q = Q (nI (hiN w)) :=
  by9 (P := fun w => vX11_greatestOf (nI w) Q = Q (nI (hiN w))) (by simp [vX11_greatestOf, nI, hiN]) (by simp [vX11_greatestOf, nI, hiN]) (by simp [vX11_greatestOf, nI, hiN]) (by simp [vX11_greatestOf, nI, hiN]) (by simp [vX11_greatestOf, nI, hiN]) (by simp [vX11_greatestOf, nI, hiN]) (by simp [vX11_greatestOf, nI, hiN]) (by simp [vX11_greatestOf, nI, hiN]) (by simp [vX11_greatestOf, nI, hiN]) w hw
end DO
