set_option maxRecDepth 100000 in
set_option maxHeartbeats 4000000 in
/-- madeMill, and the store to the row of mills, as one step -/
theorem c_make {p : Program} {l : Launch} {e : Env} {R : Room} {s : State} {m : MethodId} {args : Array Value} {below : List Frame} {meth : Method} {c : Code} {H : Heap} {locs : List Loc} {Q : State → Prop} {cc : ByteArray} {nL pc : Nat} {ls : Array Slot} {D : va_G} {A : Nat → Prop} {q : Nat → Nat} {Ts : List Cond} {cI cJ cZ cP cS : ClassId} {K : Nat → Nat} {n : Nat} {S : Nat → Nat → Int32} {L : Nat → Int64} {Rr : Nat → Option Nat}
    (C : CallFix p m c cc nL s args Ts RX10) (hX : cX A s) (hW : hw D (tyC cI cJ cZ cP cS) q (29 + 2 * n) (gC q cI cJ cZ cP cS K n S L Rr) A s H locs) (hn : n < 8) (hRO : RO n Rr) {kd : Int32} {index : Nat} (hG : GoodIn Ts (va_wsS RX10 index yX10_madeMill wsX10_madeMill)) (hR : 4 + 1 ≤ R.frames ∧ 8 + (3 + 11) + 81 ≤ R.locals) (hls : ls.size = nL) (hc : 0 + 2 ≤ R.cells ∧ 0 + 11 ≤ R.slots) (d1 : decode cc pc = .ok (.invokestatic index, 3)) (d2 : decode cc (pc + 3) = .ok (.aastore, 1))
    (kk : ∀ (q1 : Nat → Nat) (H1 : Heap) (locs1 : List Loc), q1 0 = q 0 → hw D (tyC cI cJ cZ cP cS) q1 (29 + 2 * (n + 1)) (gC q1 cI cJ cZ cP cS (va_up K n (kN kd)) (n + 1) (va_up S (30 + 2 * n) (S 5)) L Rr) A s H1 locs1 → W p l e R s m args below meth c H1 locs1 2 11 Q (F0 m (pc + 3 + 1) ls [])) : W p l e R s m args below meth c H locs 0 0 Q (F0 m pc ls [.ref (q 5), .int (nI n), .int kd, .int (nI n), .ref (q 1)]) := by
  have h5 : 5 < 29 + 2 * n := by omega
  have one : ∀ (k : Nat) (y : Nat × va_E), ([(q 5, (.inl (cI, 9, .inl (S 5)) : va_E))] : va_W)[k]? = some y → k = 0 ∧ y = (q 5, .inl (cI, 9, .inl (S 5))) := by
    intro k y hk
    have h0 : k < 1 := (List.getElem?_eq_some_iff.mp hk).1
    have h1 : k = 0 := by omega
    subst h1
    exact ⟨rfl, (Option.some.inj hk).symm⟩
  have hP5 : va_P D vwCl [(q 5, .inl (cI, 9, .inl (S 5)))] H := by
    intro k y hk
    obtain ⟨rfl, rfl⟩ := one k y hk
    exact hW.2.1 5 _ (wL_get h5)
  have hD5 : va_D (fun _ => True) [(q 5, (.inl (cI, 9, .inl (S 5)) : va_E))] := ⟨fun i j y z hi hj _ => ((one i y hi).1).trans ((one j z hj).1).symm, fun _ _ _ => trivial⟩
  have hF5 : ∀ y, va_A [(q 5, .inl (cI, 9, .inl (S 5)))] H.size y → A y := by
    intro y hy
    rcases hy with ⟨k, z, hk⟩ | hy
    · have h1 := (one k _ hk).2
      rw [show y = q 5 from congrArg Prod.fst h1]
      exact hW.2.2.1.2 5 _ (wL_get h5)
    · exact hW.2.2.2.2 y (Nat.le_trans hW.2.2.2.1.1 hy)
  refine va_callr (va_runS (As := [.int kd, .int (nI n), .ref (q 5)]) (rest := [.int (nI n), .ref (q 1)]) C (mtX10_madeMill l D H.size (q 5) cI kd (nI n) (S 5)) (va_cwS 3 C.2.2.2.2 hG rfl rfl rfl (by decide +kernel) hR) ⟨fun a U g mk q => by obtain ⟨q0, q1, qP, qK, qD, qX⟩ := q; exact ⟨q0, q1, qP, va_K.moved (u := U) (U := U.calling g mk a) (Vm.Alike.refl U.vm) qK, qD, va_Nw.same rfl (u := U) (U := U.calling g mk a) rfl qX⟩, fun U hU hV => ⟨rfl, by rw [hU], by rw [hU]; exact hP5, va_K.moved hV.alike (hW.1.sub (tys' := [(cI, .int)]) [0] rfl), hD5, va_Nw.warmC hV (hX.1 (.castable "[I" "java/lang/Cloneable") (by decide +kernel))⟩⟩ rfl rfl hls rfl (lv_room (Nat.le_of_ble_eq_true rfl)) d1 hc) hW.2.2.2.1 (fun y _ h => hF5 y h) hF5 (fun x ra t H1 locs1 ht hvm _ hB hz hk hS => ?_)
  obtain ⟨hP1, hD1⟩ := hB
  rw [ht] at hP1
  have lo : ∀ i, i < 29 + 2 * n → q i < H.size := fun i hi => (hW.2.1 i _ (wL_get hi)).lt
  have new : ∀ y, va_A [(q 5, (.inl (cI, 9, .inl (S 5)) : va_E))] H.size y → y ≠ q 5 → H.size ≤ y := by
    intro y hy hne
    rcases hy with ⟨k, z, hk'⟩ | hy
    · exact absurd (congrArg Prod.fst (one k _ hk').2) hne
    · exact hy
  have hra : H.size ≤ ra := new ra (hD1.2 1 _ rfl) (fun z => absurd (hD1.1 1 0 _ _ rfl rfl z) (by decide))
  have hxx : H.size ≤ x := new x (hD1.2 2 _ rfl) (fun z => absurd (hD1.1 2 0 _ _ rfl rfl z) (by decide))
  have hne : ra ≠ x := fun z => absurd (hD1.1 1 2 _ _ rfl rfl z) (by decide)
  obtain ⟨g1, eg1⟩ : ∃ g1 : Nat → va_E, g1 = fun i => if i < 29 + 2 * n then gC q cI cJ cZ cP cS K n S L Rr i else if i = 29 + 2 * n then .inr (cK (kN kd), [.int (nI n), .ref x]) else .inl (cI, 9, .inl (S 5)) := ⟨_, rfl⟩
  have g1a : ∀ i, i < 29 + 2 * n → g1 i = gC q cI cJ cZ cP cS K n S L Rr i := fun i hi => by rw [eg1]; exact if_pos hi
  have g1b : g1 (29 + 2 * n) = .inr (cK (kN kd), [.int (nI n), .ref x]) := by rw [eg1]; simp
  have g1c : g1 (30 + 2 * n) = .inl (cI, 9, .inl (S 5)) := by
    rw [eg1]
    show (if 30 + 2 * n < 29 + 2 * n then _ else if 30 + 2 * n = 29 + 2 * n then _ else _) = _
    rw [if_neg (by omega), if_neg (by omega)]
  have cases3 : ∀ i, i < 29 + 2 * (n + 1) → i < 29 + 2 * n ∨ i = 29 + 2 * n ∨ i = 30 + 2 * n := fun i hi => by omega
  have hW1 : hw D (tyC cI cJ cZ cP cS) (q2 q n ra x) (29 + 2 * (n + 1)) g1 A s H1 locs1 := by
    refine ⟨hW.1, ?_, ⟨?_, ?_⟩, hS, hW.2.2.2.2⟩
    · intro k y hk'
      obtain ⟨hlt, rfl⟩ := wL_inv hk'
      rcases cases3 k hlt with h | rfl | rfl
      · rw [q2_lt h, g1a k h]
        by_cases h5k : k = 5
        · subst h5k
          exact hP1 0 _ rfl
        · refine (hW.2.1 k _ (wL_get h)).kept (hk _ (lo k h) (fun hA => ?_))
          have := new _ hA (fun z => h5k (hW.2.2.1.1 k 5 _ _ (wL_get h) (wL_get h5) z))
          exact absurd this (Nat.not_le.mpr (lo k h))
      · rw [q2_a, g1b]
        exact hP1 1 _ rfl
      · rw [q2_b, g1c]
        exact hP1 2 _ rfl
    · intro i j y z hi hj hyz
      obtain ⟨hi', rfl⟩ := wL_inv hi
      obtain ⟨hj', rfl⟩ := wL_inv hj
      replace hyz : q2 q n ra x i = q2 q n ra x j := hyz
      rcases cases3 i hi' with h | rfl | rfl <;> rcases cases3 j hj' with h' | rfl | rfl
      · rw [q2_lt h, q2_lt h'] at hyz
        exact hW.2.2.1.1 i j _ _ (wL_get h) (wL_get h') hyz
      · rw [q2_lt h, q2_a] at hyz
        have := lo i h
        omega
      · rw [q2_lt h, q2_b] at hyz
        have := lo i h
        omega
      · rw [q2_lt h', q2_a] at hyz
        have := lo j h'
        omega
      · rfl
      · rw [q2_a, q2_b] at hyz
        exact absurd hyz hne
      · rw [q2_lt h', q2_b] at hyz
        have := lo j h'
        omega
      · rw [q2_a, q2_b] at hyz
        exact absurd hyz.symm hne
      · rfl
    · intro k y hk'
      obtain ⟨hlt, rfl⟩ := wL_inv hk'
      rcases cases3 k hlt with h | rfl | rfl
      · show A (q2 q n ra x k)
        rw [q2_lt h]
        exact hW.2.2.1.2 k _ (wL_get h)
      · show A (q2 q n ra x (29 + 2 * n))
        rw [q2_a]
        exact hF5 ra (hD1.2 1 _ rfl)
      · show A (q2 q n ra x (30 + 2 * n))
        rw [q2_b]
        exact hF5 x (hD1.2 2 _ rfl)
  have hend : ∀ (H2 : Heap) (locs2 : List Loc), hw D (tyC cI cJ cZ cP cS) (q2 q n ra x) (29 + 2 * (n + 1)) (va_up g1 1 (.inl (cP, 8, .inr (.inr (.inr (.inr (va_up (fun j => Option.map (qM q) (if j < n then some j else none)) (nI n).toNatClampNeg (some ra)))))))) A s H2 locs2 → W p l e R s m args below meth c H2 locs2 2 11 Q (F0 m (pc + 3 + 1) ls []) := by
    intro H2 locs2 h2
    refine kk (q2 q n ra x) H2 locs2 (q2_lt (by omega)) (h2.conv (fun i hi => ?_))
    by_cases h1 : i = 1
    · subst h1
      rw [va_up_self]
      show (Sum.inl (cP, 8, .inr (.inr (.inr (.inr _)))) : va_E) = (Sum.inl (cP, 8, .inr (.inr (.inr (.inr (fun j => Option.map (qM (q2 q n ra x)) (if j < n + 1 then some j else none)))))) : va_E)
      have : va_up (fun j => Option.map (qM q) (if j < n then some j else none)) (nI n).toNatClampNeg (some ra) = (fun j => Option.map (qM (q2 q n ra x)) (if j < n + 1 then some j else none)) := by
        funext j
        rw [nI_clamp (by omega)]
        by_cases hj : j = n
        · subst hj
          rw [va_up_self, if_pos (by omega)]
          simp only [Option.map_some, qM]
          rw [q2_a]
        · rw [va_up_ne _ _ hj]
          by_cases hj2 : j < n
          · rw [if_pos hj2, if_pos (by omega)]
            simp only [Option.map_some, qM]
            rw [q2_lt (by omega)]
          · rw [if_neg hj2, if_neg (by omega)]
            rfl
      rw [this]
    · rw [va_up_ne _ _ h1]
      rcases cases3 i hi with h | rfl | rfl
      · rw [g1a i h, gC_more hRO h h1]
      · rw [g1b, gC_mill, va_up_self, q2_b]
      · rw [g1c, gC_nums, va_up_self]
  have hin : vp_in (nI n) 8 := vp_in_nI hn (by decide)
  have hg1 : (wL (q2 q n ra x) (29 + 2 * (n + 1)) g1)[1]? = some (q 1, .inl (cP, 8, .inr (.inr (.inr (.inr (fun j => Option.map (qM q) (if j < n then some j else none))))))) := by
    rw [wL_get (by omega), q2_lt (by omega), g1a 1 (by omega)]
    rfl
  have hv : ∀ ci, cK (kN kd) = ci → (wL (q2 q n ra x) (29 + 2 * (n + 1)) g1)[29 + 2 * n]? = some (ra, .inr (ci, [.int (nI n), .ref x])) := by
    intro ci hci
    rw [wL_get (by omega), q2_a, g1b, hci]
  have hput : ∀ (H2 : Heap) (locs2 : List Loc), va_P D vwCl ((wL (q2 q n ra x) (29 + 2 * (n + 1)) g1).set 1 (q 1, .inl (cP, 8, .inr (.inr (.inr (.inr (va_up (fun j => Option.map (qM q) (if j < n then some j else none)) (nI n).toNatClampNeg (some ra)))))))) H2 → va_S A s.heap H2 locs2 → W p l e R s m args below meth c H2 locs2 2 11 Q (F0 m (pc + 3 + 1) ls []) := by
    intro H2 locs2 h1 h3
    rw [show q 1 = q2 q n ra x 1 from (q2_lt (by omega)).symm] at h1
    exact hend H2 locs2 (hW1.put h1 h3)
  by_cases k2 : kd = 2
  · have hci : cK (kN kd) = 7 := by unfold kN; rw [if_pos k2]; rfl
    exact va_astqO C.1 C.2.1 hW1.1 hW1.2.1 hW1.2.2.1 hW1.2.2.2.1 1 3 (29 + 2 * n) 7 (r := (RX7, TX7, 2)) (E := "BallMinder$Plain") hg1 rfl (hX.1 (.castable "BallMinder$Sticky" "BallMinder$Plain") (by decide +kernel)) (hv 7 hci) rfl hin d2 (fun H2 locs2 g1 _ g3 => hput H2 locs2 g1 g3)
  · by_cases k1 : kd = 1
    · have hci : cK (kN kd) = 3 := by unfold kN; rw [if_neg k2, if_pos k1]; rfl
      exact va_astqO C.1 C.2.1 hW1.1 hW1.2.1 hW1.2.2.1 hW1.2.2.2.1 1 3 (29 + 2 * n) 3 (r := (RX3, TX3, 2)) (E := "BallMinder$Plain") hg1 rfl (hX.1 (.castable "BallMinder$Oiled" "BallMinder$Plain") (by decide +kernel)) (hv 3 hci) rfl hin d2 (fun H2 locs2 g1 _ g3 => hput H2 locs2 g1 g3)
    · have hci : cK (kN kd) = 4 := by unfold kN; rw [if_neg k2, if_neg k1]; rfl
      exact va_astq C.1 C.2.1 hW1.1 hW1.2.1 hW1.2.2.1 hW1.2.2.2.1 1 3 (29 + 2 * n) 4 (r := (RX4, TX4, 2)) hg1 rfl (hv 4 hci) rfl hin d2 (fun H2 locs2 g1 _ g3 => hput H2 locs2 g1 g3)
