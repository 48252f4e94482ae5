/-! rows for the class's own places -/
theorem vp_lt {i : Int32} {n : Nat} (h : vp_in i n) : i.toNatClampNeg < n := Nat.not_le.mp fun q => h (Or.inr q)
theorem nar_o {C : String} (o : Option Nat) : narrow (.object C) (va_rf o) = va_rf o := by cases o <;> rfl
theorem fit_o {C : String} (o : Option Nat) : fits (.object C) (va_rf o) = true := by cases o <;> rfl
theorem cat_o (o : Option Nat) : (va_rf o).category = 1 := by cases o <;> rfl
theorem by3 {k : Nat} {P0 P1 P2 G : Prop} (h : (k = 0 → P0) ∧ (k = 1 → P1) ∧ (¬ k = 0 → ¬ k = 1 → P2)) (r0 : k = 0 → P0 → G) (r1 : k = 1 → P1 → G) (r2 : ¬ k = 0 → ¬ k = 1 → P2 → G) : G := by
  by_cases k0 : k = 0
  · exact r0 k0 (h.1 k0)
  · by_cases k1 : k = 1
    · exact r1 k1 (h.2.1 k1)
    · exact r2 k0 k1 (h.2.2 k0 k1)
theorem by1 {k : Nat} {P G : Prop} (h : P) (r0 : k = 0 → P → G) (r1 : k = 1 → P → G) (r2 : ¬ k = 0 → ¬ k = 1 → P → G) : G := by
  by_cases k0 : k = 0
  · exact r0 k0 h
  · by_cases k1 : k = 1
    · exact r1 k1 h
    · exact r2 k0 k1 h
def fillF (f : Nat → Int32) (n : Nat) (v : Int32) : Nat → Int32 := fun j => if j < n then v else f j
section CW2
variable {p : Program} {l : Launch} {e : Env} {R : Room} {s : State} {m : MethodId} {args : Array Value} {below : List Frame} {meth : Method} {c : Code} {H : Heap} {locs : List Loc} {cells slots : Nat} {Q : State → Prop}
variable {cc : ByteArray} {nL pc : Nat} {ls : Array Slot} {rest st0 : List Value} {D : va_G} {A : Nat → Prop} {q : Nat → Nat} {Ts : List Cond} {own : String}
variable {cI cJ cZ cP cS : ClassId} {K : Nat → Nat} {n : Nat} {S : Nat → Nat → Int32} {L : Nat → Int64} {Rr : Nat → Option Nat}
theorem c_millAt (C : CallFix p m c cc nL s args Ts own) (hW : hw D (tyC cI cJ cZ cP cS) q (29 + 2 * n) (gC q cI cJ cZ cP cS K n S L Rr) A s H locs) {i : Int32} (hin : vp_in i 8) (hd : decode cc pc = .ok (.aaload, 1))
    (kk : ∀ o : Option Nat, o = (if i.toNatClampNeg < n then some i.toNatClampNeg else none) → W p l e R s m args below meth c H locs cells slots Q (F0 m (pc + 1) ls (va_rf (Option.map (qM q) o) :: rest))) : W p l e R s m args below meth c H locs cells slots Q (F0 m pc ls (.int i :: .ref (q 1) :: rest)) :=
  r_aald C hW 1 3 (by omega) (cA := cP) (Cn := "BallMinder$Plain") (n := 8) (f := fun j => Option.map (qM q) (if j < n then some j else none)) rfl rfl hin hd (kk _ rfl)
theorem c_sheetAt (C : CallFix p m c cc nL s args Ts own) (hW : hw D (tyC cI cJ cZ cP cS) q (29 + 2 * n) (gC q cI cJ cZ cP cS K n S L Rr) A s H locs) {i : Int32} (hin : vp_in i 4) (hd : decode cc pc = .ok (.aaload, 1))
    (kk : W p l e R s m args below meth c H locs cells slots Q (F0 m (pc + 1) ls (.ref (q (21 + 2 * i.toNatClampNeg)) :: rest))) : W p l e R s m args below meth c H locs cells slots Q (F0 m pc ls (.int i :: .ref (q 2) :: rest)) :=
by
  have e4 : (if i.toNatClampNeg < 4 then some i.toNatClampNeg else none) = some i.toNatClampNeg := if_pos (vp_lt hin)
  refine r_aald C hW 2 4 (by omega) (cA := cS) (Cn := "BallMinder$Sheet") (n := 4) (f := fun j => Option.map (qS q) (if j < 4 then some j else none)) rfl rfl hin hd ?_
  show W p l e R s m args below meth c H locs cells slots Q (F0 m (pc + 1) ls (va_rf (Option.map (qS q) (if i.toNatClampNeg < 4 then some i.toNatClampNeg else none)) :: rest))
  rw [e4]
  exact kk
theorem c_copy (C : CallFix p m c cc nL s args Ts own) (hW : hw D (tyC cI cJ cZ cP cS) q (29 + 2 * n) (gC q cI cJ cZ cP cS K n S L Rr) A s H locs) {k0 k1 : Nat} (hk0 : k0 < 4) (hk1 : k1 < 4) {sp dp n' : Int32} (h1 : ¬ sp < 0) (h2 : ¬ dp < 0) (h3 : ¬ n' < 0) (h4 : sp.toNatClampNeg + n'.toNatClampNeg ≤ 60) (h5 : dp.toNatClampNeg + n'.toNatClampNeg ≤ 60) (hml : c.maxLocals = ls.size) {index : Nat}
    (hlink : (Cond.methodLink own index arraycopyName).before args s = true) (hnat : (Cond.native arraycopyName).before args s = true) (hstat : (Cond.static arraycopyName).before args s = true) (hini : (Cond.initialized "java/lang/System").before args s = true) (hframes : 1 ≤ R.frames) (hlocals : (rest.map fun v => v.category).sum + (nativeFrameWords "java/lang/System" "arraycopy" 5 + 11) ≤ R.locals) (hd : decode cc pc = .ok (.invokestatic index, 3))
    (kk : ∀ (H1 : Heap) (locs1 : List Loc), hw D (tyC cI cJ cZ cP cS) q (29 + 2 * n) (gC q cI cJ cZ cP cS K n (va_up S (22 + 2 * k1) (va_cpy (S (22 + 2 * k0)) (S (22 + 2 * k1)) sp.toNatClampNeg dp.toNatClampNeg n'.toNatClampNeg)) L Rr) A s H1 locs1 → W p l e R s m args below meth c H1 locs1 cells slots Q (F0 m (pc + 3) ls rest)) : W p l e R s m args below meth c H locs cells slots Q (F0 m pc ls (.int n' :: .int dp :: .ref (q (22 + 2 * k1)) :: .int sp :: .ref (q (22 + 2 * k0)) :: rest)) := by
  refine va_copyi C.1 C.2.1 hml C.2.2.2.1 hlink hnat hstat hini hW.1 hW.2.1 hW.2.2.1 hW.2.2.2.1 (22 + 2 * k0) (22 + 2 * k1) 0 0 (by rw [wL_get (by omega), gC_cells hk0]) (by rw [wL_get (by omega), gC_cells hk1]) rfl rfl rfl h1 h2 h3 h4 h5 (fun _ _ => rfl) hframes hlocals hd (fun H1 locs1 g1 _ g3 => kk H1 locs1 ?_)
  exact gC_put (by rw [gC_cells hk1, va_up_self]) (hW.put g1 g3)
end CW2
set_option maxRecDepth 100000 in
set_option maxHeartbeats 4000000 in
/-- the JDK's fill, over a row of the class's world -/
theorem mt_fill (l : Launch) (D : va_G) (q : Nat → Nat) (cI cJ cZ cP cS : ClassId) (K : Nat → Nat) (n : Nat) (sz : Nat) (i mm : Nat) (v : Int32) (S : Nat → Nat → Int32) (L : Nat → Int64) (R : Nat → Option Nat) (hi : i < 29 + 2 * n) (hg : ∀ S : Nat → Nat → Int32, gC q cI cJ cZ cP cS K n S L R i = .inl (cI, mm, .inl (S i))) (hm : mm < 2 ^ 31) :
    Met l yJ7_fill_53178 wsJ7_fill_53178 { frames := 0, cells := 0, slots := 0, locals := 0 } (va_Pc [.ref (q i), .int v] (mP D (tyC cI cJ cZ cP cS) q (29 + 2 * n) (gC q cI cJ cZ cP cS K n S L R) sz tX)) (QCv D q cI cJ cZ cP cS K n (fun S1 L1 R1 => S1 = va_up S i (fillF (S i) mm v) ∧ L1 = L ∧ R1 = R) (aQ q (29 + 2 * n) sz)) 0 0 (aQ q (29 + 2 * n) sz) := by
  refine met_w (cc := cJ7_fill_53178) (maxL := 4) (ret := none) (by decide) rfl (Nat.le_of_ble_eq_true rfl) ?_
  intro p e s m below meth c ls C hr hlk hW hX hnm hl
  replace hl : lv_has ls 4 [(0, .ref (q i)), (1, .int v)] := hl
  have key : ∀ (fu j : Nat) (S1 : Nat → Nat → Int32) (H : Heap) (locs : List Loc) (ls : Array Slot), j ≤ mm → mm - j < fu → S1 = va_up S i (fillF (S i) j v) → hw D (tyC cI cJ cZ cP cS) q (29 + 2 * n) (gC q cI cJ cZ cP cS K n S1 L R) (aQ q (29 + 2 * n) sz) s H locs → lv_has ls 4 [(0, .ref (q i)), (1, .int v), (2, .int (nI j)), (3, .int (nI mm))] →
      W p l e (headSpec wsJ7_fill_53178 { frames := 0, cells := 0, slots := 0, locals := 0 }).room s m ([Value.ref (q i), Value.int v] : List Value).toArray below meth c H locs 0 0 (MQ below (QCv D q cI cJ cZ cP cS K n (fun S1 L1 R1 => S1 = va_up S i (fillF (S i) mm v) ∧ L1 = L ∧ R1 = R) (aQ q (29 + 2 * n) sz)) ([Value.ref (q i), Value.int v] : List Value).toArray s 0 0 (aQ q (29 + 2 * n) sz)) (F0 m 5 ls []) := by
    intro fu
    induction fu with
    | zero => intro j S1 H locs ls h1 h2; exact absurd h2 (Nat.not_lt_zero _)
    | succ fu ih =>
      intro j S1 H locs ls h1 h2 h3 hW hl
      refine lv_iload_n C.1 C.2.1 dJ7_fill_53178_5 rfl (lv_at hl 2 rfl) ?_
      refine lv_iload_n C.1 C.2.1 dJ7_fill_53178_6 rfl (lv_at hl 3 rfl) ?_
      refine lv_icmp_ge (tgt := 20) C.1 C.2.1 dJ7_fill_53178_7 (by decide) (fun c1 => ?_) (fun c1 => ?_)
      · have hj : j = mm := by
          have := (nI_leI hm (by omega)).mp c1
          omega
        subst hj
        exact t_v C hr hlk (u := (S1, L, R)) hW.2.2.2.1 hW.B ⟨h3, rfl, rfl⟩ dJ7_fill_53178_20
      · have hj : j < mm := by
          rcases Nat.lt_or_ge j mm with z | z
          · exact z
          · exact absurd ((nI_leI hm (by omega)).mpr z) c1
        refine lv_aload_n C.1 C.2.1 dJ7_fill_53178_10 rfl (lv_at hl 0 rfl) ?_
        refine lv_iload_n C.1 C.2.1 dJ7_fill_53178_11 rfl (lv_at hl 2 rfl) ?_
        refine lv_iload_n C.1 C.2.1 dJ7_fill_53178_12 rfl (lv_at hl 1 rfl) ?_
        refine r_iast C hW (cA := cI) (n := mm) (f := S1 i) i 0 hi (hg S1) rfl (vp_in_nI hj hm) dJ7_fill_53178_13 (fun H locs hW => ?_)
        replace hW := gC_put (F := upd (S1 i) (nI j).toNatClampNeg v) (by rw [hg, va_up_self]) hW
        refine lv_iinc (v := nI (j + 1)) (lv' := [(2, .int (nI (j + 1))), (0, .ref (q i)), (1, .int v), (3, .int (nI mm))]) C.1 C.2.1 dJ7_fill_53178_14 hl (k := 2) rfl (nI_1 j) (by decide) rfl (fun ls hl => ?_)
        refine lv_goto (tgt := 5) C.1 C.2.1 dJ7_fill_53178_17 (by decide) ?_
        refine ih (j + 1) _ _ _ _ (by omega) (by omega) ?_ hW (lv_sub hl [1, 2, 0, 3] rfl)
        rw [nI_clamp (by omega), h3]
        funext a b
        by_cases ha : a = i
        · subst ha
          simp only [va_up, if_true, upd, fillF]
          by_cases hb : b = j
          · subst hb; simp
          · by_cases hb2 : b < j
            · have : b < j + 1 := by omega
              simp [hb, hb2, this]
            · have : ¬ b < j + 1 := by omega
              simp [hb, hb2, this]
        · simp [va_up, ha]
  refine lv_iconst (v := 0) C.1 C.2.1 dJ7_fill_53178_0 (by decide) ?_
  refine lv_istore_n (lv' := [(2, .int 0), (0, .ref (q i)), (1, .int v)]) C.1 C.2.1 dJ7_fill_53178_1 rfl hl (by decide) rfl (fun ls hl => ?_)
  refine lv_aload_n C.1 C.2.1 dJ7_fill_53178_2 rfl (lv_at hl 1 rfl) ?_
  refine r_alen C hW i 0 hi (hg S) rfl (v := nI mm) rfl dJ7_fill_53178_3 ?_
  refine lv_istore_n (lv' := [(3, .int (nI mm)), (2, .int 0), (0, .ref (q i)), (1, .int v)]) C.1 C.2.1 dJ7_fill_53178_4 rfl hl (by decide) rfl (fun ls hl => ?_)
  refine key (mm + 1) 0 S _ _ _ (Nat.zero_le _) (by omega) ?_ hW (lv_sub (l' := [(0, .ref (q i)), (1, .int v), (2, .int (nI 0)), (3, .int (nI mm))]) hl [2, 3, 1, 0] rfl)
  funext a b
  by_cases ha : a = i
  · subst ha; simp [va_up, fillF]
  · simp [va_up, ha]
theorem c_fill {p : Program} {l : Launch} {e : Env} {R : Room} {s : State} {m : MethodId} {args : Array Value} {below : List Frame} {meth : Method} {c : Code} {H : Heap} {locs : List Loc} {Q : State → Prop} {cc : ByteArray} {nL pc : Nat} {ls : Array Slot} {rest : List Value} {D : va_G} {A : Nat → Prop} {q : Nat → Nat} {Ts : List Cond} {own : String} {cI cJ cZ cP cS : ClassId} {K : Nat → Nat} {n : Nat} {S : Nat → Nat → Int32} {L : Nat → Int64} {Rr : Nat → Option Nat}
    (C : CallFix p m c cc nL s args Ts own) (hW : hw D (tyC cI cJ cZ cP cS) q (29 + 2 * n) (gC q cI cJ cZ cP cS K n S L Rr) A s H locs) {i mm index : Nat} {v : Int32} (hi : i < 29 + 2 * n) (hg : ∀ S : Nat → Nat → Int32, gC q cI cJ cZ cP cS K n S L Rr i = .inl (cI, mm, .inl (S i))) (hm : mm < 2 ^ 31) (hG : GoodIn Ts (va_wsS own index yJ7_fill_53178 wsJ7_fill_53178)) (hR : 0 + 1 ≤ R.frames ∧ 8 + (4 + 11) + 0 ≤ R.locals) (hls : ls.size = nL) (hroom : 2 * (F0 m pc ls (.int v :: .ref (q i) :: rest)).monitorRoom + (rest.map fun v => v.category).sum ≤ 8) (hd : decode cc pc = .ok (.invokestatic index, 3))
    (kk : ∀ (H1 : Heap) (locs1 : List Loc), hw D (tyC cI cJ cZ cP cS) q (29 + 2 * n) (gC q cI cJ cZ cP cS K n (va_up S i (fillF (S i) mm v)) L Rr) A s H1 locs1 → W p l e R s m args below meth c H1 locs1 0 0 Q (F0 m (pc + 3) ls rest)) : W p l e R s m args below meth c H locs 0 0 Q (F0 m pc ls (.int v :: .ref (q i) :: rest)) := by
  refine k_v hW (va_runS (As := [.ref (q i), .int v]) (rest := rest) C (mt_fill l D q cI cJ cZ cP cS K n H.size i mm v S L Rr hi hg hm) (va_cwS 2 C.2.2.2.2 hG rfl rfl rfl (by decide +kernel) hR) ⟨mP_blind tX_B, fun U hU hV => ⟨rfl, hW.pre hU hV trivial⟩⟩ rfl rfl hls rfl hroom hd ⟨Nat.zero_le _, Nat.zero_le _⟩) (fun u H1 locs1 h hV => ?_)
  obtain ⟨S1, L1, R1⟩ := u
  obtain ⟨e1, e2, e3⟩ := h
  replace hV : hw D (tyC cI cJ cZ cP cS) q (29 + 2 * n) (gC q cI cJ cZ cP cS K n S1 L1 R1) A s H1 locs1 := hV
  rw [show S1 = _ from e1, show L1 = _ from e2, show R1 = _ from e3] at hV
  exact kk H1 locs1 hV
