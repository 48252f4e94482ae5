set_option maxHeartbeats 4000000 in
set_option maxRecDepth 100000 in
/-- the law, from its entry -/
theorem whole_start {p : Program} {e : Env} {s : State} {m : MethodId} {below : List Frame} {meth : Method} {c : Code} (l : Launch) {b L : Nat} {xs : Nat → Int32} (hL : L ≤ 3584) (C0 : lw_At p s m meth c b L xs) : W p l e room_1 s m #[Value.ref b] below meth c s.heap [] 0 0 (lw_Z below #[Value.ref b] s) (entryFrame m ([Value.ref b] : List Value).toArray 4) := by
  obtain ⟨hx, hb, hr, hml, hown, hts, hX, hbl, hlocks, hgv⟩ := id C0
  have hA : ∀ q : Nat, s.heap.size ≤ q → lA s q := fun _ h => h
  have hcx := law_cx hts hgv
  obtain ⟨D, hK⟩ := law_K hts
  have hown' : s.vm.findClass RL = some m.cls := hown
  have htsL : ∀ w ∈ wsL_law, w.before #[Value.ref b] s = true := fun w hw => hts w (wsL_law_in w hw)
  have C : CallFix p m c cL_law 4 s #[Value.ref b] wsL_law RL := ⟨hx, hb, hml, hown', htsL⟩
  have hb' : c.code = cL_law := hb
  have hS : va_S (lA s) s.heap s.heap [] := va_S.rf
  have hP : va_P D vwCl [] s.heap := fun k q h => by simp at h
  have hD : va_D (lA s) [] := ⟨fun i j p q h => by simp at h, fun k q h => by simp at h⟩
  have hl := lv_entry ([.ref b]) (n := 4) (Nat.le_of_ble_eq_true rfl)
  rw [lg_entry_eq]
  generalize (lg_sl ([.ref b]) ++ List.replicate (4 - (lg_sl ([.ref b])).length) Slot.unset).toArray = ls at hl ⊢
  have hl : lv_has ls 4 [(0, .ref b)] := hl
  refine va_new (ci := 10) (fs := [.null, .null, .null, .null, .null, .null, .null, .null, .int 0, .int 0, .int 0]) (C := RX10) (T := TX10) (N := 11) hx hb' hts wsL_in_wsX100 tyX10 tyX10_ok hown' (hts (.classLink RL 7 RX10) (by decide +kernel)) (hts (.instantiable RX10 11) (by decide +kernel)) (hts (.initialized RX10) (by decide +kernel)) hK hP hD hS hA rfl (fun j hj => by rcases (show j = 0 ∨ j = 1 ∨ j = 2 ∨ j = 3 ∨ j = 4 ∨ j = 5 ∨ j = 6 ∨ j = 7 ∨ j = 8 ∨ j = 9 ∨ j = 10 by omega) with rfl | rfl | rfl | rfl | rfl | rfl | rfl | rfl | rfl | rfl | rfl <;> rfl) (Nat.le_of_ble_eq_true rfl) (Nat.le_of_ble_eq_true rfl) dL_law_0 (fun h0 H hP hD hS => ?_)
  have hP : va_P D vwCl [(h0, .inr (10, [.null, .null, .null, .null, .null, .null, .null, .null, .int 0, .int 0, .int 0]))] H := hP
  have hD : va_D (lA s) [(h0, .inr (10, [.null, .null, .null, .null, .null, .null, .null, .null, .int 0, .int 0, .int 0]))] := hD
  refine W.widen (k := 1) (n := 11) (Nat.le_refl _) (Nat.le_refl _) ?_
  refine lv_dup hx hb' dL_law_3 rfl ?_
  have hFc : ∀ x, va_A [(h0, .inr (10, [.null, .null, .null, .null, .null, .null, .null, .null, .int 0, .int 0, .int 0]))] H.size x → lA s x := va_free (wc := [(h0, .inr (10, [.null, .null, .null, .null, .null, .null, .null, .null, .int 0, .int 0, .int 0]))]) hD hS hA [0] rfl
  refine va_callv (va_runI (As := []) (rest := [.ref h0]) C (mtX10_init l D H.size h0) (cwI 0 htsL gL_law_X10_init rfl rfl rfl (hts (.initialized RX10) (by decide +kernel)) (hts (.methodLink RL 9 yX10_init) (by decide +kernel)) (hts (.instanceMethod yX10_init) (by decide +kernel)) rfl (by decide +kernel) ⟨Nat.le_of_ble_eq_true rfl, Nat.le_of_ble_eq_true rfl⟩) ⟨fun a U g mk q => by obtain ⟨q0, q1, qP, qK, qD, qn, qa, qb⟩ := q; exact ⟨q0, q1, qP, va_K.moved (u := U) (U := U.calling g mk a) (Vm.Alike.refl U.vm) qK, qD, fun w hw => va_Nw.same (nestW_on w hw) (u := U) (U := U.calling g mk a) rfl (qn w hw), va_AO.moved (u := U) (U := U.calling g mk a) (Vm.Alike.refl U.vm) qa, va_AO.moved (u := U) (U := U.calling g mk a) (Vm.Alike.refl U.vm) qb⟩, fun U hU hW => ⟨rfl, by rw [hU], by rw [hU]; exact hP, va_K.moved hW.alike hK, hD.weaken (fun _ _ _ _ => trivial), hcx.1.warm hW, va_AO.moved hW.alike (va_AO.of (hts (.arrayOver (.object "BallMinder$Plain")) (by decide +kernel))), va_AO.moved hW.alike (va_AO.of (hts (.arrayOver (.object "BallMinder$Sheet")) (by decide +kernel)))⟩⟩ rfl rfl hl.1 rfl (lv_room (Nat.le_of_ble_eq_true rfl)) dL_law_4 ⟨Nat.le_of_ble_eq_true rfl, Nat.le_of_ble_eq_true rfl⟩) hS (fun q _ h => hFc q h) hFc (fun u t H1 locs ht hvm hpt hB hz1 hk1 hS => ?_)
  obtain ⟨x1, c2, x3, c4, x5, c6, x7, x8, x10, c11, x13, x14, c15, x16, x17, x19, x20, x21, x22, x23, x24, x25, x26, x28, x29, x31, x32, x36, x37, x41, x42, x46, x47, hP1, hK1, hD1⟩ := hB
  rw [ht] at hP1
  have hK1 := va_K.moved hvm.symm hK1
  have hP2 := hP1.sub (ws' := [(h0, .inr (10, [.ref x1, .ref x3, .ref x5, .ref x7, .ref x13, .ref x16, .ref x28, .ref x29, .int 0, .int 0, .int 0])), (x1, .inl (c2, 8, .inr (.inr (.inr (.inr (fun _ => none)))))), (x3, .inl (c4, 4, .inr (.inr (.inr (.inr (va_up (va_up (va_up (va_up (fun _ => none) 0 (some x31)) 1 (some x36)) 2 (some x41)) 3 (some x46))))))), (x5, .inl (c6, 30, .inl (fun _ => 0))), (x7, .inr (0, [.ref x8, .ref x10, .null, .int 0, .int 0])), (x8, .inl (c6, 9, .inl (fun _ => 0))), (x10, .inl (c11, 9, .inl (fun _ => 0))), (x13, .inr (8, [.ref x14, .int 0])), (x14, .inl (c15, 5, .inr (.inl (fun _ => 0)))), (x16, .inr (5, [.ref x17, .ref x19, .ref x22, .ref x25, .ref x26, .int 0, .int 0, .int 0, .int 0, .int 0, .int 0, .int 0, .int 0])), (x17, .inl (c6, 304, .inl (fun _ => 0))), (x25, .inl (c6, 256, .inl (fun _ => 0))), (x26, .inl (c6, 301, .inl (fun _ => 0))), (x28, .inr (1, [.int 0, .int 0, .int 0])), (x29, .inr (9, [.int 0])), (x19, .inr (2, [.ref x20, .ref x21, .null])), (x20, .inl (c6, 301, .inl (fun _ => 0))), (x21, .inl (c6, 301, .inl (fun _ => 0))), (x22, .inr (2, [.ref x23, .ref x24, .null])), (x23, .inl (c6, 301, .inl (fun _ => 0))), (x24, .inl (c6, 301, .inl (fun _ => 0))), (x31, .inr (6, [.ref x32, .int 0, .int 0, .int 0])), (x32, .inl (c6, 60, .inl (fun _ => 0))), (x36, .inr (6, [.ref x37, .int 0, .int 0, .int 0])), (x37, .inl (c6, 60, .inl (fun _ => 0))), (x41, .inr (6, [.ref x42, .int 0, .int 0, .int 0])), (x42, .inl (c6, 60, .inl (fun _ => 0))), (x46, .inr (6, [.ref x47, .int 0, .int 0, .int 0])), (x47, .inl (c6, 60, .inl (fun _ => 0)))]) [0, 1, 2, 3, 4, 5, 6, 7, 8, 9, 10, 17, 18, 19, 20, 11, 12, 13, 14, 15, 16, 21, 22, 23, 24, 25, 26, 27, 28] rfl
  have hD2 := (hD1.weaken (B := lA s) (fun _ x _ h => hFc x.1 h)).sub (ws' := [(h0, .inr (10, [.ref x1, .ref x3, .ref x5, .ref x7, .ref x13, .ref x16, .ref x28, .ref x29, .int 0, .int 0, .int 0])), (x1, .inl (c2, 8, .inr (.inr (.inr (.inr (fun _ => none)))))), (x3, .inl (c4, 4, .inr (.inr (.inr (.inr (va_up (va_up (va_up (va_up (fun _ => none) 0 (some x31)) 1 (some x36)) 2 (some x41)) 3 (some x46))))))), (x5, .inl (c6, 30, .inl (fun _ => 0))), (x7, .inr (0, [.ref x8, .ref x10, .null, .int 0, .int 0])), (x8, .inl (c6, 9, .inl (fun _ => 0))), (x10, .inl (c11, 9, .inl (fun _ => 0))), (x13, .inr (8, [.ref x14, .int 0])), (x14, .inl (c15, 5, .inr (.inl (fun _ => 0)))), (x16, .inr (5, [.ref x17, .ref x19, .ref x22, .ref x25, .ref x26, .int 0, .int 0, .int 0, .int 0, .int 0, .int 0, .int 0, .int 0])), (x17, .inl (c6, 304, .inl (fun _ => 0))), (x25, .inl (c6, 256, .inl (fun _ => 0))), (x26, .inl (c6, 301, .inl (fun _ => 0))), (x28, .inr (1, [.int 0, .int 0, .int 0])), (x29, .inr (9, [.int 0])), (x19, .inr (2, [.ref x20, .ref x21, .null])), (x20, .inl (c6, 301, .inl (fun _ => 0))), (x21, .inl (c6, 301, .inl (fun _ => 0))), (x22, .inr (2, [.ref x23, .ref x24, .null])), (x23, .inl (c6, 301, .inl (fun _ => 0))), (x24, .inl (c6, 301, .inl (fun _ => 0))), (x31, .inr (6, [.ref x32, .int 0, .int 0, .int 0])), (x32, .inl (c6, 60, .inl (fun _ => 0))), (x36, .inr (6, [.ref x37, .int 0, .int 0, .int 0])), (x37, .inl (c6, 60, .inl (fun _ => 0))), (x41, .inr (6, [.ref x42, .int 0, .int 0, .int 0])), (x42, .inl (c6, 60, .inl (fun _ => 0))), (x46, .inr (6, [.ref x47, .int 0, .int 0, .int 0])), (x47, .inl (c6, 60, .inl (fun _ => 0)))]) [0, 1, 2, 3, 4, 5, 6, 7, 8, 9, 10, 17, 18, 19, 20, 11, 12, 13, 14, 15, 16, 21, 22, 23, 24, 25, 26, 27, 28] (by decide) rfl
  rw [← law_w10 h0 x1 c2 x3 c4 x5 c6 x7 x8 x10 c11 x13 x14 c15 x16 x17 x19 x20 x21 x22 x23 x24 x25 x26 x28 x29 x31 x32 x36 x37 x41 x42 x46 x47] at hP2 hD2
  have hKC : va_K D vwCl (tyC c6 c15 c11 c2 c4) s := hK1.sub [2, 4, 3, 0, 1] rfl
  have hCw : hw D (tyC c6 c15 c11 c2 c4) (q10 h0 x1 x3 x5 x7 x8 x10 x13 x14 x16 x17 x25 x26 x28 x29 x19 x20 x21 x22 x23 x24 x31 x32 x36 x37 x41 x42 x46 x47) (29 + 2 * 0) (gC (q10 h0 x1 x3 x5 x7 x8 x10 x13 x14 x16 x17 x25 x26 x28 x29 x19 x20 x21 x22 x23 x24 x31 x32 x36 x37 x41 x42 x46 x47) c6 c15 c11 c2 c4 (fun _ => 0) 0 (fun _ _ => 0) (fun _ => 0) (fun _ => none)) (lA s) s H1 locs := ⟨hKC, hP2, hD2, hS, hA⟩
  have q0e : (q10 h0 x1 x3 x5 x7 x8 x10 x13 x14 x16 x17 x25 x26 x28 x29 x19 x20 x21 x22 x23 x24 x31 x32 x36 x37 x41 x42 x46 x47) 0 = h0 := rfl
  generalize (q10 h0 x1 x3 x5 x7 x8 x10 x13 x14 x16 x17 x25 x26 x28 x29 x19 x20 x21 x22 x23 x24 x31 x32 x36 x37 x41 x42 x46 x47) = q at hCw hP2 hD2 q0e
  subst q0e
  refine W.widen (k := 29) (n := 2427) (Nat.le_refl _) (Nat.le_refl _) ?_
  refine lv_astore_n (lv' := [(1, .ref (q 0)), (0, .ref b)]) hx hb' dL_law_7 rfl hl (by decide) rfl (fun ls hl => ?_)
  refine va_new (ci := 11) (fs := [.int 0, .int 0, .null, .null, .null, .int 0, .int 0, .int 0, .int 0, .null, .null, .null, .int 0, .int 0, .int 0, .null, .null, .null, .null, .null, .int 0]) (C := RX11) (T := TX11) (N := 21) hx hb' hts wsL_in_wsX110 tyX11 tyX11_ok hown' (hts (.classLink RL 10 RX11) (by decide +kernel)) (hts (.instantiable RX11 21) (by decide +kernel)) (hts (.initialized RX11) (by decide +kernel)) hK hCw.2.1 hCw.2.2.1 hS hA rfl (fun j hj => by rcases (show j = 0 ∨ j = 1 ∨ j = 2 ∨ j = 3 ∨ j = 4 ∨ j = 5 ∨ j = 6 ∨ j = 7 ∨ j = 8 ∨ j = 9 ∨ j = 10 ∨ j = 11 ∨ j = 12 ∨ j = 13 ∨ j = 14 ∨ j = 15 ∨ j = 16 ∨ j = 17 ∨ j = 18 ∨ j = 19 ∨ j = 20 by omega) with rfl | rfl | rfl | rfl | rfl | rfl | rfl | rfl | rfl | rfl | rfl | rfl | rfl | rfl | rfl | rfl | rfl | rfl | rfl | rfl | rfl <;> rfl) (Nat.le_of_ble_eq_true rfl) (Nat.le_of_ble_eq_true rfl) dL_law_8 (fun g0 H2 hP hD hS => ?_)
  refine W.widen (k := 30) (n := 2448) (Nat.le_refl _) (Nat.le_refl _) ?_
  refine lv_dup hx hb' dL_law_11 rfl ?_
  have hlen : (wL q (29 + 2 * 0) (gC q c6 c15 c11 c2 c4 (fun _ => 0) 0 (fun _ _ => 0) (fun _ => 0) (fun _ => none))).length = 29 := by simp [wL]
  have h29 : (wL q (29 + 2 * 0) (gC q c6 c15 c11 c2 c4 (fun _ => 0) 0 (fun _ _ => 0) (fun _ => 0) (fun _ => none)) ++ [(g0, .inr (11, [.int 0, .int 0, .null, .null, .null, .int 0, .int 0, .int 0, .int 0, .null, .null, .null, .int 0, .int 0, .int 0, .null, .null, .null, .null, .null, .int 0]))])[29]? = some (g0, .inr (11, [.int 0, .int 0, .null, .null, .null, .int 0, .int 0, .int 0, .int 0, .null, .null, .null, .int 0, .int 0, .int 0, .null, .null, .null, .null, .null, .int 0])) := by rw [List.getElem?_append_right (by rw [hlen]; omega), hlen]; rfl
  have hPg : va_P D vwCl [(g0, .inr (11, [.int 0, .int 0, .null, .null, .null, .int 0, .int 0, .int 0, .int 0, .null, .null, .null, .int 0, .int 0, .int 0, .null, .null, .null, .null, .null, .int 0]))] H2 := fun k x hk => hP (29 + k) x (by rw [List.getElem?_append_right (by rw [hlen]; omega), hlen, show 29 + k - 29 = k by omega]; exact hk)
  have gA : lA s g0 := hD.2 29 (g0, .inr (11, [.int 0, .int 0, .null, .null, .null, .int 0, .int 0, .int 0, .int 0, .null, .null, .null, .int 0, .int 0, .int 0, .null, .null, .null, .null, .null, .int 0])) h29
  have gD : ∀ i, i < 29 + 2 * 0 → q i ≠ g0 := fun i hi e => by
    have h3 := hD.1 i 29 (q i, (gC q c6 c15 c11 c2 c4 (fun _ => 0) 0 (fun _ _ => 0) (fun _ => 0) (fun _ => none)) i) (g0, .inr (11, [.int 0, .int 0, .null, .null, .null, .int 0, .int 0, .int 0, .int 0, .null, .null, .null, .int 0, .int 0, .int 0, .null, .null, .null, .null, .null, .int 0])) (by rw [List.getElem?_append_left (by rw [hlen]; omega)]; exact wL_get hi) h29 e
    omega
  have hDg : va_D (lA s) [(g0, .inr (11, [.int 0, .int 0, .null, .null, .null, .int 0, .int 0, .int 0, .int 0, .null, .null, .null, .int 0, .int 0, .int 0, .null, .null, .null, .null, .null, .int 0]))] := ⟨fun i j x y h1 h2 _ => by
    have a1 := (List.getElem?_eq_some_iff.mp h1).1
    have a2 := (List.getElem?_eq_some_iff.mp h2).1
    simp at a1 a2
    omega, fun k x hk => by
    have a1 := (List.getElem?_eq_some_iff.mp hk).1
    simp at a1
    subst a1
    cases hk
    exact gA⟩
  have hPq : va_P D vwCl (wL q (29 + 2 * 0) (gC q c6 c15 c11 c2 c4 (fun _ => 0) 0 (fun _ _ => 0) (fun _ => 0) (fun _ => none))) H2 := fun k x hk => hP k x (by rw [List.getElem?_append_left (List.getElem?_eq_some_iff.mp hk).1]; exact hk)
  have hCw2 : hw D (tyC c6 c15 c11 c2 c4) q (29 + 2 * 0) (gC q c6 c15 c11 c2 c4 (fun _ => 0) 0 (fun _ _ => 0) (fun _ => 0) (fun _ => none)) (lA s) s H2 locs := ⟨hKC, hPq, hCw.2.2.1, hS, hA⟩
  have hFg : ∀ x, va_A [(g0, .inr (11, [.int 0, .int 0, .null, .null, .null, .int 0, .int 0, .int 0, .int 0, .null, .null, .null, .int 0, .int 0, .int 0, .null, .null, .null, .null, .null, .int 0]))] H2.size x → lA s x := va_free (wc := [(g0, .inr (11, [.int 0, .int 0, .null, .null, .null, .int 0, .int 0, .int 0, .int 0, .null, .null, .null, .int 0, .int 0, .int 0, .null, .null, .null, .null, .null, .int 0]))]) hDg hS hA [0] rfl
  refine va_callv (va_runI (As := []) (rest := [.ref g0]) C (mtX11_init l D H2.size g0) (cwI 0 htsL gL_law_X11_init rfl rfl rfl (hts (.initialized RX11) (by decide +kernel)) (hts (.methodLink RL 12 yX11_init) (by decide +kernel)) (hts (.instanceMethod yX11_init) (by decide +kernel)) rfl (by decide +kernel) ⟨Nat.le_of_ble_eq_true rfl, Nat.le_of_ble_eq_true rfl⟩) ⟨fun a U g mk q => by obtain ⟨q0, q1, qP, qK, qD⟩ := q; exact ⟨q0, q1, qP, va_K.moved (u := U) (U := U.calling g mk a) (Vm.Alike.refl U.vm) qK, qD⟩, fun U hU hW => ⟨rfl, by rw [hU], by rw [hU]; exact hPg, va_K.moved hW.alike hK, hDg.weaken (fun _ _ _ _ => trivial)⟩⟩ rfl rfl hl.1 rfl (lv_room (Nat.le_of_ble_eq_true rfl)) dL_law_12 ⟨Nat.le_of_ble_eq_true rfl, Nat.le_of_ble_eq_true rfl⟩) hS (fun q _ h => hFg q h) hFg (fun u t H3 locs ht hvm hpt hB hz1 hk2 hS => ?_)
  obtain ⟨y1, d2, y3, y6, y9, y12, y15, y18, y21, y24, y27, y30, hP1, hK1, hD1⟩ := hB
  rw [ht] at hP1
  have hK1 := va_K.moved hvm.symm hK1
  have hD3 := hD1.weaken (B := lA s) (fun _ x _ h => hFg x.1 h)
  have hDA := hD1
  rw [← law_w11 g0 y1 d2 y3 y6 y9 y12 y15 y18 y21 y24 y27 y30] at hP1 hD3 hDA
  have hMw : hw D [(d2, .int)] (q11 g0 y1 y3 y6 y9 y12 y15 y18 y21 y24 y27 y30) 12 (gM (q11 g0 y1 y3 y6 y9 y12 y15 y18 y21 y24 y27 y30) d2 (fun _ => 0) (fun i => if i = 8 then (upd (upd (upd (upd (fun _ => 0) 0 (-1)) 1 (-1)) 2 (-1)) 3 (-1)) else fun _ => 0)) (lA s) s H3 locs := ⟨hK1, hP1, hD3, hS, hA⟩
  have hCw3 : hw D (tyC c6 c15 c11 c2 c4) q (29 + 2 * 0) (gC q c6 c15 c11 c2 c4 (fun _ => 0) 0 (fun _ _ => 0) (fun _ => 0) (fun _ => none)) (lA s) s H3 locs := by
    refine ⟨hKC, hPq.kept (fun k x hx => ?_), hCw.2.2.1, hS, hA⟩
    have hlt := (hPq k x hx).lt
    obtain ⟨hk3, rfl⟩ := wL_inv hx
    refine hk2 _ hlt (fun h => ?_)
    rcases h with ⟨k4, e4, h⟩ | h
    · have a1 := (List.getElem?_eq_some_iff.mp h).1
      simp at a1
      subst a1
      cases h
      exact gD k hk3 rfl
    · exact absurd hlt (Nat.not_lt.mpr h)
  have hdis : ∀ i, i < 29 + 2 * 0 → ∀ j, j < 12 → q i ≠ (q11 g0 y1 y3 y6 y9 y12 y15 y18 y21 y24 y27 y30) j := by
    intro i hi j hj e
    have h1 := hDA.2 j _ (wL_get hj)
    have hlt := (hPq i _ (wL_get hi)).lt
    rcases h1 with ⟨k4, e4, h⟩ | h
    · have a1 := (List.getElem?_eq_some_iff.mp h).1
      simp at a1
      subst a1
      have e5 : g0 = (q11 g0 y1 y3 y6 y9 y12 y15 y18 y21 y24 y27 y30) j := congrArg Prod.fst (Option.some.inj h)
      exact gD i hi (e.trans e5.symm)
    · have e2 : H2.size ≤ (q11 g0 y1 y3 y6 y9 y12 y15 y18 y21 y24 y27 y30) j := h
      have e3 : q i < H2.size := hlt
      omega
  have g0e : (q11 g0 y1 y3 y6 y9 y12 y15 y18 y21 y24 y27 y30) 0 = g0 := rfl
  generalize (q11 g0 y1 y3 y6 y9 y12 y15 y18 y21 y24 y27 y30) = q2 at hMw hdis g0e
  subst g0e
  refine W.widen (k := 41) (n := 4380) (Nat.le_refl _) (Nat.le_refl _) ?_
  refine lv_astore_n (lv' := [(2, .ref (q2 0)), (1, .ref (q 0)), (0, .ref b)]) hx hb' dL_law_15 rfl hl (by decide) rfl (fun ls hl => ?_)
  refine lv_iconst (v := 0) hx hb' dL_law_16 (by decide) ?_
  refine lv_istore_n (lv' := [(3, .int 0), (2, .ref (q2 0)), (1, .ref (q 0)), (0, .ref b)]) hx hb' dL_law_17 rfl hl (by decide) rfl (fun ls hl => ?_)
  exact law_loop C hr hlocks hcx hX hbl hL 513 0 41 4380 q (fun _ => 0) 0 (fun _ _ => 0) (fun _ => 0) (fun _ => none) (fun _ => 0) (fun i => if i = 8 then (upd (upd (upd (upd (fun _ => 0) 0 (-1)) 1 (-1)) 2 (-1)) 3 (-1)) else fun _ => 0) H3 locs ls (by omega) (by omega) (by omega) (by omega) ⟨hCw3, hMw, hdis, law_J⟩ (lv_sub hl [3, 2, 1, 0] rfl)
