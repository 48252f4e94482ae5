/-! the law: both worlds side by side -/
def lA (s : State) : Nat → Prop := fun x => s.heap.size ≤ x
theorem hw.keptO {D : va_G} {tys : List (ClassId × FieldType)} {q q2 : Nat → Nat} {N N2 : Nat} {g2 : Nat → va_E} {A : Nat → Prop} {s : State} {H H1 : Heap} {locs locs1 : List Loc} (hO : hw D tys q2 N2 g2 A s H locs) (hdis : ∀ i, i < N → ∀ j, j < N2 → q i ≠ q2 j) (hk : ∀ x : Nat, x < H.size → ¬ aQ q N H.size x → H1[x]? = H[x]?) (hS : va_S A s.heap H1 locs1) : hw D tys q2 N2 g2 A s H1 locs1 := by
  refine ⟨hO.1, hO.2.1.kept (fun k x hx => ?_), hO.2.2.1, hS, hO.2.2.2.2⟩
  have hl := (hO.2.1 k x hx).lt
  obtain ⟨hk2, rfl⟩ := wL_inv hx
  refine hk _ hl (fun h => ?_)
  rcases h with ⟨i, hi, e⟩ | h
  · exact hdis i hi k hk2 e.symm
  · exact absurd hl (Nat.not_lt.mpr h)
def LW (D : va_G) (cI cJ cZ cP cS cI2 : ClassId) (q q2 : Nat → Nat) (K : Nat → Nat) (n : Nat) (S : Nat → Nat → Int32) (L : Nat → Int64) (R : Nat → Option Nat) (f : Nat → Int32) (a : Nat → Nat → Int32) (s : State) (H : Heap) (locs : List Loc) : Prop :=
  hw D (tyC cI cJ cZ cP cS) q (29 + 2 * n) (gC q cI cJ cZ cP cS K n S L R) (lA s) s H locs ∧ hw D [(cI2, .int)] q2 12 (gM q2 cI2 f a) (lA s) s H locs ∧ (∀ i, i < 29 + 2 * n → ∀ j, j < 12 → q i ≠ q2 j) ∧ Jv K n S R f a
section LB
variable {p : Program} {l : Launch} {e : Env} {R : Room} {s : State} {m : MethodId} {args : Array Value} {below : List Frame} {meth : Method} {c : Code} {H : Heap} {locs : List Loc} {cells slots : Nat} {Q : State → Prop}
variable {pc : Nat} {ls : Array Slot} {rest st0 : List Value} {D : va_G} {A : Nat → Prop} {tys tys2 : List (ClassId × FieldType)} {q q2 : Nat → Nat} {N N2 : Nat} {g g2 : Nat → va_E}
theorem kL_i (hW : hw D tys q N g A s H locs) (hO : hw D tys2 q2 N2 g2 A s H locs) (hdis : ∀ i, i < N → ∀ j, j < N2 → q i ≠ q2 j) {S : Type} {Qv : Int32 → S → Prop} {G : S → Nat → va_E} {aa : Array Value} (hr : va_Run p l e R s m args below meth c H locs cells slots 0 0 (F0 m pc ls st0) rest (va_Qi Qv (fun u t => va_P D vwCl (wL q N (G u)) t.heap) (aQ q N H.size) aa) (aQ q N H.size))
    (kk : ∀ (r : Int32) (u : S) (H1 : Heap) (locs1 : List Loc), Qv r u → hw D tys q N (G u) A s H1 locs1 → hw D tys2 q2 N2 g2 A s H1 locs1 → W p l e R s m args below meth c H1 locs1 cells slots Q (F0 m (pc + 3) ls (.int r :: rest))) : W p l e R s m args below meth c H locs cells slots Q (F0 m pc ls st0) :=
  va_calli hr hW.2.2.2.1 (fun x _ h => hW.sub x h) hW.sub (fun r u _ H1 locs1 ht _ hp hb _ hk hS => kk r u H1 locs1 hp (hW.after ht hb hS) (hO.keptO hdis hk hS))
theorem kL_l (hW : hw D tys q N g A s H locs) (hO : hw D tys2 q2 N2 g2 A s H locs) (hdis : ∀ i, i < N → ∀ j, j < N2 → q i ≠ q2 j) {S : Type} {Qv : Int64 → S → Prop} {G : S → Nat → va_E} {aa : Array Value} (hr : va_Run p l e R s m args below meth c H locs cells slots 0 0 (F0 m pc ls st0) rest (va_Ql Qv (fun u t => va_P D vwCl (wL q N (G u)) t.heap) (aQ q N H.size) aa) (aQ q N H.size))
    (kk : ∀ (r : Int64) (u : S) (H1 : Heap) (locs1 : List Loc), Qv r u → hw D tys q N (G u) A s H1 locs1 → hw D tys2 q2 N2 g2 A s H1 locs1 → W p l e R s m args below meth c H1 locs1 cells slots Q (F0 m (pc + 3) ls (.long r :: rest))) : W p l e R s m args below meth c H locs cells slots Q (F0 m pc ls st0) :=
  va_calll hr hW.2.2.2.1 (fun x _ h => hW.sub x h) hW.sub (fun r u _ H1 locs1 ht _ hp hb _ hk hS => kk r u H1 locs1 hp (hW.after ht hb hS) (hO.keptO hdis hk hS))
theorem kL_m {cI cJ cZ cP cS : ClassId} {K : Nat → Nat} {n : Nat} {S : Nat → Nat → Int32} {L : Nat → Int64} {Rr : Nat → Option Nat} (hW : hw D (tyC cI cJ cZ cP cS) q (29 + 2 * n) (gC q cI cJ cZ cP cS K n S L Rr) A s H locs) (hO : hw D tys2 q2 N2 g2 A s H locs) (hdis : ∀ i, i < 29 + 2 * n → ∀ j, j < N2 → q i ≠ q2 j) {Q6 : Int32 → (Nat → Nat) → Nat → (Nat → Nat → Int32) → (Nat → Int64) → (Nat → Option Nat) → Prop} {aa : Array Value} (hr : va_Run p l e R s m args below meth c H locs cells slots 2 11 (F0 m pc ls st0) rest (QCmill D cI cJ cZ cP cS (q 0) Q6 (aQ q (29 + 2 * n) H.size) aa) (aQ q (29 + 2 * n) H.size))
    (kk : ∀ (r : Int32) (q1 : Nat → Nat) (K1 : Nat → Nat) (n1 : Nat) (S1 : Nat → Nat → Int32) (L1 : Nat → Int64) (R1 : Nat → Option Nat) (H1 : Heap) (locs1 : List Loc), Q6 r K1 n1 S1 L1 R1 → q1 0 = q 0 → hw D (tyC cI cJ cZ cP cS) q1 (29 + 2 * n1) (gC q1 cI cJ cZ cP cS K1 n1 S1 L1 R1) A s H1 locs1 → hw D tys2 q2 N2 g2 A s H1 locs1 → (∀ i, i < 29 + 2 * n1 → ∀ j, j < N2 → q1 i ≠ q2 j) → W p l e R s m args below meth c H1 locs1 (cells + 2) (slots + 11) Q (F0 m (pc + 3) ls (.int r :: rest))) : W p l e R s m args below meth c H locs cells slots Q (F0 m pc ls st0) := by
  refine va_calli hr hW.2.2.2.1 (fun x _ h => hW.sub x h) hW.sub (fun r u t H1 locs1 ht _ hp hb _ hk hS => ?_)
  obtain ⟨q1, K1, n1, S1, L1, R1⟩ := u
  obtain ⟨hP1, hD1, hq0⟩ := hb
  try dsimp only at hp hP1 hD1 hq0
  rw [ht] at hP1
  refine kk r q1 K1 n1 S1 L1 R1 H1 locs1 hp hq0 ⟨hW.1, hP1, hD1.weaken (fun k x _ h => hW.sub x.1 h), hS, hW.2.2.2.2⟩ (hO.keptO hdis hk hS) (fun i hi j hj e => ?_)
  have h1 := hD1.2 i _ (wL_get hi)
  have hl := (hO.2.1 j _ (wL_get hj)).lt
  rcases h1 with ⟨i0, hi0, e0⟩ | h1
  · exact hdis i0 hi0 j hj (e0.symm.trans e)
  · have e2 : q1 i = q2 j := e
    have h1' : H.size ≤ q1 i := h1
    have hl' : q2 j < H.size := hl
    omega
end LB
