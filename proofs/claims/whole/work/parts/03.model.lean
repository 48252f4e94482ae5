/-! the reference's world: place 0 the object, 1 to 11 its rows -/
def fsM (q : Nat → Nat) (f : Nat → Int32) : List Value := [.int (f 0), .int (f 1), .ref (q 1), .ref (q 2), .ref (q 3), .int (f 5), .int (f 6), .int (f 7), .int (f 8), .ref (q 4), .ref (q 5), .ref (q 6), .int (f 12), .int (f 13), .int (f 14), .ref (q 7), .ref (q 8), .ref (q 9), .ref (q 10), .ref (q 11), .int (f 20)]
def lenM (i : Nat) : Nat := if i = 1 then 8 else if i = 2 then 72 else if i = 3 then 9 else if i = 4 then 301 else if i = 5 then 602 else if i = 6 then 602 else if i = 7 then 30 else if i = 8 then 4 else if i = 9 then 4 else if i = 10 then 240 else 60
def gM (q : Nat → Nat) (cI : ClassId) (f : Nat → Int32) (a : Nat → Nat → Int32) : Nat → va_E := fun i => if i = 0 then .inr (11, fsM q f) else .inl (cI, lenM i, .inl (a i))
theorem gM_put {D : va_G} {tys : List (ClassId × FieldType)} {q : Nat → Nat} {A : Nat → Prop} {s : State} {H : Heap} {locs : List Loc} {cI : ClassId} {f : Nat → Int32} {a : Nat → Nat → Int32} {k : Nat} {x : Int32} (hk : (fsM q f).set k (.int x) = fsM q (va_up f k x)) (h : hw D tys q 12 (va_up (gM q cI f a) 0 (.inr (11, (fsM q f).set k (.int x)))) A s H locs) : hw D tys q 12 (gM q cI (va_up f k x) a) A s H locs := by
  refine h.conv (fun i _ => ?_)
  by_cases hi : i = 0
  · subst hi
    simp [va_up, gM, hk]
  · simp [va_up, gM, hi]
theorem gM_ast {D : va_G} {tys : List (ClassId × FieldType)} {q : Nat → Nat} {A : Nat → Prop} {s : State} {H : Heap} {locs : List Loc} {cI : ClassId} {f : Nat → Int32} {a : Nat → Nat → Int32} {k n : Nat} {F : Nat → Int32} (hk : k ≠ 0) (hn : lenM k = n) (h : hw D tys q 12 (va_up (gM q cI f a) k (.inl (cI, n, .inl F))) A s H locs) : hw D tys q 12 (gM q cI f (va_up a k F)) A s H locs := by
  subst hn
  refine h.conv (fun i _ => ?_)
  by_cases hi : i = k
  · subst hi
    simp [va_up, gM, hk]
  · simp [va_up, gM, hi]
abbrev QMi (D : va_G) (q : Nat → Nat) (cI : ClassId) (Q : Int32 → (Nat → Int32) → (Nat → Nat → Int32) → Prop) (A : Nat → Prop) : Array Value → State → Outcome → State → Prop := va_Qi (fun r (u : (Nat → Int32) × (Nat → Nat → Int32)) => Q r u.1 u.2) (fun u t => va_P D vwCl (wL q 12 (gM q cI u.1 u.2)) t.heap) A
abbrev QMl (D : va_G) (q : Nat → Nat) (cI : ClassId) (Q : Int64 → (Nat → Int32) → (Nat → Nat → Int32) → Prop) (A : Nat → Prop) : Array Value → State → Outcome → State → Prop := va_Ql (fun r (u : (Nat → Int32) × (Nat → Nat → Int32)) => Q r u.1 u.2) (fun u t => va_P D vwCl (wL q 12 (gM q cI u.1 u.2)) t.heap) A
abbrev QMv (D : va_G) (q : Nat → Nat) (cI : ClassId) (Q : (Nat → Int32) → (Nat → Nat → Int32) → Prop) (A : Nat → Prop) : Array Value → State → Outcome → State → Prop := va_Qv (fun (u : (Nat → Int32) × (Nat → Nat → Int32)) => Q u.1 u.2) (fun u t => va_P D vwCl (wL q 12 (gM q cI u.1 u.2)) t.heap) A
