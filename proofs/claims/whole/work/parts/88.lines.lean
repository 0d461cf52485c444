section
variable {tx : Nat → Nat} {len : Nat}
abbrev Lns := List (List (Nat × Nat) × List (Nat × Nat))
/-- the lines read so far: counts and ends at 122 .. -/
def LnR (S : St) (P : Lns) : Prop := S.2.1 79 2 = nI P.length ∧ ∀ k, k < P.length → S.2.1 80 (122 + k) = nI (offL P k + (P.getD k ([], [])).1.length) ∧ S.2.1 81 (122 + k) = nI (offL P (k + 1))
def aL (k : Nat) : Bool := !decide (77 ≤ k ∧ k ≤ 81)
def AgL (S S' : St) : Prop := AgO fU aL lAll S S' ∧ (∀ i, i < 260 → S'.2.1 77 i = S.2.1 77 i ∧ S'.2.1 78 i = S.2.1 78 i) ∧ (∀ i, i < 122 → S'.2.1 80 i = S.2.1 80 i ∧ S'.2.1 81 i = S.2.1 81 i) ∧ (∀ i, i < 2 → S'.2.1 79 i = S.2.1 79 i)
theorem AgL.rfl {S : St} : AgL S S := ⟨AgO.rfl, fun _ _ => ⟨Eq.refl _, Eq.refl _⟩, fun _ _ => ⟨Eq.refl _, Eq.refl _⟩, fun _ _ => Eq.refl _⟩
theorem AgL.trans {S S' S'' : St} (h : AgL S S') (h' : AgL S' S'') : AgL S S'' := ⟨AgO.trans h.1 h'.1, fun i hi => ⟨(h'.2.1 i hi).1.trans (h.2.1 i hi).1, (h'.2.1 i hi).2.trans (h.2.1 i hi).2⟩, fun i hi => ⟨(h'.2.2.1 i hi).1.trans (h.2.2.1 i hi).1, (h'.2.2.1 i hi).2.trans (h.2.2.1 i hi).2⟩, fun i hi => (h'.2.2.2 i hi).trans (h.2.2.2 i hi)⟩
theorem either0 (hl : len ≤ 120) (htx : ∀ i, i < len → tx i < 256) {N : Nat} (hN : 130 ≤ N) (p : Nat) (TS : List (Nat × Nat)) (S : St) (h : PR tx len S p 0 TS) : RES tx len 1 p 0 TS S (FF_X12_either N S) := either_ok hl htx hN (operand_ok hl htx hN 8 0 (by decide) (by decide)) p TS S h
theorem sh_n : ∀ c, c < 130 → vp_nar .short ((Int32.toInt16 (nI c)).toInt32) = nI c := by decide +kernel
theorem toks_app (P : Lns) (q : List (Nat × Nat) × List (Nat × Nat)) : toks (P ++ [q]) = toks P ++ (q.1 ++ q.2) := by
  unfold toks
  rw [List.flatMap_append]
  show _ ++ ((q.1 ++ q.2) ++ []) = _
  rw [List.append_nil]
theorem codeC_app (P : Lns) (q : List (Nat × Nat) × List (Nat × Nat)) : codeC (P ++ [q]) = codeC P ++ (q.1.map tkC ++ ((if q.1 = [] then [] else [-63]) ++ (q.2.map tkC ++ [-59]))) := by
  unfold codeC
  rw [List.flatMap_append]
  show _ ++ ((q.1.map tkC ++ ((if q.1 = [] then [] else [-63]) ++ (q.2.map tkC ++ [-59]))) ++ []) = _
  rw [List.append_nil]
theorem offL_app {P : Lns} {k : Nat} (h : k ≤ P.length) (q : List (Nat × Nat) × List (Nat × Nat)) : offL (P ++ [q]) k = offL P k := by
  unfold offL
  rw [List.take_append_of_le_length h]
theorem offL_all (P : Lns) : offL P P.length = (toks P).length := by
  unfold offL
  rw [List.take_length]
end
