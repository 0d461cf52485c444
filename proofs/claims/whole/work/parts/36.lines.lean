def nfC (c s : Nat) : Bool := !fCl c s
def naC (k : Nat) : Bool := !aCl k
def nfR (c s : Nat) : Bool := !fRl c s
def naR (k : Nat) : Bool := !aRl k
def lAll (_ : Nat) : Bool := true
theorem fCl_mem {c s : Nat} (h : fCl c s = true) : (c = 1 ∧ s = 0) ∨ (c = 1 ∧ s = 10) ∨ (c = 1 ∧ s = 11) := by
  have := of_decide_eq_true h
  simpa only [List.mem_cons, List.not_mem_nil, or_false, Prod.mk.injEq] using this
theorem fRl_mem {c s : Nat} (h : fRl c s = true) : (c = 63 ∧ s = 1) ∨ (c = 63 ∧ s = 10) ∨ (c = 63 ∧ s = 11) := by
  have := of_decide_eq_true h
  simpa only [List.mem_cons, List.not_mem_nil, or_false, Prod.mk.injEq] using this
theorem aCl_mem {k : Nat} (h : aCl k = true) : 21 ≤ k ∧ k ≤ 29 := by
  have := of_decide_eq_true h
  simp only [List.mem_cons, List.not_mem_nil, or_false] at this
  omega
theorem aRl_mem {k : Nat} (h : aRl k = true) : 64 ≤ k ∧ k ≤ 71 := by
  have := of_decide_eq_true h
  simp only [List.mem_cons, List.not_mem_nil, or_false] at this
  omega
theorem aX_mem {k : Nat} (h : aX k = true) : k < 21 ∨ (29 < k ∧ k < 64) ∨ 71 < k := by
  have := of_decide_eq_true h
  simp only [List.mem_cons, List.not_mem_nil, or_false] at this
  omega
theorem not_t {b : Bool} (h : b = true → False) : (!b) = true := by
  cases b
  · rfl
  · exact (h rfl).elim
theorem fX_nC {c s : Nat} (h : fX c s = true) : nfC c s = true := not_t (fun q => by
  rcases fCl_mem q with ⟨rfl, rfl⟩ | ⟨rfl, rfl⟩ | ⟨rfl, rfl⟩ <;> exact absurd h (by decide))
theorem fX_nR {c s : Nat} (h : fX c s = true) : nfR c s = true := not_t (fun q => by
  rcases fRl_mem q with ⟨rfl, rfl⟩ | ⟨rfl, rfl⟩ | ⟨rfl, rfl⟩ <;> exact absurd h (by decide))
theorem aX_nC {k : Nat} (h : aX k = true) : naC k = true := not_t (fun q => by have := aX_mem h; have := aCl_mem q; omega)
theorem aX_nR {k : Nat} (h : aX k = true) : naR k = true := not_t (fun q => by have := aX_mem h; have := aRl_mem q; omega)
theorem fCl_nR {c s : Nat} (h : fCl c s = true) : nfR c s = true := not_t (fun q => by
  rcases fRl_mem q with ⟨rfl, rfl⟩ | ⟨rfl, rfl⟩ | ⟨rfl, rfl⟩ <;> exact absurd h (by decide))
theorem fRl_nC {c s : Nat} (h : fRl c s = true) : nfC c s = true := not_t (fun q => by
  rcases fCl_mem q with ⟨rfl, rfl⟩ | ⟨rfl, rfl⟩ | ⟨rfl, rfl⟩ <;> exact absurd h (by decide))
theorem aCl_nR {k : Nat} (h : aCl k = true) : naR k = true := not_t (fun q => by have := aCl_mem h; have := aRl_mem q; omega)
theorem aRl_nC {k : Nat} (h : aRl k = true) : naC k = true := not_t (fun q => by have := aRl_mem h; have := aCl_mem q; omega)
/-- a line comes in the class -/
theorem cl_add {S : St} {V : Nat → Nat → Nat} {p s t e : Nat} (ok : OKV V) (h : ClP S V) (hn : V 8 0 < 20) (hp : p < 600) (hs : 1 ≤ s) (hs2 : s ≤ 30) (ht : t < 256) (he : e < 256) : OKV (addV V p s t e) ∧ ∃ S1, F_X8_add (nI p) (nI s) (nI t) (nI e) S = some (nI (V 8 0), S1) ∧ ClP S1 (addV V p s t e) ∧ AgO nfC naC lAll S S1 := by
  obtain ⟨o1, o2, o3, o, o7⟩ := ok
  obtain ⟨c1, c2, c3, p0, p7, p8⟩ := h
  have hI : IPlay (S.1 1 0) (nI (V 8 0)) (S.1 1 10) (nI (V 8 1)) (S.1 1 11) (nI (V 8 2)) (S.2.1 21) (S.2.1 22) (S.2.1 23) (S.2.1 24) (S.2.1 25) (S.2.1 26) (S.2.1 27) (S.2.1 28) (S.2.1 29) (fun i => nI (V 0 i)) (fun i => nI (V 1 i)) (fun i => nI (V 2 i)) (fun i => nI (V 3 i)) (fun i => nI (V 4 i)) (fun i => nI (V 5 i)) (fun i => nI (V 6 i)) (fun i => nI (V 7 i)) V :=
    ⟨⟨o1, c1, rfl⟩, ⟨o2, c2, rfl⟩, ⟨o3, c3, rfl⟩, fun i hi => ⟨(p0 i hi).1, rfl, (o i hi).1⟩, fun i hi => ⟨(p0 i hi).2.1, rfl, (o i hi).2.1⟩, fun i hi => ⟨(p0 i hi).2.2.1, rfl, (o i hi).2.2.1⟩, ⟨fun i hi => ⟨(p0 i hi).2.2.2.1, rfl, (o i hi).2.2.2.1⟩, fun i hi => (o i hi).2.2.2.2.1⟩, fun i hi => ⟨(p0 i hi).2.2.2.2.1, rfl, (o i hi).2.2.2.2.2.1⟩, fun i hi => ⟨(p0 i hi).2.2.2.2.2.1, rfl, (o i hi).2.2.2.2.2.2.1⟩, fun i hi => ⟨(p0 i hi).2.2.2.2.2.2, rfl, (o i hi).2.2.2.2.2.2.2⟩, fun i hi => ⟨p7 i hi, rfl, o7 i hi⟩, p8⟩
  obtain ⟨⟨a1, a2, a3⟩, ⟨b1, b2, b3⟩, ⟨d1, d2, d3⟩, h0, h1, h2, ⟨h3, h3b⟩, h4, h5, h6, h7, h8⟩ := hI.add hn hp hs hs2 ht he
  let n := V 8 0
  let S1 : St := fset (aset (aset (aset (aset (aset (aset (aset (aset S 21 (upd (S.2.1 21) n (nI (p / 100)))) 22 (upd (S.2.1 22) n (nI (p / 10 % 10)))) 23 (upd (S.2.1 23) n (nI (p % 10)))) 24 (upd (S.2.1 24) n (nI s))) 25 (upd (S.2.1 25) n (nI t))) 26 (upd (S.2.1 26) n (nI e))) 27 (upd (S.2.1 27) n 50)) 29 (upd (S.2.1 29) (p / 10 % 10) (S.2.1 29 (p / 10 % 10) ||| nI (2 ^ n)))) 1 0 (nI (n + 1))
  have r1 : F_X8_add (nI p) (nI s) (nI t) (nI e) S = some (nI n, S1) := add8_eq hn c1 hp
  refine ⟨⟨a1, b1, d1, fun i hi => ⟨(h0 i hi).2.2, (h1 i hi).2.2, (h2 i hi).2.2, (h3 i hi).2.2, h3b i hi, (h4 i hi).2.2, (h5 i hi).2.2, (h6 i hi).2.2⟩, fun i hi => (h7 i hi).2.2⟩, S1, r1, ?_, ?_⟩
  · exact ⟨a2, b2, d2, fun i hi => ⟨(h0 i hi).1, (h1 i hi).1, (h2 i hi).1, (h3 i hi).1, (h4 i hi).1, (h5 i hi).1, (h6 i hi).1⟩, fun i hi => (h7 i hi).1, h8⟩
  · exact ((((((((AgO.rfl.aset _ (by decide)).aset _ (by decide)).aset _ (by decide)).aset _ (by decide)).aset _ (by decide)).aset _ (by decide)).aset _ (by decide)).aset _ (by decide)).fset _ (by decide)
/-- a line comes in the reference -/
theorem rl_add {S : St} {V : Nat → Nat → Nat} {p s t e : Nat} (ok : OKV V) (h : RlP S V) (hn : V 8 0 < 20) (hp : p < 600) (hs : 1 ≤ s) (hs2 : s ≤ 30) (ht : t < 256) (he : e < 256) : ∃ S1, F_X12_addLine (nI (p / 100)) (nI (p / 10 % 10)) (nI (p % 10)) (nI s) (nI t) (nI e) S = some (nI (V 8 0), S1) ∧ RlP S1 (addV V p s t e) ∧ AgO nfR naR lAll S S1 := by
  obtain ⟨o1, o2, o3, o, o7⟩ := ok
  obtain ⟨c1, c2, c3, p0, p7⟩ := h
  have hI : IPlay (nI (V 8 0)) (S.1 63 1) (nI (V 8 1)) (S.1 63 10) (nI (V 8 2)) (S.1 63 11) (fun i => nI (V 0 i)) (fun i => nI (V 1 i)) (fun i => nI (V 2 i)) (fun i => nI (V 3 i)) (fun i => nI (V 4 i)) (fun i => nI (V 5 i)) (fun i => nI (V 6 i)) (fun i => nI (V 7 i)) (fun w => nI (maskOf (fun i => decide (V 1 i = w)) (V 8 0))) (S.2.1 64) (S.2.1 65) (S.2.1 66) (S.2.1 67) (S.2.1 68) (S.2.1 69) (S.2.1 70) (S.2.1 71) V :=
    ⟨⟨o1, rfl, c1⟩, ⟨o2, rfl, c2⟩, ⟨o3, rfl, c3⟩, fun i hi => ⟨rfl, (p0 i hi).1, (o i hi).1⟩, fun i hi => ⟨rfl, (p0 i hi).2.1, (o i hi).2.1⟩, fun i hi => ⟨rfl, (p0 i hi).2.2.1, (o i hi).2.2.1⟩, ⟨fun i hi => ⟨rfl, (p0 i hi).2.2.2.1, (o i hi).2.2.2.1⟩, fun i hi => (o i hi).2.2.2.2.1⟩, fun i hi => ⟨rfl, (p0 i hi).2.2.2.2.1, (o i hi).2.2.2.2.2.1⟩, fun i hi => ⟨rfl, (p0 i hi).2.2.2.2.2.1, (o i hi).2.2.2.2.2.2.1⟩, fun i hi => ⟨rfl, (p0 i hi).2.2.2.2.2.2, (o i hi).2.2.2.2.2.2.2⟩, fun i hi => ⟨rfl, p7 i hi, o7 i hi⟩, fun w hw => rfl⟩
  obtain ⟨⟨a1, a2, a3⟩, ⟨b1, b2, b3⟩, ⟨d1, d2, d3⟩, h0, h1, h2, ⟨h3, h3b⟩, h4, h5, h6, h7, h8⟩ := hI.add hn hp hs hs2 ht he
  let n := V 8 0
  let S1 : St := fset (aset (aset (aset (aset (aset (aset (aset S 64 (upd (S.2.1 64) n (nI (p / 100)))) 65 (upd (S.2.1 65) n (nI (p / 10 % 10)))) 66 (upd (S.2.1 66) n (nI (p % 10)))) 67 (upd (S.2.1 67) n (nI s))) 68 (upd (S.2.1 68) n (nI t))) 69 (upd (S.2.1 69) n (nI e))) 70 (upd (S.2.1 70) n 50)) 63 1 (nI (n + 1))
  have r1 : F_X12_addLine (nI (p / 100)) (nI (p / 10 % 10)) (nI (p % 10)) (nI s) (nI t) (nI e) S = some (nI n, S1) := add12_eq hn c1 _ _ _ _ _ _
  refine ⟨S1, r1, ?_, ?_⟩
  · exact ⟨a3, b3, d3, fun i hi => ⟨(h0 i hi).2.1, (h1 i hi).2.1, (h2 i hi).2.1, (h3 i hi).2.1, (h4 i hi).2.1, (h5 i hi).2.1, (h6 i hi).2.1⟩, fun i hi => (h7 i hi).2.1⟩
  · exact (((((((AgO.rfl.aset _ (by decide)).aset _ (by decide)).aset _ (by decide)).aset _ (by decide)).aset _ (by decide)).aset _ (by decide)).aset _ (by decide)).fset _ (by decide)
