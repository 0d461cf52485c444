/-! THE INVARIANT between the two systems. V: the play by numbers (V 0 part, 1 cue, 2 last, 3 seconds, 4 tells, 5 needs, 6 held, each by line; V 7 pause by part; V 8 0 how many lines, V 8 1 wait, V 8 2 nerves). kd: the bodies' kinds. -/
/-- a row of both systems holds the same numbers, each below a bound -/
def Eq2 (a b : Nat → Int32) (v : Nat → Nat) (n bd : Nat) : Prop := ∀ i, i < n → a i = nI (v i) ∧ b i = nI (v i) ∧ v i < bd
/-- the bits of the lines whose cue is w -/
def maskOf (p : Nat → Bool) : Nat → Nat
  | 0 => 0
  | n + 1 => maskOf p n + (if p n = true then 2 ^ n else 0)
def IPlay (n1 n2 w1 w2 v1 v2 : Int32) (a21 a22 a23 a24 a25 a26 a27 a28 a29 a64 a65 a66 a67 a68 a69 a70 a71 : Nat → Int32) (V : Nat → Nat → Nat) : Prop :=
  (V 8 0 ≤ 20 ∧ n1 = nI (V 8 0) ∧ n2 = nI (V 8 0)) ∧ (V 8 1 ≤ 9 ∧ w1 = nI (V 8 1) ∧ w2 = nI (V 8 1)) ∧ (V 8 2 ≤ 9 ∧ v1 = nI (V 8 2) ∧ v2 = nI (V 8 2)) ∧
  Eq2 a21 a64 (V 0) (V 8 0) 6 ∧ Eq2 a22 a65 (V 1) (V 8 0) 10 ∧ Eq2 a23 a66 (V 2) (V 8 0) 10 ∧ (Eq2 a24 a67 (V 3) (V 8 0) 31 ∧ ∀ i, i < V 8 0 → 1 ≤ V 3 i) ∧ Eq2 a25 a68 (V 4) (V 8 0) 256 ∧ Eq2 a26 a69 (V 5) (V 8 0) 256 ∧ Eq2 a27 a70 (V 6) (V 8 0) 101 ∧ Eq2 a28 a71 (V 7) 6 10 ∧
  (∀ w, w < 10 → a29 w = nI (maskOf (fun i => decide (V 1 i = w)) (V 8 0)))
def ITape (n1 n2 : Int32) (a20 a76 : Nat → Int32) : Prop := ∃ n : Nat, n ≤ 120 ∧ n1 = nI n ∧ n2 = nI n ∧ ∀ i, i < n → ∃ c : Nat, c < 256 ∧ a20 i = nI c ∧ a76 i = (nI c).toInt8.toInt32
def IBody (n1 n2 : Int32) (a55 a98 : Nat → Int32) (kd : List Nat) : Prop := kd.length ≤ 50 ∧ n1 = nI kd.length ∧ n2 = nI kd.length ∧ ∀ i, i < kd.length → a55 i = nI (kd.getD i 0) ∧ a98 i = nI (kd.getD i 0) ∧ kd.getD i 0 < 8
def ITrace (n1 n2 : Int32) (a56 a99 : Nat → Int32) : Prop := ∃ t : Nat, t ≤ 1000 ∧ n1 = nI t ∧ n2 = nI t ∧ ∀ i, i < t → i < 24 → a56 i = a99 i
def IShelf (h1 k1 s1 z1 h2 z2 : Int32) (e1 e2 : Nat → Int64) (kd : List Nat) : Prop :=
  (∀ i, i < 60 → e1 i = e2 i) ∧ ((h1 = 0 ∧ h2 = -1) ∨ (h1 = 1 ∧ ∃ b : Nat, b < kd.length ∧ h2 = nI b ∧ k1 = nI (kd.getD b 0)) ∨ (h1 = 2 ∧ ∃ t z : Nat, t < 5 ∧ z ≤ 60 ∧ s1 = nI t ∧ h2 = -2 - nI t ∧ z1 = nI z ∧ z2 = nI z ∧ (t = 0 → ∀ i, i < 60 → -128 ≤ (e1 i).toInt ∧ (e1 i).toInt ≤ 127)))
def IChg (d1 k1 d2 u2 : Int32) (a51 a52 a53 a54 a72 a73 a74 a75 : Nat → Int32) (n : Nat) : Prop := ∃ a u : Nat, a + u ≤ 40 ∧ d1 = nI a ∧ k1 = nI (a + u) ∧ d2 = nI a ∧ u2 = nI u ∧
  ∀ i, i < a + u → a51 i = a72 i ∧ a52 i = a73 i ∧ a53 i = a74 i ∧ a54 i = a75 i ∧ ∃ k x y : Nat, a52 i = nI k ∧ a53 i = nI x ∧ a54 i = nI y ∧ ((a51 i = 0 ∧ k < n ∧ x ≤ 100 ∧ y ≤ 100) ∨ (a51 i = 1 ∧ k < 6 ∧ x ≤ 9 ∧ y ≤ 9))
def IImg (z1 w1 v1 b2 z2 w2 v2 : Int32) (a50 a97 : Nat → Int32) (n : Nat) : Prop := (z1 = -1 ∧ b2 = 0) ∨ (b2 = 1 ∧ ∃ q w v : Nat, q ≤ n ∧ w ≤ 9 ∧ v ≤ 9 ∧ z1 = nI q ∧ z2 = nI q ∧ w1 = nI w ∧ w2 = nI w ∧ v1 = nI v ∧ v2 = nI v ∧ ∀ i, i < q → ∃ x : Nat, x ≤ 100 ∧ a50 i = nI x ∧ a97 i = nI x)
def INight (z1 s1 j1 l1 d1 b2 z2 : Int32) (a36 a38 a40 a90 a91 a92 a93 : Nat → Int32) : Prop := (z1 = 0 ∧ b2 = 0) ∨ (b2 = 1 ∧ ∃ z : Nat, 1 ≤ z ∧ z ≤ 60 ∧ z1 = nI z ∧ z2 = nI z ∧ a93 0 = nI z ∧ a93 1 = s1 ∧ a93 2 = j1 ∧ a93 3 = l1 ∧ a93 4 = d1 ∧ ∀ i, i < z → a36 i = a90 i ∧ a38 i = a91 i ∧ a40 i = a92 i)
/-! a law, told: lines of steps (0 a number, 1 a name, 2 not, 3 minus, 4 a sign between two), a condition (none: empty) and a worth -/
def nmC (k : Nat) : Nat := ([104, 110, 112, 105, 108, 99] : List Nat).getD k 0
def tkC (t : Nat × Nat) : Int32 := if t.1 = 0 then nI t.2 else if t.1 = 1 then - nI (nmC t.2) else if t.1 = 2 then -33 else if t.1 = 3 then -126 else - nI t.2
def tkA (t : Nat × Nat) : Int32 := if t.1 ≤ 3 then nI (t.1 + 1) else nI t.2
def tkW (t : Nat × Nat) : Int32 := if t.1 ≤ 1 then nI t.2 else 0
def okT (t : Nat × Nat) : Prop := (t.1 = 0 ∧ t.2 ≤ 9999) ∨ (t.1 = 1 ∧ t.2 < 6) ∨ t = (2, 0) ∨ t = (3, 0) ∨ (t.1 = 4 ∧ t.2 ∈ [124, 38, 60, 61, 62, 43, 45, 42, 47, 37])
/-- how high the pile stands behind steps (none: it was too low somewhere) -/
def bal : List (Nat × Nat) → Nat → Option Nat
  | [], h => some h
  | t :: ts, h => if t.1 ≤ 1 then bal ts (h + 1) else if t.1 ≤ 3 then (if 1 ≤ h then bal ts h else none) else (if 2 ≤ h then bal ts (h - 1) else none)
def wfL (q : List (Nat × Nat) × List (Nat × Nat)) : Prop := (∀ t ∈ q.1 ++ q.2, okT t) ∧ (q.1 = [] ∨ bal q.1 0 = some 1) ∧ bal q.2 0 = some 1
def codeC (P : List (List (Nat × Nat) × List (Nat × Nat))) : List Int32 := P.flatMap (fun q => q.1.map tkC ++ ((if q.1 = [] then [] else [-63]) ++ (q.2.map tkC ++ [-59])))
def toks (P : List (List (Nat × Nat) × List (Nat × Nat))) : List (Nat × Nat) := P.flatMap (fun q => q.1 ++ q.2)
def offL (P : List (List (Nat × Nat) × List (Nat × Nat))) (k : Nat) : Nat := (toks (P.take k)).length
def ILaw (z1 hl lm : Int32) (st a77 a78 a80 a81 : Nat → Int32) (w : Nat) : Prop := (z1 = 0 ∧ hl = 0) ∨ (hl = 1 ∧ ∃ P : List (List (Nat × Nat) × List (Nat × Nat)), P ≠ [] ∧ (∀ q ∈ P, wfL q) ∧ (codeC P).length ≤ 121 ∧ z1 = nI (codeC P).length ∧ (∀ i, i < (codeC P).length → st i = (codeC P).getD i 0) ∧ lm = nI P.length ∧
  (∀ i, i < (toks P).length → a77 (130 * w + i) = tkA ((toks P).getD i (0, 0)) ∧ a78 (130 * w + i) = tkW ((toks P).getD i (0, 0))) ∧ (∀ k, k < P.length → a80 (61 * w + k) = nI (offL P k + (P.getD k ([], [])).1.length) ∧ a81 (61 * w + k) = nI (offL P (k + 1))))
def ShB (S : St) (kd : List Nat) (b : Nat) : Prop := IShelf (S.1 (14 + b) 0) (S.1 (14 + b) 1) (S.1 (14 + b) 2) (S.1 (14 + b) 3) (S.2.1 100 b) (S.2.1 101 b) (S.2.2 (57 + b)) (fun i => S.2.2 102 (60 * b + i)) kd
def LwB (S : St) (w : Nat) : Prop := ILaw (S.1 (2 + w) 1) (S.2.1 84 w) (S.2.1 79 w) (S.2.1 (30 + w)) (S.2.1 77) (S.2.1 78) (S.2.1 80) (S.2.1 81) w
def InvV (S : St) (V : Nat → Nat → Nat) (kd : List Nat) : Prop :=
  IPlay (S.1 1 0) (S.1 63 1) (S.1 1 10) (S.1 63 10) (S.1 1 11) (S.1 63 11) (S.2.1 21) (S.2.1 22) (S.2.1 23) (S.2.1 24) (S.2.1 25) (S.2.1 26) (S.2.1 27) (S.2.1 28) (S.2.1 29) (S.2.1 64) (S.2.1 65) (S.2.1 66) (S.2.1 67) (S.2.1 68) (S.2.1 69) (S.2.1 70) (S.2.1 71) V ∧
  ITape (S.1 0 2) (S.1 63 19) (S.2.1 20) (S.2.1 76) ∧
  IBody (S.1 12 0) (S.1 63 55) (S.2.1 55) (S.2.1 98) kd ∧
  ITrace (S.1 12 1) (S.1 63 57) (S.2.1 56) (S.2.1 99) ∧
  (ShB S kd 0 ∧ ShB S kd 1 ∧ ShB S kd 2 ∧ ShB S kd 3 ∧ ShB S kd 4 ∧ ShB S kd 5) ∧
  IChg (S.1 11 0) (S.1 11 1) (S.1 63 12) (S.1 63 13) (S.2.1 51) (S.2.1 52) (S.2.1 53) (S.2.1 54) (S.2.1 72) (S.2.1 73) (S.2.1 74) (S.2.1 75) (V 8 0) ∧
  IImg (S.1 10 0) (S.1 10 2) (S.1 10 3) (S.1 63 50) (S.1 63 51) (S.1 63 53) (S.1 63 54) (S.2.1 50) (S.2.1 97) (V 8 0) ∧
  INight (S.1 5 0) (S.1 5 4) (S.1 5 5) (S.1 5 6) (S.1 5 7) (S.1 63 33) (S.1 63 40) (S.2.1 36) (S.2.1 38) (S.2.1 40) (S.2.1 90) (S.2.1 91) (S.2.1 92) (S.2.1 93) ∧
  (LwB S 0 ∧ LwB S 1)
def Inv (S : St) : Prop := ∃ V kd, InvV S V kd
/-- both systems, asked the same: the same answer, and the invariant behind it -/
def Both (f1 f2 : St → Option (Int32 × St)) (S : St) : Prop := ∃ (r : Int32) (S1 S2 : St), f1 S = some (r, S1) ∧ f2 S1 = some (r, S2) ∧ Inv S2
theorem Inv_start : Inv S0 := by
  refine ⟨fun k j => if k = 8 then (if j = 1 then 2 else 0) else 0, [], ?_, ⟨0, by decide, rfl, rfl, fun i h => absurd h (Nat.not_lt_zero i)⟩, ⟨by decide, rfl, rfl, fun i h => absurd h (Nat.not_lt_zero i)⟩, ⟨0, by decide, rfl, rfl, fun i h => absurd h (Nat.not_lt_zero i)⟩, ?_, ⟨0, 0, by decide, rfl, rfl, rfl, rfl, fun i h => absurd h (Nat.not_lt_zero i)⟩, Or.inl ⟨rfl, rfl⟩, Or.inl ⟨rfl, rfl⟩, ?_⟩
  · refine ⟨⟨by decide, rfl, rfl⟩, ⟨by decide, rfl, rfl⟩, ⟨by decide, rfl, rfl⟩, fun i h => absurd h (Nat.not_lt_zero i), fun i h => absurd h (Nat.not_lt_zero i), fun i h => absurd h (Nat.not_lt_zero i), ⟨fun i h => absurd h (Nat.not_lt_zero i), fun i h => absurd h (Nat.not_lt_zero i)⟩, fun i h => absurd h (Nat.not_lt_zero i), fun i h => absurd h (Nat.not_lt_zero i), fun i h => absurd h (Nat.not_lt_zero i), ?_, ?_⟩
    · intro i h
      rcases (show i = 0 ∨ i = 1 ∨ i = 2 ∨ i = 3 ∨ i = 4 ∨ i = 5 by omega) with rfl | rfl | rfl | rfl | rfl | rfl <;> exact ⟨rfl, rfl, by decide⟩
    · intro w hw
      rcases (show w = 0 ∨ w = 1 ∨ w = 2 ∨ w = 3 ∨ w = 4 ∨ w = 5 ∨ w = 6 ∨ w = 7 ∨ w = 8 ∨ w = 9 by omega) with rfl | rfl | rfl | rfl | rfl | rfl | rfl | rfl | rfl | rfl <;> rfl
  · exact ⟨⟨fun i _ => rfl, Or.inl ⟨rfl, rfl⟩⟩, ⟨fun i _ => rfl, Or.inl ⟨rfl, rfl⟩⟩, ⟨fun i _ => rfl, Or.inl ⟨rfl, rfl⟩⟩, ⟨fun i _ => rfl, Or.inl ⟨rfl, rfl⟩⟩, ⟨fun i _ => rfl, Or.inl ⟨rfl, rfl⟩⟩, ⟨fun i _ => rfl, Or.inl ⟨rfl, rfl⟩⟩⟩
  · exact ⟨Or.inl ⟨rfl, rfl⟩, Or.inl ⟨rfl, rfl⟩⟩
theorem sh_at {S : St} {kd : List Nat} (h : ShB S kd 0 ∧ ShB S kd 1 ∧ ShB S kd 2 ∧ ShB S kd 3 ∧ ShB S kd 4 ∧ ShB S kd 5) {b : Nat} (hb : b < 6) : ShB S kd b := by
  rcases (show b = 0 ∨ b = 1 ∨ b = 2 ∨ b = 3 ∨ b = 4 ∨ b = 5 by omega) with rfl | rfl | rfl | rfl | rfl | rfl
  · exact h.1
  · exact h.2.1
  · exact h.2.2.1
  · exact h.2.2.2.1
  · exact h.2.2.2.2.1
  · exact h.2.2.2.2.2
theorem sh_all {S : St} {kd : List Nat} (h : ∀ b, b < 6 → ShB S kd b) : ShB S kd 0 ∧ ShB S kd 1 ∧ ShB S kd 2 ∧ ShB S kd 3 ∧ ShB S kd 4 ∧ ShB S kd 5 := ⟨h 0 (by decide), h 1 (by decide), h 2 (by decide), h 3 (by decide), h 4 (by decide), h 5 (by decide)⟩
theorem lw_at {S : St} (h : LwB S 0 ∧ LwB S 1) {w : Nat} (hw : w < 2) : LwB S w := by
  rcases (show w = 0 ∨ w = 1 by omega) with rfl | rfl
  · exact h.1
  · exact h.2
