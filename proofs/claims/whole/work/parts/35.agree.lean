/-! Two states that are alike on given cells. -/
def AgO (f : Nat → Nat → Bool) (a l : Nat → Bool) (S S' : St) : Prop := (∀ c s, f c s = true → S'.1 c s = S.1 c s) ∧ (∀ k, a k = true → S'.2.1 k = S.2.1 k) ∧ (∀ k, l k = true → S'.2.2 k = S.2.2 k)
theorem AgO.rfl {f : Nat → Nat → Bool} {a l : Nat → Bool} {S : St} : AgO f a l S S := ⟨fun _ _ _ => Eq.refl _, fun _ _ => Eq.refl _, fun _ _ => Eq.refl _⟩
theorem AgO.trans {f : Nat → Nat → Bool} {a l : Nat → Bool} {S S' S'' : St} (h : AgO f a l S S') (h' : AgO f a l S' S'') : AgO f a l S S'' := ⟨fun c s q => (h'.1 c s q).trans (h.1 c s q), fun k q => (h'.2.1 k q).trans (h.2.1 k q), fun k q => (h'.2.2 k q).trans (h.2.2 k q)⟩
theorem AgO.weak {f f' : Nat → Nat → Bool} {a a' l l' : Nat → Bool} {S S' : St} (h : AgO f a l S S') (hf : ∀ c s, f' c s = true → f c s = true) (ha : ∀ k, a' k = true → a k = true) (hl : ∀ k, l' k = true → l k = true) : AgO f' a' l' S S' := ⟨fun c s q => h.1 c s (hf c s q), fun k q => h.2.1 k (ha k q), fun k q => h.2.2 k (hl k q)⟩
theorem AgO.aset {f : Nat → Nat → Bool} {a l : Nat → Bool} {S S' : St} (h : AgO f a l S S') {k : Nat} (g : Nat → Int32) (hk : a k = false) : AgO f a l S (aset S' k g) := by
  refine ⟨h.1, fun j hj => ?_, h.2.2⟩
  show va_up S'.2.1 k g j = _
  unfold va_up
  rw [if_neg (fun q => by rw [q, hk] at hj; cases hj)]
  exact h.2.1 j hj
theorem AgO.lset {f : Nat → Nat → Bool} {a l : Nat → Bool} {S S' : St} (h : AgO f a l S S') {k : Nat} (g : Nat → Int64) (hk : l k = false) : AgO f a l S (lset S' k g) := by
  refine ⟨h.1, h.2.1, fun j hj => ?_⟩
  show va_up S'.2.2 k g j = _
  unfold va_up
  rw [if_neg (fun q => by rw [q, hk] at hj; cases hj)]
  exact h.2.2 j hj
theorem fset_at (S : St) (k i : Nat) (x : Int32) (c s : Nat) : (fset S k i x).1 c s = if c = k then (if s = i then x else S.1 k s) else S.1 c s := by
  show va_up S.1 k (va_up (S.1 k) i x) c s = _
  unfold va_up
  by_cases h : c = k
  · rw [if_pos h, if_pos h]
  · rw [if_neg h, if_neg h]
theorem AgO.fset {f : Nat → Nat → Bool} {a l : Nat → Bool} {S S' : St} (h : AgO f a l S S') {k i : Nat} (x : Int32) (hk : f k i = false) : AgO f a l S (fset S' k i x) := by
  refine ⟨fun c s hj => ?_, h.2.1, h.2.2⟩
  rw [fset_at]
  by_cases h1 : c = k
  · rw [if_pos h1]
    by_cases h2 : s = i
    · rw [h1, h2, hk] at hj; cases hj
    · rw [if_neg h2, ← h1]; exact h.1 c s hj
  · rw [if_neg h1]
    exact h.1 c s hj
/-- the cells of which the invariant speaks, the play's aside -/
def fX (c s : Nat) : Bool := decide ((c, s) ∈ ([(0, 2), (63, 19), (12, 0), (63, 55), (12, 1), (63, 57), (14, 0), (14, 1), (14, 2), (14, 3), (15, 0), (15, 1), (15, 2), (15, 3), (16, 0), (16, 1), (16, 2), (16, 3), (17, 0), (17, 1), (17, 2), (17, 3), (18, 0), (18, 1), (18, 2), (18, 3), (19, 0), (19, 1), (19, 2), (19, 3), (11, 0), (11, 1), (63, 12), (63, 13), (10, 0), (10, 2), (10, 3), (63, 50), (63, 51), (63, 53), (63, 54), (5, 0), (5, 4), (5, 5), (5, 6), (5, 7), (63, 33), (63, 40), (2, 1), (3, 1)] : List (Nat × Nat)))
def aX (k : Nat) : Bool := decide (k ∈ ([20, 30, 31, 36, 38, 40, 50, 51, 52, 53, 54, 55, 56, 72, 73, 74, 75, 76, 77, 78, 79, 80, 81, 84, 90, 91, 92, 93, 97, 98, 99, 100, 101] : List Nat))
def lX (k : Nat) : Bool := decide (k ∈ ([57, 58, 59, 60, 61, 62, 102] : List Nat))
/-- the play's own cells -/
def fP (c s : Nat) : Bool := decide ((c, s) ∈ ([(1, 0), (63, 1), (1, 10), (63, 10), (1, 11), (63, 11)] : List (Nat × Nat)))
def aP (k : Nat) : Bool := decide (k ∈ ([21, 22, 23, 24, 25, 26, 27, 28, 29, 64, 65, 66, 67, 68, 69, 70, 71] : List Nat))
def Ag (S S' : St) : Prop := AgO (fun c s => fX c s || fP c s) (fun k => aX k || aP k) lX S S'
def PlayB (S : St) (V : Nat → Nat → Nat) : Prop := IPlay (S.1 1 0) (S.1 63 1) (S.1 1 10) (S.1 63 10) (S.1 1 11) (S.1 63 11) (S.2.1 21) (S.2.1 22) (S.2.1 23) (S.2.1 24) (S.2.1 25) (S.2.1 26) (S.2.1 27) (S.2.1 28) (S.2.1 29) (S.2.1 64) (S.2.1 65) (S.2.1 66) (S.2.1 67) (S.2.1 68) (S.2.1 69) (S.2.1 70) (S.2.1 71) V
theorem ShB.agree {S S' : St} {kd : List Nat} {b : Nat} (hb : b < 6) (h : ShB S kd b) (ha : AgO fX aX lX S S') : ShB S' kd b := by
  have q0 : fX (14 + b) 0 = true := (by decide : ∀ b, b < 6 → fX (14 + b) 0 = true) b hb
  have q1 : fX (14 + b) 1 = true := (by decide : ∀ b, b < 6 → fX (14 + b) 1 = true) b hb
  have q2 : fX (14 + b) 2 = true := (by decide : ∀ b, b < 6 → fX (14 + b) 2 = true) b hb
  have q3 : fX (14 + b) 3 = true := (by decide : ∀ b, b < 6 → fX (14 + b) 3 = true) b hb
  have q4 : lX (57 + b) = true := (by decide : ∀ b, b < 6 → lX (57 + b) = true) b hb
  unfold ShB
  rw [ha.1 _ _ q0, ha.1 _ _ q1, ha.1 _ _ q2, ha.1 _ _ q3, ha.2.2 _ q4, ha.2.1 100 (by decide), ha.2.1 101 (by decide), ha.2.2 102 (by decide)]
  exact h
theorem LwB.agree {S S' : St} {w : Nat} (hw : w < 2) (h : LwB S w) (ha : AgO fX aX lX S S') : LwB S' w := by
  have q0 : fX (2 + w) 1 = true := (by decide : ∀ b, b < 2 → fX (2 + b) 1 = true) w hw
  have q1 : aX (30 + w) = true := (by decide : ∀ b, b < 2 → aX (30 + b) = true) w hw
  unfold LwB
  rw [ha.1 _ _ q0, ha.2.1 _ q1, ha.2.1 84 (by decide), ha.2.1 79 (by decide), ha.2.1 77 (by decide), ha.2.1 78 (by decide), ha.2.1 80 (by decide), ha.2.1 81 (by decide)]
  exact h
theorem IChg.mono {d1 k1 d2 u2 : Int32} {a51 a52 a53 a54 a72 a73 a74 a75 : Nat → Int32} {n m : Nat} (hm : n ≤ m) (h : IChg d1 k1 d2 u2 a51 a52 a53 a54 a72 a73 a74 a75 n) : IChg d1 k1 d2 u2 a51 a52 a53 a54 a72 a73 a74 a75 m := by
  obtain ⟨a, u, h1, h2, h3, h4, h5, h6⟩ := h
  refine ⟨a, u, h1, h2, h3, h4, h5, fun i hi => ?_⟩
  obtain ⟨q1, q2, q3, q4, k, x, y, q5, q6, q7, q8⟩ := h6 i hi
  exact ⟨q1, q2, q3, q4, k, x, y, q5, q6, q7, q8.imp (fun z => ⟨z.1, by omega, z.2.2⟩) id⟩
theorem IImg.mono {z1 w1 v1 b2 z2 w2 v2 : Int32} {a50 a97 : Nat → Int32} {n m : Nat} (hm : n ≤ m) (h : IImg z1 w1 v1 b2 z2 w2 v2 a50 a97 n) : IImg z1 w1 v1 b2 z2 w2 v2 a50 a97 m := by
  rcases h with h | ⟨h1, q, w, v, h2, h3⟩
  · exact Or.inl h
  · exact Or.inr ⟨h1, q, w, v, by omega, h3⟩
/-- another play, all else as it was -/
theorem InvV.play {S S' : St} {V V' : Nat → Nat → Nat} {kd : List Nat} (h : InvV S V kd) (ha : AgO fX aX lX S S') (hP : PlayB S' V') (hn : V 8 0 ≤ V' 8 0) : InvV S' V' kd := by
  obtain ⟨_, hT, hB, hTr, hSh, hC, hI, hN, hL⟩ := h
  refine ⟨hP, ?_, ?_, ?_, ⟨hSh.1.agree (by decide) ha, hSh.2.1.agree (by decide) ha, hSh.2.2.1.agree (by decide) ha, hSh.2.2.2.1.agree (by decide) ha, hSh.2.2.2.2.1.agree (by decide) ha, hSh.2.2.2.2.2.agree (by decide) ha⟩, ?_, ?_, ?_, ⟨hL.1.agree (by decide) ha, hL.2.agree (by decide) ha⟩⟩
  · rw [ha.1 0 2 (by decide), ha.1 63 19 (by decide), ha.2.1 20 (by decide), ha.2.1 76 (by decide)]
    exact hT
  · rw [ha.1 12 0 (by decide), ha.1 63 55 (by decide), ha.2.1 55 (by decide), ha.2.1 98 (by decide)]
    exact hB
  · rw [ha.1 12 1 (by decide), ha.1 63 57 (by decide), ha.2.1 56 (by decide), ha.2.1 99 (by decide)]
    exact hTr
  · rw [ha.1 11 0 (by decide), ha.1 11 1 (by decide), ha.1 63 12 (by decide), ha.1 63 13 (by decide), ha.2.1 51 (by decide), ha.2.1 52 (by decide), ha.2.1 53 (by decide), ha.2.1 54 (by decide), ha.2.1 72 (by decide), ha.2.1 73 (by decide), ha.2.1 74 (by decide), ha.2.1 75 (by decide)]
    exact hC.mono hn
  · rw [ha.1 10 0 (by decide), ha.1 10 2 (by decide), ha.1 10 3 (by decide), ha.1 63 50 (by decide), ha.1 63 51 (by decide), ha.1 63 53 (by decide), ha.1 63 54 (by decide), ha.2.1 50 (by decide), ha.2.1 97 (by decide)]
    exact hI.mono hn
  · rw [ha.1 5 0 (by decide), ha.1 5 4 (by decide), ha.1 5 5 (by decide), ha.1 5 6 (by decide), ha.1 5 7 (by decide), ha.1 63 33 (by decide), ha.1 63 40 (by decide), ha.2.1 36 (by decide), ha.2.1 38 (by decide), ha.2.1 40 (by decide), ha.2.1 90 (by decide), ha.2.1 91 (by decide), ha.2.1 92 (by decide), ha.2.1 93 (by decide)]
    exact hN
/-- the play's two halves -/
def OKV (V : Nat → Nat → Nat) : Prop := V 8 0 ≤ 20 ∧ V 8 1 ≤ 9 ∧ V 8 2 ≤ 9 ∧ (∀ i, i < V 8 0 → V 0 i < 6 ∧ V 1 i < 10 ∧ V 2 i < 10 ∧ V 3 i < 31 ∧ 1 ≤ V 3 i ∧ V 4 i < 256 ∧ V 5 i < 256 ∧ V 6 i < 101) ∧ ∀ i, i < 6 → V 7 i < 10
def ClP (S : St) (V : Nat → Nat → Nat) : Prop := S.1 1 0 = nI (V 8 0) ∧ S.1 1 10 = nI (V 8 1) ∧ S.1 1 11 = nI (V 8 2) ∧ (∀ i, i < V 8 0 → S.2.1 21 i = nI (V 0 i) ∧ S.2.1 22 i = nI (V 1 i) ∧ S.2.1 23 i = nI (V 2 i) ∧ S.2.1 24 i = nI (V 3 i) ∧ S.2.1 25 i = nI (V 4 i) ∧ S.2.1 26 i = nI (V 5 i) ∧ S.2.1 27 i = nI (V 6 i)) ∧ (∀ i, i < 6 → S.2.1 28 i = nI (V 7 i)) ∧ ∀ w, w < 10 → S.2.1 29 w = nI (maskOf (fun i => decide (V 1 i = w)) (V 8 0))
def RlP (S : St) (V : Nat → Nat → Nat) : Prop := S.1 63 1 = nI (V 8 0) ∧ S.1 63 10 = nI (V 8 1) ∧ S.1 63 11 = nI (V 8 2) ∧ (∀ i, i < V 8 0 → S.2.1 64 i = nI (V 0 i) ∧ S.2.1 65 i = nI (V 1 i) ∧ S.2.1 66 i = nI (V 2 i) ∧ S.2.1 67 i = nI (V 3 i) ∧ S.2.1 68 i = nI (V 4 i) ∧ S.2.1 69 i = nI (V 5 i) ∧ S.2.1 70 i = nI (V 6 i)) ∧ ∀ i, i < 6 → S.2.1 71 i = nI (V 7 i)
theorem play_iff {S : St} {V : Nat → Nat → Nat} : PlayB S V ↔ OKV V ∧ ClP S V ∧ RlP S V := by
  constructor
  · rintro ⟨⟨a1, a2, a3⟩, ⟨b1, b2, b3⟩, ⟨c1, c2, c3⟩, h0, h1, h2, ⟨h3, h3b⟩, h4, h5, h6, h7, h8⟩
    exact ⟨⟨a1, b1, c1, fun i hi => ⟨(h0 i hi).2.2, (h1 i hi).2.2, (h2 i hi).2.2, (h3 i hi).2.2, h3b i hi, (h4 i hi).2.2, (h5 i hi).2.2, (h6 i hi).2.2⟩, fun i hi => (h7 i hi).2.2⟩,
      ⟨a2, b2, c2, fun i hi => ⟨(h0 i hi).1, (h1 i hi).1, (h2 i hi).1, (h3 i hi).1, (h4 i hi).1, (h5 i hi).1, (h6 i hi).1⟩, fun i hi => (h7 i hi).1, h8⟩,
      ⟨a3, b3, c3, fun i hi => ⟨(h0 i hi).2.1, (h1 i hi).2.1, (h2 i hi).2.1, (h3 i hi).2.1, (h4 i hi).2.1, (h5 i hi).2.1, (h6 i hi).2.1⟩, fun i hi => (h7 i hi).2.1⟩⟩
  · rintro ⟨⟨a1, b1, c1, o, o7⟩, ⟨a2, b2, c2, p, p7, h8⟩, ⟨a3, b3, c3, q, q7⟩⟩
    exact ⟨⟨a1, a2, a3⟩, ⟨b1, b2, b3⟩, ⟨c1, c2, c3⟩, fun i hi => ⟨(p i hi).1, (q i hi).1, (o i hi).1⟩, fun i hi => ⟨(p i hi).2.1, (q i hi).2.1, (o i hi).2.1⟩, fun i hi => ⟨(p i hi).2.2.1, (q i hi).2.2.1, (o i hi).2.2.1⟩, ⟨fun i hi => ⟨(p i hi).2.2.2.1, (q i hi).2.2.2.1, (o i hi).2.2.2.1⟩, fun i hi => (o i hi).2.2.2.2.1⟩, fun i hi => ⟨(p i hi).2.2.2.2.1, (q i hi).2.2.2.2.1, (o i hi).2.2.2.2.2.1⟩, fun i hi => ⟨(p i hi).2.2.2.2.2.1, (q i hi).2.2.2.2.2.1, (o i hi).2.2.2.2.2.2.1⟩, fun i hi => ⟨(p i hi).2.2.2.2.2.2, (q i hi).2.2.2.2.2.2, (o i hi).2.2.2.2.2.2.2⟩, fun i hi => ⟨p7 i hi, q7 i hi, o7 i hi⟩, h8⟩
def fCl (c s : Nat) : Bool := decide ((c, s) ∈ ([(1, 0), (1, 10), (1, 11)] : List (Nat × Nat)))
def aCl (k : Nat) : Bool := decide (k ∈ ([21, 22, 23, 24, 25, 26, 27, 28, 29] : List Nat))
def fRl (c s : Nat) : Bool := decide ((c, s) ∈ ([(63, 1), (63, 10), (63, 11)] : List (Nat × Nat)))
def aRl (k : Nat) : Bool := decide (k ∈ ([64, 65, 66, 67, 68, 69, 70, 71] : List Nat))
def lNo (_ : Nat) : Bool := false
theorem ClP.agree {S S' : St} {V : Nat → Nat → Nat} (h : ClP S V) (ha : AgO fCl aCl lNo S S') : ClP S' V := by
  unfold ClP
  rw [ha.1 1 0 (by decide), ha.1 1 10 (by decide), ha.1 1 11 (by decide), ha.2.1 21 (by decide), ha.2.1 22 (by decide), ha.2.1 23 (by decide), ha.2.1 24 (by decide), ha.2.1 25 (by decide), ha.2.1 26 (by decide), ha.2.1 27 (by decide), ha.2.1 28 (by decide), ha.2.1 29 (by decide)]
  exact h
theorem RlP.agree {S S' : St} {V : Nat → Nat → Nat} (h : RlP S V) (ha : AgO fRl aRl lNo S S') : RlP S' V := by
  unfold RlP
  rw [ha.1 63 1 (by decide), ha.1 63 10 (by decide), ha.1 63 11 (by decide), ha.2.1 64 (by decide), ha.2.1 65 (by decide), ha.2.1 66 (by decide), ha.2.1 67 (by decide), ha.2.1 68 (by decide), ha.2.1 69 (by decide), ha.2.1 70 (by decide), ha.2.1 71 (by decide)]
  exact h
theorem fCl_fP {c s : Nat} (h : fCl c s = true) : fP c s = true := by
  have := of_decide_eq_true h
  simp only [List.mem_cons, List.not_mem_nil, or_false, Prod.mk.injEq] at this
  rcases this with ⟨rfl, rfl⟩ | ⟨rfl, rfl⟩ | ⟨rfl, rfl⟩ <;> decide
theorem fRl_fP {c s : Nat} (h : fRl c s = true) : fP c s = true := by
  have := of_decide_eq_true h
  simp only [List.mem_cons, List.not_mem_nil, or_false, Prod.mk.injEq] at this
  rcases this with ⟨rfl, rfl⟩ | ⟨rfl, rfl⟩ | ⟨rfl, rfl⟩ <;> decide
theorem aCl_aP {k : Nat} (h : aCl k = true) : aP k = true := by
  have := of_decide_eq_true h
  simp only [List.mem_cons, List.not_mem_nil, or_false] at this
  rcases this with rfl | rfl | rfl | rfl | rfl | rfl | rfl | rfl | rfl <;> decide
theorem aRl_aP {k : Nat} (h : aRl k = true) : aP k = true := by
  have := of_decide_eq_true h
  simp only [List.mem_cons, List.not_mem_nil, or_false] at this
  rcases this with rfl | rfl | rfl | rfl | rfl | rfl | rfl | rfl <;> decide
theorem Ag.cl {S S' : St} (h : Ag S S') : AgO fCl aCl lNo S S' := AgO.weak h (fun c s q => by rw [fCl_fP q, Bool.or_true]) (fun k q => by rw [aCl_aP q, Bool.or_true]) (fun k q => by cases q)
theorem Ag.rl {S S' : St} (h : Ag S S') : AgO fRl aRl lNo S S' := AgO.weak h (fun c s q => by rw [fRl_fP q, Bool.or_true]) (fun k q => by rw [aRl_aP q, Bool.or_true]) (fun k q => by cases q)
theorem Ag.x {S S' : St} (h : Ag S S') : AgO fX aX lX S S' := AgO.weak h (fun c s q => by rw [q, Bool.true_or]) (fun k q => by rw [q, Bool.true_or]) (fun k q => q)
theorem InvV.agree {S S' : St} {V : Nat → Nat → Nat} {kd : List Nat} (h : InvV S V kd) (ha : Ag S S') : InvV S' V kd := by
  obtain ⟨h1, h2, h3⟩ := play_iff.mp h.1
  exact h.play ha.x (play_iff.mpr ⟨h1, h2.agree ha.cl, h3.agree ha.rl⟩) (Nat.le_refl _)
/-- both systems answer alike, and only cells of which the invariant does not speak were written -/
theorem both_ag {f1 f2 : St → Option (Int32 × St)} {S S1 S2 : St} {r : Int32} (h : Inv S) (h1 : f1 S = some (r, S1)) (a1 : Ag S S1) (h2 : f2 S1 = some (r, S2)) (a2 : Ag S1 S2) : Both f1 f2 S := by
  obtain ⟨V, kd, hI⟩ := h
  exact ⟨r, S1, S2, h1, h2, V, kd, hI.agree (a1.trans a2)⟩
