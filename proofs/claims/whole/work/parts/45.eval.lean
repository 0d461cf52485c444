/-! what a law gives, by numbers -/
def twoW (s : Nat) (a b : Int32) : Int32 :=
  if s = 38 then (if a = 0 then 0 else if b = 0 then 0 else 1) else if s = 42 then a * b else if s = 43 then a + b else if s = 45 then a - b else
  if s = 47 then (if b = 0 then 0 else a / b) else if s = 60 then (if b ≤ a then 0 else 1) else if s = 61 then (if a = b then 1 else 0) else
  if s = 62 then (if a ≤ b then 0 else 1) else if s = 124 then (if a = 0 then (if b = 0 then 0 else 1) else 1) else (if b = 0 then 0 else a - (a / b) * b)
def ev1 (fc : Nat → Int32) (t : Nat × Nat) (st : List Int32) : List Int32 :=
  if t.1 = 0 then nI t.2 :: st else if t.1 = 1 then fc t.2 :: st else if t.1 = 2 then (if st.headD 0 = 0 then 1 else 0) :: st.tail else
  if t.1 = 3 then (- st.headD 0) :: st.tail else twoW t.2 (st.tail.headD 0) (st.headD 0) :: st.tail.tail
def evT (fc : Nat → Int32) : List (Nat × Nat) → List Int32 → List Int32
  | [], st => st
  | t :: ts, st => evT fc ts (ev1 fc t st)
def evL (fc : Nat → Int32) : List (List (Nat × Nat) × List (Nat × Nat)) → Int32
  | [] => 0
  | q :: P => if q.1 = [] then (evT fc q.2 []).headD 0 else if (evT fc q.1 []).headD 0 = 0 then evL fc P else (evT fc q.2 []).headD 0
theorem div_m1 (a : Int32) : a / (-1) = -a := by
  apply Int32.toBitVec_inj.1
  show a.toBitVec.sdiv (-1#32) = -a.toBitVec
  rw [BitVec.sdiv_neg (by decide), BitVec.sdiv_one]
theorem rem_m1 (a : Int32) : a - (a / (-1)) * (-1) = 0 := by
  rw [div_m1, Int32.neg_mul, Int32.mul_neg, Int32.mul_one, Int32.neg_neg, Int32.sub_self]
theorem truth_0 (S : St) : F_X5_truth 0 S = some (0, S) := if_pos rfl
theorem truth_1 (S : St) : F_X5_truth 1 S = some (1, S) := if_neg (by decide)
theorem sg_cases {s : Nat} (h : s ∈ ([124, 38, 60, 61, 62, 43, 45, 42, 47, 37] : List Nat)) : s = 124 ∨ s = 38 ∨ s = 60 ∨ s = 61 ∨ s = 62 ∨ s = 43 ∨ s = 45 ∨ s = 42 ∨ s = 47 ∨ s = 37 := by
  simpa only [List.mem_cons, List.not_mem_nil, or_false] using h
theorem joined_eq {s : Nat} (h : s ∈ ([124, 38, 60, 61, 62, 43, 45, 42, 47, 37] : List Nat)) (a b : Int32) (S : St) : F_X5_joined a (nI s) b S = some (twoW s a b, S) := by
  unfold F_X5_joined
  rcases sg_cases h with rfl | rfl | rfl | rfl | rfl | rfl | rfl | rfl | rfl | rfl
  · rw [if_neg (by decide), if_neg (by decide), if_neg (by decide), if_neg (by decide), if_neg (by decide), if_neg (by decide), if_neg (by decide), if_neg (by decide), if_pos (by decide)]
    show _ = some ((if a = 0 then (if b = 0 then 0 else 1) else 1), S)
    by_cases q1 : a = 0
    · by_cases q2 : b = 0
      · simp only [if_pos q1, if_pos q2, truth_0, Option.bind_some]
      · simp only [if_pos q1, if_neg q2, truth_1, Option.bind_some]
    · simp only [if_neg q1, truth_1, Option.bind_some]
  · rw [if_pos (by decide)]
    show _ = some ((if a = 0 then 0 else if b = 0 then 0 else 1), S)
    by_cases q1 : a = 0
    · simp only [if_pos q1, truth_0, Option.bind_some]
    · by_cases q2 : b = 0
      · simp only [if_neg q1, if_pos q2, truth_0, Option.bind_some]
      · simp only [if_neg q1, if_neg q2, truth_1, Option.bind_some]
  · rw [if_neg (by decide), if_neg (by decide), if_neg (by decide), if_neg (by decide), if_neg (by decide), if_pos (by decide)]
    show _ = some ((if b ≤ a then 0 else 1), S)
    by_cases q1 : b ≤ a
    · simp only [if_pos q1, truth_0, Option.bind_some]
    · simp only [if_neg q1, truth_1, Option.bind_some]
  · rw [if_neg (by decide), if_neg (by decide), if_neg (by decide), if_neg (by decide), if_neg (by decide), if_neg (by decide), if_pos (by decide)]
    show _ = some ((if a = b then 1 else 0), S)
    by_cases q1 : a = b
    · simp only [if_pos q1, truth_1, Option.bind_some]
    · simp only [if_neg q1, truth_0, Option.bind_some]
  · rw [if_neg (by decide), if_neg (by decide), if_neg (by decide), if_neg (by decide), if_neg (by decide), if_neg (by decide), if_neg (by decide), if_pos (by decide)]
    show _ = some ((if a ≤ b then 0 else 1), S)
    by_cases q1 : a ≤ b
    · simp only [if_pos q1, truth_0, Option.bind_some]
    · simp only [if_neg q1, truth_1, Option.bind_some]
  · rw [if_neg (by decide), if_neg (by decide), if_pos (by decide)]
    rfl
  · rw [if_neg (by decide), if_neg (by decide), if_neg (by decide), if_pos (by decide)]
    rfl
  · rw [if_neg (by decide), if_pos (by decide)]
    rfl
  · rw [if_neg (by decide), if_neg (by decide), if_neg (by decide), if_neg (by decide), if_pos (by decide)]
    show _ = some ((if b = 0 then 0 else a / b), S)
    by_cases q1 : b = 0
    · rw [if_pos q1, if_pos q1]
    · rw [if_neg q1, if_neg q1, gd_t (decide_eq_true q1)]
  · rw [if_neg (by decide), if_neg (by decide), if_neg (by decide), if_neg (by decide), if_neg (by decide), if_neg (by decide), if_neg (by decide), if_neg (by decide), if_neg (by decide)]
    show _ = some ((if b = 0 then 0 else a - (a / b) * b), S)
    by_cases q1 : b = 0
    · rw [if_pos q1, if_pos q1]
    · rw [if_neg q1, if_neg q1, gd_t (decide_eq_true q1)]
theorem twoOf_eq {s : Nat} (h : s ∈ ([124, 38, 60, 61, 62, 43, 45, 42, 47, 37] : List Nat)) (a b : Int32) (S : St) : F_X12_twoOf (nI s) a b S = some (twoW s a b, S) := by
  unfold F_X12_twoOf
  rcases sg_cases h with rfl | rfl | rfl | rfl | rfl | rfl | rfl | rfl | rfl | rfl
  · rw [if_neg (by decide), if_neg (by decide), if_neg (by decide), if_neg (by decide), if_neg (by decide), if_neg (by decide), if_neg (by decide), if_neg (by decide), if_neg (by decide)]
    show _ = some ((if a = 0 then (if b = 0 then 0 else 1) else 1), S)
    by_cases q1 : a = 0
    · by_cases q2 : b = 0
      · simp only [if_pos q1, if_pos q2]
      · simp only [if_pos q1, if_neg q2]
    · simp only [if_neg q1]
  · rw [if_neg (by decide), if_pos (by decide)]
    show _ = some ((if a = 0 then 0 else if b = 0 then 0 else 1), S)
    by_cases q1 : a = 0
    · simp only [if_pos q1]
    · by_cases q2 : b = 0
      · simp only [if_neg q1, if_pos q2]
      · simp only [if_neg q1, if_neg q2]
  · rw [if_neg (by decide), if_neg (by decide), if_neg (by decide), if_neg (by decide), if_neg (by decide), if_neg (by decide), if_pos (by decide)]
    show _ = some ((if b ≤ a then 0 else 1), S)
    by_cases q1 : b ≤ a
    · simp only [if_pos q1]
    · simp only [if_neg q1]
  · rw [if_neg (by decide), if_neg (by decide), if_neg (by decide), if_neg (by decide), if_neg (by decide), if_neg (by decide), if_neg (by decide), if_pos (by decide)]
    show _ = some ((if a = b then 1 else 0), S)
    by_cases q1 : a = b
    · simp only [if_pos q1]
    · simp only [if_neg q1]
  · rw [if_neg (by decide), if_neg (by decide), if_neg (by decide), if_neg (by decide), if_neg (by decide), if_neg (by decide), if_neg (by decide), if_neg (by decide), if_pos (by decide)]
    show _ = some ((if a ≤ b then 0 else 1), S)
    by_cases q1 : a ≤ b
    · simp only [if_pos q1]
    · simp only [if_neg q1]
  · rw [if_neg (by decide), if_neg (by decide), if_neg (by decide), if_pos (by decide)]
    rfl
  · rw [if_neg (by decide), if_neg (by decide), if_neg (by decide), if_neg (by decide), if_pos (by decide)]
    rfl
  · rw [if_neg (by decide), if_neg (by decide), if_pos (by decide)]
    rfl
  · rw [if_neg (by decide), if_neg (by decide), if_neg (by decide), if_neg (by decide), if_neg (by decide), if_pos (by decide)]
    show _ = some ((if b = 0 then 0 else a / b), S)
    by_cases q1 : b = 0
    · rw [if_pos q1, if_pos q1]
    · rw [if_neg q1, if_neg q1]
      by_cases q2 : b = -1
      · rw [if_pos q2, q2, div_m1]
      · rw [if_neg q2, gd_t (decide_eq_true q1)]
  · rw [if_pos (by decide)]
    show _ = some ((if b = 0 then 0 else a - (a / b) * b), S)
    by_cases q1 : b = 0
    · rw [if_pos q1, if_pos q1]
    · rw [if_neg q1, if_neg q1]
      by_cases q2 : b = -1
      · rw [if_pos q2, q2, rem_m1]
      · rw [if_neg q2, gd_t (decide_eq_true q1)]
/-! a pile in a row of ints -/
def StkR (f : Nat → Int32) : List Int32 → Prop
  | [] => True
  | x :: st => f st.length = x ∧ StkR f st
theorem StkR.upd {f : Nat → Int32} {n : Nat} {x : Int32} : ∀ {st : List Int32}, StkR f st → st.length ≤ n → StkR (upd f n x) st
  | [], _, _ => trivial
  | y :: st, h, hl => by
    have hl' : st.length + 1 ≤ n := hl
    exact ⟨(pk_un (by omega)).trans h.1, StkR.upd h.2 (by omega)⟩
theorem aset_get (S : St) (k : Nat) (f : Nat → Int32) : (aset S k f).2.1 k = f := by
  show va_up S.2.1 k f k = f
  unfold va_up
  rw [if_pos rfl]
theorem fset_get (S : St) (k i : Nat) (x : Int32) : (fset S k i x).1 k i = x := by rw [fset_at, if_pos rfl, if_pos rfl]
def Stk (S : St) (b : Nat) (st : List Int32) : Prop := S.1 (2 + b) 3 = nI st.length ∧ StkR (S.2.1 (32 + b)) st
def pushS (S : St) (b n : Nat) (x : Int32) : St := fset (aset S (32 + b) (upd (S.2.1 (32 + b)) n x)) (2 + b) 3 (nI (n + 1))
def popS (S : St) (b n : Nat) : St := fset S (2 + b) 3 (nI n)
theorem push_eq {S : St} {b n : Nat} (h : S.1 (2 + b) 3 = nI n) (hn : n < 121) (x : Int32) : F_X5_push b x S = some (pushS S b n x) := by
  have h1 : ¬ (121 : Int32) ≤ S.1 (2 + b) 3 := by rw [h]; exact nI_ge (b := 121) hn (by decide)
  unfold F_X5_push
  rw [if_neg h1, gd_t (by rw [h]; exact inb_nI hn (by decide))]
  show some (fset (aset S (32 + b) (upd (S.2.1 (32 + b)) (Int32.toNatClampNeg (S.1 (2 + b) 3)) x)) (2 + b) 3 (S.1 (2 + b) 3 + 1)) = _
  rw [h, nI_1, nI_clamp (by omega)]
  rfl
theorem pop_eq {S : St} {b n : Nat} (h : S.1 (2 + b) 3 = nI (n + 1)) (hn : n < 121) : F_X5_pop b S = some (S.2.1 (32 + b) n, popS S b n) := by
  unfold F_X5_pop
  rw [if_pos (by rw [h]; exact nI_lt (a := 0) (by omega) (by omega))]
  show gd (inb ((fset S (2 + b) 3 (S.1 (2 + b) 3 - 1)).1 (2 + b) 3) 121) (some (S.2.1 (32 + b) (Int32.toNatClampNeg ((fset S (2 + b) 3 (S.1 (2 + b) 3 - 1)).1 (2 + b) 3)), fset S (2 + b) 3 (S.1 (2 + b) 3 - 1))) = _
  rw [fset_get, h, nI_pred, gd_t (inb_nI hn (by decide)), nI_clamp (by omega)]
  rfl
theorem Stk.push {S : St} {b : Nat} {st : List Int32} (h : Stk S b st) (x : Int32) : Stk (pushS S b st.length x) b (x :: st) := by
  refine ⟨fset_get _ _ _ _, ?_⟩
  show StkR ((aset S (32 + b) (upd (S.2.1 (32 + b)) st.length x)).2.1 (32 + b)) (x :: st)
  rw [aset_get]
  exact ⟨pk_us, h.2.upd (Nat.le_refl _)⟩
theorem Stk.pop {S : St} {b : Nat} {x : Int32} {st : List Int32} (h : Stk S b (x :: st)) : Stk (popS S b st.length) b st := ⟨fset_get _ _ _ _, h.2.2⟩
/-- all cells but those in which laws are worked out -/
def fW (c s : Nat) : Bool := !decide ((c, s) ∈ ([(2, 3), (3, 3)] : List (Nat × Nat)))
def aW (k : Nat) : Bool := !decide (k ∈ ([32, 33, 82, 83] : List Nat))
def AgW (S S' : St) : Prop := AgO fW aW lAll S S'
theorem AgW.push {S : St} {b : Nat} (hb : b < 2) (n : Nat) (x : Int32) : AgW S (pushS S b n x) := by
  have h1 : aW (32 + b) = false := (by decide : ∀ b, b < 2 → aW (32 + b) = false) b hb
  have h2 : fW (2 + b) 3 = false := (by decide : ∀ b, b < 2 → fW (2 + b) 3 = false) b hb
  exact AgO.fset (AgO.aset AgO.rfl _ h1) _ h2
theorem AgW.pop {S : St} {b : Nat} (hb : b < 2) (n : Nat) : AgW S (popS S b n) := by
  have h2 : fW (2 + b) 3 = false := (by decide : ∀ b, b < 2 → fW (2 + b) 3 = false) b hb
  exact AgO.fset AgO.rfl _ h2
theorem AgW.tr {S S' S'' : St} (h : AgW S S') (h' : AgW S' S'') : AgW S S'' := AgO.trans h h'
theorem fW_of {c s : Nat} (h : ¬ ((c = 2 ∨ c = 3) ∧ s = 3)) : fW c s = true := not_t (fun q => by
  have := of_decide_eq_true q
  simp only [List.mem_cons, List.not_mem_nil, or_false, Prod.mk.injEq] at this
  omega)
theorem aW_of {k : Nat} (h : ¬ (k = 32 ∨ k = 33 ∨ k = 82 ∨ k = 83)) : aW k = true := not_t (fun q => by
  have := of_decide_eq_true q
  simp only [List.mem_cons, List.not_mem_nil, or_false] at this
  omega)
theorem fXP_s {c s : Nat} (h : (fX c s || fP c s) = true) : ¬ ((c = 2 ∨ c = 3) ∧ s = 3) := by
  intro q
  rcases q with ⟨rfl | rfl, rfl⟩ <;> exact absurd h (by decide)
theorem aXP_s {k : Nat} (h : (aX k || aP k) = true) : ¬ (k = 32 ∨ k = 33 ∨ k = 82 ∨ k = 83) := by
  rintro (rfl | rfl | rfl | rfl) <;> exact absurd h (by decide)
theorem AgW.ag {S S' : St} (h : AgW S S') : Ag S S' := AgO.weak h (fun c s q => fW_of (fXP_s q)) (fun k q => aW_of (aXP_s q)) (fun _ _ => rfl)
theorem AgW.cl {S S' : St} {V : Nat → Nat → Nat} (h : AgW S S') (hc : ClP S V) : ClP S' V := hc.agree h.ag.cl
theorem AgW.rl {S S' : St} {V : Nat → Nat → Nat} (h : AgW S S') (hc : RlP S V) : RlP S' V := hc.agree h.ag.rl
