/-! the rows of sets with one, two, three lines, as the class goes through them -/
def nsX (x : Int32) : Int32 := (x + (x &&& (-x))) ||| (((x ^^^ (x + (x &&& (-x)))) / (x &&& (-x))) >>> (2 &&& 31))
theorem ns_eq {x y : Int32} (h : ¬ (x &&& (-x)) = 0) (e : nsX x = y) (T : St) : F_X2_nextSet x T = some (y, T) := by
  unfold F_X2_nextSet
  rw [if_neg h, gd_t (decide_eq_true h), ← e]
  rfl
def tri2 : Nat → Nat
  | 0 => 0
  | b + 1 => tri2 b + b
def tri3 : Nat → Nat
  | 0 => 0
  | d + 1 => tri3 d + tri2 d
def nx2 (p : Nat × Nat) : Nat × Nat := if p.1 + 1 < p.2 then (p.1 + 1, p.2) else (0, p.2 + 1)
def nx3 (p : Nat × Nat × Nat) : Nat × Nat × Nat := if p.1 + 1 < p.2.1 then (p.1 + 1, p.2.1, p.2.2) else if p.2.1 + 1 < p.2.2 then (0, p.2.1 + 1, p.2.2) else (0, 1, p.2.2 + 1)
def st2 : Nat → Nat × Nat
  | 0 => (0, 1)
  | k + 1 => nx2 (st2 k)
def st3 : Nat → Nat × Nat × Nat
  | 0 => (0, 1, 2)
  | k + 1 => nx3 (st3 k)
def vl2 (p : Nat × Nat) : Nat := (0 ||| 2 ^ p.1) ||| 2 ^ p.2
def vl3 (p : Nat × Nat × Nat) : Nat := ((0 ||| 2 ^ p.1) ||| 2 ^ p.2.1) ||| 2 ^ p.2.2
theorem row2 {b : Nat} (hb : 1 ≤ b) (h : st2 (tri2 b) = (0, b)) : ∀ a, a < b → st2 (tri2 b + a) = (a, b)
  | 0, _ => h
  | a + 1, ha => by
    have ih := row2 hb h a (by omega)
    show nx2 (st2 (tri2 b + a)) = _
    rw [ih]
    exact if_pos ha
theorem beg2 : ∀ b, 1 ≤ b → st2 (tri2 b) = (0, b)
  | 0, h => absurd h (by decide)
  | 1, _ => rfl
  | b + 2, _ => by
    have ih := row2 (b := b + 1) (by omega) (beg2 (b + 1) (by omega)) b (by omega)
    show st2 (tri2 (b + 1) + (b + 1)) = _
    rw [← Nat.add_assoc]
    show nx2 (st2 (tri2 (b + 1) + b)) = _
    rw [ih]
    exact if_neg (Nat.lt_irrefl _)
theorem at2 {a b : Nat} (h : a < b) : st2 (tri2 b + a) = (a, b) := row2 (by omega) (beg2 b (by omega)) a h
theorem rank2 : ∀ n k, k < tri2 n → ∃ b a, b < n ∧ a < b ∧ k = tri2 b + a
  | 0, k, h => absurd h (Nat.not_lt_zero k)
  | n + 1, k, h => by
    have h' : k < tri2 n + n := h
    by_cases c : k < tri2 n
    · obtain ⟨b, a, q1, q2, q3⟩ := rank2 n k c
      exact ⟨b, a, by omega, q2, q3⟩
    · exact ⟨n, k - tri2 n, by omega, by omega, by omega⟩
theorem row3b {d b : Nat} (hb1 : 1 ≤ b) (hbd : b < d) (h : st3 (tri3 d + tri2 b) = (0, b, d)) : ∀ a, a < b → st3 (tri3 d + tri2 b + a) = (a, b, d)
  | 0, _ => h
  | a + 1, ha => by
    have ih := row3b hb1 hbd h a (by omega)
    show nx3 (st3 (tri3 d + tri2 b + a)) = _
    rw [ih]
    exact if_pos ha
theorem row3 {d : Nat} (hd : 2 ≤ d) (h : st3 (tri3 d) = (0, 1, d)) : ∀ b, 1 ≤ b → b < d → st3 (tri3 d + tri2 b) = (0, b, d)
  | 0, h1, _ => absurd h1 (by decide)
  | 1, _, _ => h
  | b + 2, _, hb => by
    have ih := row3b (d := d) (b := b + 1) (by omega) (by omega) (row3 hd h (b + 1) (by omega) (by omega)) b (by omega)
    show st3 (tri3 d + (tri2 (b + 1) + (b + 1))) = _
    rw [← Nat.add_assoc, ← Nat.add_assoc]
    show nx3 (st3 (tri3 d + tri2 (b + 1) + b)) = _
    rw [ih]
    show (if b + 1 < b + 1 then _ else (if b + 1 + 1 < d then (0, b + 1 + 1, d) else _)) = _
    rw [if_neg (Nat.lt_irrefl _), if_pos hb]
theorem beg3 : ∀ d, 2 ≤ d → st3 (tri3 d) = (0, 1, d)
  | 0, h => absurd h (by decide)
  | 1, h => absurd h (by decide)
  | 2, _ => rfl
  | d + 3, _ => by
    have ih := row3b (d := d + 2) (b := d + 1) (by omega) (by omega) (row3 (by omega) (beg3 (d + 2) (by omega)) (d + 1) (by omega) (by omega)) d (by omega)
    show st3 (tri3 (d + 2) + (tri2 (d + 1) + (d + 1))) = _
    rw [← Nat.add_assoc, ← Nat.add_assoc]
    show nx3 (st3 (tri3 (d + 2) + tri2 (d + 1) + d)) = _
    rw [ih]
    show (if d + 1 < d + 1 then _ else (if d + 1 + 1 < d + 2 then _ else (0, 1, d + 2 + 1))) = _
    rw [if_neg (Nat.lt_irrefl _), if_neg (Nat.lt_irrefl _)]
theorem at3 {a b d : Nat} (h1 : a < b) (h2 : b < d) : st3 (tri3 d + tri2 b + a) = (a, b, d) := row3b (by omega) h2 (row3 (by omega) (beg3 d (by omega)) b (by omega) h2) a h1
theorem rank3 : ∀ n k, k < tri3 n → ∃ d b a, d < n ∧ b < d ∧ a < b ∧ k = tri3 d + tri2 b + a
  | 0, k, h => absurd h (Nat.not_lt_zero k)
  | n + 1, k, h => by
    have h' : k < tri3 n + tri2 n := h
    by_cases c : k < tri3 n
    · obtain ⟨d, b, a, q1, q2, q3, q4⟩ := rank3 n k c
      exact ⟨d, b, a, by omega, q2, q3, q4⟩
    · obtain ⟨b, a, q1, q2, q3⟩ := rank2 n (k - tri3 n) (by omega)
      exact ⟨n, b, a, by omega, q1, q2, by omega⟩
theorem tri2_lt {a b n : Nat} (h1 : a < b) (h2 : b < n) : tri2 b + a < tri2 n := by
  induction n with
  | zero => omega
  | succ n ih =>
    show tri2 b + a < tri2 n + n
    by_cases c : b = n
    · subst c; omega
    · have := ih (by omega); omega
theorem tri3_lt {a b d n : Nat} (h1 : a < b) (h2 : b < d) (h3 : d < n) : tri3 d + tri2 b + a < tri3 n := by
  induction n with
  | zero => omega
  | succ n ih =>
    have h2' := tri2_lt h1 h2
    show tri3 d + tri2 b + a < tri3 n + tri2 n
    by_cases c : d = n
    · subst c; omega
    · have := ih (by omega); omega
theorem tri_le : ∀ n, n ≤ 20 → tri2 n < 2000 ∧ tri3 n < 2000 := by decide
theorem gs1 : ∀ k, k < 20 → ¬ (nI (2 ^ k) &&& (- nI (2 ^ k))) = 0 ∧ nsX (nI (2 ^ k)) = nI (2 ^ (k + 1)) := by decide +kernel
theorem gs2 : ∀ b, b < 20 → ∀ a, a < b → ¬ (nI (vl2 (a, b)) &&& (- nI (vl2 (a, b)))) = 0 ∧ nsX (nI (vl2 (a, b))) = nI (vl2 (nx2 (a, b))) ∧ 0 < vl2 (a, b) ∧ vl2 (a, b) < 2 ^ (b + 1) ∧ vl2 (a, b) < vl2 (nx2 (a, b)) := by decide +kernel
theorem gs3 : ∀ d, d < 20 → ∀ b, b < d → ∀ a, a < b → ¬ (nI (vl3 (a, b, d)) &&& (- nI (vl3 (a, b, d)))) = 0 ∧ nsX (nI (vl3 (a, b, d))) = nI (vl3 (nx3 (a, b, d))) ∧ 0 < vl3 (a, b, d) ∧ vl3 (a, b, d) < 2 ^ (d + 1) ∧ vl3 (a, b, d) < vl3 (nx3 (a, b, d)) := by decide +kernel
theorem en2 : ∀ n, n ≤ 20 → 2 ^ n ≤ vl2 (0, n) ∧ vl2 (0, n) < 2 ^ 30 := by decide +kernel
theorem en3 : ∀ n, n ≤ 20 → 2 ^ n ≤ vl3 (0, 1, n) ∧ vl3 (0, 1, n) < 2 ^ 30 := by decide +kernel
/-- the sets with c lines from i on, added to s -/
def RD (n : Nat) : Nat → Nat → Nat → Nat → Prop
  | 0, _, s, m => m = s
  | c + 1, i, s, m => ∃ j, i ≤ j ∧ j < n ∧ RD n c (j + 1) (s ||| 2 ^ j) m
theorem cl_find1 {N : Nat} (hN : 2100 ≤ N) {V : Nat → Nat → Nat} {S : St} (ok : OKV V) (hc : ClP S V) : ∃ S' x3' o', F_X2_find N (nI 1) S = some (x3', S') ∧ AgK S S' ∧ CtB S' V x3' o' ∧ Bst V o' (RD (V 8 0) 1 0 0) := by
  have h20 := ok.1
  obtain ⟨S', x3', o', u1, u2, u3, u4⟩ := cl_seq hN ok (sq := fun k => 2 ^ k) (K := V 8 0) (by omega) (fun k hk => ⟨Nat.two_pow_pos k, Nat.pow_lt_pow_right (by decide) hk, Nat.pow_lt_pow_right (by decide) (Nat.lt_succ_self k), ns_eq (gs1 k (by omega)).1 (gs1 k (by omega)).2⟩) (Nat.le_refl _) (Nat.lt_of_le_of_lt (Nat.pow_le_pow_right (by decide) h20) (by decide)) (V 8 0) 0 N S 0 none hc rfl (fun m hm => by obtain ⟨j, hj, -⟩ := hm; omega) (by omega) (by omega)
  refine ⟨S', x3', o', ?_, u2, u3, u4.congr (fun m => ?_)⟩
  · unfold F_X2_find
    rw [show ((1 : Int32) <<< (nI 1 &&& 31)) - 1 = nI (2 ^ 0) by decide]
    exact u1
  · constructor
    · rintro ⟨j, hj, rfl⟩
      exact ⟨j, Nat.zero_le _, hj, (Nat.zero_or _).symm⟩
    · rintro ⟨j, -, hj, e⟩
      have e' : m = 0 ||| 2 ^ j := e
      exact ⟨j, hj, by rw [e', Nat.zero_or]⟩
theorem cl_find2 {N : Nat} (hN : 2100 ≤ N) {V : Nat → Nat → Nat} {S : St} (ok : OKV V) (hc : ClP S V) : ∃ S' x3' o', F_X2_find N (nI 2) S = some (x3', S') ∧ AgK S S' ∧ CtB S' V x3' o' ∧ Bst V o' (RD (V 8 0) 2 0 0) := by
  have h20 := ok.1
  have hend : 2 ^ V 8 0 ≤ vl2 (st2 (tri2 (V 8 0))) ∧ vl2 (st2 (tri2 (V 8 0))) < 2 ^ 30 := by
    by_cases c : V 8 0 = 0
    · rw [c]; decide
    · rw [beg2 _ (by omega)]; exact en2 _ h20
  obtain ⟨S', x3', o', u1, u2, u3, u4⟩ := cl_seq hN ok (sq := fun k => vl2 (st2 k)) (K := tri2 (V 8 0)) (tri_le _ h20).1 (fun k hk => by
    obtain ⟨b, a, q1, q2, q3⟩ := rank2 _ k hk
    have e : st2 k = (a, b) := by rw [q3]; exact at2 q2
    have e2 : st2 (k + 1) = nx2 (a, b) := by show nx2 (st2 k) = _; rw [e]
    obtain ⟨g1, g2, g3, g4, g5⟩ := gs2 b (by omega) a q2
    show 0 < vl2 (st2 k) ∧ vl2 (st2 k) < 2 ^ V 8 0 ∧ vl2 (st2 k) < vl2 (st2 (k + 1)) ∧ ∀ T : St, F_X2_nextSet (nI (vl2 (st2 k))) T = some (nI (vl2 (st2 (k + 1))), T)
    rw [e, e2]
    exact ⟨g3, Nat.lt_of_lt_of_le g4 (Nat.pow_le_pow_right (by decide) (by omega)), g5, ns_eq g1 g2⟩) hend.1 hend.2 (tri2 (V 8 0)) 0 N S 0 none hc rfl (fun m hm => by obtain ⟨j, hj, -⟩ := hm; omega) (by omega) (by have := (tri_le _ h20).1; omega)
  refine ⟨S', x3', o', ?_, u2, u3, u4.congr (fun m => ?_)⟩
  · unfold F_X2_find
    rw [show ((1 : Int32) <<< (nI 2 &&& 31)) - 1 = nI (vl2 (st2 0)) by decide]
    exact u1
  · constructor
    · rintro ⟨j, hj, rfl⟩
      obtain ⟨b, a, q1, q2, q3⟩ := rank2 _ j hj
      refine ⟨a, Nat.zero_le _, by omega, b, by omega, q1, ?_⟩
      show vl2 (st2 j) = _
      rw [q3, at2 q2]
      rfl
    · rintro ⟨a, -, ha, b, hb1, hb2, e⟩
      refine ⟨tri2 b + a, tri2_lt (by omega) hb2, ?_⟩
      show m = vl2 (st2 (tri2 b + a))
      rw [at2 (by omega)]
      exact e
theorem cl_find3 {N : Nat} (hN : 2100 ≤ N) {V : Nat → Nat → Nat} {S : St} (ok : OKV V) (hc : ClP S V) : ∃ S' x3' o', F_X2_find N (nI 3) S = some (x3', S') ∧ AgK S S' ∧ CtB S' V x3' o' ∧ Bst V o' (RD (V 8 0) 3 0 0) := by
  have h20 := ok.1
  have hend : 2 ^ V 8 0 ≤ vl3 (st3 (tri3 (V 8 0))) ∧ vl3 (st3 (tri3 (V 8 0))) < 2 ^ 30 := by
    by_cases c : V 8 0 = 0
    · rw [c]; decide
    · by_cases c1 : V 8 0 = 1
      · rw [c1]; decide
      · rw [beg3 _ (by omega)]; exact en3 _ h20
  obtain ⟨S', x3', o', u1, u2, u3, u4⟩ := cl_seq hN ok (sq := fun k => vl3 (st3 k)) (K := tri3 (V 8 0)) (tri_le _ h20).2 (fun k hk => by
    obtain ⟨d, b, a, q1, q2, q3, q4⟩ := rank3 _ k hk
    have e : st3 k = (a, b, d) := by rw [q4]; exact at3 q3 q2
    have e2 : st3 (k + 1) = nx3 (a, b, d) := by show nx3 (st3 k) = _; rw [e]
    obtain ⟨g1, g2, g3, g4, g5⟩ := gs3 d (by omega) b q2 a q3
    show 0 < vl3 (st3 k) ∧ vl3 (st3 k) < 2 ^ V 8 0 ∧ vl3 (st3 k) < vl3 (st3 (k + 1)) ∧ ∀ T : St, F_X2_nextSet (nI (vl3 (st3 k))) T = some (nI (vl3 (st3 (k + 1))), T)
    rw [e, e2]
    exact ⟨g3, Nat.lt_of_lt_of_le g4 (Nat.pow_le_pow_right (by decide) (by omega)), g5, ns_eq g1 g2⟩) hend.1 hend.2 (tri3 (V 8 0)) 0 N S 0 none hc rfl (fun m hm => by obtain ⟨j, hj, -⟩ := hm; omega) (by omega) (by have := (tri_le _ h20).2; omega)
  refine ⟨S', x3', o', ?_, u2, u3, u4.congr (fun m => ?_)⟩
  · unfold F_X2_find
    rw [show ((1 : Int32) <<< (nI 3 &&& 31)) - 1 = nI (vl3 (st3 0)) by decide]
    exact u1
  · constructor
    · rintro ⟨j, hj, rfl⟩
      obtain ⟨d, b, a, q1, q2, q3, q4⟩ := rank3 _ j hj
      refine ⟨a, Nat.zero_le _, by omega, b, by omega, by omega, d, by omega, q1, ?_⟩
      show vl3 (st3 j) = _
      rw [q4, at3 q3 q2]
      rfl
    · rintro ⟨a, -, ha, b, hb1, hb2, d, hd1, hd2, e⟩
      refine ⟨tri3 d + tri2 b + a, tri3_lt (by omega) (by omega) hd2, ?_⟩
      show m = vl3 (st3 (tri3 d + tri2 b + a))
      rw [at3 (by omega) (by omega)]
      exact e
theorem cl_find0 {N : Nat} (hN : 2100 ≤ N) {V : Nat → Nat → Nat} {S : St} (ok : OKV V) (hc : ClP S V) : ∃ S' x3' o', F_X2_find N (nI 0) S = some (x3', S') ∧ AgK S S' ∧ CtB S' V x3' o' ∧ Bst V o' (RD (V 8 0) 0 0 0) := by
  have h20 := ok.1
  have hp20 : 2 ^ V 8 0 ≤ 2 ^ 20 := Nat.pow_le_pow_right (by decide) h20
  have hp0 : 0 < 2 ^ V 8 0 := Nat.two_pow_pos _
  have g2 : ¬ (1 <<< ((S.1 1 0) &&& 31) : Int32) ≤ nI 0 := by rw [hc.1, bit_le _ (by omega)]; exact nI_ge hp0 (by omega)
  have ht : F_X2_leavesNeedsTold N (nI 0) S = some (bI (vld V 0), S) := cl_told ok hc (by decide) (V 8 0) 0 N 0 (by omega) (by omega) rfl
  have hB0 : Bst V none (fun _ => False) := fun m hm => hm.elim
  have hB := hB0.addC (x := 0) (fun m hm => hm.elim)
  have e0 : F_X2_find N (nI 0) S = F_X2_find_12 N N 0 (nI 0) 0 S := by
    unfold F_X2_find
    rw [show ((1 : Int32) <<< (nI 0 &&& 31)) - 1 = nI 0 by decide]
  obtain ⟨n, hn⟩ : ∃ n, N = n + 1 := ⟨N - 1, by omega⟩
  have hS : ∀ M, F_X2_find_12 M (n + 1) 0 (nI 0) 0 S = (if (1 <<< ((S.1 1 0) &&& 31)) ≤ nI 0 then (gd (decide ((0 : Int32) = 0 ∨ (0 : Int32) = 1)) (some (0, S))) else ((F_X2_leavesNeedsTold M (nI 0) S).bind (fun r_34 => if r_34.1 = 0 then (some (0, r_34.2)) else ((F_X2_weigh M (nI 0) (1 : Int32) r_34.2).bind (fun r_53 => some (1, r_53)))))) := fun M => rfl
  have stp : F_X2_find N (nI 0) S = (if bI (vld V 0) = 0 then some (0, S) else ((F_X2_weigh N (nI 0) (1 : Int32) S).bind (fun r_53 => some (1, r_53)))) := by
    rw [e0]
    conv => lhs; arg 2; rw [hn]
    rw [hS, if_neg g2, ht, Option.bind_some]
  rw [stp]
  by_cases v : vld V 0 = true
  · obtain ⟨S1, s1, s2, s3⟩ := cl_weigh (x3 := 0) (o := none) ok hc (m := 0) (by decide) rfl rfl (V 8 0) 0 N (by omega) (by omega)
    have s1' : F_X2_weigh N (nI 0) 1 S = some S1 := s1
    rw [if_neg (bI_ne.mpr v), s1', Option.bind_some]
    unfold upC at hB
    rw [if_pos v] at hB
    exact ⟨S1, 1, some 0, rfl, s2, s3, hB.congr (fun m => ⟨fun h => h.elim False.elim id, Or.inr⟩)⟩
  · rw [if_pos (bI_0.mpr (Bool.eq_false_iff.mpr v))]
    unfold upC at hB
    rw [if_neg v] at hB
    exact ⟨S, 0, none, rfl, AgO.rfl, rfl, hB.congr (fun m => ⟨fun h => h.elim False.elim id, Or.inr⟩)⟩
