theorem cl_isJump {S : St} {V : Nat → Nat → Nat} (ok : OKV V) (hc : ClP S V) {i j : Nat} (hi : i < V 8 0) (hj : j < V 8 0) : F_X8_isJump (nI i) (nI j) S = some (bI (jpB V i j), S) := by
  have h20 := ok.1
  have hml : jm V i < 2 ^ 20 := msk_lt h20
  have tb : (jm V i).testBit j = jpB V i j := by
    unfold jm
    rw [maskOf_bit, decide_eq_true hj]; rfl
  unfold F_X8_isJump
  simp only [F_has8_t hc.1 h20 hi, F_has8_t hc.1 h20 hj, Option.bind_some, if_neg (show ¬ (1 : Int32) = 0 by decide), jf_eq ok hc hi]
  by_cases c : jpB V i j = true
  · rw [if_neg (fun z => by rw [(tst_bit (m := jm V i) (j := j) (Nat.lt_trans hml (by decide)) (by omega)).mp z, c] at tb; cases tb), bI_t c]
  · rw [if_pos ((tst_bit (m := jm V i) (j := j) (Nat.lt_trans hml (by decide)) (by omega)).mpr (by rw [tb]; exact Bool.eq_false_iff.mpr c)), bI_f (Bool.eq_false_iff.mpr c)]
theorem pair_cases {S : St} {V : Nat → Nat → Nat} (ok : OKV V) (hc : ClP S V) (hr : RlP S V) (x : Int32) : (∃ i j : Nat, i < V 8 0 ∧ j < V 8 0 ∧ ¬ x < 0 ∧ x / 100 = nI i ∧ x - x / 100 * 100 = nI j ∧ F_X11_areLines x S = some (1, S)) ∨ (F_X11_areLines x S = some (0, S) ∧ (x < 0 ∨ (¬ x < 0 ∧ F_X12_isLine (x / 100) S = some (0, S)) ∨ (¬ x < 0 ∧ F_X12_isLine (x / 100) S = some (1, S) ∧ F_X12_isLine (x - x / 100 * 100) S = some (0, S)))) := by
  have h20 := ok.1
  have n10 : ¬ (1 : Int32) = 0 := by decide
  unfold F_X11_areLines
  by_cases h0 : x < 0
  · right
    rw [if_pos h0]
    exact ⟨rfl, Or.inl h0⟩
  · rw [if_neg h0]
    rcases line_or (x / 100) (V 8 0) with ⟨i, hi, ei⟩ | hx
    · rcases line_or (x - x / 100 * 100) (V 8 0) with ⟨j, hj, ej⟩ | hx2
      · left
        refine ⟨i, j, hi, hj, h0, ei, ej, ?_⟩
        rw [ej, ei]
        simp only [F_has8_t hc.1 h20 hi, F_has8_t hc.1 h20 hj, Option.bind_some, if_neg n10]
      · right
        have q1 := F_has8_f h20 hc.1 hx2
        have q2 := F_isLine_f h20 hr.1 hx2
        have q3 : F_X8_has (x / 100) S = some (1, S) := by rw [ei]; exact F_has8_t hc.1 h20 hi
        have q4 : F_X12_isLine (x / 100) S = some (1, S) := by rw [ei]; exact F_isLine_t hi h20 hr.1
        refine ⟨?_, Or.inr (Or.inr ⟨h0, q4, q2⟩)⟩
        simp only [q3, q1, Option.bind_some, if_neg n10, if_true]
    · right
      refine ⟨?_, Or.inr (Or.inl ⟨h0, F_isLine_f h20 hr.1 hx⟩)⟩
      simp only [F_has8_f h20 hc.1 hx, Option.bind_some, if_true]
section
variable {V : Nat → Nat → Nat} {S : St}
theorem bh_2 (ok : OKV V) (hc : ClP S V) (hr : RlP S V) : ∀ (m k n1 n2 : Nat) (x4 x5 : Int32), k + m = V 8 0 → m < n1 → m < n2 → ∃ R, F_X11_behind_94 n1 x4 x5 (nI k) S = some (R, S) ∧ F_X12_behind_103 n2 x4 x5 (nI k) S = some (R, S)
  | m, k, 0, n2, _, _, _, hn, _ => absurd hn (Nat.not_lt_zero m)
  | m, k, n1, 0, _, _, _, _, hn => absurd hn (Nat.not_lt_zero m)
  | 0, k, n1 + 1, n2 + 1, x4, x5, hk, _, _ => by
    have e : k = V 8 0 := hk
    refine ⟨x5, ?_, ?_⟩
    · show (if (S.1 1 0) ≤ nI k then (some (x5, S)) else _) = _
      rw [if_pos (by rw [hc.1, e]; exact Int32.le_refl _)]
    · show (if (S.1 63 1) ≤ nI k then (some (x5, S)) else _) = _
      rw [if_pos (by rw [hr.1, e]; exact Int32.le_refl _)]
  | m + 1, k, n1 + 1, n2 + 1, x4, x5, hk, _, _ => by
    have h20 := ok.1
    have hkk : k < V 8 0 := by omega
    obtain ⟨R, R1, R2⟩ := bh_2 ok hc hr m (k + 1) n1 n2 (x4 ||| nI (V 4 k)) (x5 ||| (nI (V 5 k) &&& (x4 ^^^ (-1)))) (by omega) (by omega) (by omega)
    have hi : inb (nI k) 20 = true := inb_nI (by omega) (by decide)
    obtain ⟨-, -, -, -, a4, a5, -⟩ := hc.2.2.2.1 k hkk
    obtain ⟨-, -, -, -, b4, b5, -⟩ := hr.2.2.2.1 k hkk
    refine ⟨R, ?_, ?_⟩
    · show (if (S.1 1 0) ≤ nI k then _ else (gd (inb (nI k) 20) (gd (inb (nI k) 20) (F_X11_behind_94 n1 (x4 ||| (S.2.1 25 (Int32.toNatClampNeg (nI k)))) (x5 ||| ((S.2.1 26 (Int32.toNatClampNeg (nI k))) &&& (x4 ^^^ (-1)))) (nI k + 1) S)))) = _
      rw [if_neg (by rw [hc.1]; exact nI_ge hkk (by omega)), gd_t hi, gd_t hi, nI_clamp (by omega), a4, a5, nI_1]
      exact R1
    · show (if (S.1 63 1) ≤ nI k then _ else (gd (inb (nI k) 20) (gd (inb (nI k) 20) (F_X12_behind_103 n2 (x4 ||| (S.2.1 68 (Int32.toNatClampNeg (nI k)))) (x5 ||| ((S.2.1 69 (Int32.toNatClampNeg (nI k))) &&& (x4 ^^^ (-1)))) (nI k + 1) S)))) = _
      rw [if_neg (by rw [hr.1]; exact nI_ge hkk (by omega)), gd_t hi, gd_t hi, nI_clamp (by omega), b4, b5, nI_1]
      exact R2
theorem bh_1 {N : Nat} (hN : 130 ≤ N) (ok : OKV V) (hc : ClP S V) (hr : RlP S V) {i j : Nat} (hi : i < V 8 0) (hj : j < V 8 0) : ∀ (m k n1 n2 : Nat) (x4 x5 : Int32), k + m = i + 1 → m < n1 → m < n2 → ∃ R, F_X11_behind_44 N n1 (nI i) (nI j) x4 x5 (nI k) S = some (R, S) ∧ F_X12_behind_59 N n2 (nI i) (nI j) x4 x5 (nI k) S = some (R, S)
  | m, k, 0, n2, _, _, _, hn, _ => absurd hn (Nat.not_lt_zero m)
  | m, k, n1, 0, _, _, _, _, hn => absurd hn (Nat.not_lt_zero m)
  | 0, k, n1 + 1, n2 + 1, x4, x5, hk, _, _ => by
    have h20 := ok.1
    have e : k = i + 1 := hk
    obtain ⟨R, R1, R2⟩ := bh_2 ok hc hr (V 8 0 - j) j N N x4 x5 (by omega) (by omega) (by omega)
    have g : nI i < nI k := by rw [e]; exact nI_lt (by omega) (by omega)
    refine ⟨R, ?_, ?_⟩
    · show (if nI i < nI k then (F_X11_behind_94 N x4 x5 (nI j) S) else _) = _
      rw [if_pos g]
      exact R1
    · show (if nI i < nI k then (F_X12_behind_103 N x4 x5 (nI j) S) else _) = _
      rw [if_pos g]
      exact R2
  | m + 1, k, n1 + 1, n2 + 1, x4, x5, hk, _, _ => by
    have h20 := ok.1
    have hkk : k < V 8 0 := by omega
    obtain ⟨R, R1, R2⟩ := bh_1 hN ok hc hr hi hj m (k + 1) n1 n2 (x4 ||| nI (V 4 k)) (x5 ||| (nI (V 5 k) &&& (x4 ^^^ (-1)))) (by omega) (by omega) (by omega)
    have hi' : inb (nI k) 20 = true := inb_nI (by omega) (by decide)
    have g : ¬ nI i < nI k := nI_nlt (by omega) (by omega)
    obtain ⟨-, -, -, -, a4, a5, -⟩ := hc.2.2.2.1 k hkk
    obtain ⟨-, -, -, -, b4, b5, -⟩ := hr.2.2.2.1 k hkk
    refine ⟨R, ?_, ?_⟩
    · show (if nI i < nI k then _ else (gd (inb (nI k) 20) (gd (inb (nI k) 20) (F_X11_behind_44 N n1 (nI i) (nI j) (x4 ||| (S.2.1 25 (Int32.toNatClampNeg (nI k)))) (x5 ||| ((S.2.1 26 (Int32.toNatClampNeg (nI k))) &&& (x4 ^^^ (-1)))) (nI k + 1) S)))) = _
      rw [if_neg g, gd_t hi', gd_t hi', nI_clamp (by omega), a4, a5, nI_1]
      exact R1
    · show (if nI i < nI k then _ else (gd (inb (nI k) 20) (gd (inb (nI k) 20) (F_X12_behind_59 N n2 (nI i) (nI j) (x4 ||| (S.2.1 68 (Int32.toNatClampNeg (nI k)))) (x5 ||| ((S.2.1 69 (Int32.toNatClampNeg (nI k))) &&& (x4 ^^^ (-1)))) (nI k + 1) S)))) = _
      rw [if_neg g, gd_t hi', gd_t hi', nI_clamp (by omega), b4, b5, nI_1]
      exact R2
end
/-- behind -/
theorem st_behind {N : Nat} (hN : 130 ≤ N) {S : St} (h : Inv S) (x : Int32) : Both (F_X11_behind N x) (F_X12_behind N x) S := by
  obtain ⟨V, kd, hI⟩ := id h
  obtain ⟨ok, hc, hr, -⟩ := hI.parts
  have h20 := ok.1
  have n10 : ¬ (1 : Int32) = 0 := by decide
  rcases pair_cases ok hc hr x with ⟨i, j, hi, hj, h0, ei, ej, ea⟩ | ⟨ea, ho⟩
  · have t1 := F_isLine_t hi h20 hr.1
    have t2 := F_isLine_t hj h20 hr.1
    by_cases c : jpB V i j = true
    · obtain ⟨R, R1, R2⟩ := bh_1 hN ok hc hr hi hj (i + 1) 0 N N 0 0 (by omega) (by omega) (by omega)
      refine both_ro h (r := R) ?_ ?_
      · unfold F_X11_behind
        rw [ea, ej, ei]
        simp only [Option.bind_some, if_neg n10, cl_isJump ok hc hi hj, if_neg (bI_ne.mpr c)]
        exact R1
      · unfold F_X12_behind
        rw [if_neg h0, ej, ei]
        simp only [t1, t2, Option.bind_some, if_neg n10, rl_isJump ok hr hi hj, if_neg (bI_ne.mpr c)]
        exact R2
    · have c0 : bI (jpB V i j) = 0 := bI_0.mpr (Bool.eq_false_iff.mpr c)
      refine both_ro h (r := -2) ?_ ?_
      · unfold F_X11_behind
        rw [ea, ej, ei]
        simp only [Option.bind_some, if_neg n10, cl_isJump ok hc hi hj, c0, if_true]
      · unfold F_X12_behind
        rw [if_neg h0, ej, ei]
        simp only [t1, t2, Option.bind_some, if_neg n10, rl_isJump ok hr hi hj, c0, if_true]
  · refine both_ro h (r := -1) ?_ ?_
    · unfold F_X11_behind
      simp only [ea, Option.bind_some, if_true]
    · unfold F_X12_behind
      rcases ho with q | ⟨q, q1⟩ | ⟨q, q1, q2⟩
      · rw [if_pos q]
      · rw [if_neg q, q1]
        simp only [Option.bind_some, if_true]
      · rw [if_neg q, q1]
        simp only [Option.bind_some, if_neg n10, q2, if_true]
