theorem both_ro {f1 f2 : St → Option (Int32 × St)} {S : St} (h : Inv S) {r : Int32} (h1 : f1 S = some (r, S)) (h2 : f2 S = some (r, S)) : Both f1 f2 S := ⟨r, S, S, h1, h2, h⟩
theorem F_noKind (x : Int32) (S : St) : F_X11_isNoKind x S = some (bI (!decide (¬ x < 0 ∧ x < 8)), S) := by
  unfold F_X11_isNoKind
  by_cases h1 : x < 0
  · rw [if_pos h1]; simp [bI, h1]
  · by_cases h2 : x < 8
    · rw [if_neg h1, if_pos h2]; simp only [h1, h2]; rfl
    · rw [if_neg h1, if_neg h2]; simp only [h1, h2]; rfl
theorem F_noFig (x : Int32) (S : St) : F_X11_isNoFigure x S = some (bI (!decide (¬ x < 0 ∧ x ≤ 4)), S) := by
  unfold F_X11_isNoFigure
  by_cases h1 : x < 0
  · rw [if_pos h1]; simp [bI, h1]
  · by_cases h2 : x ≤ 4
    · rw [if_neg h1, if_pos h2]; simp only [h1, h2]; rfl
    · rw [if_neg h1, if_neg h2]; simp only [h1, h2]; rfl
theorem F_noShelf (x : Int32) (S : St) : F_X11_isNoShelf x S = some (bI (!decide (¬ x < 0 ∧ x < 6)), S) := by
  unfold F_X11_isNoShelf
  by_cases h1 : x < 0
  · rw [if_pos h1]; simp [bI, h1]
  · by_cases h2 : x < 6
    · rw [if_neg h1, if_pos h2]; simp only [h1, h2]; rfl
    · rw [if_neg h1, if_neg h2]; simp only [h1, h2]; rfl
/-- a number between 0 and N, or not -/
theorem rng (x : Int32) (N : Nat) (hN : N < 2 ^ 31 - 1) : (∃ j : Nat, j ≤ N ∧ x = nI j) ∨ x < 0 ∨ nI N < x := by
  by_cases h1 : x < 0
  · exact Or.inr (Or.inl h1)
  · obtain ⟨j, hj, rfl⟩ := nI_of h1
    by_cases h2 : j ≤ N
    · exact Or.inl ⟨j, h2, rfl⟩
    · exact Or.inr (Or.inr (nI_lt (by omega) (by omega)))
theorem in_t {j N : Nat} (h : j ≤ N) (hN : N < 2 ^ 31) (S : St) : F_X12_in (nI j) 0 (nI N) S = some (1, S) := by
  rw [F_in, bI_t (decide_eq_true ⟨nI_pos (by omega), Int32.not_lt.mpr (nI_le h hN)⟩)]
theorem in_f {x : Int32} {N : Nat} (h : x < 0 ∨ nI N < x) (S : St) : F_X12_in x 0 (nI N) S = some (0, S) := by
  rw [F_in, bI_f (decide_eq_false (fun q => h.elim q.1 q.2))]
/-- count -/
theorem st_count {S : St} (h : Inv S) (x : Int32) : Both (F_X11_count x) (F_X12_count x) S := by
  obtain ⟨V, kd, ⟨⟨_, n1, n2⟩, _⟩, ⟨t, _, t1, t2, _⟩, ⟨_, b1, b2, _⟩, ⟨r, _, r1, r2, _⟩, _, ⟨a, u, _, c1, _, c2, _⟩, _⟩ := id h
  have e0 : S.1 1 0 = S.1 63 1 := n1.trans n2.symm
  have e1 : S.1 0 2 = S.1 63 19 := t1.trans t2.symm
  have e2 : S.1 11 0 = S.1 63 12 := c1.trans c2.symm
  have e3 : S.1 12 0 = S.1 63 55 := b1.trans b2.symm
  have e4 : S.1 12 1 = S.1 63 57 := r1.trans r2.symm
  have key : F_X11_count x S = F_X12_count x S := by unfold F_X11_count F_X12_count; rw [e0, e1, e2, e3, e4]
  have hr : ∃ r, F_X12_count x S = some (r, S) := by
    unfold F_X12_count
    by_cases h0 : x = 0
    · exact ⟨_, by rw [if_pos h0]⟩
    by_cases h1 : x = 1
    · exact ⟨_, by rw [if_neg h0, if_pos h1]⟩
    by_cases h2 : x = 2
    · exact ⟨_, by rw [if_neg h0, if_neg h1, if_pos h2]⟩
    by_cases h3 : x = 3
    · exact ⟨_, by rw [if_neg h0, if_neg h1, if_neg h2, if_pos h3]⟩
    by_cases h4 : x = 4
    · exact ⟨_, by rw [if_neg h0, if_neg h1, if_neg h2, if_neg h3, if_pos h4]⟩
    exact ⟨_, by rw [if_neg h0, if_neg h1, if_neg h2, if_neg h3, if_neg h4]⟩
  obtain ⟨r, hr⟩ := hr
  exact both_ro h (key.trans hr) hr
/-- trace -/
theorem st_trace {S : St} (h : Inv S) (x : Int32) : Both (F_X11_trace x) (F_X12_trace x) S := by
  obtain ⟨V, kd, _, _, _, ⟨r, hr, r1, r2, hq⟩, _⟩ := id h
  unfold F_X11_trace F_X12_trace F_X0_traced
  by_cases h0 : x < 0
  · exact both_ro h (r := -1) (by simp only [if_pos h0]) (by simp only [if_pos h0])
  · obtain ⟨j, hj, rfl⟩ := nI_of h0
    have hm : (if (24 : Int32) < S.1 12 1 then 24 else S.1 12 1) = nI (min r 24) := by
      rw [r1]
      by_cases hc : 24 < r
      · have q : (24 : Int32) < nI r := nI_lt (a := 24) hc (by omega)
        rw [if_pos q, Nat.min_eq_right (by omega)]; rfl
      · have q : ¬ (24 : Int32) < nI r := nI_nlt (a := 24) (by omega) (by decide)
        rw [if_neg q, Nat.min_eq_left (by omega)]
    by_cases hlt : j < min r 24
    · have a1 : nI j < nI (min r 24) := nI_lt hlt (by omega)
      have a2 : ¬ nI r ≤ nI j := nI_ge (by omega) (by omega)
      have a3 : ¬ (24 : Int32) ≤ nI j := nI_ge (b := 24) (by omega) (by decide)
      have a4 : inb (nI j) 24 = true := inb_nI (by omega) (by decide)
      refine both_ro h (r := S.2.1 99 j) ?_ ?_
      · simp only [if_neg h0, Option.bind_some, hm, if_pos a1, gd_t a4, nI_clamp hj, hq j (by omega) (by omega)]
      · simp only [if_neg h0, r2, if_neg a2, if_neg a3, gd_t a4, nI_clamp hj]
    · have a1 : ¬ nI j < nI (min r 24) := nI_nlt (by omega) hj
      refine both_ro h (r := -1) ?_ ?_
      · simp only [if_neg h0, Option.bind_some, hm, if_neg a1]
      · by_cases hc : r ≤ j
        · simp only [if_neg h0, r2, if_pos (nI_le hc hj)]
        · have a2 : ¬ nI r ≤ nI j := nI_ge (by omega) (by omega)
          have a3 : (24 : Int32) ≤ nI j := nI_le (a := 24) (by omega) hj
          simp only [if_neg h0, r2, if_neg a2, if_pos a3]
/-- told -/
theorem st_told {S : St} (h : Inv S) (x : Int32) : Both (F_X11_told x) (F_X12_told x) S := by
  obtain ⟨V, kd, _, _, _, _, _, _, _, hN, _⟩ := id h
  unfold F_X11_told F_X12_told
  rcases rng x 4 (by decide) with ⟨j, hj, rfl⟩ | hb
  · have a1 : F_X11_isNoFigure (nI j) S = some (0, S) := by rw [F_noFig, bI_f (by rw [decide_eq_true ⟨nI_pos (by omega), nI_le (b := 4) hj (by decide)⟩]; rfl)]
    have a2 : F_X12_in (nI j) (0 : Int32) (4 : Int32) S = some (1, S) := in_t hj (by decide) S
    have a3 : inb (nI j) 5 = true := inb_nI (by omega) (by decide)
    rcases hN with ⟨z1, b2⟩ | ⟨b2, z, hz1, hz2, z1, z2, c0, c1, c2, c3, c4, _⟩
    · exact both_ro h (r := -5) (by simp only [a1, Option.bind_some, if_true, z1]) (by simp only [a2, Option.bind_some, b2, if_true]; rw [if_neg (by decide)])
    · have hz : ¬ S.1 5 0 = 0 := by rw [z1]; exact nI_ne0 hz1 (by omega)
      refine both_ro h (r := S.2.1 93 j) ?_ ?_
      · simp only [a1, Option.bind_some, if_true, if_neg hz]
        unfold F_X7_figure
        rcases (show j = 0 ∨ j = 1 ∨ j = 2 ∨ j = 3 ∨ j = 4 by omega) with rfl | rfl | rfl | rfl | rfl
        · rw [if_pos (by decide), c0, ← z1]; rfl
        · rw [if_neg (by decide), if_pos (by decide), c1]; rfl
        · rw [if_neg (by decide), if_neg (by decide), if_pos (by decide), c2]; rfl
        · rw [if_neg (by decide), if_neg (by decide), if_neg (by decide), if_pos (by decide), c3]; rfl
        · rw [if_neg (by decide), if_neg (by decide), if_neg (by decide), if_neg (by decide), c4]; rfl
      · simp only [a2, Option.bind_some, b2, gd_t a3, nI_clamp (show j < 2 ^ 31 by omega)]
        rw [if_neg (by decide), if_neg (by decide)]
  · have a1 : F_X11_isNoFigure x S = some (1, S) := by
      rw [F_noFig, bI_t]
      have : decide (¬ x < 0 ∧ x ≤ 4) = false := decide_eq_false (fun q => hb.elim q.1 (fun z => absurd q.2 (Int32.not_le.mpr z)))
      rw [this]; rfl
    have a2 : F_X12_in x (0 : Int32) (4 : Int32) S = some (0, S) := in_f hb S
    exact both_ro h (r := -1) (by simp only [a1, Option.bind_some]; rw [if_neg (by decide)]) (by simp only [a2, Option.bind_some, if_true])
