theorem mI_t {P : Prop} [Decidable P] (h : P) : bI (decide P) = 1 := bI_t (decide_eq_true h)
theorem mI_f {P : Prop} [Decidable P] (h : ¬ P) : bI (decide P) = 0 := bI_f (decide_eq_false h)
theorem line12_t {x1 x2 x3 : Int32} (h : (¬ x1 < 0 ∧ ¬ 599 < x1) ∧ (¬ x2 < 1 ∧ ¬ 30 < x2) ∧ ¬ x3 < 0 ∧ ¬ 255 < x3 / 1000 ∧ (x3 - x3 / 1000 * 1000) ≤ 255) (S : St) : F_X12_line x1 x2 x3 S = if S.1 63 1 = 20 then some (-3, S) else F_X12_addLine (x1 / 100) ((x1 / 10) - ((x1 / 10) / 10) * 10) (x1 - (x1 / 10) * 10) x2 (x3 / 1000) (x3 - (x3 / 1000) * 1000) S := by
  unfold F_X12_line
  have n10 : ¬ (1 : Int32) = 0 := by decide
  rw [F_in, Option.bind_some, mI_t h.1]
  dsimp only
  rw [if_neg n10, F_in, Option.bind_some, mI_t h.2.1]
  dsimp only
  rw [if_neg n10, if_neg h.2.2.1, if_neg h.2.2.2.1, if_pos h.2.2.2.2]
  split
  · rfl
  · cases F_X12_addLine (x1 / 100) ((x1 / 10) - ((x1 / 10) / 10) * 10) (x1 - (x1 / 10) * 10) x2 (x3 / 1000) (x3 - (x3 / 1000) * 1000) S <;> rfl
theorem line12_f {x1 x2 x3 : Int32} (h : ¬ ((¬ x1 < 0 ∧ ¬ 599 < x1) ∧ (¬ x2 < 1 ∧ ¬ 30 < x2) ∧ ¬ x3 < 0 ∧ ¬ 255 < x3 / 1000 ∧ (x3 - x3 / 1000 * 1000) ≤ 255)) (S : St) : F_X12_line x1 x2 x3 S = some (-1, S) := by
  unfold F_X12_line
  have n10 : ¬ (1 : Int32) = 0 := by decide
  rw [F_in, Option.bind_some]
  dsimp only
  by_cases h1 : (¬ x1 < 0 ∧ ¬ 599 < x1)
  · rw [mI_t h1, if_neg n10, F_in, Option.bind_some]
    dsimp only
    by_cases h2 : (¬ x2 < 1 ∧ ¬ 30 < x2)
    · rw [mI_t h2, if_neg n10]
      by_cases h3 : x3 < 0
      · rw [if_pos h3]
      · rw [if_neg h3]
        by_cases h4 : 255 < x3 / 1000
        · rw [if_pos h4]
        · rw [if_neg h4, if_neg (fun h5 => h ⟨h1, h2, h3, h4, h5⟩)]
    · rw [mI_f h2, if_pos rfl]
  · rw [mI_f h1, if_pos rfl]
theorem line11_t {x1 x2 x3 : Int32} (h1 : ¬ x1 < 0) (h3 : 0 ≤ x3) (hm : (¬ x1 / 100 < 0 ∧ ¬ 6 ≤ x1 / 100) ∧ ¬ ((x1 / 10) - ((x1 / 10) / 10) * 10) < 0 ∧ ¬ 10 ≤ ((x1 / 10) - ((x1 / 10) / 10) * 10) ∧ ¬ (x1 - (x1 / 10) * 10) < 0 ∧ ¬ 10 ≤ (x1 - (x1 / 10) * 10) ∧ ¬ x2 < 1 ∧ ¬ 30 < x2 ∧ ¬ x3 / 1000 < 0 ∧ ¬ 255 < x3 / 1000) (h5 : (x3 - x3 / 1000 * 1000) ≤ 255) (S : St) : F_X11_line x1 x2 x3 S = if S.1 1 0 < 20 then F_X8_add x1 x2 (x3 / 1000) (x3 - (x3 / 1000) * 1000) S else some (-3, S) := by
  unfold F_X11_line
  have n10 : ¬ (1 : Int32) = 0 := by decide
  rw [if_neg h1, if_pos h3, F_mayBe, Option.bind_some, mI_t hm]
  dsimp only
  rw [if_neg n10, if_pos h5]
  unfold F_X8_isFull
  by_cases hf : S.1 1 0 < 20
  · rw [if_pos hf, if_pos hf, Option.bind_some]
    dsimp only
    rw [if_pos rfl]
    cases F_X8_add x1 x2 (x3 / 1000) (x3 - (x3 / 1000) * 1000) S <;> rfl
  · rw [if_neg hf, if_neg hf, Option.bind_some]
    dsimp only
    rw [if_neg n10]
theorem line11_f {x1 x2 x3 : Int32} (h : ¬ (¬ x1 < 0 ∧ 0 ≤ x3 ∧ ((¬ x1 / 100 < 0 ∧ ¬ 6 ≤ x1 / 100) ∧ ¬ ((x1 / 10) - ((x1 / 10) / 10) * 10) < 0 ∧ ¬ 10 ≤ ((x1 / 10) - ((x1 / 10) / 10) * 10) ∧ ¬ (x1 - (x1 / 10) * 10) < 0 ∧ ¬ 10 ≤ (x1 - (x1 / 10) * 10) ∧ ¬ x2 < 1 ∧ ¬ 30 < x2 ∧ ¬ x3 / 1000 < 0 ∧ ¬ 255 < x3 / 1000) ∧ (x3 - x3 / 1000 * 1000) ≤ 255)) (S : St) : F_X11_line x1 x2 x3 S = some (-1, S) := by
  unfold F_X11_line
  have n10 : ¬ (1 : Int32) = 0 := by decide
  by_cases h1 : x1 < 0
  · rw [if_pos h1]
  rw [if_neg h1]
  by_cases h3 : 0 ≤ x3
  · rw [if_pos h3, F_mayBe, Option.bind_some]
    dsimp only
    by_cases hm : (¬ x1 / 100 < 0 ∧ ¬ 6 ≤ x1 / 100) ∧ ¬ ((x1 / 10) - ((x1 / 10) / 10) * 10) < 0 ∧ ¬ 10 ≤ ((x1 / 10) - ((x1 / 10) / 10) * 10) ∧ ¬ (x1 - (x1 / 10) * 10) < 0 ∧ ¬ 10 ≤ (x1 - (x1 / 10) * 10) ∧ ¬ x2 < 1 ∧ ¬ 30 < x2 ∧ ¬ x3 / 1000 < 0 ∧ ¬ 255 < x3 / 1000
    · rw [mI_t hm, if_neg n10, if_neg (fun h5 => h ⟨h1, h3, hm, h5⟩)]
    · rw [mI_f hm, if_pos rfl]
  · rw [if_neg h3]
/-- a line that may be comes in both systems -/
theorem line_add {S : St} (h : Inv S) {p s t e : Nat} (hp : p < 600) (hs : 1 ≤ s) (hs2 : s ≤ 30) (ht : t < 256) (he : e < 256) : ∃ (n : Nat), n ≤ 20 ∧ S.1 1 0 = nI n ∧ S.1 63 1 = nI n ∧ (n < 20 → ∃ S1, F_X8_add (nI p) (nI s) (nI t) (nI e) S = some (nI n, S1) ∧ S1.1 63 1 = nI n ∧ S1.2.1 100 = S.2.1 100 ∧ S1.2.1 101 = S.2.1 101 ∧ S1.2.2 = S.2.2 ∧ ∃ S2, F_X12_addLine (nI (p / 100)) (nI (p / 10 % 10)) (nI (p % 10)) (nI s) (nI t) (nI e) S1 = some (nI n, S2) ∧ Inv S2 ∧ S2.2.1 100 = S.2.1 100 ∧ S2.2.1 101 = S.2.1 101 ∧ S2.2.2 = S.2.2) := by
  obtain ⟨V, kd, hP, hT, hB, hTr, hSh, hC, hI, hN, hL⟩ := h
  obtain ⟨h20, n1, n2⟩ := hP.1
  refine ⟨V 8 0, h20, n1, n2, fun hlt => ?_⟩
  let n := V 8 0
  let S1 : St := fset (aset (aset (aset (aset (aset (aset (aset (aset S 21 (upd (S.2.1 21) n (nI (p / 100)))) 22 (upd (S.2.1 22) n (nI (p / 10 % 10)))) 23 (upd (S.2.1 23) n (nI (p % 10)))) 24 (upd (S.2.1 24) n (nI s))) 25 (upd (S.2.1 25) n (nI t))) 26 (upd (S.2.1 26) n (nI e))) 27 (upd (S.2.1 27) n 50)) 29 (upd (S.2.1 29) (p / 10 % 10) (S.2.1 29 (p / 10 % 10) ||| nI (2 ^ n)))) 1 0 (nI (n + 1))
  have a1 : F_X8_add (nI p) (nI s) (nI t) (nI e) S = some (nI n, S1) := add8_eq hlt n1 hp
  let S2 : St := fset (aset (aset (aset (aset (aset (aset (aset S1 64 (upd (S1.2.1 64) n (nI (p / 100)))) 65 (upd (S1.2.1 65) n (nI (p / 10 % 10)))) 66 (upd (S1.2.1 66) n (nI (p % 10)))) 67 (upd (S1.2.1 67) n (nI s))) 68 (upd (S1.2.1 68) n (nI t))) 69 (upd (S1.2.1 69) n (nI e))) 70 (upd (S1.2.1 70) n 50)) 63 1 (nI (n + 1))
  have n2' : S1.1 63 1 = nI n := n2
  have a2 : F_X12_addLine (nI (p / 100)) (nI (p / 10 % 10)) (nI (p % 10)) (nI s) (nI t) (nI e) S1 = some (nI n, S2) := add12_eq hlt n2' _ _ _ _ _ _
  have hP' : IPlay (S2.1 1 0) (S2.1 63 1) (S2.1 1 10) (S2.1 63 10) (S2.1 1 11) (S2.1 63 11) (S2.2.1 21) (S2.2.1 22) (S2.2.1 23) (S2.2.1 24) (S2.2.1 25) (S2.2.1 26) (S2.2.1 27) (S2.2.1 28) (S2.2.1 29) (S2.2.1 64) (S2.2.1 65) (S2.2.1 66) (S2.2.1 67) (S2.2.1 68) (S2.2.1 69) (S2.2.1 70) (S2.2.1 71) (addV V p s t e) := hP.add hlt hp hs hs2 ht he
  refine ⟨S1, a1, n2', rfl, rfl, rfl, S2, a2, ?_, rfl, rfl, rfl⟩
  exact ⟨addV V p s t e, kd, hP', hT, hB, hTr, hSh, hC.up, hI.up, hN, hL⟩
/-- line -/
theorem st_line {S : St} (h : Inv S) (x1 x2 x3 : Int32) : Both (F_X11_line x1 x2 x3) (F_X12_line x1 x2 x3) S := by
  by_cases h1 : x1 < 0
  · exact both_ro h (r := -1) (line11_f (fun q => q.1 h1) S) (line12_f (fun q => q.1.1 h1) S)
  by_cases h3 : x3 < 0
  · exact both_ro h (r := -1) (line11_f (fun q => Int32.not_le.mpr h3 q.2.1) S) (line12_f (fun q => q.2.2.1 h3) S)
  obtain ⟨p, hp, rfl⟩ := nI_of h1
  obtain ⟨q, hq, rfl⟩ := nI_of h3
  have e1 : nI p / 100 = nI (p / 100) := pk_div (d := 100) (by omega) (by decide) (by decide)
  have e2 : nI p / 10 = nI (p / 10) := pk_div (d := 10) (by omega) (by decide) (by decide)
  have e3 : nI (p / 10) - nI (p / 10) / 10 * 10 = nI (p / 10 % 10) := pk_rem (d := 10) (by omega) (by decide) (by decide)
  have e4 : nI p - nI p / 10 * 10 = nI (p % 10) := pk_rem (d := 10) (by omega) (by decide) (by decide)
  have e5 : nI q / 1000 = nI (q / 1000) := pk_div (d := 1000) (by omega) (by decide) (by decide)
  have e6 : nI q - nI q / 1000 * 1000 = nI (q % 1000) := pk_rem (d := 1000) (by omega) (by decide) (by decide)
  by_cases h6 : p < 600
  · by_cases h2 : (¬ x2 < 1 ∧ ¬ 30 < x2)
    · by_cases h7 : q / 1000 < 256
      · by_cases h8 : q % 1000 < 256
        · obtain ⟨s, hs, rfl⟩ := nI_of2 (x := x2) (n := 30) (by decide) (fun z => h2.1 (Int32.lt_trans z (by decide))) (Int32.not_lt.mp h2.2)
          have hs1 : 1 ≤ s := Nat.not_lt.mp fun z => h2.1 (nI_lt (b := 1) z (by decide))
          obtain ⟨n, hn, n1, n2, hadd⟩ := line_add h h6 hs1 hs h7 h8
          have c1 : (¬ nI p / 100 < 0 ∧ ¬ 6 ≤ nI p / 100) ∧ ¬ ((nI p / 10) - ((nI p / 10) / 10) * 10) < 0 ∧ ¬ 10 ≤ ((nI p / 10) - ((nI p / 10) / 10) * 10) ∧ ¬ (nI p - (nI p / 10) * 10) < 0 ∧ ¬ 10 ≤ (nI p - (nI p / 10) * 10) ∧ ¬ nI s < 1 ∧ ¬ 30 < nI s ∧ ¬ nI q / 1000 < 0 ∧ ¬ 255 < nI q / 1000 := by
            rw [e4, e1, e5, e2, e3]
            exact ⟨⟨nI_pos (by omega), nI_ge (b := 6) (by omega) (by decide)⟩, nI_pos (by omega), nI_ge (b := 10) (by omega) (by decide), nI_pos (by omega), nI_ge (b := 10) (by omega) (by decide), h2.1, h2.2, nI_pos (by omega), nI_nlt (a := 255) (by omega) (by decide)⟩
          have c2 : (nI q - nI q / 1000 * 1000) ≤ 255 := by rw [e6]; exact nI_le (b := 255) (by omega) (by decide)
          have c3 : (0 : Int32) ≤ nI q := Int32.not_lt.mp h3
          have c4 : ¬ 599 < nI p := nI_nlt (a := 599) (by omega) (by decide)
          have c5 : ¬ 255 < nI q / 1000 := c1.2.2.2.2.2.2.2.2
          by_cases hf : n < 20
          · obtain ⟨S1, a1, a2, _, _, _, S2, a3, a4, _⟩ := hadd hf
            refine ⟨nI n, S1, S2, ?_, ?_, a4⟩
            · rw [line11_t h1 c3 c1 c2, n1, if_pos (show nI n < 20 from nI_lt (b := 20) hf (by decide)), e6, e5]
              exact a1
            · rw [line12_t ⟨⟨h1, c4⟩, h2, h3, c5, c2⟩, a2, if_neg (fun z => by have := nI_inj (b := 20) (by omega) (by decide) z; omega), e6, e5, e4, e1, e2, e3]
              exact a3
          · have h20 : n = 20 := by omega
            subst h20
            refine both_ro h (r := -3) ?_ ?_
            · rw [line11_t h1 c3 c1 c2, n1, if_neg (by decide)]
            · rw [line12_t ⟨⟨h1, c4⟩, h2, h3, c5, c2⟩, n2, if_pos (by decide)]
        · have c2 : ¬ (nI q - nI q / 1000 * 1000) ≤ 255 := by rw [e6]; exact Int32.not_le.mpr (nI_lt (a := 255) (by omega) (by omega))
          exact both_ro h (r := -1) (line11_f (fun z => c2 z.2.2.2) S) (line12_f (fun z => c2 z.2.2.2.2) S)
      · have c5 : 255 < nI q / 1000 := by rw [e5]; exact nI_lt (a := 255) (by omega) (by omega)
        exact both_ro h (r := -1) (line11_f (fun z => z.2.2.1.2.2.2.2.2.2.2.2 c5) S) (line12_f (fun z => z.2.2.2.1 c5) S)
    · exact both_ro h (r := -1) (line11_f (fun z => h2 ⟨z.2.2.1.2.2.2.2.2.1, z.2.2.1.2.2.2.2.2.2.1⟩) S) (line12_f (fun z => h2 z.2.1) S)
  · have c4 : 599 < nI p := nI_lt (a := 599) (by omega) (by omega)
    have c6 : 6 ≤ nI p / 100 := by rw [e1]; exact nI_le (a := 6) (by omega) (by omega)
    exact both_ro h (r := -1) (line11_f (fun z => z.2.2.1.1.2 c6) S) (line12_f (fun z => z.1.2 c4) S)
