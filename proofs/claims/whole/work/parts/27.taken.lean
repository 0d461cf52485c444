theorem F_noKind_t {j : Nat} (hj : j ≤ 7) (S : St) : F_X11_isNoKind (nI j) S = some (0, S) := by
  rw [F_noKind, bI_f (by rw [decide_eq_true ⟨nI_pos (by omega), nI_lt (b := 8) (by omega) (by decide)⟩]; rfl)]
theorem F_noKind_f {x : Int32} (hx : x < 0 ∨ nI 7 < x) (S : St) : F_X11_isNoKind x S = some (1, S) := by
  rw [F_noKind, bI_t]
  have : decide (¬ x < 0 ∧ x < 8) = false := decide_eq_false (lt_le (N := 7) (by decide) hx)
  rw [this]; rfl
/-- taken -/
theorem st_taken {N : Nat} (hN : 9 ≤ N) {S : St} (h : Inv S) (x y : Int32) : Both (F_X11_taken N x y) (F_X12_taken x y) S := by
  obtain ⟨V, kd, hP, hT, ⟨hl, b1, b2, hk⟩, hTr, hSh, hRest⟩ := id h
  obtain ⟨n, rfl⟩ : ∃ n, N = n + 9 := ⟨N - 9, by omega⟩
  have n10 : ¬ (1 : Int32) = 0 := by decide
  unfold F_X11_taken F_X12_taken F_X9_holdsNothing F_X9_holdsRow
  rcases rng x 5 (by decide) with ⟨b, hb, rfl⟩ | hx
  · have i6 : inb (nI b) 6 = true := inb_nI (by omega) (by decide)
    have cb : Int32.toNatClampNeg (nI b) = b := nI_clamp (by omega)
    rcases rng y 7 (by decide) with ⟨u, hu, rfl⟩ | hy
    · have a2 : F_X12_in (nI u) (0 : Int32) (7 : Int32) S = some (1, S) := in_t hu (by decide) S
      obtain ⟨he, hc⟩ := sh_at hSh (show b < 6 by omega)
      rcases hc with ⟨q1, q2⟩ | ⟨q1, c, q2, q3, q4⟩ | ⟨q1, t, z, ht, hz, q2, q3, q4, q5, q6⟩
      · refine both_ro h (r := -11) ?_ ?_
        · simp only [F_noShelf_t hb, F_noKind_t hu, Option.bind_some, if_true, gd_t i6, cb, q1, if_neg n10]
        · simp only [F_isShelf_t hb, a2, Option.bind_some, if_neg n10, gd_t i6, cb, q2, if_true]
      · have hc0 : ¬ nI c = -1 := fun q => by
          have := nI_pos (n := c) (by omega)
          rw [q] at this
          exact this (by decide)
        have hc1 : ¬ nI c < 0 := nI_pos (by omega)
        have i50 : inb (nI c) 50 = true := inb_nI (by omega) (by decide)
        have cc : Int32.toNatClampNeg (nI c) = c := nI_clamp (by omega)
        obtain ⟨k1, k2, k3⟩ := hk c q2
        have s1 : ¬ (1 : Int32) = 2 := by decide
        cases hund : undB (kd.getD c 0) u with
        | true =>
          refine both_ro h (r := nI (kd.getD c 0)) ?_ ?_
          · simp only [F_noShelf_t hb, F_noKind_t hu, Option.bind_some, if_true, gd_t i6, cb, q1, if_neg n10, if_neg s1, q4, F_und0 k3 (show u < 8 by omega), hund, bI_t]
          · simp only [F_isShelf_t hb, a2, Option.bind_some, if_neg n10, gd_t i6, cb, q3, if_neg hc0, if_neg hc1, gd_t i50, cc, k2, F_und12 k3 (show u < 8 by omega), hund, bI_t]
        | false =>
          refine both_ro h (r := -12) ?_ ?_
          · simp only [F_noShelf_t hb, F_noKind_t hu, Option.bind_some, if_true, gd_t i6, cb, q1, if_neg n10, if_neg s1, q4, F_und0 k3 (show u < 8 by omega), hund, bI_f]
          · simp only [F_isShelf_t hb, a2, Option.bind_some, if_neg n10, gd_t i6, cb, q3, if_neg hc0, if_neg hc1, gd_t i50, cc, k2, F_und12 k3 (show u < 8 by omega), hund, bI_f, if_true]
      · have s0 : ¬ (2 : Int32) = 0 := by decide
        have hh : ¬ S.2.1 100 b = -1 ∧ S.2.1 100 b < 0 := by
          rw [q3]
          rcases (show t = 0 ∨ t = 1 ∨ t = 2 ∨ t = 3 ∨ t = 4 by omega) with rfl | rfl | rfl | rfl | rfl <;> decide
        refine both_ro h (r := -12) ?_ ?_
        · simp only [F_noShelf_t hb, F_noKind_t hu, Option.bind_some, if_true, gd_t i6, cb, q1, if_neg n10, if_neg s0]
        · simp only [F_isShelf_t hb, a2, Option.bind_some, if_neg n10, gd_t i6, cb, if_neg hh.1, if_pos hh.2]
    · have a2 : F_X12_in y (0 : Int32) (7 : Int32) S = some (0, S) := in_f hy S
      refine both_ro h (r := -1) ?_ ?_
      · simp only [F_noShelf_t hb, F_noKind_f hy, Option.bind_some, if_true, if_neg n10]
      · simp only [F_isShelf_t hb, a2, Option.bind_some, if_neg n10, if_true]
  · refine both_ro h (r := -1) ?_ ?_
    · simp only [F_noShelf_f hx, Option.bind_some, if_neg n10]
    · simp only [F_isShelf_f hx, Option.bind_some, if_true]
