/-- both systems' plays went on alike: the invariant holds behind it -/
theorem inv_two {S S1 S2 : St} {V V' : Nat → Nat → Nat} {kd : List Nat} (h : InvV S V kd) (ok : OKV V') (hn : V 8 0 ≤ V' 8 0) (c1 : ClP S1 V') (a1 : AgO nfC naC lAll S S1) (c2 : RlP S2 V') (a2 : AgO nfR naR lAll S1 S2) : InvV S2 V' kd := by
  refine h.play (S' := S2) ((a1.weak (f' := fX) (a' := aX) (l' := lX) (fun _ _ => fX_nC) (fun _ => aX_nC) (fun _ _ => rfl)).trans (a2.weak (fun _ _ => fX_nR) (fun _ => aX_nR) (fun _ _ => rfl))) (play_iff.mpr ⟨ok, ?_, c2⟩) hn
  exact c1.agree (a2.weak (fun _ _ => fCl_nR) (fun _ => aCl_nR) (fun _ q => by cases q))
/-- lines -/
theorem st_lines {N : Nat} (hN : 20 ≤ N) {S : St} (h : Inv S) (x1 x2 x3 : Int32) : Both (F_X11_lines N x1 x2 x3) (F_X12_lines N x1 x2 x3) S := by
  obtain ⟨V, kd, hI⟩ := id h
  obtain ⟨ok, hc, hr⟩ := play_iff.mp hI.1
  obtain ⟨_, _, ⟨hl, b1, b2, hk⟩, _, hSh, _⟩ := id hI
  have n10 : ¬ (1 : Int32) = 0 := by decide
  obtain ⟨N, rfl⟩ : ∃ M, N = M + 1 := ⟨N - 1, by omega⟩
  rcases rng x1 5 (by decide) with ⟨b, hb, rfl⟩ | hx
  · have i6 : inb (nI b) 6 = true := inb_nI (by omega) (by decide)
    have cb : Int32.toNatClampNeg (nI b) = b := nI_clamp (by omega)
    by_cases h3 : ¬ x3 < 1 ∧ ¬ 12 < x3
    · have h12 : x3 ≤ 12 := Int32.not_lt.mp h3.2
      obtain ⟨he, hcs⟩ := sh_at hSh (show b < 6 by omega)
      rcases hcs with ⟨q1, q2⟩ | ⟨q1, c, q2, q3, q4⟩ | ⟨q1, t, z, ht, hz, q2, q3, q4, q5, q6⟩
      · refine both_ro h (r := 0) ?_ ?_
        · unfold F_X11_lines F_X9_holdsNothing
          simp only [F_noShelf_t hb, Option.bind_some, if_true, if_neg h3.1, if_pos h12, gd_t i6, cb, q1, if_neg n10]
        · unfold F_X12_lines
          simp only [F_isShelf_t hb, F_in, mI_t h3, Option.bind_some, if_neg n10, gd_t i6, cb, q2, if_true]
      · have hc0 : ¬ nI c = -1 := fun q => by
          have := nI_pos (n := c) (by omega)
          rw [q] at this
          exact this (by decide)
        have hc3 : ¬ nI c = -3 := fun q => by
          have := nI_pos (n := c) (by omega)
          rw [q] at this
          exact this (by decide)
        have s1 : ¬ (1 : Int32) = 2 := by decide
        refine both_ro h (r := -12) ?_ ?_
        · unfold F_X11_lines F_X9_holdsNothing F_X9_holdsRowOf
          simp only [F_noShelf_t hb, Option.bind_some, if_true, if_neg h3.1, if_pos h12, gd_t i6, cb, q1, if_neg n10, if_neg s1]
        · unfold F_X12_lines
          simp only [F_isShelf_t hb, F_in, mI_t h3, Option.bind_some, if_neg n10, gd_t i6, cb, q3, if_neg hc0, if_neg hc3]
      · have s0 : ¬ (2 : Int32) = 0 := by decide
        by_cases ht1 : t = 1
        · subst ht1
          have q3' : S.2.1 100 b = -3 := q3.trans (by decide)
          have s3 : ¬ (-3 : Int32) = -1 := by decide
          have e1 : F_X11_lines (N + 1) (nI b) x2 x3 S = F_X11_lines_53 (N + 1) x2 x3 b 0 S := by
            unfold F_X11_lines F_X9_holdsNothing F_X9_holdsRowOf
            have q2' : S.1 (14 + b) 2 = 1 := q2
            simp only [F_noShelf_t hb, Option.bind_some, if_true, if_neg h3.1, if_pos h12, gd_t i6, cb, q1, if_neg s0, q2', if_neg n10]
          have e2 : ∀ S1 : St, S1.2.1 100 = S.2.1 100 → F_X12_lines (N + 1) (nI b) x2 x3 S1 = F_X12_lines_58 (N + 1) (nI b) x2 x3 0 S1 := fun S1 hs => by
            unfold F_X12_lines
            simp only [F_isShelf_t hb, F_in, mI_t h3, Option.bind_some, if_neg n10, gd_t i6, cb, hs, q3', if_neg s3, if_true]
          obtain ⟨n, hn, rfl⟩ := nI_of2 (x := x3) (n := 12) (by decide) (fun z => h3.1 (Int32.lt_trans z (by decide))) h12
          have hn1 : 1 ≤ n := Nat.not_lt.mp fun z => h3.1 (nI_lt (b := 1) z (by decide))
          by_cases hx2 : x2 < 0
          · refine both_ro h (r := 0) ?_ ?_
            · rw [e1]
              show (if nI n ≤ 0 then some (nI n, S) else (if x2 < 0 then some ((0 : Int32), S) else _)) = _
              rw [if_neg (nI_nle hn1 (by omega)), if_pos hx2]
            · rw [e2 S rfl]
              show (if nI n ≤ 0 then some (nI n, S) else (if (lg_cmp ((Int32.toInt64 x2) + (Int32.toInt64 (5 * (0 : Int32)))) 0) < 0 then some ((0 : Int32), S) else _)) = _
              have e5 : Int32.toInt64 (5 * (0 : Int32)) = 0 := by decide
              have hlt : x2.toInt < 0 := Int32.lt_iff_toInt_lt.mp hx2
              have e6 : lg_cmp (Int32.toInt64 x2 + 0) 0 < 0 := by
                rw [lg_cmp_lt, Int64.add_zero, Int64.lt_iff_toInt_lt, Int32.toInt_toInt64]
                exact hlt
              rw [if_neg (nI_nle hn1 (by omega)), e5, if_pos e6]
          · obtain ⟨i, hi, rfl⟩ := nI_of hx2
            let e : Nat → Int32 := fun j => Int64.toInt32 (S.2.2 (57 + b) j)
            obtain ⟨S1, r1, ok', hle, c1, a1⟩ := cl_lines (b := b) (z := z) (i := i) (n := n) (by omega) hz hi (by omega) (e := e) n 0 (N + 1) V S (by omega) (by omega) ok hc q4 (fun j _ => rfl)
            have hr1 : RlP S1 V := hr.agree (a1.weak (fun _ _ => fRl_nC) (fun _ => aRl_nC) (fun _ q => by cases q))
            have z1 : S1.2.1 101 b = nI z := by rw [a1.2.1 101 (by decide)]; exact q5
            have he1 : ∀ j, j < 60 → e j = Int64.toInt32 (S1.2.2 102 (60 * b + j)) := fun j hj => by
              rw [a1.2.2 102 rfl]
              exact congrArg Int64.toInt32 (he j hj)
            obtain ⟨S2, r2, c2, a2⟩ := rl_lines (b := b) (z := z) (i := i) (n := n) (by omega) hz hi (by omega) (e := e) n 0 (N + 1) V S1 (by omega) (by omega) ok hr1 z1 he1
            refine ⟨nI (linesP e z i n 0 V).1, S1, S2, ?_, ?_, (linesP e z i n 0 V).2, kd, inv_two hI ok' hle c1 a1 c2 a2⟩
            · rw [e1]; exact r1
            · rw [e2 S1 (a1.2.1 100 (by decide))]; exact r2
        · have w1 : ¬ S.1 (14 + b) 2 = 1 := by rw [q2]; intro q; exact ht1 (nI_inj (b := 1) (by omega) (by decide) q)
          have w2 : ¬ S.2.1 100 b = -1 ∧ ¬ S.2.1 100 b = -3 := by
            rw [q3]
            rcases (show t = 0 ∨ t = 2 ∨ t = 3 ∨ t = 4 by omega) with rfl | rfl | rfl | rfl <;> decide
          refine both_ro h (r := -12) ?_ ?_
          · unfold F_X11_lines F_X9_holdsNothing F_X9_holdsRowOf
            simp only [F_noShelf_t hb, Option.bind_some, if_true, if_neg h3.1, if_pos h12, gd_t i6, cb, q1, if_neg s0, if_neg w1]
          · unfold F_X12_lines
            simp only [F_isShelf_t hb, F_in, mI_t h3, Option.bind_some, if_neg n10, gd_t i6, cb, if_neg w2.1, if_neg w2.2]
    · refine both_ro h (r := -1) ?_ ?_
      · unfold F_X11_lines
        by_cases h1 : x3 < 1
        · simp only [F_noShelf_t hb, Option.bind_some, if_true, if_pos h1]
        · have h2 : ¬ x3 ≤ 12 := fun q => h3 ⟨h1, Int32.not_lt.mpr q⟩
          simp only [F_noShelf_t hb, Option.bind_some, if_true, if_neg h1, if_neg h2]
      · unfold F_X12_lines
        simp only [F_isShelf_t hb, F_in, mI_f h3, Option.bind_some, if_neg n10, if_true]
  · refine both_ro h (r := -1) ?_ ?_
    · unfold F_X11_lines
      simp only [F_noShelf_f hx, Option.bind_some, if_neg n10]
    · unfold F_X12_lines
      simp only [F_isShelf_f hx, Option.bind_some, if_true]
