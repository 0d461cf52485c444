theorem shelf_cases {S : St} {kd : List Nat} {b : Nat} (hl : kd.length ≤ 50) (h : ShB S kd b) : (S.1 (14 + b) 0 = 0 ∧ S.2.1 100 b = -1) ∨ (S.1 (14 + b) 0 = 1 ∧ ¬ S.2.1 100 b = -1 ∧ 0 ≤ S.2.1 100 b) ∨ (S.1 (14 + b) 0 = 2 ∧ ∃ t z : Nat, t < 5 ∧ z ≤ 60 ∧ S.1 (14 + b) 2 = nI t ∧ S.2.1 100 b = -2 - nI t ∧ ¬ S.2.1 100 b = -1 ∧ S.2.1 100 b < 0 ∧ S.1 (14 + b) 3 = nI z ∧ S.2.1 101 b = nI z ∧ (t = 0 → ∀ i, i < 60 → -128 ≤ (S.2.2 (57 + b) i).toInt ∧ (S.2.2 (57 + b) i).toInt ≤ 127)) := by
  rcases h.2 with ⟨q1, q2⟩ | ⟨q1, c, q2, q3, q4⟩ | ⟨q1, t, z, ht, hz, q2, q3, q4, q5, q6⟩
  · exact Or.inl ⟨q1, q2⟩
  · refine Or.inr (Or.inl ⟨q1, ?_, ?_⟩)
    · rw [q3]; exact fun q => by
        have := nI_pos (n := c) (by omega)
        rw [q] at this
        exact this (by decide)
    · rw [q3]; exact nI_pos' (by omega)
  · have hh : ¬ S.2.1 100 b = -1 ∧ S.2.1 100 b < 0 := by
      rw [q3]
      rcases (show t = 0 ∨ t = 1 ∨ t = 2 ∨ t = 3 ∨ t = 4 by omega) with rfl | rfl | rfl | rfl | rfl <;> decide
    exact Or.inr (Or.inr ⟨q1, t, z, ht, hz, q2, q3, hh.1, hh.2, q4, q5, q6⟩)
theorem sort_inj {t u : Nat} (ht : t < 5) (hu : u < 5) (h : (-2 - nI t : Int32) = -2 - nI u) : t = u := by
  rcases (show t = 0 ∨ t = 1 ∨ t = 2 ∨ t = 3 ∨ t = 4 by omega) with rfl | rfl | rfl | rfl | rfl <;> rcases (show u = 0 ∨ u = 1 ∨ u = 2 ∨ u = 3 ∨ u = 4 by omega) with rfl | rfl | rfl | rfl | rfl <;> first | rfl | exact absurd h (by decide)
/-- shift -/
theorem st_shift {N : Nat} (hN : 100 ≤ N) {S : St} (h : Inv S) (x1 x2 x3 x4 x5 : Int32) : Both (F_X11_shift x1 x2 x3 x4 x5) (F_X12_shift N x1 x2 x3 x4 x5) S := by
  obtain ⟨V, kd, hI⟩ := id h
  obtain ⟨hP, hT, hB, hTr, hSh, hRest⟩ := id hI
  have hl := hB.1
  have n10 : ¬ (1 : Int32) = 0 := by decide
  have n12 : ¬ (1 : Int32) = 2 := by decide
  have n20 : ¬ (2 : Int32) = 0 := by decide
  rcases (rng x1 5 (by decide)).symm with hx | ⟨s, hs, rfl⟩
  · refine both_ro h (r := -1) ?_ ?_
    · unfold F_X11_shift
      simp only [F_noShelf_f hx, Option.bind_some, if_neg n10]
    · unfold F_X12_shift
      simp only [F_isShelf_f hx, Option.bind_some, if_true]
  rcases (rng x3 5 (by decide)).symm with hx | ⟨o, ho, rfl⟩
  · refine both_ro h (r := -1) ?_ ?_
    · unfold F_X11_shift
      simp only [F_noShelf_t hs, F_noShelf_f hx, Option.bind_some, if_neg n10, if_true]
    · unfold F_X12_shift
      simp only [F_isShelf_t hs, F_isShelf_f hx, Option.bind_some, if_true, if_neg n10]
  have i6 : inb (nI s) 6 = true := inb_nI (by omega) (by decide)
  have j6 : inb (nI o) 6 = true := inb_nI (by omega) (by decide)
  have cs : Int32.toNatClampNeg (nI s) = s := nI_clamp (by omega)
  have co : Int32.toNatClampNeg (nI o) = o := nI_clamp (by omega)
  have hss := sh_at hSh (show s < 6 by omega)
  have hso := sh_at hSh (show o < 6 by omega)
  rcases shelf_cases hl hss with ⟨q1, q2⟩ | hcs
  · refine both_ro h (r := -11) ?_ ?_
    · unfold F_X11_shift F_X9_holdsNothing
      simp only [F_noShelf_t hs, F_noShelf_t ho, Option.bind_some, if_true, gd_t i6, gd_t j6, cs, q1, if_neg n10]
    · unfold F_X12_shift
      simp only [F_isShelf_t hs, F_isShelf_t ho, Option.bind_some, if_neg n10, gd_t i6, cs, q2, if_true]
  have s0 : ¬ S.1 (14 + s) 0 = 0 := by
    rcases hcs with ⟨q1, _⟩ | ⟨q1, _⟩
    · rw [q1]; exact n10
    · rw [q1]; exact n20
  have sm : ¬ S.2.1 100 s = -1 := by
    rcases hcs with ⟨_, q1, _⟩ | ⟨_, _, _, _, _, _, _, q1, _⟩
    · exact q1
    · exact q1
  rcases shelf_cases hl hso with ⟨q1, q2⟩ | hco
  · refine both_ro h (r := -11) ?_ ?_
    · unfold F_X11_shift F_X9_holdsNothing
      simp only [F_noShelf_t hs, F_noShelf_t ho, Option.bind_some, if_true, gd_t i6, gd_t j6, cs, co, q1, if_neg n10, if_neg s0]
    · unfold F_X12_shift
      simp only [F_isShelf_t hs, F_isShelf_t ho, Option.bind_some, if_neg n10, gd_t i6, gd_t j6, cs, co, q2, if_true, if_neg sm]
  have o0 : ¬ S.1 (14 + o) 0 = 0 := by
    rcases hco with ⟨q1, _⟩ | ⟨q1, _⟩
    · rw [q1]; exact n10
    · rw [q1]; exact n20
  have om : ¬ S.2.1 100 o = -1 := by
    rcases hco with ⟨_, q1, _⟩ | ⟨_, _, _, _, _, _, _, q1, _⟩
    · exact q1
    · exact q1
  rcases hcs with ⟨q1, _, q3⟩ | ⟨q1, t, z, ht, hz, q2, q3, q4, q5, q6, q7, q8⟩
  · have w2 : ¬ S.1 (14 + s) 0 = 2 := by rw [q1]; exact n12
    refine both_ro h (r := -12) ?_ ?_
    · unfold F_X11_shift F_X9_holdsNothing F_X9_holdsRow
      simp only [F_noShelf_t hs, F_noShelf_t ho, Option.bind_some, if_true, gd_t i6, gd_t j6, cs, co, if_neg s0, if_neg o0, if_neg w2]
    · unfold F_X12_shift
      simp only [F_isShelf_t hs, F_isShelf_t ho, Option.bind_some, if_neg n10, gd_t i6, gd_t j6, cs, co, if_neg sm, if_neg om, if_pos q3]
  have g0 : ¬ 0 ≤ S.2.1 100 s := Int32.not_le.mpr q5
  rcases hco with ⟨p1, _, p3⟩ | ⟨p1, u, y, hu, hy, p2, p3, p4, p5, p6, p7, p8⟩
  · have w2 : ¬ S.1 (14 + o) 0 = 2 := by rw [p1]; exact n12
    have w3 : ¬ S.2.1 100 s = S.2.1 100 o := fun q => by rw [← q] at p3; exact g0 p3
    refine both_ro h (r := -12) ?_ ?_
    · unfold F_X11_shift F_X9_holdsNothing F_X9_holdsRow F_X9_holdsRowOf
      simp only [F_noShelf_t hs, F_noShelf_t ho, Option.bind_some, if_true, gd_t i6, gd_t j6, cs, co, q1, p1, if_neg n10, if_neg n20, if_neg n12]
    · unfold F_X12_shift
      simp only [F_isShelf_t hs, F_isShelf_t ho, Option.bind_some, if_neg n10, gd_t i6, gd_t j6, cs, co, if_neg sm, if_neg om, if_neg g0, if_neg w3]
  by_cases htu : ¬ t = u
  · have w2 : ¬ S.1 (14 + o) 2 = S.1 (14 + s) 2 := by rw [p2, q2]; exact fun q => htu (nI_inj (by omega) (by omega) q).symm
    have w3 : ¬ S.2.1 100 s = S.2.1 100 o := by rw [q3, p3]; exact fun q => htu (sort_inj ht hu q)
    refine both_ro h (r := -12) ?_ ?_
    · unfold F_X11_shift F_X9_holdsNothing F_X9_holdsRow F_X9_holdsRowOf
      simp only [F_noShelf_t hs, F_noShelf_t ho, Option.bind_some, if_true, gd_t i6, gd_t j6, cs, co, q1, p1, if_neg n10, if_neg n20, if_neg w2]
    · unfold F_X12_shift
      simp only [F_isShelf_t hs, F_isShelf_t ho, Option.bind_some, if_neg n10, gd_t i6, gd_t j6, cs, co, if_neg sm, if_neg om, if_neg g0, if_neg w3]
  have htu := Classical.not_not.mp htu
  subst htu
  have w2 : S.1 (14 + o) 2 = S.1 (14 + s) 2 := by rw [p2, q2]
  have w3 : S.2.1 100 s = S.2.1 100 o := by rw [q3, p3]
  have cl : F_X11_shift (nI s) x2 (nI o) x4 x5 S = ((F_X9_hasPlaces s x2 x5 S).bind (fun r_80 => if r_80.1 = 0 then (some ((-13), r_80.2)) else ((F_X9_hasPlaces o x4 x5 r_80.2).bind (fun r_92 => if r_92.1 = 0 then (some ((-13), r_92.2)) else (gd (cpok x2 x4 x5 60 60) (some (x5, lset r_92.2 (57 + o) (va_cpy (r_92.2.2.2 (57 + s)) (r_92.2.2.2 (57 + o)) (Int32.toNatClampNeg x2) (Int32.toNatClampNeg x4) (Int32.toNatClampNeg x5))))))))) := by
    unfold F_X11_shift F_X9_holdsNothing F_X9_holdsRow F_X9_holdsRowOf
    simp only [F_noShelf_t hs, F_noShelf_t ho, Option.bind_some, if_true, gd_t i6, gd_t j6, cs, co, q1, p1, if_neg n10, if_neg n20, if_pos w2]
  by_cases hpl : ¬ ∃ i j n : Nat, x2 = nI i ∧ x4 = nI j ∧ x5 = nI n ∧ i + n ≤ z ∧ j + n ≤ y
  · refine both_ro h (r := -13) ?_ (shift_f12 hs ho sm om q5 w3 q7 p7 hz hy hpl)
    rw [cl]
    by_cases hp1 : ∃ i n : Nat, x2 = nI i ∧ x5 = nI n ∧ i + n ≤ z
    · obtain ⟨i, n, rfl, rfl, hin⟩ := hp1
      rw [hp_t q6 hz hin, Option.bind_some]
      dsimp only
      rw [if_neg n10, hp_f p6 hy (fun q => by
        obtain ⟨j, m, rfl, e, hjm⟩ := q
        exact hpl ⟨i, j, n, rfl, rfl, rfl, hin, by
          by_cases hm : m < 2 ^ 31
          · have := nI_inj (by omega) hm e; omega
          · omega⟩), Option.bind_some]
      dsimp only
      rw [if_pos rfl]
    · rw [hp_f q6 hz hp1, Option.bind_some]
      dsimp only
      rw [if_pos rfl]
  obtain ⟨i, j, n, rfl, rfl, rfl, hi, hj⟩ := Classical.not_not.mp hpl
  let S1 : St := lset S (57 + o) (va_cpy (S.2.2 (57 + s)) (S.2.2 (57 + o)) i j n)
  have r1 : F_X11_shift (nI s) (nI i) (nI o) (nI j) (nI n) S = some (nI n, S1) := by
    have hcp : cpok (nI i) (nI j) (nI n) 60 60 = true := by
      refine decide_eq_true ⟨⟨nI_pos (by omega), nI_pos (by omega), nI_pos (by omega)⟩, ?_, ?_⟩ <;> (rw [nI_clamp (by omega), nI_clamp (by omega)]; omega)
    rw [cl, hp_t q6 hz hi, Option.bind_some]
    dsimp only
    rw [if_neg n10, hp_t p6 hy hj, Option.bind_some]
    dsimp only
    rw [if_neg n10, gd_t hcp, nI_clamp (by omega), nI_clamp (by omega), nI_clamp (by omega)]
  have e102 : S1.2.2 102 = S.2.2 102 := by
    show va_up S.2.2 (57 + o) _ 102 = _
    unfold va_up
    rw [if_neg (by omega)]
  have e103 : S1.2.2 103 = S.2.2 103 := by
    show va_up S.2.2 (57 + o) _ 103 = _
    unfold va_up
    rw [if_neg (by omega)]
  have r2 := shift_t12 hN (S := S1) hs ho sm om q5 w3 q7 p7 hz hy hi hj
  rw [e102, e103] at r2
  let E : Nat → Int64 := shB (shA (S.2.2 102) (S.2.2 103) (60 * s + i) 0 n) (S.2.2 102) (60 * o + j) 0 n
  let S2 : St := lset (lset S1 103 (shA (S.2.2 102) (S.2.2 103) (60 * s + i) 0 n)) 102 E
  refine ⟨nI n, S1, S2, r1, r2, V, kd, hP, hT, hB, hTr, sh_all (fun c hc => ?_), hRest⟩
  have hsc := sh_at hSh hc
  have eA : S2.2.2 (57 + c) = va_up S.2.2 (57 + o) (va_cpy (S.2.2 (57 + s)) (S.2.2 (57 + o)) i j n) (57 + c) := by
    show va_up (va_up S1.2.2 103 _) 102 E (57 + c) = _
    unfold va_up
    rw [if_neg (by omega), if_neg (by omega)]
    rfl
  have eB : S2.2.2 102 = E := rfl
  show IShelf (S.1 (14 + c) 0) (S.1 (14 + c) 1) (S.1 (14 + c) 2) (S.1 (14 + c) 3) (S.2.1 100 c) (S.2.1 101 c) (S2.2.2 (57 + c)) (fun q => S2.2.2 102 (60 * c + q)) kd
  rw [eA, eB]
  by_cases hcb : c = o
  · subst hcb
    rw [va_up, if_pos rfl]
    obtain ⟨a1, a2⟩ := hsc
    have cp : ∀ q, q < 60 → va_cpy (S.2.2 (57 + s)) (S.2.2 (57 + c)) i j n q = (if j ≤ q ∧ q < j + n then S.2.2 (57 + s) (i + (q - j)) else S.2.2 (57 + c) q) := fun q _ => rfl
    refine ⟨fun q hq => ?_, ?_⟩
    · rw [cp q hq]
      show _ = shB (shA (S.2.2 102) (S.2.2 103) (60 * s + i) 0 n) (S.2.2 102) (60 * c + j) 0 n (60 * c + q)
      unfold shB shA
      by_cases hin : j ≤ q ∧ q < j + n
      · rw [if_pos hin, if_pos (by omega), if_pos (by omega), hss.1 (i + (q - j)) (by omega)]
        exact congrArg (S.2.2 102) (show 60 * s + (i + (q - j)) = 60 * s + i + (60 * c + q - (60 * c + j)) by omega)
      · rw [if_neg hin, if_neg (by omega)]
        exact a1 q hq
    · refine a2.imp id (fun w => w.imp id ?_)
      rintro ⟨c1, t', z', c2, c3, c4, c5, c6, c7, c8⟩
      refine ⟨c1, t', z', c2, c3, c4, c5, c6, c7, fun ht0 q hq => ?_⟩
      rw [cp q hq]
      by_cases hin : j ≤ q ∧ q < j + n
      · rw [if_pos hin]
        have : t = t' := nI_inj (by omega) (by omega) (p2.symm.trans c4)
        exact q8 (this.trans ht0) (i + (q - j)) (by omega)
      · rw [if_neg hin]
        exact c8 ht0 q hq
  · rw [va_up, if_neg (by omega)]
    exact hsc.e2 (fun q hq => if_neg (by omega))
