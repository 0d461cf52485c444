theorem lset_self (S : St) (k : Nat) : lset S k (S.2.2 k) = S := by
  have : va_up S.2.2 k (S.2.2 k) = S.2.2 := by
    funext j
    unfold va_up
    by_cases h : j = k
    · rw [if_pos h, h]
    · rw [if_neg h]
  unfold lset
  rw [this]
theorem lset_lset (S : St) (k : Nat) (f g : Nat → Int64) : lset (lset S k f) k g = lset S k g := by
  unfold lset
  simp only
  rw [bx_uu]
theorem lset_get (S : St) (k : Nat) (f : Nat → Int64) : (lset S k f).2.2 k = f := by
  show va_up S.2.2 k f k = f
  unfold va_up
  rw [if_pos rfl]
theorem zfill_step (b : Nat → Int64) {i n : Nat} (h : i < n) : cpF (fun _ => (0 : Int64)) (vp_updL b i 0) (i + 1) n = cpF (fun _ => 0) b i n := by
  funext j
  unfold cpF
  by_cases hj : j = i
  · subst hj
    rw [if_neg (by omega), if_pos ⟨Nat.le_refl _, h⟩, pk_uLs]
  · by_cases h1 : i + 1 ≤ j ∧ j < n
    · rw [if_pos h1, if_pos ⟨by omega, h1.2⟩]
    · rw [if_neg h1, if_neg (fun q => h1 ⟨by omega, q.2⟩), pk_uLn hj]
theorem fill_loop {k z : Nat} (hz : z ≤ 400) : ∀ (m i : Nat) (S : St), i ≤ z → z - i < m → F_J7_fill_d0a16_6 m k z 0 (nI i) (nI z) S = some (lset S k (cpF (fun _ => 0) (S.2.2 k) i z)) := by
  intro m
  induction m with
  | zero => intro i S _ h; omega
  | succ m ih =>
    intro i S hi hm
    show (if nI z ≤ nI i then (some S) else _) = _
    by_cases he : i = z
    · subst he
      rw [if_pos (nI_le (Nat.le_refl _) (by omega)), cpF_end, lset_self]
    · have iz : inb (nI i) z = true := inb_nI (by omega) (by omega)
      rw [if_neg (nI_ge (by omega) (by omega)), gd_t iz, nI_clamp (by omega), nI_1]
      show F_J7_fill_d0a16_6 m k z 0 (nI (i + 1)) (nI z) (lset S k (vp_updL (S.2.2 k) i 0)) = _
      rw [ih (i + 1) (lset S k (vp_updL (S.2.2 k) i 0)) (by omega) (by omega), lset_lset, lset_get, zfill_step _ (by omega)]
theorem row_loop {b : Nat} (hb : b ≤ 5) : ∀ (m i : Nat) (S : St), 60 * b ≤ i → i ≤ 60 * b + 60 → 60 * b + 60 - i < m → F_X12_row_54 m (nI b) (nI i) S = some (1, lset S 102 (cpF (fun _ => 0) (S.2.2 102) i (60 * b + 60))) := by
  have e60 : (60 * nI b) + 60 = nI (60 * b + 60) := by
    show nI 60 * nI b + nI 60 = _
    rw [pk_mul, nI_add]
  intro m
  induction m with
  | zero => intro i S _ _ h; omega
  | succ m ih =>
    intro i S h0 hi hm
    show (if ((60 * nI b) + 60) ≤ nI i then (some ((1 : Int32), S)) else _) = _
    rw [e60]
    by_cases he : i = 60 * b + 60
    · subst he
      rw [if_pos (nI_le (Nat.le_refl _) (by omega)), cpF_end, lset_self]
    · have iz : inb (nI i) 360 = true := inb_nI (by omega) (by omega)
      rw [if_neg (nI_ge (by omega) (by omega)), gd_t iz, nI_clamp (by omega), nI_1]
      show F_X12_row_54 m (nI b) (nI (i + 1)) (lset S 102 (vp_updL (S.2.2 102) i 0)) = _
      rw [ih (i + 1) (lset S 102 (vp_updL (S.2.2 102) i 0)) (by omega) (by omega) (by omega), lset_lset, lset_get, zfill_step _ (by omega)]
/-- row -/
theorem st_row {N : Nat} (hN : 100 ≤ N) {S : St} (h : Inv S) (x y w : Int32) : Both (F_X11_row N x y w) (F_X12_row N x y w) S := by
  obtain ⟨V, kd, hP, hT, hB, hTr, hSh, hRest⟩ := id h
  have n10 : ¬ (1 : Int32) = 0 := by decide
  rcases rng x 5 (by decide) with ⟨b, hb, rfl⟩ | hx
  · have i6 : inb (nI b) 6 = true := inb_nI (by omega) (by decide)
    have cb : Int32.toNatClampNeg (nI b) = b := nI_clamp (by omega)
    rcases rng y 4 (by decide) with ⟨t, ht, rfl⟩ | hy
    · have a0 : ¬ nI t < 0 := nI_pos (by omega)
      have a1 : ¬ (4 : Int32) < nI t := nI_nlt (a := 4) (by omega) (by decide)
      have a2 : ∀ S' : St, F_X12_in (nI t) (0 : Int32) (4 : Int32) S' = some (1, S') := fun S' => in_t ht (by decide) S'
      by_cases h60 : w ≤ 60
      · by_cases h0 : 0 ≤ w
        · obtain ⟨z, hz, rfl⟩ := nI_of2 (n := 60) (by decide) (Int32.not_lt.mpr h0) h60
          let S' : St := fset (fset (fset S (14 + b) 0 2) (14 + b) 2 (nI t)) (14 + b) 3 (nI z)
          let S1 : St := lset S' (57 + b) (cpF (fun _ => 0) (S.2.2 (57 + b)) 0 60)
          have r1 : F_X11_row N (nI b) (nI t) (nI z) S = some (1, S1) := by
            have e : F_X9_holdRow N b (nI t) (nI z) S = some S1 := by
              unfold F_X9_holdRow F_J7_fill_d0a16
              show (F_J7_fill_d0a16_6 N (57 + b) 60 0 (nI 0) (nI 60) S').bind (fun r => some r) = _
              rw [fill_loop (by decide) N 0 S' (by omega) (by omega)]
              rfl
            unfold F_X11_row
            simp only [F_noShelf_t hb, Option.bind_some, if_true, if_neg a0, if_neg a1, if_pos h60, if_pos h0, gd_t i6, cb, e]
          let S2 : St := aset (aset S1 100 (upd (S.2.1 100) b (-2 - nI t))) 101 (upd (S.2.1 101) b (nI z))
          have e102 : S2.2.2 102 = S.2.2 102 := by
            show va_up S.2.2 (57 + b) _ 102 = _
            unfold va_up
            rw [if_neg (by omega)]
          have r2 : F_X12_row N (nI b) (nI t) (nI z) S1 = some (1, lset S2 102 (cpF (fun _ => 0) (S.2.2 102) (60 * b) (60 * b + 60))) := by
            have e60 : 60 * nI b = nI (60 * b) := pk_mul 60 b
            unfold F_X12_row
            rw [F_isShelf_t hb, Option.bind_some]
            dsimp only
            rw [if_neg n10, a2, Option.bind_some]
            dsimp only
            rw [if_neg n10, if_pos h60, if_pos h0, gd_t i6, gd_t i6, cb, e60]
            show F_X12_row_54 N (nI b) (nI (60 * b)) S2 = _
            rw [row_loop hb N (60 * b) S2 (Nat.le_refl _) (by omega) (by omega), e102]
          refine ⟨1, S1, _, r1, r2, V, kd, ?_⟩
          let e2 : Nat → Int64 := cpF (fun _ => 0) (S.2.2 102) (60 * b) (60 * b + 60)
          have ot : ∀ c, c < 6 → c ≠ b → ShB S kd c → IShelf (S.1 (14 + c) 0) (S.1 (14 + c) 1) (S.1 (14 + c) 2) (S.1 (14 + c) 3) (S.2.1 100 c) (S.2.1 101 c) (S.2.2 (57 + c)) (fun i => e2 (60 * c + i)) kd := fun c hc hne hs => hs.e2 (fun i hi => if_neg (by omega))
          have nw : IShelf 2 (S.1 (14 + b) 1) (nI t) (nI z) (-2 - nI t) (nI z) (cpF (fun _ => 0) (S.2.2 (57 + b)) 0 60) (fun i => e2 (60 * b + i)) kd := by
            have z1 : ∀ i, i < 60 → cpF (fun _ => (0 : Int64)) (S.2.2 (57 + b)) 0 60 i = 0 := fun i hi => if_pos ⟨Nat.zero_le _, hi⟩
            have z2 : ∀ i, i < 60 → e2 (60 * b + i) = 0 := fun i hi => if_pos ⟨by omega, by omega⟩
            refine ⟨fun i hi => (z1 i hi).trans (z2 i hi).symm, Or.inr (Or.inr ⟨rfl, t, z, by omega, hz, rfl, rfl, rfl, rfl, fun _ i hi => ?_⟩)⟩
            rw [z1 i hi]
            decide
          rcases (show b = 0 ∨ b = 1 ∨ b = 2 ∨ b = 3 ∨ b = 4 ∨ b = 5 by omega) with rfl | rfl | rfl | rfl | rfl | rfl
          · exact ⟨hP, hT, hB, hTr, ⟨nw, ot 1 (by decide) (by decide) hSh.2.1, ot 2 (by decide) (by decide) hSh.2.2.1, ot 3 (by decide) (by decide) hSh.2.2.2.1, ot 4 (by decide) (by decide) hSh.2.2.2.2.1, ot 5 (by decide) (by decide) hSh.2.2.2.2.2⟩, hRest⟩
          · exact ⟨hP, hT, hB, hTr, ⟨ot 0 (by decide) (by decide) hSh.1, nw, ot 2 (by decide) (by decide) hSh.2.2.1, ot 3 (by decide) (by decide) hSh.2.2.2.1, ot 4 (by decide) (by decide) hSh.2.2.2.2.1, ot 5 (by decide) (by decide) hSh.2.2.2.2.2⟩, hRest⟩
          · exact ⟨hP, hT, hB, hTr, ⟨ot 0 (by decide) (by decide) hSh.1, ot 1 (by decide) (by decide) hSh.2.1, nw, ot 3 (by decide) (by decide) hSh.2.2.2.1, ot 4 (by decide) (by decide) hSh.2.2.2.2.1, ot 5 (by decide) (by decide) hSh.2.2.2.2.2⟩, hRest⟩
          · exact ⟨hP, hT, hB, hTr, ⟨ot 0 (by decide) (by decide) hSh.1, ot 1 (by decide) (by decide) hSh.2.1, ot 2 (by decide) (by decide) hSh.2.2.1, nw, ot 4 (by decide) (by decide) hSh.2.2.2.2.1, ot 5 (by decide) (by decide) hSh.2.2.2.2.2⟩, hRest⟩
          · exact ⟨hP, hT, hB, hTr, ⟨ot 0 (by decide) (by decide) hSh.1, ot 1 (by decide) (by decide) hSh.2.1, ot 2 (by decide) (by decide) hSh.2.2.1, ot 3 (by decide) (by decide) hSh.2.2.2.1, nw, ot 5 (by decide) (by decide) hSh.2.2.2.2.2⟩, hRest⟩
          · exact ⟨hP, hT, hB, hTr, ⟨ot 0 (by decide) (by decide) hSh.1, ot 1 (by decide) (by decide) hSh.2.1, ot 2 (by decide) (by decide) hSh.2.2.1, ot 3 (by decide) (by decide) hSh.2.2.2.1, ot 4 (by decide) (by decide) hSh.2.2.2.2.1, nw⟩, hRest⟩
        · refine both_ro h (r := -14) ?_ ?_
          · unfold F_X11_row
            simp only [F_noShelf_t hb, Option.bind_some, if_true, if_neg a0, if_neg a1, if_pos h60, if_neg h0]
          · unfold F_X12_row
            simp only [F_isShelf_t hb, Option.bind_some, if_neg n10, a2, if_pos h60, if_neg h0]
      · refine both_ro h (r := -1) ?_ ?_
        · unfold F_X11_row
          simp only [F_noShelf_t hb, Option.bind_some, if_true, if_neg a0, if_neg a1, if_neg h60]
        · unfold F_X12_row
          simp only [F_isShelf_t hb, Option.bind_some, if_neg n10, a2, if_neg h60]
    · have a2 : F_X12_in y (0 : Int32) (4 : Int32) S = some (0, S) := in_f hy S
      refine both_ro h (r := -1) ?_ ?_
      · unfold F_X11_row
        rcases hy with q | q
        · simp only [F_noShelf_t hb, Option.bind_some, if_true, if_pos q]
        · have q' : (4 : Int32) < y := q
          by_cases q0 : y < 0
          · simp only [F_noShelf_t hb, Option.bind_some, if_true, if_pos q0]
          · simp only [F_noShelf_t hb, Option.bind_some, if_true, if_neg q0, if_pos q']
      · unfold F_X12_row
        simp only [F_isShelf_t hb, Option.bind_some, if_neg n10, a2, if_true]
  · refine both_ro h (r := -1) ?_ ?_
    · unfold F_X11_row
      simp only [F_noShelf_f hx, Option.bind_some, if_neg n10]
    · unfold F_X12_row
      simp only [F_isShelf_f hx, Option.bind_some, if_true]
