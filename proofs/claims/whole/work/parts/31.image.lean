def cpF {α : Type} (a b : Nat → α) (i n : Nat) : Nat → α := fun j => if i ≤ j ∧ j < n then a j else b j
theorem cpF_end {α : Type} (a b : Nat → α) (n : Nat) : cpF a b n n = b := by
  funext j
  exact if_neg (by omega)
theorem cpF_step (a b : Nat → Int32) {i n : Nat} (h : i < n) : cpF a (upd b i (a i)) (i + 1) n = cpF a b i n := by
  funext j
  unfold cpF
  by_cases hj : j = i
  · subst hj
    rw [if_neg (by omega), if_pos ⟨Nat.le_refl _, h⟩, pk_us]
  · by_cases h1 : i + 1 ≤ j ∧ j < n
    · rw [if_pos h1, if_pos ⟨by omega, h1.2⟩]
    · rw [if_neg h1, if_neg (fun q => h1 ⟨by omega, q.2⟩), pk_un hj]
theorem cpF_cpy (a b : Nat → Int32) (n : Nat) : va_cpy a b 0 0 n = cpF a b 0 n := by
  funext j
  unfold va_cpy cpF
  by_cases h : 0 ≤ j ∧ j < 0 + n
  · rw [if_pos h, if_pos (by omega)]; congr 1; omega
  · rw [if_neg h, if_neg (by omega)]
theorem aset_self (S : St) (k : Nat) : aset S k (S.2.1 k) = S := by
  have : va_up S.2.1 k (S.2.1 k) = S.2.1 := by
    funext j
    unfold va_up
    by_cases h : j = k
    · rw [if_pos h, h]
    · rw [if_neg h]
  unfold aset
  rw [this]
theorem aset_aset (S : St) (k : Nat) (f g : Nat → Int32) : aset (aset S k f) k g = aset S k g := by
  unfold aset
  simp only
  rw [bx_uu]
theorem image_loop {n : Nat} (hn : n ≤ 20) : ∀ (m i : Nat) (S : St), i ≤ n → n - i < m → S.1 63 1 = nI n → F_X12_image_31 m (nI i) S = some (nI n, aset S 97 (cpF (S.2.1 70) (S.2.1 97) i n)) := by
  intro m
  induction m with
  | zero => intro i S _ h; omega
  | succ m ih =>
    intro i S hi hm hS
    show (if (S.1 63 1) ≤ nI i then (some (S.1 63 1, S)) else _) = _
    rw [hS]
    by_cases he : i = n
    · subst he
      rw [if_pos (nI_le (Nat.le_refl _) (by omega)), cpF_end, aset_self]
    · have i20 : inb (nI i) 20 = true := inb_nI (by omega) (by decide)
      rw [if_neg (nI_ge (by omega) (by omega)), gd_t i20, gd_t i20, nI_clamp (by omega), nI_1]
      show F_X12_image_31 m (nI (i + 1)) (aset S 97 (upd (S.2.1 97) i (S.2.1 70 i))) = _
      rw [ih (i + 1) (aset S 97 (upd (S.2.1 97) i (S.2.1 70 i))) (by omega) (by omega) hS, aset_aset]
      show some (nI n, aset S 97 (cpF (S.2.1 70) (upd (S.2.1 97) i (S.2.1 70 i)) (i + 1) n)) = _
      rw [cpF_step _ _ (by omega)]
theorem back_loop {n : Nat} (hn : n ≤ 20) : ∀ (m i : Nat) (S : St), i ≤ n → n - i < m → S.1 63 51 = nI n → F_X12_back_28 m (nI i) S = some (nI n, fset (fset (aset S 70 (cpF (S.2.1 97) (S.2.1 70) i n)) 63 12 0) 63 13 0) := by
  intro m
  induction m with
  | zero => intro i S _ h; omega
  | succ m ih =>
    intro i S hi hm hS
    show (if (S.1 63 51) ≤ nI i then (some (S.1 63 51, fset (fset S 63 12 0) 63 13 0)) else _) = _
    rw [hS]
    by_cases he : i = n
    · subst he
      rw [if_pos (nI_le (Nat.le_refl _) (by omega)), cpF_end, aset_self]
    · have i20 : inb (nI i) 20 = true := inb_nI (by omega) (by decide)
      rw [if_neg (nI_ge (by omega) (by omega)), gd_t i20, gd_t i20, nI_clamp (by omega), nI_1]
      show F_X12_back_28 m (nI (i + 1)) (aset S 70 (upd (S.2.1 70) i (S.2.1 97 i))) = _
      rw [ih (i + 1) (aset S 70 (upd (S.2.1 70) i (S.2.1 97 i))) (by omega) (by omega) hS, aset_aset]
      show some (nI n, fset (fset (aset S 70 (cpF (S.2.1 97) (upd (S.2.1 70) i (S.2.1 97 i)) (i + 1) n)) 63 12 0) 63 13 0) = _
      rw [cpF_step _ _ (by omega)]
theorem cpok0 {n : Nat} (hn : n ≤ 20) : cpok (0 : Int32) (0 : Int32) (nI n) 20 20 = true := by
  refine decide_eq_true ⟨⟨by decide, by decide, nI_pos (by omega)⟩, ?_, ?_⟩ <;> (rw [nI_clamp (by omega)]; show 0 + n ≤ 20; omega)
/-- image -/
theorem st_image {N : Nat} (hN : 30 ≤ N) {S : St} (h : Inv S) : Both F_X11_image (F_X12_image N) S := by
  obtain ⟨V, kd, hP, hT, hB, hTr, hSh, hC, hI, hNt, hL⟩ := id h
  obtain ⟨⟨h20, n1, n2⟩, ⟨hw, w1, w2⟩, ⟨hv, v1, v2⟩, _, _, _, _, _, _, hh, _⟩ := id hP
  let S1 : St := fset (fset (aset (fset S 10 0 (S.1 1 0)) 50 (cpF (S.2.1 27) (S.2.1 50) 0 (V 8 0))) 10 2 (S.1 1 10)) 10 3 (S.1 1 11)
  have c0 : Int32.toNatClampNeg (0 : Int32) = 0 := by decide
  have r1 : F_X11_image S = some (nI (V 8 0), S1) := by
    have e : F_X4_take S = some S1 := by
      unfold F_X4_take
      show gd (cpok (0 : Int32) (0 : Int32) (S.1 1 0) 20 20) (some (fset (fset (aset (fset S 10 0 (S.1 1 0)) 50 (va_cpy (S.2.1 27) (S.2.1 50) (Int32.toNatClampNeg (0 : Int32)) (Int32.toNatClampNeg (0 : Int32)) (Int32.toNatClampNeg (S.1 1 0)))) 10 2 (S.1 1 10)) 10 3 (S.1 1 11))) = _
      have hc : Int32.toNatClampNeg (S.1 1 0) = V 8 0 := by rw [n1]; exact nI_clamp (by omega)
      rw [hc, c0, cpF_cpy, gd_t (by rw [n1]; exact cpok0 h20)]
    unfold F_X11_image
    rw [e, Option.bind_some]
    show some (S.1 1 0, S1) = _
    rw [n1]
  let S2 : St := fset (fset (fset (fset S1 63 50 1) 63 51 (S.1 63 1)) 63 53 (S.1 63 10)) 63 54 (S.1 63 11)
  have r2 : F_X12_image N S1 = some (nI (V 8 0), aset S2 97 (cpF (S.2.1 70) (S.2.1 97) 0 (V 8 0))) := by
    show F_X12_image_31 N (nI 0) S2 = _
    exact image_loop h20 N 0 S2 (by omega) (by omega) n2
  refine ⟨_, S1, _, r1, r2, V, kd, hP, hT, hB, hTr, hSh, hC, Or.inr ⟨rfl, V 8 0, V 8 1, V 8 2, Nat.le_refl _, hw, hv, n1, n2, w1, w2, v1, v2, ?_⟩, hNt, hL⟩
  intro i hi
  obtain ⟨a1, a2, a3⟩ := hh i hi
  refine ⟨V 6 i, by omega, ?_, ?_⟩
  · show cpF (S.2.1 27) (S.2.1 50) 0 (V 8 0) i = _
    rw [cpF, if_pos ⟨Nat.zero_le _, hi⟩, a1]
  · show cpF (S.2.1 70) (S.2.1 97) 0 (V 8 0) i = _
    rw [cpF, if_pos ⟨Nat.zero_le _, hi⟩, a2]
/-- back -/
theorem st_back {N : Nat} (hN : 30 ≤ N) {S : St} (h : Inv S) : Both F_X11_back (F_X12_back N) S := by
  obtain ⟨V, kd, hP, hT, hB, hTr, hSh, hC, hI, hNt, hL⟩ := id h
  obtain ⟨⟨h20, n1, n2⟩, _, _, p4, p5, p6, p7, p8, p9, hh, p11, p12⟩ := id hP
  rcases id hI with ⟨z1, b2⟩ | ⟨b2, q, w, v, hq, hw, hv, z1, z2, w1, w2, v1, v2, hx⟩
  · refine both_ro h (r := -5) ?_ ?_
    · unfold F_X11_back
      rw [if_pos z1]
    · unfold F_X12_back
      rw [if_pos b2]
  · have c0 : Int32.toNatClampNeg (0 : Int32) = 0 := by decide
    have zn : ¬ S.1 10 0 = -1 := by
      rw [z1]
      intro e
      have := nI_pos (n := q) (by omega)
      rw [e] at this
      exact this (by decide)
    let S1 : St := fset (fset (fset (fset (aset S 27 (cpF (S.2.1 50) (S.2.1 27) 0 q)) 1 10 (S.1 10 2)) 1 11 (S.1 10 3)) 11 0 0) 11 1 0
    have r1 : F_X11_back S = some (nI q, S1) := by
      have e : F_X4_giveBack S = some (fset (fset (aset S 27 (cpF (S.2.1 50) (S.2.1 27) 0 q)) 1 10 (S.1 10 2)) 1 11 (S.1 10 3)) := by
        unfold F_X4_giveBack
        show gd (cpok (0 : Int32) (0 : Int32) (S.1 10 0) 20 20) (some (fset (fset (aset S 27 (va_cpy (S.2.1 50) (S.2.1 27) (Int32.toNatClampNeg (0 : Int32)) (Int32.toNatClampNeg (0 : Int32)) (Int32.toNatClampNeg (S.1 10 0)))) 1 10 (S.1 10 2)) 1 11 (S.1 10 3))) = _
        have hc : Int32.toNatClampNeg (S.1 10 0) = q := by rw [z1]; exact nI_clamp (by omega)
        rw [hc, c0, cpF_cpy, gd_t (by rw [z1]; exact cpok0 (by omega))]
      unfold F_X11_back
      rw [if_neg zn, e, Option.bind_some]
      show some (S.1 10 0, S1) = _
      rw [z1]
    let S2 : St := fset (fset S1 63 10 (S.1 63 53)) 63 11 (S.1 63 54)
    have r2 : F_X12_back N S1 = some (nI q, fset (fset (aset S2 70 (cpF (S.2.1 97) (S.2.1 70) 0 q)) 63 12 0) 63 13 0) := by
      have hb : ¬ S1.1 63 50 = 0 := by
        show ¬ S.1 63 50 = 0
        rw [b2]; decide
      unfold F_X12_back
      rw [if_neg hb]
      show F_X12_back_28 N (nI 0) S2 = _
      exact back_loop (by omega) N 0 S2 (by omega) (by omega) z2
    let V' : Nat → Nat → Nat := fun a b => if a = 6 then (if b < q then (S.2.1 50 b).toNatClampNeg else V 6 b) else if a = 8 then (if b = 1 then w else if b = 2 then v else V 8 b) else V a b
    refine ⟨_, S1, _, r1, r2, V', kd, ⟨⟨h20, n1, n2⟩, ⟨hw, w1, w2⟩, ⟨hv, v1, v2⟩, p4, p5, p6, p7, p8, p9, ?_, p11, p12⟩, hT, hB, hTr, hSh, ⟨0, 0, by decide, rfl, rfl, rfl, rfl, fun i hi => absurd hi (Nat.not_lt_zero i)⟩, hI, hNt, hL⟩
    intro i hi
    show cpF (S.2.1 50) (S.2.1 27) 0 q i = nI (if i < q then (S.2.1 50 i).toNatClampNeg else V 6 i) ∧ cpF (S.2.1 97) (S.2.1 70) 0 q i = nI (if i < q then (S.2.1 50 i).toNatClampNeg else V 6 i) ∧ (if i < q then (S.2.1 50 i).toNatClampNeg else V 6 i) < 101
    unfold cpF
    by_cases hiq : i < q
    · obtain ⟨x, hx1, x1, x2⟩ := hx i hiq
      have hp : 0 ≤ i ∧ i < q := ⟨Nat.zero_le _, hiq⟩
      simp only [if_pos hp, if_pos hiq, x1, x2, nI_clamp (show x < 2 ^ 31 by omega)]
      exact ⟨trivial, trivial, by omega⟩
    · have hp : ¬ (0 ≤ i ∧ i < q) := fun z => hiq z.2
      simp only [if_neg hp, if_neg hiq]
      exact hh i hi
