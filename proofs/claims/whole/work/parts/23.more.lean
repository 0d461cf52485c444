/-- said -/
theorem st_said {S : St} (h : Inv S) (x y : Int32) : Both (F_X11_said x y) (F_X12_said x y) S := by
  obtain ⟨V, kd, _, _, _, _, _, _, _, hN, _⟩ := id h
  unfold F_X11_said F_X12_said
  by_cases h0 : x < 0
  · exact both_ro h (r := -1) (by simp only [if_pos h0]) (by simp only [if_pos h0])
  obtain ⟨k, hk, rfl⟩ := nI_of h0
  rcases rng y 2 (by decide) with ⟨j, hj, rfl⟩ | hb
  · have a0 : ¬ nI j < 0 := nI_pos (by omega)
    have a1 : nI j ≤ (2 : Int32) := nI_le (b := 2) hj (by decide)
    have a2 : F_X12_in (nI j) (0 : Int32) (2 : Int32) S = some (1, S) := in_t hj (by decide) S
    have n10 : ¬ (1 : Int32) = 0 := by decide
    rcases hN with ⟨z1, b2⟩ | ⟨b2, z, hz1, hz2, z1, z2, c0, c1, c2, c3, c4, hq⟩
    · exact both_ro h (r := -5) (by simp only [if_neg h0, if_neg a0, if_pos a1, z1, if_true]) (by simp only [if_neg h0, a2, Option.bind_some, if_neg n10, b2, if_true])
    · have hz : ¬ S.1 5 0 = 0 := by rw [z1]; exact nI_ne0 hz1 (by omega)
      have hb2 : ¬ S.1 63 33 = 0 := by rw [b2]; decide
      by_cases hlt : k < z
      · have l1 : nI k < S.1 5 0 := by rw [z1]; exact nI_lt hlt (by omega)
        have l2 : nI k < S.1 63 40 := by rw [z2]; exact nI_lt hlt (by omega)
        have a3 : inb (nI k) 60 = true := inb_nI (by omega) (by decide)
        obtain ⟨q0, q1, q2⟩ := hq k hlt
        unfold F_X7_about
        rcases (show j = 0 ∨ j = 1 ∨ j = 2 by omega) with rfl | rfl | rfl
        · refine both_ro h (r := S.2.1 90 k) ?_ ?_
          · simp only [if_neg h0, if_neg a0, if_pos a1, if_neg hz, if_pos l1, gd_t a3, nI_clamp hk]
            rw [if_pos (by decide)]
            show some (S.2.1 36 k, S) = _
            rw [q0]
          · simp only [if_neg h0, a2, Option.bind_some, if_neg n10, if_neg hb2, if_pos l2, gd_t a3, nI_clamp hk]
            rw [if_pos (by decide)]
        · refine both_ro h (r := S.2.1 91 k) ?_ ?_
          · simp only [if_neg h0, if_neg a0, if_pos a1, if_neg hz, if_pos l1, gd_t a3, nI_clamp hk]
            rw [if_neg (by decide), if_pos (by decide)]
            show some (S.2.1 38 k, S) = _
            rw [q1]
          · simp only [if_neg h0, a2, Option.bind_some, if_neg n10, if_neg hb2, if_pos l2, gd_t a3, nI_clamp hk]
            rw [if_neg (by decide), if_pos (by decide)]
        · refine both_ro h (r := S.2.1 92 k) ?_ ?_
          · simp only [if_neg h0, if_neg a0, if_pos a1, if_neg hz, if_pos l1, gd_t a3, nI_clamp hk]
            rw [if_neg (by decide), if_neg (by decide)]
            show some (S.2.1 40 k, S) = _
            rw [q2]
          · simp only [if_neg h0, a2, Option.bind_some, if_neg n10, if_neg hb2, if_pos l2, gd_t a3, nI_clamp hk]
            rw [if_neg (by decide), if_neg (by decide)]
      · have l1 : ¬ nI k < S.1 5 0 := by rw [z1]; exact nI_nlt (by omega) hk
        have l2 : ¬ nI k < S.1 63 40 := by rw [z2]; exact nI_nlt (by omega) hk
        exact both_ro h (r := -1) (by simp only [if_neg h0, if_neg a0, if_pos a1, if_neg hz, if_neg l1]) (by simp only [if_neg h0, a2, Option.bind_some, if_neg n10, if_neg hb2, if_neg l2])
  · have a2 : F_X12_in y (0 : Int32) (2 : Int32) S = some (0, S) := in_f hb S
    refine both_ro h (r := -1) ?_ (by simp only [if_neg h0, a2, Option.bind_some, if_true])
    rcases hb with q | q
    · simp only [if_neg h0, if_pos q]
    · have q2 : ¬ y ≤ (2 : Int32) := Int32.not_le.mpr q
      by_cases q3 : y < 0
      · simp only [if_neg h0, if_pos q3]
      · simp only [if_neg h0, if_neg q3, if_neg q2]
/-- body -/
theorem st_body {S : St} (h : Inv S) (x : Int32) : Both (F_X11_body x) (F_X12_body x) S := by
  obtain ⟨V, kd, hP, hT, ⟨hl, b1, b2, hq⟩, hTr, hSh, hRest⟩ := id h
  unfold F_X11_body F_X12_body
  rcases rng x 7 (by decide) with ⟨j, hj, rfl⟩ | hb
  · have a1 : F_X11_isNoKind (nI j) S = some (0, S) := by rw [F_noKind, bI_f (by rw [decide_eq_true ⟨nI_pos (by omega), nI_lt (b := 8) (by omega) (by decide)⟩]; rfl)]
    by_cases h50 : kd.length < 50
    · have f1 : F_X0_isFull S = some (0, S) := by unfold F_X0_isFull; rw [b1]; exact if_pos (nI_lt (b := 50) h50 (by decide))
      have i1 : inb (S.1 12 0) 50 = true := by rw [b1]; exact inb_nI h50 (by decide)
      have i2 : inb (S.1 63 55) 50 = true := by rw [b2]; exact inb_nI h50 (by decide)
      have ne : ¬ S.1 63 55 = 50 := by rw [b2]; intro q; have := nI_inj (b := 50) (by omega) (by decide) q; omega
      let S1 : St := fset (aset S 55 (upd (S.2.1 55) (Int32.toNatClampNeg (S.1 12 0)) (nI j))) 12 0 (S.1 12 0 + 1)
      let S2 : St := fset (aset S1 98 (upd (S.2.1 98) (Int32.toNatClampNeg (S.1 63 55)) (nI j))) 63 55 (S.1 63 55 + 1)
      have a2 : F_X12_in (nI j) (0 : Int32) (7 : Int32) S1 = some (1, S1) := in_t hj (by decide) S1
      have hg : ∀ i, i < (kd ++ [j]).length → (kd ++ [j]).getD i 0 = if i = kd.length then j else kd.getD i 0 := fun i _ => getD_push i
      refine ⟨nI kd.length, S1, S2, ?_, ?_, V, kd ++ [j], hP, hT, ⟨by rw [List.length_append]; exact h50, ?_, ?_, ?_⟩, hTr, ?_, hRest⟩
      · simp only [a1, Option.bind_some, if_true, f1]
        unfold F_X0_add
        rw [gd_t i1]
        show some (S.1 12 0 + 1 - 1, S1) = _
        rw [b1, nI_1, nI_pred]
      · dsimp only
        rw [a2, Option.bind_some]
        show (if (1 : Int32) = 0 then _ else _) = _
        rw [if_neg (by decide)]
        show (if S.1 63 55 = 50 then _ else gd (inb (S.1 63 55) 50) _) = _
        rw [if_neg ne, gd_t i2]
        show some (S.1 63 55 + 1 - 1, S2) = _
        rw [b2, nI_1, nI_pred]
      · show S.1 12 0 + 1 = _
        rw [b1, nI_1, List.length_append]; rfl
      · show S.1 63 55 + 1 = _
        rw [b2, nI_1, List.length_append]; rfl
      · intro i hi
        show upd (S.2.1 55) (Int32.toNatClampNeg (S.1 12 0)) (nI j) i = _ ∧ upd (S.2.1 98) (Int32.toNatClampNeg (S.1 63 55)) (nI j) i = _ ∧ _
        rw [b1, b2, nI_clamp (by omega), hg i hi]
        rw [List.length_append] at hi
        by_cases hi2 : i = kd.length
        · subst hi2
          rw [pk_us, pk_us, if_pos rfl]
          exact ⟨rfl, rfl, by omega⟩
        · rw [pk_un hi2, pk_un hi2, if_neg hi2]
          exact hq i (by simp at hi; omega)
      · have up : ∀ b, ShB S kd b → IShelf (S.1 (14 + b) 0) (S.1 (14 + b) 1) (S.1 (14 + b) 2) (S.1 (14 + b) 3) (S.2.1 100 b) (S.2.1 101 b) (S.2.2 (57 + b)) (fun i => S.2.2 102 (60 * b + i)) (kd ++ [j]) := by
          intro b hb
          refine ⟨hb.1, hb.2.imp id (fun q => q.imp ?_ id)⟩
          rintro ⟨q1, c, q2, q3, q4⟩
          refine ⟨q1, c, by rw [List.length_append]; omega, q3, ?_⟩
          rw [q4, getD_push, if_neg (by omega)]
        exact ⟨up 0 hSh.1, up 1 hSh.2.1, up 2 hSh.2.2.1, up 3 hSh.2.2.2.1, up 4 hSh.2.2.2.2.1, up 5 hSh.2.2.2.2.2⟩
    · have h5 : kd.length = 50 := by omega
      have f1 : F_X0_isFull S = some (1, S) := by unfold F_X0_isFull; rw [b1, h5, if_neg (by decide)]
      have a2 : F_X12_in (nI j) (0 : Int32) (7 : Int32) S = some (1, S) := in_t hj (by decide) S
      refine both_ro h (r := -3) ?_ ?_
      · simp only [a1, Option.bind_some, if_true, f1]
        rw [if_neg (by decide)]
      · simp only [a2, Option.bind_some]
        rw [if_neg (by decide), if_pos (by rw [b2, h5]; decide)]
  · have a1 : F_X11_isNoKind x S = some (1, S) := by
      rw [F_noKind, bI_t]
      have : decide (¬ x < 0 ∧ x < 8) = false := decide_eq_false (fun q => hb.elim q.1 (fun z => by
        obtain ⟨i, hi, rfl⟩ := nI_of q.1
        have h1 := (nI_ltI (a := 7) (by decide) hi).mp z
        have h2 := (nI_ltI (b := 8) hi (by decide)).mp q.2
        omega))
      rw [this]; rfl
    have a2 : F_X12_in x (0 : Int32) (7 : Int32) S = some (0, S) := in_f hb S
    exact both_ro h (r := -1) (by simp only [a1, Option.bind_some]; rw [if_neg (by decide)]) (by simp only [a2, Option.bind_some, if_true])
/-- set -/
theorem st_set {S : St} (h : Inv S) (x y : Int32) : Both (F_X11_set x y) (F_X12_set x y) S := by
  obtain ⟨V, kd, ⟨h8, ⟨hw, w1, w2⟩, ⟨hv, v1, v2⟩, hPr⟩, hR⟩ := id h
  unfold F_X11_set F_X11_set_32 F_X12_set
  have n10 : ¬ (1 : Int32) = 0 := by decide
  rcases rng y 9 (by decide) with ⟨j, hj, rfl⟩ | hb
  · have a0 : ¬ nI j < 0 := nI_pos (by omega)
    have a1 : ¬ (9 : Int32) < nI j := nI_nlt (a := 9) (by omega) (by decide)
    have a2 : ∀ S', F_X12_in (nI j) (0 : Int32) (9 : Int32) S' = some (1, S') := fun S' => in_t hj (by decide) S'
    by_cases x0 : x = 0
    · subst x0
      have i1 : ∀ S', F_X12_in 0 (0 : Int32) (1 : Int32) S' = some (1, S') := fun S' => in_t (j := 0) (N := 1) (by decide) (by decide) S'
      let V' : Nat → Nat → Nat := fun a b => if a = 8 then (if b = 1 then j else V a b) else V a b
      refine ⟨S.1 1 10, fset S 1 10 (nI j), fset (fset S 1 10 (nI j)) 63 10 (nI j), by dsimp only; rw [if_pos rfl, if_neg a0, if_neg a1], ?_, V', kd, ⟨h8, ⟨by show j ≤ 9; omega, rfl, rfl⟩, ⟨hv, v1, v2⟩, hPr⟩, hR⟩
      simp only [i1, Option.bind_some, if_neg n10, a2, if_true]
      show some (S.1 63 10, _) = some (S.1 1 10, _)
      rw [w1, w2]
    · by_cases x1 : x = 1
      · subst x1
        have i1 : ∀ S', F_X12_in 1 (0 : Int32) (1 : Int32) S' = some (1, S') := fun S' => in_t (j := 1) (N := 1) (by decide) (by decide) S'
        let V' : Nat → Nat → Nat := fun a b => if a = 8 then (if b = 2 then j else V a b) else V a b
        refine ⟨S.1 1 11, fset S 1 11 (nI j), fset (fset S 1 11 (nI j)) 63 11 (nI j), by dsimp only; rw [if_neg n10, if_pos rfl, if_neg a0, if_neg a1], ?_, V', kd, ⟨h8, ⟨hw, w1, w2⟩, ⟨by show j ≤ 9; omega, rfl, rfl⟩, hPr⟩, hR⟩
        simp only [i1, Option.bind_some, if_neg n10, a2]
        show some (S.1 63 11, _) = some (S.1 1 11, _)
        rw [v1, v2]
      · have i1 : F_X12_in x (0 : Int32) (1 : Int32) S = some (0, S) := by
          rcases rng x 1 (by decide) with ⟨i, hi, rfl⟩ | hb
          · rcases (show i = 0 ∨ i = 1 by omega) with rfl | rfl
            · exact absurd rfl x0
            · exact absurd rfl x1
          · exact in_f hb S
        exact both_ro h (r := -1) (by dsimp only; rw [if_neg x0, if_neg x1]) (by simp only [i1, Option.bind_some, if_true])
  · have a2 : ∀ S', F_X12_in y (0 : Int32) (9 : Int32) S' = some (0, S') := fun S' => in_f hb S'
    have hr : F_X12_in x (0 : Int32) (1 : Int32) S = some (0, S) ∨ F_X12_in x (0 : Int32) (1 : Int32) S = some (1, S) := by
      rw [F_in]
      cases decide (¬ x < 0 ∧ ¬ (1 : Int32) < x)
      · exact Or.inl rfl
      · exact Or.inr rfl
    have e2 : (F_X12_in x (0 : Int32) (1 : Int32) S).bind (fun r_3 => if r_3.1 = 0 then (some ((-1 : Int32), r_3.2)) else ((F_X12_in y (0 : Int32) (9 : Int32) r_3.2).bind (fun r_13 => if r_13.1 = 0 then (some ((-1), r_13.2)) else (if x = 0 then (if x = 0 then (let S43 := fset r_13.2 63 10 y; some (r_13.2.1 63 10, S43)) else (let S51 := fset r_13.2 63 11 y; some (r_13.2.1 63 10, S51))) else (if x = 0 then (let S43 := fset r_13.2 63 10 y; some (r_13.2.1 63 11, S43)) else (let S51 := fset r_13.2 63 11 y; some (r_13.2.1 63 11, S51))))))) = some (-1, S) := by
      rcases hr with q | q
      · simp only [q, Option.bind_some, if_true]
      · simp only [q, Option.bind_some, if_neg n10, a2, if_true]
    refine both_ro h (r := -1) ?_ e2
    dsimp only
    rcases hb with q | q
    · by_cases x0 : x = 0
      · rw [if_pos x0, if_pos q, if_neg (by rw [x0]; decide)]
      · rw [if_neg x0]
        by_cases x1 : x = 1
        · rw [if_pos x1, if_pos q]
        · rw [if_neg x1]
    · have q' : (9 : Int32) < y := q
      have q0 : ¬ y < 0 := fun z => by
        have h1 := Int32.lt_iff_toInt_lt.mp q'
        have h2 := Int32.lt_iff_toInt_lt.mp z
        have h3 : (9 : Int32).toInt = 9 := by decide
        have h4 : (0 : Int32).toInt = 0 := by decide
        omega
      by_cases x0 : x = 0
      · rw [if_pos x0, if_neg q0, if_pos q', if_neg (by rw [x0]; decide)]
      · rw [if_neg x0]
        by_cases x1 : x = 1
        · rw [if_pos x1, if_neg q0, if_pos q']
        · rw [if_neg x1]
