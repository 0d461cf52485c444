theorem IShelf.e2 {h1 k1 s1 z1 h2 z2 : Int32} {e1 e2 e2' : Nat → Int64} {kd : List Nat} (h : IShelf h1 k1 s1 z1 h2 z2 e1 e2 kd) (he : ∀ i, i < 60 → e2' i = e2 i) : IShelf h1 k1 s1 z1 h2 z2 e1 e2' kd := ⟨fun i hi => (h.1 i hi).trans (he i hi).symm, h.2⟩
/-- what a place of a shelf is refused for; 0: it is there -/
theorem place {S : St} {V : Nat → Nat → Nat} {kd : List Nat} (h : InvV S V kd) (x y : Int32) : ∃ r : Int32, F_X11_refusalOfPlace x y S = some (r, S) ∧ (∀ S' : St, S'.2.1 = S.2.1 → F_X12_whyNoPlace x y S' = some (r, S')) ∧
    ((r < 0 ∧ ¬ r = 0) ∨ (r = 0 ∧ ∃ b j t z : Nat, b ≤ 5 ∧ x = nI b ∧ y = nI j ∧ j < z ∧ z ≤ 60 ∧ t < 5 ∧ S.1 (14 + b) 0 = 2 ∧ S.1 (14 + b) 2 = nI t ∧ S.2.1 100 b = -2 - nI t)) := by
  obtain ⟨hP, hT, ⟨hl, b1, b2, hk⟩, hTr, hSh, hRest⟩ := h
  have n10 : ¬ (1 : Int32) = 0 := by decide
  unfold F_X11_refusalOfPlace F_X12_whyNoPlace F_X9_holdsNothing F_X9_holdsRow
  rcases rng x 5 (by decide) with ⟨b, hb, rfl⟩ | hx
  · have i6 : inb (nI b) 6 = true := inb_nI (by omega) (by decide)
    have cb : Int32.toNatClampNeg (nI b) = b := nI_clamp (by omega)
    obtain ⟨he, hc⟩ := sh_at hSh (show b < 6 by omega)
    rcases hc with ⟨q1, q2⟩ | ⟨q1, c, q2, q3, q4⟩ | ⟨q1, t, z, ht, hz, q2, q3, q4, q5, q6⟩
    · refine ⟨-11, ?_, ?_, Or.inl (by decide)⟩
      · simp only [F_noShelf_t hb, Option.bind_some, if_true, gd_t i6, cb, q1, if_neg n10]
      · intro S' hS'
        simp only [F_isShelf_t hb, Option.bind_some, if_neg n10, gd_t i6, cb, hS', q2, if_true]
    · have hc0 : ¬ nI c = -1 := fun q => by
        have := nI_pos (n := c) (by omega)
        rw [q] at this
        exact this (by decide)
      have hc1 : ¬ nI c < 0 := nI_pos (by omega)
      refine ⟨-12, ?_, ?_, Or.inl (by decide)⟩
      · simp only [F_noShelf_t hb, Option.bind_some, if_true, gd_t i6, cb, q1, if_neg n10]
        rw [if_neg (by decide)]
        simp only [Option.bind_some, if_true]
      · intro S' hS'
        simp only [F_isShelf_t hb, Option.bind_some, if_neg n10, gd_t i6, cb, hS', q3, if_neg hc0, if_neg hc1]
    · have s0 : ¬ (2 : Int32) = 0 := by decide
      have hh : ¬ S.2.1 100 b = -1 ∧ S.2.1 100 b < 0 := by
        rw [q3]
        rcases (show t = 0 ∨ t = 1 ∨ t = 2 ∨ t = 3 ∨ t = 4 by omega) with rfl | rfl | rfl | rfl | rfl <;> decide
      by_cases hj : ∃ j : Nat, j < z ∧ y = nI j
      · obtain ⟨j, hj, rfl⟩ := hj
        have ez : S.2.1 101 b - 1 = nI (z - 1) := by
          rw [q5]
          obtain ⟨k, hk⟩ : ∃ k, z = k + 1 := ⟨z - 1, by omega⟩
          rw [hk, nI_pred]; rfl
        refine ⟨0, ?_, ?_, Or.inr ⟨rfl, b, j, t, z, hb, rfl, rfl, hj, hz, ht, q1, q2, q3⟩⟩
        · simp only [F_noShelf_t hb, Option.bind_some, if_true, gd_t i6, cb, q1, if_neg s0, if_neg n10, q4, if_neg (nI_pos (show j < 2 ^ 31 by omega)), if_pos (nI_lt hj (by omega))]
        · intro S' hS'
          simp only [F_isShelf_t hb, Option.bind_some, if_neg n10, gd_t i6, cb, hS', if_neg hh.1, if_pos hh.2, ez]
          rw [in_t (by omega) (by omega)]
          simp only [Option.bind_some, if_neg n10]
      · refine ⟨-13, ?_, ?_, Or.inl (by decide)⟩
        · simp only [F_noShelf_t hb, Option.bind_some, if_true, gd_t i6, cb, q1, if_neg s0, if_neg n10, q4]
          by_cases h0 : y < 0
          · rw [if_pos h0]
          · obtain ⟨j, hj2, rfl⟩ := nI_of h0
            have h2 : z ≤ j := Nat.not_lt.mp fun q => hj ⟨j, q, rfl⟩
            rw [if_neg h0, if_neg (nI_nlt h2 hj2)]
        · intro S' hS'
          simp only [F_isShelf_t hb, Option.bind_some, if_neg n10, gd_t i6, cb, hS', if_neg hh.1, if_pos hh.2]
          have e : F_X12_in y (0 : Int32) (S.2.1 101 b - 1) S' = some (0, S') := by
            rw [F_in, bI_f]
            apply decide_eq_false
            rintro ⟨h0, h1⟩
            obtain ⟨j, hj2, rfl⟩ := nI_of h0
            have h2 : z ≤ j := Nat.not_lt.mp fun q => hj ⟨j, q, rfl⟩
            apply h1
            rw [q5]
            by_cases hz0 : z = 0
            · rw [hz0, Int32.lt_iff_toInt_lt, nI_toInt hj2]
              have : (nI 0 - 1).toInt = -1 := by decide
              omega
            · obtain ⟨k, hk⟩ : ∃ k, z = k + 1 := ⟨z - 1, by omega⟩
              rw [hk, nI_pred]
              exact nI_lt (by omega) hj2
          simp only [e, Option.bind_some, if_true]
  · refine ⟨-1, ?_, ?_, Or.inl (by decide)⟩
    · simp only [F_noShelf_f hx, Option.bind_some, if_neg n10]
    · intro S' _
      simp only [F_isShelf_f hx, Option.bind_some, if_true]
def BothL (f1 f2 : St → Option (Int64 × St)) (S : St) : Prop := ∃ (r : Int64) (S1 S2 : St), f1 S = some (r, S1) ∧ f2 S1 = some (r, S2) ∧ Inv S2
theorem ix60 {b j : Nat} : (60 * nI b) + nI j = nI (60 * b + j) := by
  show nI 60 * nI b + nI j = _
  rw [pk_mul, nI_add]
/-- element -/
theorem st_element {S : St} (h : Inv S) (x y : Int32) : BothL (F_X11_element x y) (F_X12_element x y) S := by
  obtain ⟨V, kd, hI⟩ := id h
  obtain ⟨r, h1, h2, hr⟩ := place hI x y
  unfold BothL F_X11_element F_X12_element
  rcases hr with ⟨hr, hr0⟩ | ⟨rfl, b, j, t, z, hb, rfl, rfl, hj, hz, ht, q1, q2, q3⟩
  · refine ⟨-9223372036854775808, S, S, ?_, ?_, h⟩
    · simp only [h1, Option.bind_some, if_neg hr0]
    · have : ¬ 0 ≤ r := Int32.not_le.mpr hr
      simp only [h2 S rfl, Option.bind_some, if_neg this]
  · have i6 : inb (nI b) 6 = true := inb_nI (by omega) (by decide)
    have i60 : inb (nI j) 60 = true := inb_nI (by omega) (by decide)
    have i360 : inb (nI (60 * b + j)) 360 = true := inb_nI (by omega) (by decide)
    have cb : Int32.toNatClampNeg (nI b) = b := nI_clamp (by omega)
    have cj : Int32.toNatClampNeg (nI j) = j := nI_clamp (by omega)
    have cx : Int32.toNatClampNeg (nI (60 * b + j)) = 60 * b + j := nI_clamp (by omega)
    have e := (sh_at hI.2.2.2.2.1 (show b < 6 by omega)).1 j (by omega)
    refine ⟨S.2.2 102 (60 * b + j), S, S, ?_, ?_, h⟩
    · simp only [h1, Option.bind_some, if_true, gd_t i6, gd_t i60, cb, cj]
      rw [e]
    · have p0 : (0 : Int32) ≤ 0 := by decide
      simp only [h2 S rfl, Option.bind_some, if_pos p0, ix60, gd_t i360, cx]
