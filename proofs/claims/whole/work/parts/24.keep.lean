theorem F_isShelf_t {b : Nat} (hb : b ≤ 5) (S : St) : F_X12_isShelf (nI b) S = some (1, S) := by
  unfold F_X12_isShelf
  have : F_X12_in (nI b) (0 : Int32) (5 : Int32) S = some (1, S) := in_t hb (by decide) S
  rw [this]; rfl
theorem F_isShelf_f {x : Int32} (hx : x < 0 ∨ nI 5 < x) (S : St) : F_X12_isShelf x S = some (0, S) := by
  unfold F_X12_isShelf
  have : F_X12_in x (0 : Int32) (5 : Int32) S = some (0, S) := in_f hx S
  rw [this]; rfl
theorem F_noShelf_t {b : Nat} (hb : b ≤ 5) (S : St) : F_X11_isNoShelf (nI b) S = some (0, S) := by
  rw [F_noShelf, bI_f (by rw [decide_eq_true ⟨nI_pos (by omega), nI_lt (b := 6) (by omega) (by decide)⟩]; rfl)]
theorem lt_le {x : Int32} {N : Nat} (hN : N < 2 ^ 30) (h : x < 0 ∨ nI N < x) : ¬ (¬ x < 0 ∧ x < nI (N + 1)) := fun q => h.elim q.1 (fun z => by
  obtain ⟨i, hi, rfl⟩ := nI_of q.1
  have h1 := (nI_ltI (by omega) hi).mp z
  have h2 := (nI_ltI hi (by omega)).mp q.2
  omega)
theorem F_noShelf_f {x : Int32} (hx : x < 0 ∨ nI 5 < x) (S : St) : F_X11_isNoShelf x S = some (1, S) := by
  rw [F_noShelf, bI_t]
  have : decide (¬ x < 0 ∧ x < 6) = false := decide_eq_false (lt_le (N := 5) (by decide) hx)
  rw [this]; rfl
theorem F_has0_t {q : Nat} {kd : List Nat} {S : St} (hq : q < kd.length) (hl : kd.length ≤ 50) (b1 : S.1 12 0 = nI kd.length) : F_X0_has (nI q) S = some (1, S) := by
  unfold F_X0_has
  rw [if_neg (nI_pos (by omega)), b1]
  first
    | rw [if_neg (nI_ge hq (by omega))]
    | rw [if_pos (nI_lt hq (by omega))]
theorem F_has0_f {y : Int32} {kd : List Nat} {S : St} (hl : kd.length ≤ 50) (b1 : S.1 12 0 = nI kd.length) (hy : ¬ ∃ q : Nat, q < kd.length ∧ y = nI q) : F_X0_has y S = some (0, S) := by
  unfold F_X0_has
  by_cases h0 : y < 0
  · rw [if_pos h0]
  · rw [if_neg h0, b1]
    obtain ⟨q, hq, rfl⟩ := nI_of h0
    have h2 : kd.length ≤ q := Nat.not_lt.mp fun z => hy ⟨q, z, rfl⟩
    first
      | rw [if_pos (nI_le h2 hq)]
      | rw [if_neg (nI_nlt h2 hq)]
theorem F_isBody_t {q : Nat} {kd : List Nat} {S : St} (hq : q < kd.length) (hl : kd.length ≤ 50) (b2 : S.1 63 55 = nI kd.length) : F_X12_isBody (nI q) S = some (1, S) := by
  unfold F_X12_isBody
  have e : S.1 63 55 - 1 = nI (kd.length - 1) := by
    rw [b2]
    obtain ⟨k, hk⟩ : ∃ k, kd.length = k + 1 := ⟨kd.length - 1, by omega⟩
    rw [hk, nI_pred]; rfl
  rw [e, in_t (by omega) (by omega)]
  rfl
theorem F_isBody_f {y : Int32} {kd : List Nat} {S : St} (hl : kd.length ≤ 50) (b2 : S.1 63 55 = nI kd.length) (hy : ¬ ∃ q : Nat, q < kd.length ∧ y = nI q) : F_X12_isBody y S = some (0, S) := by
  unfold F_X12_isBody
  have e : F_X12_in y (0 : Int32) (S.1 63 55 - 1) S = some (0, S) := by
    rw [F_in, bI_f]
    apply decide_eq_false
    rintro ⟨h0, h1⟩
    obtain ⟨q, hq, rfl⟩ := nI_of h0
    have h2 : kd.length ≤ q := Nat.not_lt.mp fun z => hy ⟨q, z, rfl⟩
    apply h1
    rw [b2]
    by_cases hz : kd.length = 0
    · rw [hz]
      rw [Int32.lt_iff_toInt_lt, nI_toInt hq]
      have : (nI 0 - 1).toInt = -1 := by decide
      omega
    · obtain ⟨k, hk⟩ : ∃ k, kd.length = k + 1 := ⟨kd.length - 1, by omega⟩
      rw [hk, nI_pred]
      exact nI_lt (by omega) hq
  rw [e]
  rfl
/-- keep -/
theorem st_keep {S : St} (h : Inv S) (x y : Int32) : Both (F_X11_keep x y) (F_X12_keep x y) S := by
  obtain ⟨V, kd, hP, hT, ⟨hl, b1, b2, hk⟩, hTr, hSh, hRest⟩ := id h
  have n10 : ¬ (1 : Int32) = 0 := by decide
  unfold F_X11_keep F_X12_keep F_X11_keep_25
  rcases rng x 5 (by decide) with ⟨b, hb, rfl⟩ | hx
  · have i6 : inb (nI b) 6 = true := inb_nI (by omega) (by decide)
    have cb : Int32.toNatClampNeg (nI b) = b := nI_clamp (by omega)
    by_cases hy : y = -1
    · subst hy
      refine ⟨1, fset S (14 + b) 0 0, aset (fset S (14 + b) 0 0) 100 (upd (S.2.1 100) b (-1)), ?_, ?_, V, kd, ?_⟩
      · simp only [F_noShelf_t hb, Option.bind_some, if_true, gd_t i6, cb]
        rfl
      · simp only [F_isShelf_t hb, Option.bind_some, if_neg n10, if_true, gd_t i6, cb]
        rfl
      · have nw : ∀ c, ShB S kd c → IShelf 0 (S.1 (14 + c) 1) (S.1 (14 + c) 2) (S.1 (14 + c) 3) (-1) (S.2.1 101 c) (S.2.2 (57 + c)) (fun i => S.2.2 102 (60 * c + i)) kd := fun c hc => ⟨hc.1, Or.inl ⟨rfl, rfl⟩⟩
        rcases (show b = 0 ∨ b = 1 ∨ b = 2 ∨ b = 3 ∨ b = 4 ∨ b = 5 by omega) with rfl | rfl | rfl | rfl | rfl | rfl
        · exact ⟨hP, hT, ⟨hl, b1, b2, hk⟩, hTr, ⟨nw 0 hSh.1, hSh.2.1, hSh.2.2.1, hSh.2.2.2.1, hSh.2.2.2.2.1, hSh.2.2.2.2.2⟩, hRest⟩
        · exact ⟨hP, hT, ⟨hl, b1, b2, hk⟩, hTr, ⟨hSh.1, nw 1 hSh.2.1, hSh.2.2.1, hSh.2.2.2.1, hSh.2.2.2.2.1, hSh.2.2.2.2.2⟩, hRest⟩
        · exact ⟨hP, hT, ⟨hl, b1, b2, hk⟩, hTr, ⟨hSh.1, hSh.2.1, nw 2 hSh.2.2.1, hSh.2.2.2.1, hSh.2.2.2.2.1, hSh.2.2.2.2.2⟩, hRest⟩
        · exact ⟨hP, hT, ⟨hl, b1, b2, hk⟩, hTr, ⟨hSh.1, hSh.2.1, hSh.2.2.1, nw 3 hSh.2.2.2.1, hSh.2.2.2.2.1, hSh.2.2.2.2.2⟩, hRest⟩
        · exact ⟨hP, hT, ⟨hl, b1, b2, hk⟩, hTr, ⟨hSh.1, hSh.2.1, hSh.2.2.1, hSh.2.2.2.1, nw 4 hSh.2.2.2.2.1, hSh.2.2.2.2.2⟩, hRest⟩
        · exact ⟨hP, hT, ⟨hl, b1, b2, hk⟩, hTr, ⟨hSh.1, hSh.2.1, hSh.2.2.1, hSh.2.2.2.1, hSh.2.2.2.2.1, nw 5 hSh.2.2.2.2.2⟩, hRest⟩
    · by_cases hq : ∃ q : Nat, q < kd.length ∧ y = nI q
      · obtain ⟨q, hq, rfl⟩ := hq
        have i50 : inb (nI q) 50 = true := inb_nI (by omega) (by decide)
        have cq : Int32.toNatClampNeg (nI q) = q := nI_clamp (by omega)
        obtain ⟨k1, k2, k3⟩ := hk q hq
        let S1 : St := fset (fset S (14 + b) 0 1) (14 + b) 1 (nI (kd.getD q 0))
        have b2' : S1.1 63 55 = nI kd.length := by
          show (fset (fset S (14 + b) 0 1) (14 + b) 1 (nI (kd.getD q 0))).1 63 55 = _
          have hne : ¬ 63 = 14 + b := by omega
          simp only [fset, va_up, if_neg hne]
          exact b2
        refine ⟨1, S1, aset S1 100 (upd (S.2.1 100) b (nI q)), ?_, ?_, V, kd, ?_⟩
        · simp only [F_noShelf_t hb, Option.bind_some, if_true, if_neg hy, F_has0_t hq hl b1, if_neg n10, gd_t i6, gd_t i50, cb, cq, k1]
          rfl
        · simp only [F_isShelf_t hb, Option.bind_some, if_neg n10, if_neg hy, F_isBody_t hq hl b2', gd_t i6, cb]
          rfl
        · have nw : ∀ c, ShB S kd c → IShelf 1 (nI (kd.getD q 0)) (S.1 (14 + c) 2) (S.1 (14 + c) 3) (nI q) (S.2.1 101 c) (S.2.2 (57 + c)) (fun i => S.2.2 102 (60 * c + i)) kd := fun c hc => ⟨hc.1, Or.inr (Or.inl ⟨rfl, q, hq, rfl, rfl⟩)⟩
          rcases (show b = 0 ∨ b = 1 ∨ b = 2 ∨ b = 3 ∨ b = 4 ∨ b = 5 by omega) with rfl | rfl | rfl | rfl | rfl | rfl
          · exact ⟨hP, hT, ⟨hl, b1, b2, hk⟩, hTr, ⟨nw 0 hSh.1, hSh.2.1, hSh.2.2.1, hSh.2.2.2.1, hSh.2.2.2.2.1, hSh.2.2.2.2.2⟩, hRest⟩
          · exact ⟨hP, hT, ⟨hl, b1, b2, hk⟩, hTr, ⟨hSh.1, nw 1 hSh.2.1, hSh.2.2.1, hSh.2.2.2.1, hSh.2.2.2.2.1, hSh.2.2.2.2.2⟩, hRest⟩
          · exact ⟨hP, hT, ⟨hl, b1, b2, hk⟩, hTr, ⟨hSh.1, hSh.2.1, nw 2 hSh.2.2.1, hSh.2.2.2.1, hSh.2.2.2.2.1, hSh.2.2.2.2.2⟩, hRest⟩
          · exact ⟨hP, hT, ⟨hl, b1, b2, hk⟩, hTr, ⟨hSh.1, hSh.2.1, hSh.2.2.1, nw 3 hSh.2.2.2.1, hSh.2.2.2.2.1, hSh.2.2.2.2.2⟩, hRest⟩
          · exact ⟨hP, hT, ⟨hl, b1, b2, hk⟩, hTr, ⟨hSh.1, hSh.2.1, hSh.2.2.1, hSh.2.2.2.1, nw 4 hSh.2.2.2.2.1, hSh.2.2.2.2.2⟩, hRest⟩
          · exact ⟨hP, hT, ⟨hl, b1, b2, hk⟩, hTr, ⟨hSh.1, hSh.2.1, hSh.2.2.1, hSh.2.2.2.1, hSh.2.2.2.2.1, nw 5 hSh.2.2.2.2.2⟩, hRest⟩
      · refine both_ro h (r := -1) ?_ ?_
        · simp only [F_noShelf_t hb, Option.bind_some, if_true, if_neg hy, F_has0_f hl b1 hq]
        · simp only [F_isShelf_t hb, Option.bind_some, if_neg n10, if_neg hy, F_isBody_f hl b2 hq, if_true]
  · refine both_ro h (r := -1) ?_ ?_
    · simp only [F_noShelf_f hx, Option.bind_some, if_neg n10]
    · simp only [F_isShelf_f hx, Option.bind_some, if_true]
