theorem F_has8_f {y : Int32} {n : Nat} {S : St} (hl : n ≤ 20) (b1 : S.1 1 0 = nI n) (hy : ¬ ∃ q : Nat, q < n ∧ y = nI q) : F_X8_has y S = some (0, S) := by
  unfold F_X8_has
  by_cases h0 : y < 0
  · rw [if_pos h0]
  · rw [if_neg h0, b1]
    obtain ⟨q, hq, rfl⟩ := nI_of h0
    have h2 : n ≤ q := Nat.not_lt.mp fun z => hy ⟨q, z, rfl⟩
    rw [if_pos (nI_le h2 hq)]
theorem F_isLine_t {q n : Nat} {S : St} (hq : q < n) (hl : n ≤ 20) (b2 : S.1 63 1 = nI n) : F_X12_isLine (nI q) S = some (1, S) := by
  unfold F_X12_isLine
  have e : S.1 63 1 - 1 = nI (n - 1) := by
    rw [b2]
    obtain ⟨k, hk⟩ : ∃ k, n = k + 1 := ⟨n - 1, by omega⟩
    rw [hk, nI_pred]; rfl
  rw [e, in_t (by omega) (by omega)]
  rfl
theorem F_isLine_f {y : Int32} {n : Nat} {S : St} (hl : n ≤ 20) (b2 : S.1 63 1 = nI n) (hy : ¬ ∃ q : Nat, q < n ∧ y = nI q) : F_X12_isLine y S = some (0, S) := by
  unfold F_X12_isLine
  have e : F_X12_in y (0 : Int32) (S.1 63 1 - 1) S = some (0, S) := by
    rw [F_in, bI_f]
    apply decide_eq_false
    rintro ⟨h0, h1⟩
    obtain ⟨q, hq, rfl⟩ := nI_of h0
    have h2 : n ≤ q := Nat.not_lt.mp fun z => hy ⟨q, z, rfl⟩
    apply h1
    rw [b2]
    by_cases hz : n = 0
    · rw [hz]
      rw [Int32.lt_iff_toInt_lt, nI_toInt hq]
      have : (nI 0 - 1).toInt = -1 := by decide
      omega
    · obtain ⟨k, hk⟩ : ∃ k, n = k + 1 := ⟨n - 1, by omega⟩
      rw [hk, nI_pred]
      exact nI_lt (by omega) hq
  rw [e]
  rfl
theorem F_part_f {x : Int32} (hx : ¬ ∃ q : Nat, q < 6 ∧ x = nI q) (S : St) : F_X11_isPart x S = some (0, S) := by
  unfold F_X11_isPart
  by_cases h0 : x < 0
  · rw [if_pos h0]
  · rw [if_neg h0]
    obtain ⟨q, hq, rfl⟩ := nI_of h0
    have h2 : 6 ≤ q := Nat.not_lt.mp fun z => hx ⟨q, z, rfl⟩
    have h6 : (6 : Int32) ≤ nI q := nI_le (a := 6) h2 hq
    rw [if_pos h6]
theorem F_part12_t {q : Nat} (hq : q < 6) (S : St) : F_X12_isPart (nI q) S = some (1, S) := by
  rw [F_part12, mI_t ⟨nI_pos (by omega), nI_nlt (a := 5) (by omega) (by decide)⟩]
theorem F_part12_f {x : Int32} (hx : ¬ ∃ q : Nat, q < 6 ∧ x = nI q) (S : St) : F_X12_isPart x S = some (0, S) := by
  rw [F_part12, mI_f (fun h => hx (by
    obtain ⟨q, hq, e⟩ := nI_of2 (x := x) (n := 5) (by decide) h.1 (Int32.not_lt.mp h.2)
    exact ⟨q, by omega, e⟩))]
/-- rows whose first entry went out -/
def shP (f : Nat → Int32) (k : Nat) : Nat → Int32 := fun j => if k ≤ j + 1 ∧ j < 39 then f (j + 1) else f j
theorem shP_step (f : Nat → Int32) {k : Nat} (h1 : 1 ≤ k) (h : k < 40) : shP (upd f (k - 1) (f k)) (k + 1) = shP f k := by
  funext j
  unfold shP
  by_cases hj : j = k - 1
  · subst hj
    rw [if_neg (by omega), pk_us, if_pos (by omega), show k - 1 + 1 = k by omega]
  · by_cases h2 : k + 1 ≤ j + 1 ∧ j < 39
    · rw [if_pos h2, if_pos (by omega), pk_un (by omega)]
    · rw [if_neg h2, if_neg (by omega), pk_un hj]
theorem shP_end (f : Nat → Int32) : shP f 40 = f := by
  funext j
  exact if_neg (by omega)
def set4 (S : St) (f g h i : Nat → Int32) : St := aset (aset (aset (aset S 72 f) 73 g) 74 h) 75 i
theorem set4_set4 (S : St) (f g h i f' g' h' i' : Nat → Int32) : set4 (set4 S f g h i) f' g' h' i' = set4 S f' g' h' i' := by
  unfold set4 aset
  simp only
  congr 2
  funext k
  unfold va_up
  by_cases k1 : k = 75
  · simp [k1]
  · by_cases k2 : k = 74
    · simp [k2]
    · by_cases k3 : k = 73
      · simp [k3]
      · by_cases k4 : k = 72
        · simp [k4]
        · simp [k1, k2, k3, k4]
theorem set4_self (S : St) : set4 S (S.2.1 72) (S.2.1 73) (S.2.1 74) (S.2.1 75) = S := by
  unfold set4
  rw [aset_self]
  rw [show S.2.1 73 = S.2.1 73 from rfl, aset_self, aset_self, aset_self]
theorem shift_loop (x1 x2 x3 x4 : Int32) : ∀ (m k : Nat) (S : St), 1 ≤ k → k ≤ 40 → 40 - k < m → F_X12_changes_34 m x1 x2 x3 x4 (nI k) S = F_X12_changes_121 x1 x2 x3 x4 (fset (set4 S (shP (S.2.1 72) k) (shP (S.2.1 73) k) (shP (S.2.1 74) k) (shP (S.2.1 75) k)) 63 12 (S.1 63 12 - 1)) := by
  intro m
  induction m with
  | zero => intro k S _ _ h; omega
  | succ m ih =>
    intro k S h1 hk hm
    by_cases he : k = 40
    · have q40 : (40 : Int32) ≤ nI k := by rw [he]; decide
      show (if (40 : Int32) ≤ nI k then _ else _) = _
      rw [if_pos q40, he, shP_end, shP_end, shP_end, shP_end, set4_self]
    · have i1 : inb (nI k) 40 = true := inb_nI (by omega) (by decide)
      have ek : nI k - 1 = nI (k - 1) := by
        obtain ⟨j, rfl⟩ : ∃ j, k = j + 1 := ⟨k - 1, by omega⟩
        rw [nI_pred]; rfl
      have i2 : inb (nI (k - 1)) 40 = true := inb_nI (by omega) (by decide)
      have c1 : Int32.toNatClampNeg (nI k) = k := nI_clamp (by omega)
      have c2 : Int32.toNatClampNeg (nI (k - 1)) = k - 1 := nI_clamp (by omega)
      have n40 : ¬ (40 : Int32) ≤ nI k := nI_ge (b := 40) (by omega) (by decide)
      have st : F_X12_changes_34 (m + 1) x1 x2 x3 x4 (nI k) S = F_X12_changes_34 m x1 x2 x3 x4 (nI (k + 1)) (set4 S (upd (S.2.1 72) (k - 1) (S.2.1 72 k)) (upd (S.2.1 73) (k - 1) (S.2.1 73 k)) (upd (S.2.1 74) (k - 1) (S.2.1 74 k)) (upd (S.2.1 75) (k - 1) (S.2.1 75 k))) := by
        show (if (40 : Int32) ≤ nI k then _ else _) = _
        rw [if_neg n40, ek, nI_1]
        simp only [gd_t i1, gd_t i2, c1, c2]
        rfl
      rw [st, ih (k + 1) _ (by omega) (by omega) (by omega)]
      have t72 : (set4 S (upd (S.2.1 72) (k - 1) (S.2.1 72 k)) (upd (S.2.1 73) (k - 1) (S.2.1 73 k)) (upd (S.2.1 74) (k - 1) (S.2.1 74 k)) (upd (S.2.1 75) (k - 1) (S.2.1 75 k))).2.1 72 = upd (S.2.1 72) (k - 1) (S.2.1 72 k) := rfl
      have t73 : (set4 S (upd (S.2.1 72) (k - 1) (S.2.1 72 k)) (upd (S.2.1 73) (k - 1) (S.2.1 73 k)) (upd (S.2.1 74) (k - 1) (S.2.1 74 k)) (upd (S.2.1 75) (k - 1) (S.2.1 75 k))).2.1 73 = upd (S.2.1 73) (k - 1) (S.2.1 73 k) := rfl
      have t74 : (set4 S (upd (S.2.1 72) (k - 1) (S.2.1 72 k)) (upd (S.2.1 73) (k - 1) (S.2.1 73 k)) (upd (S.2.1 74) (k - 1) (S.2.1 74 k)) (upd (S.2.1 75) (k - 1) (S.2.1 75 k))).2.1 74 = upd (S.2.1 74) (k - 1) (S.2.1 74 k) := rfl
      have t75 : (set4 S (upd (S.2.1 72) (k - 1) (S.2.1 72 k)) (upd (S.2.1 73) (k - 1) (S.2.1 73 k)) (upd (S.2.1 74) (k - 1) (S.2.1 74 k)) (upd (S.2.1 75) (k - 1) (S.2.1 75 k))).2.1 75 = upd (S.2.1 75) (k - 1) (S.2.1 75 k) := rfl
      rw [t72, t73, t74, t75, set4_set4, shP_step _ h1 (by omega), shP_step _ h1 (by omega), shP_step _ h1 (by omega), shP_step _ h1 (by omega)]
      rfl
theorem cpy39 (f : Nat → Int32) : va_cpy f f (Int32.toNatClampNeg (1 : Int32)) (Int32.toNatClampNeg (0 : Int32)) (Int32.toNatClampNeg (39 : Int32)) = shP f 1 := by
  rw [show Int32.toNatClampNeg (1 : Int32) = 1 by decide, show Int32.toNatClampNeg (0 : Int32) = 0 by decide, show Int32.toNatClampNeg (39 : Int32) = 39 by decide]
  funext j
  unfold va_cpy shP
  by_cases h : 0 ≤ j ∧ j < 0 + 39
  · rw [if_pos h, if_pos (by omega)]; congr 1; omega
  · rw [if_neg h, if_neg (by omega)]
def noteS (S : St) (a : Nat) (w k x y : Int32) : St := fset (fset (aset (aset (aset (aset S 51 (upd (S.2.1 51) a w)) 52 (upd (S.2.1 52) a k)) 53 (upd (S.2.1 53) a x)) 54 (upd (S.2.1 54) a y)) 11 0 (nI (a + 1))) 11 1 (nI (a + 1))
theorem note13 {S : St} {a : Nat} (ha : a < 40) (d : S.1 11 0 = nI a) (w k x y : Int32) : F_X1_note_13 w k x y S = some (noteS S a w k x y) := by
  have i40 : inb (S.1 11 0) 40 = true := by rw [d]; exact inb_nI ha (by decide)
  have ca : Int32.toNatClampNeg (S.1 11 0) = a := by rw [d]; exact nI_clamp (by omega)
  unfold F_X1_note_13
  show gd (inb (S.1 11 0) 40) (gd (inb (S.1 11 0) 40) (gd (inb (S.1 11 0) 40) (gd (inb (S.1 11 0) 40) (some (fset (fset (aset (aset (aset (aset S 51 (upd (S.2.1 51) (Int32.toNatClampNeg (S.1 11 0)) w)) 52 (upd (S.2.1 52) (Int32.toNatClampNeg (S.1 11 0)) k)) 53 (upd (S.2.1 53) (Int32.toNatClampNeg (S.1 11 0)) x)) 54 (upd (S.2.1 54) (Int32.toNatClampNeg (S.1 11 0)) y)) 11 0 (S.1 11 0 + 1)) 11 1 (S.1 11 0 + 1)))))) = _
  rw [gd_t i40, gd_t i40, gd_t i40, gd_t i40, ca, d, nI_1]
  rfl
def dropS (S : St) : St := fset (aset (aset (aset (aset S 51 (shP (S.2.1 51) 1)) 52 (shP (S.2.1 52) 1)) 53 (shP (S.2.1 53) 1)) 54 (shP (S.2.1 54) 1)) 11 0 39
theorem drop_eq (S : St) : F_X1_dropOldest S = some (dropS S) := by
  have ok : cpok (1 : Int32) (0 : Int32) (39 : Int32) 40 40 = true := by decide
  unfold F_X1_dropOldest
  rw [gd_t ok]
  simp only [gd_t ok, cpy39]
  rfl
theorem note_eq {S : St} {a : Nat} (ha : a ≤ 40) (d : S.1 11 0 = nI a) (w k x y : Int32) : F_X1_note w k x y S = some (if a < 40 then noteS S a w k x y else noteS (dropS S) 39 w k x y) := by
  unfold F_X1_note
  by_cases h : a < 40
  · have h' : S.1 11 0 < 40 := by rw [d]; exact nI_lt (b := 40) h (by decide)
    rw [if_pos h', if_pos h, note13 h d]
  · have h' : ¬ S.1 11 0 < 40 := by rw [d]; exact nI_nlt (b := 40) (by omega) (by omega)
    rw [if_neg h', if_neg h, drop_eq, Option.bind_some, note13 (S := dropS S) (a := 39) (by decide) rfl]
def chgS (S : St) (a : Nat) (w k v x : Int32) : St := fset (set4 S (upd (S.2.1 72) a w) (upd (S.2.1 73) a k) (upd (S.2.1 74) a x) (upd (S.2.1 75) a v)) 63 12 (nI (a + 1))
theorem chg121 {S : St} {a : Nat} (ha : a < 40) (d : S.1 63 12 = nI a) (w k v x : Int32) : F_X12_changes_121 w k v x S = (F_X12_lays w k v (chgS S a w k v x)).bind (fun r => some (x, r)) := by
  have i40 : inb (S.1 63 12) 40 = true := by rw [d]; exact inb_nI ha (by decide)
  have ca : Int32.toNatClampNeg (S.1 63 12) = a := by rw [d]; exact nI_clamp (by omega)
  unfold F_X12_changes_121
  show gd (inb (S.1 63 12) 40) (gd (inb (S.1 63 12) 40) (gd (inb (S.1 63 12) 40) (gd (inb (S.1 63 12) 40) ((F_X12_lays w k v (fset (set4 S (upd (S.2.1 72) (Int32.toNatClampNeg (S.1 63 12)) w) (upd (S.2.1 73) (Int32.toNatClampNeg (S.1 63 12)) k) (upd (S.2.1 74) (Int32.toNatClampNeg (S.1 63 12)) x) (upd (S.2.1 75) (Int32.toNatClampNeg (S.1 63 12)) v)) 63 12 (S.1 63 12 + 1))).bind (fun r => some (x, r)))))) = _
  rw [gd_t i40, gd_t i40, gd_t i40, gd_t i40, ca, d, nI_1]
  rfl
def shR (S : St) : St := fset (set4 S (shP (S.2.1 72) 1) (shP (S.2.1 73) 1) (shP (S.2.1 74) 1) (shP (S.2.1 75) 1)) 63 12 (nI 39)
theorem chg_eq {N : Nat} (hN : 50 ≤ N) {S : St} {a : Nat} (ha : a ≤ 40) (d : S.1 63 12 = nI a) (w k v x : Int32) (hv : F_X12_valueAt w k S = some (x, S)) (hx : ¬ x = v) : F_X12_changes N w k v S = (F_X12_lays w k v (if a < 40 then chgS (fset S 63 13 0) a w k v x else chgS (shR (fset S 63 13 0)) 39 w k v x)).bind (fun r => some (x, r)) := by
  unfold F_X12_changes
  rw [hv, Option.bind_some]
  dsimp only
  rw [if_neg hx]
  have d' : (fset S 63 13 0).1 63 12 = nI a := d
  by_cases h : a < 40
  · have h' : ¬ (fset S 63 13 0).1 63 12 = 40 := by rw [d']; intro q; have := nI_inj (b := 40) (by omega) (by decide) q; omega
    rw [if_neg h', if_pos h, chg121 h d']
  · have h40 : a = 40 := by omega
    have h' : (fset S 63 13 0).1 63 12 = 40 := by rw [d', h40]; decide
    rw [if_pos h', if_neg h]
    show F_X12_changes_34 N w k v x (nI 1) (fset S 63 13 0) = _
    rw [shift_loop w k v x N 1 (fset S 63 13 0) (by decide) (by decide) (by omega)]
    have e39 : (fset S 63 13 0).1 63 12 - 1 = nI 39 := by rw [d', h40]; decide
    rw [e39]
    exact chg121 (S := shR (fset S 63 13 0)) (a := 39) (by decide) rfl w k v x
