theorem hp_t {S : St} {b z i n : Nat} (hz : S.1 (14 + b) 3 = nI z) (hz2 : z ≤ 60) (h : i + n ≤ z) : F_X9_hasPlaces b (nI i) (nI n) S = some (1, S) := by
  unfold F_X9_hasPlaces
  rw [if_neg (nI_pos (by omega)), if_neg (nI_pos (by omega)), hz, if_neg (nI_nlt (by omega) (by omega)), pk_sub (by omega), if_neg (nI_nlt (by omega) (by omega))]
theorem hp_f {S : St} {b z : Nat} {x y : Int32} (hz : S.1 (14 + b) 3 = nI z) (hz2 : z ≤ 60) (h : ¬ ∃ i n : Nat, x = nI i ∧ y = nI n ∧ i + n ≤ z) : F_X9_hasPlaces b x y S = some (0, S) := by
  unfold F_X9_hasPlaces
  by_cases h1 : x < 0
  · rw [if_pos h1]
  · rw [if_neg h1]
    by_cases h2 : y < 0
    · rw [if_pos h2]
    · rw [if_neg h2, hz]
      obtain ⟨i, hi, rfl⟩ := nI_of h1
      obtain ⟨n, hn, rfl⟩ := nI_of h2
      by_cases h3 : z < n
      · rw [if_pos (nI_lt h3 hn)]
      · rw [if_neg (nI_nlt (by omega) (by omega)), pk_sub (by omega), if_pos (nI_lt (Nat.not_le.mp fun q => h ⟨i, n, rfl, rfl, by omega⟩) hi)]
def shA (f g : Nat → Int64) (o k n : Nat) : Nat → Int64 := fun q => if k ≤ q ∧ q < n then f (o + q) else g q
theorem shA_end (f g : Nat → Int64) (o n : Nat) : shA f g o n n = g := by
  funext q
  exact if_neg (by omega)
theorem shA_step (f g : Nat → Int64) (o : Nat) {k n : Nat} (h : k < n) : shA f (vp_updL g k (f (o + k))) o (k + 1) n = shA f g o k n := by
  funext q
  unfold shA
  by_cases hj : q = k
  · subst hj
    rw [if_neg (by omega), if_pos ⟨Nat.le_refl _, h⟩, pk_uLs]
  · by_cases h1 : k + 1 ≤ q ∧ q < n
    · rw [if_pos h1, if_pos ⟨by omega, h1.2⟩]
    · rw [if_neg h1, if_neg (fun z => h1 ⟨by omega, z.2⟩), pk_uLn hj]
theorem ix60' {b i q : Nat} : ((60 * nI b) + nI i) + nI q = nI (60 * b + i + q) := by
  rw [ix60, nI_add]
theorem shl1 {N s i o j n : Nat} (hs : s < 6) (hi : i + n ≤ 60) : ∀ (m k : Nat) (S : St), k ≤ n → n - k < m → F_X12_shift_113 N m (nI s) (nI i) (nI o) (nI j) (nI n) (nI k) S = F_X12_shift_150 N (nI o) (nI j) (nI n) 0 (lset S 103 (shA (S.2.2 102) (S.2.2 103) (60 * s + i) k n)) := by
  intro m
  induction m with
  | zero => intro k S _ h; omega
  | succ m ih =>
    intro k S hk hm
    show (if nI n ≤ nI k then F_X12_shift_150 N (nI o) (nI j) (nI n) 0 S else _) = _
    by_cases he : k = n
    · rw [if_pos (nI_le (by omega) (by omega)), he, shA_end, lset_self]
    · rw [if_neg (nI_ge (by omega) (by omega)), ix60', gd_t (inb_nI (by omega) (by decide)), gd_t (inb_nI (by omega) (by decide)), nI_clamp (by omega), nI_clamp (by omega), nI_1]
      show F_X12_shift_113 N m (nI s) (nI i) (nI o) (nI j) (nI n) (nI (k + 1)) (lset S 103 (vp_updL (S.2.2 103) k (S.2.2 102 (60 * s + i + k)))) = _
      rw [ih (k + 1) _ (by omega) (by omega), lset_lset, lset_get]
      show F_X12_shift_150 N (nI o) (nI j) (nI n) 0 (lset S 103 (shA (S.2.2 102) (vp_updL (S.2.2 103) k (S.2.2 102 (60 * s + i + k))) (60 * s + i) (k + 1) n)) = _
      rw [shA_step _ _ _ (by omega)]
def shB (f g : Nat → Int64) (o k n : Nat) : Nat → Int64 := fun q => if o + k ≤ q ∧ q < o + n then f (q - o) else g q
theorem shB_end (f g : Nat → Int64) (o n : Nat) : shB f g o n n = g := by
  funext q
  exact if_neg (by omega)
theorem shB_step (f g : Nat → Int64) (o : Nat) {k n : Nat} (h : k < n) : shB f (vp_updL g (o + k) (f k)) o (k + 1) n = shB f g o k n := by
  funext q
  unfold shB
  by_cases hj : q = o + k
  · subst hj
    rw [if_neg (by omega), if_pos (by omega), pk_uLs]
    congr 1
    omega
  · by_cases h1 : o + (k + 1) ≤ q ∧ q < o + n
    · rw [if_pos h1, if_pos ⟨by omega, h1.2⟩]
    · rw [if_neg h1, if_neg (fun z => h1 ⟨by omega, z.2⟩), pk_uLn hj]
theorem shl2 {o j n : Nat} (ho : o < 6) (hj : j + n ≤ 60) : ∀ (m k : Nat) (S : St), k ≤ n → n - k < m → F_X12_shift_150 m (nI o) (nI j) (nI n) (nI k) S = some (nI n, lset S 102 (shB (S.2.2 103) (S.2.2 102) (60 * o + j) k n)) := by
  intro m
  induction m with
  | zero => intro k S _ h; omega
  | succ m ih =>
    intro k S hk hm
    show (if nI n ≤ nI k then some (nI n, S) else _) = _
    by_cases he : k = n
    · rw [if_pos (nI_le (by omega) (by omega)), he, shB_end, lset_self]
    · rw [if_neg (nI_ge (by omega) (by omega)), ix60', gd_t (inb_nI (by omega) (by decide)), gd_t (inb_nI (by omega) (by decide)), nI_clamp (by omega), nI_clamp (by omega), nI_1]
      show F_X12_shift_150 m (nI o) (nI j) (nI n) (nI (k + 1)) (lset S 102 (vp_updL (S.2.2 102) (60 * o + j + k) (S.2.2 103 k))) = _
      rw [ih (k + 1) _ (by omega) (by omega), lset_lset, lset_get]
      show some (nI n, lset S 102 (shB (S.2.2 103) (vp_updL (S.2.2 102) (60 * o + j + k) (S.2.2 103 k)) (60 * o + j) (k + 1) n)) = _
      rw [shB_step _ _ _ (by omega)]
theorem shift_f12 {N : Nat} {S : St} {s o z1 z2 : Nat} {x2 x4 x5 : Int32} (hs : s ≤ 5) (ho : o ≤ 5) (h1 : ¬ S.2.1 100 s = -1) (h2 : ¬ S.2.1 100 o = -1) (h3 : S.2.1 100 s < 0) (h4 : S.2.1 100 s = S.2.1 100 o) (e1 : S.2.1 101 s = nI z1) (e2 : S.2.1 101 o = nI z2) (hz1 : z1 ≤ 60) (hz2 : z2 ≤ 60) (h : ¬ ∃ i j n : Nat, x2 = nI i ∧ x4 = nI j ∧ x5 = nI n ∧ i + n ≤ z1 ∧ j + n ≤ z2) : F_X12_shift N (nI s) x2 (nI o) x4 x5 S = some (-13, S) := by
  have n10 : ¬ (1 : Int32) = 0 := by decide
  have i6 : inb (nI s) 6 = true := inb_nI (by omega) (by decide)
  have j6 : inb (nI o) 6 = true := inb_nI (by omega) (by decide)
  have cs : Int32.toNatClampNeg (nI s) = s := nI_clamp (by omega)
  have co : Int32.toNatClampNeg (nI o) = o := nI_clamp (by omega)
  have g0 : ¬ 0 ≤ S.2.1 100 s := Int32.not_le.mpr h3
  unfold F_X12_shift
  simp only [F_isShelf_t hs, F_isShelf_t ho, Option.bind_some, if_neg n10, gd_t i6, gd_t j6, cs, co, if_neg h1, if_neg h2, if_neg g0, if_pos h4, e1, e2]
  by_cases a1 : x5 < 0
  · rw [if_pos a1]
  by_cases a2 : x2 < 0
  · rw [if_neg a1, if_pos a2]
  by_cases a3 : x4 < 0
  · rw [if_neg a1, if_neg a2, if_pos a3]
  rw [if_neg a1, if_neg a2, if_neg a3]
  obtain ⟨n, hn, rfl⟩ := nI_of a1
  obtain ⟨i, hi, rfl⟩ := nI_of a2
  obtain ⟨j, hj, rfl⟩ := nI_of a3
  have tz : ∀ z : Nat, z ≤ 60 → (nI z - nI n).toInt = (z : Int) - n := by
    intro z hz
    rw [Int32.toInt_sub, nI_toInt (by omega), nI_toInt hn]
    exact Int.bmod_eq_of_le (by omega) (by omega)
  by_cases a4 : i + n ≤ z1
  · have q : ¬ nI z1 - nI n < nI i := by
      rw [Int32.lt_iff_toInt_lt, tz z1 hz1, nI_toInt hi]; omega
    have q2 : ¬ nI j ≤ nI z2 - nI n := by
      rw [Int32.le_iff_toInt_le, tz z2 hz2, nI_toInt hj]
      intro w
      exact h ⟨i, j, n, rfl, rfl, rfl, a4, by omega⟩
    rw [if_neg q, if_neg q2]
  · have q : nI z1 - nI n < nI i := by
      rw [Int32.lt_iff_toInt_lt, tz z1 hz1, nI_toInt hi]; omega
    rw [if_pos q]
theorem shift_t12 {N : Nat} (hN : 100 ≤ N) {S : St} {s o i j n z1 z2 : Nat} (hs : s ≤ 5) (ho : o ≤ 5) (h1 : ¬ S.2.1 100 s = -1) (h2 : ¬ S.2.1 100 o = -1) (h3 : S.2.1 100 s < 0) (h4 : S.2.1 100 s = S.2.1 100 o) (e1 : S.2.1 101 s = nI z1) (e2 : S.2.1 101 o = nI z2) (hz1 : z1 ≤ 60) (hz2 : z2 ≤ 60) (hi : i + n ≤ z1) (hj : j + n ≤ z2) : F_X12_shift N (nI s) (nI i) (nI o) (nI j) (nI n) S = some (nI n, lset (lset S 103 (shA (S.2.2 102) (S.2.2 103) (60 * s + i) 0 n)) 102 (shB (shA (S.2.2 102) (S.2.2 103) (60 * s + i) 0 n) (S.2.2 102) (60 * o + j) 0 n)) := by
  have n10 : ¬ (1 : Int32) = 0 := by decide
  have i6 : inb (nI s) 6 = true := inb_nI (by omega) (by decide)
  have j6 : inb (nI o) 6 = true := inb_nI (by omega) (by decide)
  have cs : Int32.toNatClampNeg (nI s) = s := nI_clamp (by omega)
  have co : Int32.toNatClampNeg (nI o) = o := nI_clamp (by omega)
  have g0 : ¬ 0 ≤ S.2.1 100 s := Int32.not_le.mpr h3
  have a1 : ¬ nI n < 0 := nI_pos (by omega)
  have a2 : ¬ nI i < 0 := nI_pos (by omega)
  have a3 : ¬ nI j < 0 := nI_pos (by omega)
  have q1 : ¬ nI z1 - nI n < nI i := by rw [pk_sub (by omega)]; exact nI_nlt (by omega) (by omega)
  have q2 : nI j ≤ nI z2 - nI n := by rw [pk_sub (by omega)]; exact nI_le (by omega) (by omega)
  unfold F_X12_shift
  simp only [F_isShelf_t hs, F_isShelf_t ho, Option.bind_some, if_neg n10, gd_t i6, gd_t j6, cs, co, if_neg h1, if_neg h2, if_neg g0, if_pos h4, e1, e2, if_neg a1, if_neg a2, if_neg a3, if_neg q1, if_pos q2]
  show F_X12_shift_113 N N (nI s) (nI i) (nI o) (nI j) (nI n) (nI 0) S = _
  rw [shl1 (by omega) (by omega) N 0 S (by omega) (by omega)]
  show F_X12_shift_150 N (nI o) (nI j) (nI n) (nI 0) _ = _
  rw [shl2 (by omega) (by omega) N 0 _ (by omega) (by omega), lset_get]
  rfl
