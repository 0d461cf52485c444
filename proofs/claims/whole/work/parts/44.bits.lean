/-! bits: Int32 by its bits (the first ten rows began as the kit's paste family 'Int32 by its bits') -/
def bt (x : Int32) (i : Nat) : Bool := x.toBitVec.getLsbD i
theorem b_ext {x y : Int32} (h : ∀ i, i < 32 → bt x i = bt y i) : x = y := Int32.toBitVec_inj.mp (BitVec.eq_of_getLsbD_eq (fun i hi => h i hi))
theorem b_or (x y : Int32) (i : Nat) : bt (x ||| y) i = (bt x i || bt y i) := by unfold bt; rw [Int32.toBitVec_or, BitVec.getLsbD_or]
theorem b_and (x y : Int32) (i : Nat) : bt (x &&& y) i = (bt x i && bt y i) := by unfold bt; rw [Int32.toBitVec_and, BitVec.getLsbD_and]
theorem b_xor (x y : Int32) (i : Nat) : bt (x ^^^ y) i = (bt x i ^^ bt y i) := by unfold bt; rw [Int32.toBitVec_xor, BitVec.getLsbD_xor]
theorem b_m1 : ∀ i, i < 32 → bt (-1) i = true := by decide +kernel
theorem s_l : ∀ n, n < 32 → ((nI n &&& 31).toBitVec.smod 32).toNat = n := by decide +kernel
theorem b_shl (n : Nat) (hn : n < 32) (x : Int32) {i : Nat} (hi : i < 32) : bt (x <<< (nI n &&& 31)) i = (decide (n ≤ i) && bt x (i - n)) := by
  unfold bt
  rw [Int32.toBitVec_shiftLeft]
  show (x.toBitVec <<< ((nI n &&& 31).toBitVec.smod 32).toNat).getLsbD i = _
  rw [s_l n hn, BitVec.getLsbD_shiftLeft]
  rcases Nat.lt_or_ge i n with h | h
  · simp [h, Nat.not_le.mpr h]
  · simp [hi, h, Nat.not_lt.mpr h]
theorem nx_and (a b : Nat) : nI a &&& nI b = nI (a &&& b) := by
  apply Int32.toBitVec_inj.1
  show BitVec.ofNat 32 a &&& BitVec.ofNat 32 b = BitVec.ofNat 32 (a &&& b)
  apply BitVec.eq_of_getLsbD_eq
  intro i hi
  simp [hi]
theorem bt_nI (m : Nat) {i : Nat} (hi : i < 32) : bt (nI m) i = m.testBit i := by
  show (BitVec.ofNat 32 m).getLsbD i = _
  rw [BitVec.getLsbD_ofNat]
  simp [hi]
theorem bt_3 : ∀ i, i < 32 → bt 3 i = decide (i < 2) := by decide +kernel
theorem maskOf_bit (p : Nat → Bool) : ∀ n i, (maskOf p n).testBit i = (decide (i < n) && p i)
  | 0, i => by
    show (0 : Nat).testBit i = _
    simp
  | n + 1, i => by
    show (maskOf p n + (if p n = true then 2 ^ n else 0)).testBit i = _
    by_cases hi : i = n
    · subst hi
      by_cases h : p i = true
      · rw [if_pos h, ← mask_add (maskOf_lt p i), Nat.testBit_or, maskOf_bit p i i, Nat.testBit_two_pow]
        simp [h]
      · rw [if_neg h, Nat.add_zero, maskOf_bit p i i]
        simp [h]
    · have e : decide (i < n + 1) = decide (i < n) := by rw [decide_eq_decide]; omega
      rw [e]
      by_cases h : p n = true
      · rw [if_pos h, ← mask_add (maskOf_lt p n), Nat.testBit_or, maskOf_bit p n i, Nat.testBit_two_pow, decide_eq_false (show ¬ n = i from fun q => hi q.symm), Bool.or_false]
      · rw [if_neg h, Nat.add_zero, maskOf_bit p n i]
/-- one bit of a mask -/
theorem tst_bit {m j : Nat} (hm : m < 2 ^ 31) (hj : j < 31) : ((nI m >>> (nI j &&& 31)) &&& 1) = 0 ↔ m.testBit j = false := by
  rw [pk_shrN hm (nI j &&& 31) j (s_l j (by omega))]
  show nI (m / 2 ^ j) &&& nI 1 = nI 0 ↔ _
  rw [nx_and, Nat.and_one_is_mod, nI_eq (by omega) (by omega), Nat.testBit_eq_decide_div_mod_eq, decide_eq_false_iff_not]
  generalize m / 2 ^ j = z
  omega
/-- the jumps and the rings from a line -/
def jpB (V : Nat → Nat → Nat) (k j : Nat) : Bool := decide (V 1 j = V 2 k ∧ j ≠ k ∧ j ≠ k + 1)
def rgB (V : Nat → Nat → Nat) (k j : Nat) : Bool := decide (V 1 j = V 2 k ∧ j < k)
def jm (V : Nat → Nat → Nat) (k : Nat) : Nat := maskOf (jpB V k) (V 8 0)
def rgm (V : Nat → Nat → Nat) (k : Nat) : Nat := maskOf (rgB V k) (V 8 0)
theorem msk_lt {p : Nat → Bool} {n : Nat} (h : n ≤ 20) : maskOf p n < 2 ^ 20 := Nat.lt_of_lt_of_le (maskOf_lt p n) (Nat.pow_le_pow_right (by decide) h)
theorem jf_eq {S : St} {V : Nat → Nat → Nat} (ok : OKV V) (h : ClP S V) {k : Nat} (hk : k < V 8 0) : F_X8_jumpsFrom (nI k) S = some (nI (jm V k), S) := by
  have h20 := ok.1
  have hw : V 2 k < 10 := (ok.2.2.2.1 k hk).2.2.1
  have e23 : S.2.1 23 k = nI (V 2 k) := (h.2.2.2.1 k hk).2.2.1
  unfold F_X8_jumpsFrom
  rw [gd_t (inb_nI (by omega) (by decide)), nI_clamp (by omega), e23, gd_t (inb_nI hw (by decide)), nI_clamp (by omega), h.2.2.2.2.2 _ hw]
  congr 2
  refine b_ext (fun i hi => ?_)
  rw [b_and, b_xor, b_shl k (by omega) 3 hi, b_m1 i hi, bt_nI _ hi, bt_nI _ hi, bt_3 _ (by omega)]
  unfold jm
  rw [maskOf_bit, maskOf_bit]
  have e : (decide (k ≤ i) && decide (i - k < 2)) = decide (i = k ∨ i = k + 1) := by
    rw [← Bool.decide_and, decide_eq_decide]; omega
  rw [e, Bool.xor_true, Bool.eq_iff_iff]
  unfold jpB
  simp only [Bool.and_eq_true, Bool.not_eq_true', decide_eq_true_eq, decide_eq_false_iff_not]
  omega
theorem rf_eq {S : St} {V : Nat → Nat → Nat} (ok : OKV V) (h : ClP S V) {k : Nat} (hk : k < V 8 0) : F_X8_ringsFrom (nI k) S = some (nI (rgm V k), S) := by
  have h20 := ok.1
  have hw : V 2 k < 10 := (ok.2.2.2.1 k hk).2.2.1
  have e23 : S.2.1 23 k = nI (V 2 k) := (h.2.2.2.1 k hk).2.2.1
  unfold F_X8_ringsFrom
  rw [gd_t (inb_nI (by omega) (by decide)), nI_clamp (by omega), e23, gd_t (inb_nI hw (by decide)), nI_clamp (by omega), h.2.2.2.2.2 _ hw]
  have e1 : ((1 : Int32) <<< (nI k &&& 31)) - 1 = nI (2 ^ k - 1) := by
    rw [bit_n k (by omega)]
    exact pk_sub (a := 2 ^ k) (b := 1) (Nat.two_pow_pos k)
  rw [e1, nx_and, Nat.and_two_pow_sub_one_eq_mod]
  congr 3
  refine Nat.eq_of_testBit_eq (fun i => ?_)
  unfold rgm
  rw [Nat.testBit_mod_two_pow, maskOf_bit, maskOf_bit, Bool.eq_iff_iff]
  unfold rgB
  simp only [Bool.and_eq_true, decide_eq_true_eq]
  omega
/-! how many bits -/
theorem cnt_congr {p q : Nat → Bool} : ∀ n, (∀ i, i < n → p i = q i) → cnt p n = cnt q n
  | 0, _ => rfl
  | n + 1, h => by
    show cnt p n + (if p n = true then 1 else 0) = cnt q n + (if q n = true then 1 else 0)
    rw [cnt_congr n (fun i hi => h i (by omega)), h n (by omega)]
theorem cnt_split (p : Nat → Bool) (m : Nat) : ∀ n, cnt p (m + n) = cnt p m + cnt (fun i => p (m + i)) n
  | 0 => rfl
  | n + 1 => by
    show cnt p (m + n) + (if p (m + n) = true then 1 else 0) = cnt p m + (cnt (fun i => p (m + i)) n + (if p (m + n) = true then 1 else 0))
    rw [cnt_split p m n]; omega
theorem cnt_zero {p : Nat → Bool} : ∀ n, (∀ i, i < n → p i = false) → cnt p n = 0
  | 0, _ => rfl
  | n + 1, h => by
    show cnt p n + (if p n = true then 1 else 0) = 0
    rw [cnt_zero n (fun i hi => h i (by omega)), h n (by omega)]; rfl
def by1 (m : Nat) : Nat := m - ((m / 2) &&& 1431655765)
def by2 (y : Nat) : Nat := (y &&& 858993459) + ((y / 4) &&& 858993459)
def by3 (y : Nat) : Nat := (y + y / 16) &&& 252645135
def by5 (y : Nat) : Nat := ((y + y / 256) + (y + y / 256) / 65536) &&& 63
theorem and_hi (k v M : Nat) : (2 ^ k * v) &&& M = 2 ^ k * (v &&& (M / 2 ^ k)) := by
  refine Nat.eq_of_testBit_eq (fun j => ?_)
  rw [Nat.testBit_and, Nat.testBit_two_pow_mul, Nat.testBit_two_pow_mul, Nat.testBit_and, Nat.testBit_div_two_pow]
  by_cases h : j ≥ k
  · rw [Nat.sub_add_cancel h, decide_eq_true h]
    simp
  · rw [decide_eq_false h]
    simp
theorem and_sp {k u v M : Nat} (h : u < 2 ^ k) : (u + 2 ^ k * v) &&& M = (u &&& M) + ((2 ^ k * v) &&& M) := by
  have h1 : u + 2 ^ k * v = 2 ^ k * v ||| u := by rw [Nat.add_comm]; exact Nat.two_pow_add_eq_or_of_lt h v
  rw [h1, Nat.and_or_distrib_right, and_hi, ← Nat.two_pow_add_eq_or_of_lt (Nat.lt_of_le_of_lt Nat.and_le_left h), Nat.add_comm]
theorem by1_sp {a t : Nat} (h : a < 256) : by1 (a + 256 * t) = by1 a + by1 (256 * t) := by
  unfold by1
  rw [show (a + 256 * t) / 2 = a / 2 + 2 ^ 7 * t by omega, show 256 * t / 2 = 2 ^ 7 * t by omega, and_sp (k := 7) (by omega)]
  have h1 : a / 2 &&& 1431655765 ≤ a / 2 := Nat.and_le_left
  have h2 : 2 ^ 7 * t &&& 1431655765 ≤ 2 ^ 7 * t := Nat.and_le_left
  generalize (a / 2 &&& 1431655765) = z1 at *
  generalize (2 ^ 7 * t &&& 1431655765) = z2 at *
  omega
theorem by2_sp {a t : Nat} (h : a < 256) : by2 (a + 256 * t) = by2 a + by2 (256 * t) := by
  unfold by2
  rw [show (a + 256 * t) / 4 = a / 4 + 2 ^ 6 * t by omega, show 256 * t / 4 = 2 ^ 6 * t by omega, and_sp (k := 6) (by omega), show a + 256 * t = a + 2 ^ 8 * t from rfl, and_sp (k := 8) (by omega), show 256 * t = 2 ^ 8 * t from rfl]
  generalize (a / 4 &&& 858993459) = z1
  generalize (2 ^ 6 * t &&& 858993459) = z2
  generalize (a &&& 858993459) = z3
  generalize (2 ^ 8 * t &&& 858993459) = z4
  omega
theorem by3_l : ∀ b, b < 128 → ∀ c, c < 5 → (b + b / 16 + 16 * c) &&& 252645135 = (b + b / 16) &&& 252645135 := by decide +kernel
theorem by3_0 : ∀ c, c < 5 → (16 * c) &&& 252645135 = 0 := by decide +kernel
theorem by3_sp {b w : Nat} (h : b < 128) (hw : w % 16 < 5) : by3 (b + 256 * w) = by3 b + by3 (256 * w) := by
  unfold by3
  rw [show b + 256 * w + (b + 256 * w) / 16 = (b + b / 16 + 16 * (w % 16)) + 2 ^ 8 * (w + w / 16) by omega, show 256 * w + 256 * w / 16 = 16 * (w % 16) + 2 ^ 8 * (w + w / 16) by omega, and_sp (k := 8) (by omega), and_sp (k := 8) (by omega), by3_l b h _ hw, by3_0 _ hw, Nat.zero_add]
theorem by_a : ∀ a, a < 256 → by1 a < 256 ∧ by2 (by1 a) < 128 ∧ by3 (by2 (by1 a)) ≤ 8 ∧ by3 (by2 (by1 a)) = cnt (fun i => a.testBit i) 8 := by decide +kernel
theorem by_t0 : ∀ d, d < 64 → ∀ c, c < 64 → by1 (256 * (c + 64 * d)) = 256 * (by1 (256 * (c + 64 * d)) / 256) ∧ by2 (by1 (256 * (c + 64 * d))) = 256 * (by2 (by1 (256 * (c + 64 * d))) / 256) ∧ by2 (by1 (256 * (c + 64 * d))) / 256 % 16 < 5 := by decide +kernel
theorem by_t1 : ∀ d, d < 64 → ∀ c, c < 64 → by3 (by2 (by1 (256 * (c + 64 * d)))) = 256 * (by3 (by2 (by1 (256 * (c + 64 * d)))) / 256 % 256 + 256 * (by3 (by2 (by1 (256 * (c + 64 * d)))) / 65536)) ∧ by3 (by2 (by1 (256 * (c + 64 * d)))) / 256 % 256 ≤ 8 ∧ by3 (by2 (by1 (256 * (c + 64 * d)))) / 65536 ≤ 4 ∧ by3 (by2 (by1 (256 * (c + 64 * d)))) / 256 % 256 + by3 (by2 (by1 (256 * (c + 64 * d)))) / 65536 = cnt (fun i => (c + 64 * d).testBit i) 12 := by decide +kernel
theorem by5_e : ∀ a, a ≤ 8 → ∀ b, b ≤ 8 → ∀ c, c ≤ 4 → by5 (a + 256 * (b + 256 * c)) = a + (b + c) := by decide +kernel
def pop (m : Nat) : Nat := cnt (fun i => m.testBit i) 20
theorem by_all {m : Nat} (hm : m < 2 ^ 20) : by5 (by3 (by2 (by1 m))) = pop m := by
  obtain ⟨a, t, ha, ht, rfl⟩ : ∃ a t, a < 256 ∧ t < 4096 ∧ m = a + 256 * t := ⟨m % 256, m / 256, by omega, by omega, by omega⟩
  obtain ⟨q1, q2, q3, q4⟩ := by_a a ha
  have et : t % 64 + 64 * (t / 64) = t := by omega
  have u1 := by_t0 (t / 64) (by omega) (t % 64) (by omega)
  have u2 := by_t1 (t / 64) (by omega) (t % 64) (by omega)
  rw [et] at u1 u2
  obtain ⟨p1, p2, p3⟩ := u1
  obtain ⟨p4, p5, p6, p7⟩ := u2
  have e1 : by1 (a + 256 * t) = by1 a + 256 * (by1 (256 * t) / 256) := (by1_sp ha).trans (congrArg (fun z => by1 a + z) p1)
  have e2 : by2 (by1 (a + 256 * t)) = by2 (by1 a) + 256 * (by2 (by1 (256 * t)) / 256) := by
    rw [e1, by2_sp q1, ← p1, ← p2]
  have e3 : by3 (by2 (by1 (a + 256 * t))) = by3 (by2 (by1 a)) + by3 (by2 (by1 (256 * t))) := by
    rw [e2, by3_sp q2 p3, ← p2]
  rw [e3, p4, by5_e _ q3 _ p5 _ p6, p7, q4]
  unfold pop
  rw [show (20 : Nat) = 8 + 12 from rfl, cnt_split]
  congr 1
  · refine cnt_congr 8 (fun i hi => ?_)
    show a.testBit i = (a + 256 * t).testBit i
    rw [show a + 256 * t = 2 ^ 8 * t + a by omega, Nat.testBit_two_pow_mul_add _ (by omega), if_pos hi]
  · refine cnt_congr 12 (fun i hi => ?_)
    show t.testBit i = (a + 256 * t).testBit (8 + i)
    rw [show a + 256 * t = 2 ^ 8 * t + a by omega, Nat.testBit_two_pow_mul_add _ (by omega), if_neg (by omega), Nat.add_sub_cancel_left]
theorem bc_nI {m : Nat} (hm : m < 2 ^ 20) (S : St) : F_J6_bitCount_0f7a4 (nI m) S = some (nI (pop m), S) := by
  have s1 : ∀ n, n < 2 ^ 32 → ((nI n).toUInt32 >>> ((1 : Int32).toUInt32 &&& Int32.toUInt32 31)).toInt32 = nI (n / 2) := fun n hn => pk_ushrN hn 1 1 (by decide)
  have s2 : ∀ n, n < 2 ^ 32 → ((nI n).toUInt32 >>> ((2 : Int32).toUInt32 &&& Int32.toUInt32 31)).toInt32 = nI (n / 4) := fun n hn => pk_ushrN hn 2 2 (by decide)
  have s4 : ∀ n, n < 2 ^ 32 → ((nI n).toUInt32 >>> ((4 : Int32).toUInt32 &&& Int32.toUInt32 31)).toInt32 = nI (n / 16) := fun n hn => pk_ushrN hn 4 4 (by decide)
  have s8 : ∀ n, n < 2 ^ 32 → ((nI n).toUInt32 >>> ((8 : Int32).toUInt32 &&& Int32.toUInt32 31)).toInt32 = nI (n / 256) := fun n hn => pk_ushrN hn 8 8 (by decide)
  have s16 : ∀ n, n < 2 ^ 32 → ((nI n).toUInt32 >>> ((16 : Int32).toUInt32 &&& Int32.toUInt32 31)).toInt32 = nI (n / 65536) := fun n hn => pk_ushrN hn 16 16 (by decide)
  have b1 : by1 m < 2 ^ 20 := Nat.lt_of_le_of_lt (Nat.sub_le _ _) hm
  have b2 : by2 (by1 m) < 2 ^ 31 := by
    unfold by2
    have h1 : by1 m &&& 858993459 ≤ 858993459 := Nat.and_le_right
    have h2 : by1 m / 4 &&& 858993459 ≤ 858993459 := Nat.and_le_right
    generalize (by1 m &&& 858993459) = z1 at *
    generalize (by1 m / 4 &&& 858993459) = z2 at *
    omega
  have b3 : by3 (by2 (by1 m)) ≤ 252645135 := Nat.and_le_right
  have e1 : nI m - (((nI m).toUInt32 >>> ((1 : Int32).toUInt32 &&& Int32.toUInt32 31)).toInt32 &&& 1431655765) = nI (by1 m) := by
    rw [s1 m (by omega)]
    show nI m - (nI (m / 2) &&& nI 1431655765) = _
    rw [nx_and, pk_sub (Nat.le_trans Nat.and_le_left (by omega))]
    rfl
  have e2 : (nI (by1 m) &&& 858993459) + (((nI (by1 m)).toUInt32 >>> ((2 : Int32).toUInt32 &&& Int32.toUInt32 31)).toInt32 &&& 858993459) = nI (by2 (by1 m)) := by
    rw [s2 _ (by omega)]
    show (nI (by1 m) &&& nI 858993459) + (nI (by1 m / 4) &&& nI 858993459) = _
    rw [nx_and, nx_and, nI_add]
    rfl
  have e3 : (nI (by2 (by1 m)) + ((nI (by2 (by1 m))).toUInt32 >>> ((4 : Int32).toUInt32 &&& Int32.toUInt32 31)).toInt32) &&& 252645135 = nI (by3 (by2 (by1 m))) := by
    rw [s4 _ (by omega), nI_add]
    show nI (by2 (by1 m) + by2 (by1 m) / 16) &&& nI 252645135 = _
    rw [nx_and]
    rfl
  have e4 : nI (by3 (by2 (by1 m))) + ((nI (by3 (by2 (by1 m)))).toUInt32 >>> ((8 : Int32).toUInt32 &&& Int32.toUInt32 31)).toInt32 = nI (by3 (by2 (by1 m)) + by3 (by2 (by1 m)) / 256) := by
    rw [s8 _ (by omega), nI_add]
  have e5 : (nI (by3 (by2 (by1 m)) + by3 (by2 (by1 m)) / 256) + ((nI (by3 (by2 (by1 m)) + by3 (by2 (by1 m)) / 256)).toUInt32 >>> ((16 : Int32).toUInt32 &&& Int32.toUInt32 31)).toInt32) &&& 63 = nI (pop m) := by
    rw [s16 _ (by omega), nI_add]
    show nI (by3 (by2 (by1 m)) + by3 (by2 (by1 m)) / 256 + (by3 (by2 (by1 m)) + by3 (by2 (by1 m)) / 256) / 65536) &&& nI 63 = _
    rw [nx_and, ← by_all hm]
    rfl
  unfold F_J6_bitCount_0f7a4
  rw [e1, e2, e3, e4, e5]
theorem pop_mask (p : Nat → Bool) {n : Nat} (hn : n ≤ 20) : pop (maskOf p n) = cnt p n := by
  unfold pop
  rw [show (20 : Nat) = n + (20 - n) by omega, cnt_split, cnt_zero (20 - n) (fun i _ => by rw [maskOf_bit, decide_eq_false (by omega)]; rfl), Nat.add_zero]
  exact cnt_congr n (fun i hi => by rw [maskOf_bit, decide_eq_true hi]; rfl)
theorem bc_mask (p : Nat → Bool) {n : Nat} (hn : n ≤ 20) (S : St) : F_J6_bitCount_0f7a4 (nI (maskOf p n)) S = some (nI (cnt p n), S) := by
  rw [bc_nI (msk_lt hn), pop_mask p hn]
