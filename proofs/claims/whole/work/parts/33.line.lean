theorem nI_or (a b : Nat) : nI a ||| nI b = nI (a ||| b) := by
  apply Int32.toBitVec_inj.mp
  show BitVec.ofNat 32 a ||| BitVec.ofNat 32 b = BitVec.ofNat 32 (a ||| b)
  apply BitVec.eq_of_toNat_eq
  rw [BitVec.toNat_or, BitVec.toNat_ofNat, BitVec.toNat_ofNat, BitVec.toNat_ofNat, Nat.or_mod_two_pow]
theorem bit_n : ∀ n, n < 20 → (1 : Int32) <<< (nI n &&& 31) = nI (2 ^ n) := by decide +kernel
theorem maskOf_lt (p : Nat → Bool) : ∀ n, maskOf p n < 2 ^ n
  | 0 => Nat.one_pos
  | n + 1 => by
    have := maskOf_lt p n
    show maskOf p n + _ < 2 ^ (n + 1)
    rw [Nat.pow_succ]
    split <;> omega
theorem maskOf_congr {p q : Nat → Bool} : ∀ n, (∀ i, i < n → p i = q i) → maskOf p n = maskOf q n
  | 0, _ => rfl
  | n + 1, h => by
    show maskOf p n + _ = maskOf q n + _
    rw [maskOf_congr n (fun i hi => h i (by omega)), h n (by omega)]
theorem mask_add {m n : Nat} (h : m < 2 ^ n) : m ||| 2 ^ n = m + 2 ^ n := by
  have := Nat.two_pow_add_eq_or_of_lt h 1
  rw [Nat.mul_one] at this
  rw [Nat.or_comm, ← this, Nat.add_comm]
theorem F_mayBe (a b c d e : Int32) (S : St) : F_X8_mayBe a b c d e S = some (bI (decide ((¬ a < 0 ∧ ¬ 6 ≤ a) ∧ ¬ b < 0 ∧ ¬ 10 ≤ b ∧ ¬ c < 0 ∧ ¬ 10 ≤ c ∧ ¬ d < 1 ∧ ¬ 30 < d ∧ ¬ e < 0 ∧ ¬ 255 < e)), S) := by
  have hp : F_X11_isPart a S = some (bI (decide (¬ a < 0 ∧ ¬ 6 ≤ a)), S) := by
    unfold F_X11_isPart
    by_cases h1 : a < 0
    · rw [if_pos h1]; simp [bI, h1]
    · by_cases h2 : 6 ≤ a
      · rw [if_neg h1, if_pos h2]; simp only [h1, h2]; rfl
      · rw [if_neg h1, if_neg h2]; simp only [h1, h2]; rfl
  unfold F_X8_mayBe
  rw [hp, Option.bind_some]
  dsimp only
  by_cases h0 : (¬ a < 0 ∧ ¬ 6 ≤ a)
  · rw [bI_t (decide_eq_true h0), if_neg (by decide)]
    by_cases h1 : b < 0
    · rw [if_pos h1, bI_f (decide_eq_false (fun q => q.2.1 h1))]
    rw [if_neg h1]
    by_cases h2 : 10 ≤ b
    · rw [if_pos h2, bI_f (decide_eq_false (fun q => q.2.2.1 h2))]
    rw [if_neg h2]
    by_cases h3 : c < 0
    · rw [if_pos h3, bI_f (decide_eq_false (fun q => q.2.2.2.1 h3))]
    rw [if_neg h3]
    by_cases h4 : 10 ≤ c
    · rw [if_pos h4, bI_f (decide_eq_false (fun q => q.2.2.2.2.1 h4))]
    rw [if_neg h4]
    by_cases h5 : d < 1
    · rw [if_pos h5, bI_f (decide_eq_false (fun q => q.2.2.2.2.2.1 h5))]
    rw [if_neg h5]
    by_cases h6 : 30 < d
    · rw [if_pos h6, bI_f (decide_eq_false (fun q => q.2.2.2.2.2.2.1 h6))]
    rw [if_neg h6]
    by_cases h7 : e < 0
    · rw [if_pos h7, bI_f (decide_eq_false (fun q => q.2.2.2.2.2.2.2.1 h7))]
    rw [if_neg h7]
    by_cases h8 : 255 < e
    · rw [if_pos h8, bI_f (decide_eq_false (fun q => q.2.2.2.2.2.2.2.2 h8))]
    rw [if_neg h8, bI_t (decide_eq_true ⟨h0, h1, h2, h3, h4, h5, h6, h7, h8⟩)]
  · rw [bI_f (decide_eq_false h0), if_pos rfl, bI_f (decide_eq_false (fun q => h0 q.1))]
/-- a line comes in both systems -/
theorem add8_eq {S : St} {n p s t e : Nat} (hn : n < 20) (n1 : S.1 1 0 = nI n) (hp : p < 600) : F_X8_add (nI p) (nI s) (nI t) (nI e) S = some (nI n, fset (aset (aset (aset (aset (aset (aset (aset (aset S 21 (upd (S.2.1 21) n (nI (p / 100)))) 22 (upd (S.2.1 22) n (nI (p / 10 % 10)))) 23 (upd (S.2.1 23) n (nI (p % 10)))) 24 (upd (S.2.1 24) n (nI s))) 25 (upd (S.2.1 25) n (nI t))) 26 (upd (S.2.1 26) n (nI e))) 27 (upd (S.2.1 27) n 50)) 29 (upd (S.2.1 29) (p / 10 % 10) (S.2.1 29 (p / 10 % 10) ||| nI (2 ^ n)))) 1 0 (nI (n + 1))) := by
  have i20 : inb (nI n) 20 = true := inb_nI hn (by decide)
  have cn : Int32.toNatClampNeg (nI n) = n := nI_clamp (by omega)
  have e1 : nI p / 100 = nI (p / 100) := pk_div (d := 100) (by omega) (by decide) (by decide)
  have e2 : nI p / 10 = nI (p / 10) := pk_div (d := 10) (by omega) (by decide) (by decide)
  have e3 : nI (p / 10) - nI (p / 10) / 10 * 10 = nI (p / 10 % 10) := pk_rem (d := 10) (by omega) (by decide) (by decide)
  have e4 : nI p - nI p / 10 * 10 = nI (p % 10) := pk_rem (d := 10) (by omega) (by decide) (by decide)
  rw [e2] at e4
  have i10 : inb (nI (p / 10 % 10)) 10 = true := inb_nI (by omega) (by decide)
  have cc : Int32.toNatClampNeg (nI (p / 10 % 10)) = p / 10 % 10 := nI_clamp (by omega)
  unfold F_X8_add
  rw [n1, e1, e2, e3, e4]
  simp only [gd_t i20, cn, bit_n n hn]
  have u22 : ∀ (f : Nat → Int32), upd f n (nI (p / 10 % 10)) n = nI (p / 10 % 10) := fun f => pk_us
  show gd (inb (upd (S.2.1 22) n (nI (p / 10 % 10)) n) 10) (gd (inb (upd (S.2.1 22) n (nI (p / 10 % 10)) n) 10) (some (nI n, fset (aset (aset (aset (aset (aset (aset (aset (aset S 21 (upd (S.2.1 21) n (nI (p / 100)))) 22 (upd (S.2.1 22) n (nI (p / 10 % 10)))) 23 (upd (S.2.1 23) n (nI (p % 10)))) 24 (upd (S.2.1 24) n (nI s))) 25 (upd (S.2.1 25) n (nI t))) 26 (upd (S.2.1 26) n (nI e))) 27 (upd (S.2.1 27) n 50)) 29 (upd (S.2.1 29) (Int32.toNatClampNeg (upd (S.2.1 22) n (nI (p / 10 % 10)) n)) (S.2.1 29 (Int32.toNatClampNeg (upd (S.2.1 22) n (nI (p / 10 % 10)) n)) ||| nI (2 ^ n)))) 1 0 (S.1 1 0 + 1)))) = _
  rw [u22, gd_t i10, gd_t i10, cc, n1, nI_1]
theorem add12_eq {S : St} {n : Nat} (hn : n < 20) (n2 : S.1 63 1 = nI n) (a b c d e f : Int32) : F_X12_addLine a b c d e f S = some (nI n, fset (aset (aset (aset (aset (aset (aset (aset S 64 (upd (S.2.1 64) n a)) 65 (upd (S.2.1 65) n b)) 66 (upd (S.2.1 66) n c)) 67 (upd (S.2.1 67) n d)) 68 (upd (S.2.1 68) n e)) 69 (upd (S.2.1 69) n f)) 70 (upd (S.2.1 70) n 50)) 63 1 (nI (n + 1))) := by
  have i20 : inb (nI n) 20 = true := inb_nI hn (by decide)
  have cn : Int32.toNatClampNeg (nI n) = n := nI_clamp (by omega)
  unfold F_X12_addLine
  show gd (inb (S.1 63 1) 20) (gd (inb (S.1 63 1) 20) (gd (inb (S.1 63 1) 20) (gd (inb (S.1 63 1) 20) (gd (inb (S.1 63 1) 20) (gd (inb (S.1 63 1) 20) (gd (inb (S.1 63 1) 20) (some (S.1 63 1 + 1 - 1, fset (aset (aset (aset (aset (aset (aset (aset S 64 (upd (S.2.1 64) (Int32.toNatClampNeg (S.1 63 1)) a)) 65 (upd (S.2.1 65) (Int32.toNatClampNeg (S.1 63 1)) b)) 66 (upd (S.2.1 66) (Int32.toNatClampNeg (S.1 63 1)) c)) 67 (upd (S.2.1 67) (Int32.toNatClampNeg (S.1 63 1)) d)) 68 (upd (S.2.1 68) (Int32.toNatClampNeg (S.1 63 1)) e)) 69 (upd (S.2.1 69) (Int32.toNatClampNeg (S.1 63 1)) f)) 70 (upd (S.2.1 70) (Int32.toNatClampNeg (S.1 63 1)) 50)) 63 1 (S.1 63 1 + 1)))))))))  = _
  rw [n2, cn, gd_t i20, gd_t i20, gd_t i20, gd_t i20, gd_t i20, gd_t i20, gd_t i20, nI_1, nI_pred]
theorem eq2_push {a b : Nat → Int32} {v : Nat → Nat} {n bd x : Nat} (h : Eq2 a b v n bd) (hx : x < bd) : Eq2 (upd a n (nI x)) (upd b n (nI x)) (fun j => if j = n then x else v j) (n + 1) bd := by
  intro i hi
  by_cases hk : i = n
  · subst hk
    rw [pk_us, pk_us]
    simp only [if_pos rfl]
    exact ⟨rfl, rfl, hx⟩
  · rw [pk_un hk, pk_un hk]
    simp only [if_neg hk]
    exact h i (by omega)
def addV (V : Nat → Nat → Nat) (p s t e : Nat) : Nat → Nat → Nat := fun a i => if a = 8 then (if i = 0 then V 8 0 + 1 else V 8 i) else if a = 7 then V 7 i else if i = V 8 0 then (if a = 0 then p / 100 else if a = 1 then p / 10 % 10 else if a = 2 then p % 10 else if a = 3 then s else if a = 4 then t else if a = 5 then e else 50) else V a i
theorem IPlay.add {n1 n2 w1 w2 v1 v2 : Int32} {a21 a22 a23 a24 a25 a26 a27 a28 a29 a64 a65 a66 a67 a68 a69 a70 a71 : Nat → Int32} {V : Nat → Nat → Nat} (h : IPlay n1 n2 w1 w2 v1 v2 a21 a22 a23 a24 a25 a26 a27 a28 a29 a64 a65 a66 a67 a68 a69 a70 a71 V) {p s t e : Nat} (hn : V 8 0 < 20) (hp : p < 600) (hs : 1 ≤ s) (hs2 : s ≤ 30) (ht : t < 256) (he : e < 256) :
    IPlay (nI (V 8 0 + 1)) (nI (V 8 0 + 1)) w1 w2 v1 v2 (upd a21 (V 8 0) (nI (p / 100))) (upd a22 (V 8 0) (nI (p / 10 % 10))) (upd a23 (V 8 0) (nI (p % 10))) (upd a24 (V 8 0) (nI s)) (upd a25 (V 8 0) (nI t)) (upd a26 (V 8 0) (nI e)) (upd a27 (V 8 0) (nI 50)) a28 (upd a29 (p / 10 % 10) (a29 (p / 10 % 10) ||| nI (2 ^ V 8 0))) (upd a64 (V 8 0) (nI (p / 100))) (upd a65 (V 8 0) (nI (p / 10 % 10))) (upd a66 (V 8 0) (nI (p % 10))) (upd a67 (V 8 0) (nI s)) (upd a68 (V 8 0) (nI t)) (upd a69 (V 8 0) (nI e)) (upd a70 (V 8 0) (nI 50)) a71 (addV V p s t e) := by
  obtain ⟨h1, h2, h3, h4, h5, h6, ⟨h7, h7b⟩, h8, h9, h10, h11, h12⟩ := h
  refine ⟨⟨by show V 8 0 + 1 ≤ 20; omega, rfl, rfl⟩, h2, h3, eq2_push h4 (show p / 100 < 6 by omega), eq2_push h5 (show p / 10 % 10 < 10 by omega), eq2_push h6 (show p % 10 < 10 by omega), ⟨eq2_push h7 (show s < 31 by omega), ?_⟩, eq2_push h8 ht, eq2_push h9 he, eq2_push h10 (show 50 < 101 by decide), h11, ?_⟩
  · intro i hi
    show 1 ≤ (if i = V 8 0 then s else V 3 i)
    by_cases hk : i = V 8 0
    · rw [if_pos hk]; exact hs
    · rw [if_neg hk]
      exact h7b i (by have : i < V 8 0 + 1 := hi; omega)
  · intro w hw
    have hm : maskOf (fun i => decide (addV V p s t e 1 i = w)) (V 8 0) = maskOf (fun i => decide (V 1 i = w)) (V 8 0) := maskOf_congr _ (fun i hi => by
      show decide ((if i = V 8 0 then p / 10 % 10 else V 1 i) = w) = _
      rw [if_neg (by omega)])
    have hl := maskOf_lt (fun i => decide (V 1 i = w)) (V 8 0)
    show _ = nI (maskOf (fun i => decide (addV V p s t e 1 i = w)) (V 8 0) + (if decide (addV V p s t e 1 (V 8 0) = w) = true then 2 ^ V 8 0 else 0))
    have hv : addV V p s t e 1 (V 8 0) = p / 10 % 10 := by
      show (if V 8 0 = V 8 0 then p / 10 % 10 else V 1 (V 8 0)) = _
      rw [if_pos rfl]
    rw [hm, hv]
    by_cases hc : p / 10 % 10 = w
    · subst hc
      rw [pk_us, h12 _ hw, nI_or, mask_add hl, if_pos (by simp)]
    · rw [pk_un (fun q => hc q.symm), h12 w hw, if_neg (by simp [hc]), Nat.add_zero]
theorem IChg.up {d1 k1 d2 u2 : Int32} {a51 a52 a53 a54 a72 a73 a74 a75 : Nat → Int32} {n : Nat} (h : IChg d1 k1 d2 u2 a51 a52 a53 a54 a72 a73 a74 a75 n) : IChg d1 k1 d2 u2 a51 a52 a53 a54 a72 a73 a74 a75 (n + 1) := by
  obtain ⟨a, u, h1, h2, h3, h4, h5, h6⟩ := h
  refine ⟨a, u, h1, h2, h3, h4, h5, fun i hi => ?_⟩
  obtain ⟨q1, q2, q3, q4, k, x, y, q5, q6, q7, q8⟩ := h6 i hi
  exact ⟨q1, q2, q3, q4, k, x, y, q5, q6, q7, q8.imp (fun z => ⟨z.1, by omega, z.2.2⟩) id⟩
theorem IImg.up {z1 w1 v1 b2 z2 w2 v2 : Int32} {a50 a97 : Nat → Int32} {n : Nat} (h : IImg z1 w1 v1 b2 z2 w2 v2 a50 a97 n) : IImg z1 w1 v1 b2 z2 w2 v2 a50 a97 (n + 1) := by
  rcases h with h | ⟨h1, q, w, v, h2, h3⟩
  · exact Or.inl h
  · exact Or.inr ⟨h1, q, w, v, by omega, h3⟩
