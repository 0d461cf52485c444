/-! a night, by numbers -/
def lkj (V : Nat → Nat → Nat) (f : Nat) : Nat → Nat
  | 0 => 0
  | j + 1 => if jpB V f j = true ∧ (lkj V f j = 0 ∨ V 6 (lkj V f j - 1) < V 6 j) then j + 1 else lkj V f j
theorem lkj_succ (V : Nat → Nat → Nat) (f j : Nat) : lkj V f (j + 1) = if jpB V f j = true ∧ (lkj V f j = 0 ∨ V 6 (lkj V f j - 1) < V 6 j) then j + 1 else lkj V f j := rfl
theorem lkj_le (V : Nat → Nat → Nat) (f : Nat) : ∀ n, lkj V f n ≤ n
  | 0 => Nat.le_refl _
  | j + 1 => by
    have := lkj_le V f j
    rw [lkj_succ]
    split <;> omega
theorem cl_lkj {V : Nat → Nat → Nat} {S : St} (ok : OKV V) (hc : ClP S V) {f : Nat} : ∀ (m j n : Nat), j + m = V 8 0 → m < n → F_X8_likeliestJump_11 n (nI (jm V f)) (nI (lkj V f j) - 1) (nI j) S = some (nI (lkj V f (V 8 0)) - 1, S)
  | m, j, 0, _, hn => absurd hn (Nat.not_lt_zero m)
  | 0, j, n + 1, hj, hn => by
    have e : j = V 8 0 := hj
    show (if (S.1 1 0) ≤ nI j then (some (nI (lkj V f j) - 1, S)) else _) = _
    rw [if_pos (by rw [hc.1, e]; exact Int32.le_refl _), e]
  | m + 1, j, n + 1, hj, hn => by
    have h20 := ok.1
    have hjj : j < V 8 0 := by omega
    have ih := cl_lkj ok hc (f := f) m (j + 1) n (by omega) (by omega)
    have hl := lkj_le V f j
    have hml : jm V f < 2 ^ 20 := msk_lt h20
    have tb : (jm V f).testBit j = jpB V f j := by
      unfold jm
      rw [maskOf_bit, decide_eq_true hjj]; rfl
    have stp : F_X8_likeliestJump_11 (n + 1) (nI (jm V f)) (nI (lkj V f j) - 1) (nI j) S = (if ((nI (jm V f) >>> (nI j &&& 31)) &&& 1) = 0 then (F_X8_likeliestJump_11 n (nI (jm V f)) (nI (lkj V f j) - 1) (nI (j + 1)) S) else (if nI (lkj V f j) - 1 = (-1) then (F_X8_likeliestJump_11 n (nI (jm V f)) (nI j) (nI (j + 1)) S) else (gd (inb (nI j) 20) (gd (inb (nI (lkj V f j) - 1) 20) (if (S.2.1 27 (Int32.toNatClampNeg (nI j))) ≤ (S.2.1 27 (Int32.toNatClampNeg (nI (lkj V f j) - 1))) then (F_X8_likeliestJump_11 n (nI (jm V f)) (nI (lkj V f j) - 1) (nI (j + 1)) S) else (F_X8_likeliestJump_11 n (nI (jm V f)) (nI j) (nI (j + 1)) S)))))) := by
      show (if (S.1 1 0) ≤ nI j then _ else (if ((nI (jm V f) >>> (nI j &&& 31)) &&& 1) = 0 then (F_X8_likeliestJump_11 n (nI (jm V f)) (nI (lkj V f j) - 1) (nI j + 1) S) else (if nI (lkj V f j) - 1 = (-1) then (F_X8_likeliestJump_11 n (nI (jm V f)) (nI j) (nI j + 1) S) else (gd (inb (nI j) 20) (gd (inb (nI (lkj V f j) - 1) 20) (if (S.2.1 27 (Int32.toNatClampNeg (nI j))) ≤ (S.2.1 27 (Int32.toNatClampNeg (nI (lkj V f j) - 1))) then (F_X8_likeliestJump_11 n (nI (jm V f)) (nI (lkj V f j) - 1) (nI j + 1) S) else (F_X8_likeliestJump_11 n (nI (jm V f)) (nI j) (nI j + 1) S))))))) = _
      rw [if_neg (by rw [hc.1]; exact nI_ge hjj (by omega)), nI_1]
    rw [stp, ← ih, lkj_succ]
    by_cases c : jpB V f j = true
    · rw [if_neg (fun z => by rw [(tst_bit (m := jm V f) (j := j) (Nat.lt_trans hml (by decide)) (by omega)).mp z, c] at tb; cases tb)]
      by_cases d : lkj V f j = 0
      · rw [if_pos (by rw [d]; decide), if_pos ⟨c, Or.inl d⟩, nI_pred]
      · have e1 := (hc.2.2.2.1 j hjj).2.2.2.2.2.2
        have e2 := (hc.2.2.2.1 (lkj V f j - 1) (by omega)).2.2.2.2.2.2
        have b1 := (ok.2.2.2.1 j hjj).2.2.2.2.2.2.2
        have b2 := (ok.2.2.2.1 (lkj V f j - 1) (by omega)).2.2.2.2.2.2.2
        rw [pred_nI (by omega), if_neg (fun z => nI_pos (n := lkj V f j - 1) (by omega) (by rw [z]; decide)), gd_t (inb_nI (by omega) (by decide)), gd_t (inb_nI (by omega) (by decide)), nI_clamp (n := j) (by omega), nI_clamp (n := lkj V f j - 1) (by omega), e1, e2]
        by_cases g : V 6 (lkj V f j - 1) < V 6 j
        · rw [if_neg (nI_ge g (by omega)), if_pos ⟨c, Or.inr g⟩, nI_pred]
        · rw [if_pos (nI_le (by omega) (by omega)), if_neg (show ¬ (jpB V f j = true ∧ (lkj V f j = 0 ∨ V 6 (lkj V f j - 1) < V 6 j)) from fun z => z.2.elim d g), pred_nI (by omega)]
    · rw [if_pos ((tst_bit (m := jm V f) (j := j) (Nat.lt_trans hml (by decide)) (by omega)).mpr (by rw [tb]; exact Bool.eq_false_iff.mpr c)), if_neg (show ¬ (jpB V f j = true ∧ (lkj V f j = 0 ∨ V 6 (lkj V f j - 1) < V 6 j)) from fun z => c z.1)]
theorem cl_like {N : Nat} (hN : 130 ≤ N) {V : Nat → Nat → Nat} {S : St} (ok : OKV V) (hc : ClP S V) {f : Nat} (hf : f < V 8 0) : F_X8_likeliestJump N (nI f) S = some (nI (lkj V f (V 8 0)) - 1, S) := by
  have h20 := ok.1
  unfold F_X8_likeliestJump
  rw [jf_eq ok hc hf, Option.bind_some]
  exact cl_lkj ok hc (V 8 0) 0 N (by omega) (by omega)
theorem rl_lkj {V : Nat → Nat → Nat} {S : St} (ok : OKV V) (hr : RlP S V) {f : Nat} (hf : f < V 8 0) : ∀ (m j n : Nat), j + m = V 8 0 → m < n → F_X12_jumpOf_4 n (nI f) (nI (lkj V f j) - 1) (nI j) S = some (nI (lkj V f (V 8 0)) - 1, S)
  | m, j, 0, _, hn => absurd hn (Nat.not_lt_zero m)
  | 0, j, n + 1, hj, hn => by
    have e : j = V 8 0 := hj
    show (if (S.1 63 1) ≤ nI j then (some (nI (lkj V f j) - 1, S)) else _) = _
    rw [if_pos (by rw [hr.1, e]; exact Int32.le_refl _), e]
  | m + 1, j, n + 1, hj, hn => by
    have h20 := ok.1
    have hjj : j < V 8 0 := by omega
    have ih := rl_lkj ok hr hf m (j + 1) n (by omega) (by omega)
    have hl := lkj_le V f j
    have stp : F_X12_jumpOf_4 (n + 1) (nI f) (nI (lkj V f j) - 1) (nI j) S = (if bI (jpB V f j) = 0 then (F_X12_jumpOf_4 n (nI f) (nI (lkj V f j) - 1) (nI (j + 1)) S) else (if nI (lkj V f j) - 1 < 0 then (F_X12_jumpOf_4 n (nI f) (nI j) (nI (j + 1)) S) else (gd (inb (nI j) 20) (gd (inb (nI (lkj V f j) - 1) 20) (if (S.2.1 70 (Int32.toNatClampNeg (nI j))) ≤ (S.2.1 70 (Int32.toNatClampNeg (nI (lkj V f j) - 1))) then (F_X12_jumpOf_4 n (nI f) (nI (lkj V f j) - 1) (nI (j + 1)) S) else (F_X12_jumpOf_4 n (nI f) (nI j) (nI (j + 1)) S)))))) := by
      show (if (S.1 63 1) ≤ nI j then _ else (if nI f < 0 then _ else ((F_X12_isJump (nI f) (nI j) S).bind (fun r_19 => if r_19.1 = 0 then (F_X12_jumpOf_4 n (nI f) (nI (lkj V f j) - 1) (nI j + 1) r_19.2) else (if nI (lkj V f j) - 1 < 0 then (F_X12_jumpOf_4 n (nI f) (nI j) (nI j + 1) r_19.2) else (gd (inb (nI j) 20) (gd (inb (nI (lkj V f j) - 1) 20) (if (r_19.2.2.1 70 (Int32.toNatClampNeg (nI j))) ≤ (r_19.2.2.1 70 (Int32.toNatClampNeg (nI (lkj V f j) - 1))) then (F_X12_jumpOf_4 n (nI f) (nI (lkj V f j) - 1) (nI j + 1) r_19.2) else (F_X12_jumpOf_4 n (nI f) (nI j) (nI j + 1) r_19.2))))))))) = _
      rw [if_neg (by rw [hr.1]; exact nI_ge hjj (by omega)), if_neg (nI_pos (by omega)), rl_isJump ok hr hf hjj, Option.bind_some, nI_1]
    rw [stp, ← ih, lkj_succ]
    by_cases c : jpB V f j = true
    · rw [if_neg (bI_ne.mpr c)]
      by_cases d : lkj V f j = 0
      · rw [if_pos (by rw [d]; decide), if_pos ⟨c, Or.inl d⟩, nI_pred]
      · have e1 := (hr.2.2.2.1 j hjj).2.2.2.2.2.2
        have e2 := (hr.2.2.2.1 (lkj V f j - 1) (by omega)).2.2.2.2.2.2
        have b1 := (ok.2.2.2.1 j hjj).2.2.2.2.2.2.2
        have b2 := (ok.2.2.2.1 (lkj V f j - 1) (by omega)).2.2.2.2.2.2.2
        rw [pred_nI (by omega), if_neg (nI_pos (by omega)), gd_t (inb_nI (by omega) (by decide)), gd_t (inb_nI (by omega) (by decide)), nI_clamp (n := j) (by omega), nI_clamp (n := lkj V f j - 1) (by omega), e1, e2]
        by_cases g : V 6 (lkj V f j - 1) < V 6 j
        · rw [if_neg (nI_ge g (by omega)), if_pos ⟨c, Or.inr g⟩, nI_pred]
        · rw [if_pos (nI_le (by omega) (by omega)), if_neg (show ¬ (jpB V f j = true ∧ (lkj V f j = 0 ∨ V 6 (lkj V f j - 1) < V 6 j)) from fun z => z.2.elim d g), pred_nI (by omega)]
    · rw [if_pos (bI_0.mpr (Bool.eq_false_iff.mpr c)), if_neg (show ¬ (jpB V f j = true ∧ (lkj V f j = 0 ∨ V 6 (lkj V f j - 1) < V 6 j)) from fun z => c z.1)]
theorem rl_like {N : Nat} (hN : 130 ≤ N) {V : Nat → Nat → Nat} {S : St} (ok : OKV V) (hr : RlP S V) {f : Nat} (hf : f < V 8 0) : F_X12_jumpOf N (nI f) S = some (nI (lkj V f (V 8 0)) - 1, S) := by
  have h20 := ok.1
  exact rl_lkj ok hr hf (V 8 0) 0 N (by omega) (by omega)
theorem rl_like0 {V : Nat → Nat → Nat} {S : St} (ok : OKV V) (hr : RlP S V) : ∀ (m j n : Nat), j + m = V 8 0 → m < n → F_X12_jumpOf_4 n (-1) (-1) (nI j) S = some (-1, S)
  | m, j, 0, _, hn => absurd hn (Nat.not_lt_zero m)
  | 0, j, n + 1, hj, hn => by
    have e : j = V 8 0 := hj
    show (if (S.1 63 1) ≤ nI j then (some (-1, S)) else _) = _
    rw [if_pos (by rw [hr.1, e]; exact Int32.le_refl _)]
  | m + 1, j, n + 1, hj, hn => by
    have h20 := ok.1
    have ih := rl_like0 ok hr m (j + 1) n (by omega) (by omega)
    have hge : ¬ S.1 63 1 ≤ nI j := by rw [hr.1]; exact nI_ge (by omega) (by omega)
    have hd : (-1 : Int32) < 0 := by decide
    unfold F_X12_jumpOf_4
    rw [if_neg hge, if_pos hd, nI_1]
    exact ih
/-! the course of a night from a seed: z, place, line, manner, told, lacked, sums -/
def rz (z : Int32) : Int32 := ((z.toUInt32 >>> ((8 : Int32).toUInt32 &&& Int32.toUInt32 31)).toInt32) - (((z.toUInt32 >>> ((8 : Int32).toUInt32 &&& Int32.toUInt32 31)).toInt32) / 100) * 100
def nz (sd : Int32) : Nat → Int32
  | 0 => sd
  | k + 1 => nz sd k * 1103515245 + 12345
def nCh (L : LawT) (V : Nat → Nat → Nat) (a : Nat) (z : Int32) : Nat × Nat := if rz z < nI (knW L V a) then (a, 0) else if a = 0 then (0, 2) else if lkj V (a - 1) (V 8 0) = 0 then (a, 2) else (lkj V (a - 1) (V 8 0) - 1, 1)
def na (L : LawT) (V : Nat → Nat → Nat) (sd : Int32) : Nat → Nat
  | 0 => 0
  | k + 1 => (nCh L V (na L V sd k) (nz sd (k + 1))).1 + 1
def nl (L : LawT) (V : Nat → Nat → Nat) (sd : Int32) (k : Nat) : Nat := (nCh L V (na L V sd k) (nz sd (k + 1))).1
def nm (L : LawT) (V : Nat → Nat → Nat) (sd : Int32) (k : Nat) : Nat := (nCh L V (na L V sd k) (nz sd (k + 1))).2
def nt (L : LawT) (V : Nat → Nat → Nat) (sd : Int32) : Nat → Int32
  | 0 => 0
  | k + 1 => nt L V sd k ||| nI (V 4 (nl L V sd k))
def nlk (L : LawT) (V : Nat → Nat → Nat) (sd : Int32) (k : Nat) : Int32 := nI (V 5 (nl L V sd k)) &&& (nt L V sd k ^^^ (-1))
def nsec (L : LawT) (V : Nat → Nat → Nat) (sd : Int32) : Nat → Int32
  | 0 => 0
  | k + 1 => nsec L V sd k + ((nI (V 7 (V 0 (nl L V sd k))) + nI (V 3 (nl L V sd k))) + (if nm L V sd k = 2 then nI (V 8 1) else 0))
def njp (L : LawT) (V : Nat → Nat → Nat) (sd : Int32) : Nat → Int32
  | 0 => 0
  | k + 1 => njp L V sd k + (if nm L V sd k = 1 then 1 else 0)
def nlc (L : LawT) (V : Nat → Nat → Nat) (sd : Int32) : Nat → Int32
  | 0 => 0
  | k + 1 => nlc L V sd k + (if nlk L V sd k = 0 then 0 else 1)
def ndr (L : LawT) (V : Nat → Nat → Nat) (sd : Int32) : Nat → Int32
  | 0 => 0
  | k + 1 => ndr L V sd k + (if nm L V sd k = 2 then 1 else 0)
/-- where a night ends -/
def nEnd (L : LawT) (V : Nat → Nat → Nat) (sd : Int32) : Nat → Nat → Nat
  | 0, k => k
  | m + 1, k => if V 8 0 ≤ na L V sd k then k else nEnd L V sd m (k + 1)
theorem nEnd_le (L : LawT) (V : Nat → Nat → Nat) (sd : Int32) : ∀ m k, k ≤ nEnd L V sd m k ∧ nEnd L V sd m k ≤ k + m
  | 0, k => ⟨Nat.le_refl _, Nat.le_refl _⟩
  | m + 1, k => by
    have := nEnd_le L V sd m (k + 1)
    show k ≤ (if V 8 0 ≤ na L V sd k then k else nEnd L V sd m (k + 1)) ∧ (if V 8 0 ≤ na L V sd k then k else nEnd L V sd m (k + 1)) ≤ k + (m + 1)
    split <;> omega
theorem nCh_lt (L : LawT) (V : Nat → Nat → Nat) {a : Nat} (z : Int32) (ha : a < V 8 0) : (nCh L V a z).1 < V 8 0 ∧ (nCh L V a z).2 ≤ 2 := by
  have hl := lkj_le V (a - 1) (V 8 0)
  unfold nCh
  by_cases c1 : rz z < nI (knW L V a)
  · rw [if_pos c1]; exact ⟨ha, Nat.le_of_ble_eq_true rfl⟩
  · rw [if_neg c1]
    by_cases c2 : a = 0
    · rw [if_pos c2]; exact ⟨by show 0 < V 8 0; omega, by decide⟩
    · rw [if_neg c2]
      by_cases c3 : lkj V (a - 1) (V 8 0) = 0
      · rw [if_pos c3]; exact ⟨ha, Nat.le_of_ble_eq_true rfl⟩
      · rw [if_neg c3]; exact ⟨by show lkj V (a - 1) (V 8 0) - 1 < V 8 0; omega, Nat.le_of_ble_eq_true rfl⟩
