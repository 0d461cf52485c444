theorem byte_eq {a b : Int64} (ha : -128 ≤ a.toInt ∧ a.toInt ≤ 127) (hb : -128 ≤ b.toInt ∧ b.toInt ≤ 127) : Int64.toInt32 a = Int64.toInt32 b + 1 ↔ a = b + 1 := by
  have e1 : (Int64.toInt32 a).toInt = a.toInt := by rw [Int64.toInt_toInt32]; exact Int.bmod_eq_of_le (by omega) (by omega)
  have e2 : (Int64.toInt32 b).toInt = b.toInt := by rw [Int64.toInt_toInt32]; exact Int.bmod_eq_of_le (by omega) (by omega)
  have e3 : (Int64.toInt32 b + 1).toInt = b.toInt + 1 := by
    rw [Int32.toInt_add, e2, show (1 : Int32).toInt = 1 by decide]; exact Int.bmod_eq_of_le (by omega) (by omega)
  have e4 : (b + 1).toInt = b.toInt + 1 := by
    rw [Int64.toInt_add, show (1 : Int64).toInt = 1 by decide]; exact Int.bmod_eq_of_le (by omega) (by omega)
  rw [← Int32.toInt_inj, ← Int64.toInt_inj, e1, e3, e4]
section
variable {V : Nat → Nat → Nat} {S : St} {b z : Nat}
theorem tp_first (ok : OKV V) (hc : ClP S V) (hr : RlP S V) (hb : b < 6) (hz : z ≤ 60) (z1 : S.1 (14 + b) 3 = nI z) (z2 : S.2.1 101 b = nI z) (he : ∀ i, i < 60 → S.2.2 (57 + b) i = S.2.2 102 (60 * b + i)) : ∀ (m k n1 n2 : Nat) (x2 : Int32), k + m = z → m < n1 → m < n2 → (x2 = -1 ∨ ∃ a, a < V 8 0 ∧ x2 = nI a) → ∃ R, F_X11_firstImpossible_4 n1 b x2 (nI k) S = some (R, S) ∧ F_X12_wrongOn_4 n2 (nI b) x2 (nI k) S = some (R, S) ∧ (R = -1 ∨ ∃ r, r < 60 ∧ R = nI r)
  | m, k, 0, n2, _, _, hn, _, _ => absurd hn (Nat.not_lt_zero m)
  | m, k, n1, 0, _, _, _, hn, _ => absurd hn (Nat.not_lt_zero m)
  | 0, k, n1 + 1, n2 + 1, x2, hk, _, _, _ => by
    have e : k = z := hk
    refine ⟨-1, ?_, ?_, Or.inl rfl⟩
    · show (if (S.1 (14 + b) 3) ≤ nI k then (some ((-1), S)) else _) = _
      rw [if_pos (by rw [z1, e]; exact Int32.le_refl _)]
    · show gd (inb (nI b) 6) (if (S.2.1 101 (Int32.toNatClampNeg (nI b))) ≤ nI k then (some ((-1), S)) else _) = _
      rw [gd_t (inb_nI hb (by decide)), nI_clamp (by omega), if_pos (by rw [z2, e]; exact Int32.le_refl _)]
  | m + 1, k, n1 + 1, n2 + 1, x2, hk, _, _, hx => by
    have h20 := ok.1
    have hkz : k < z := by omega
    have n10 : ¬ (1 : Int32) = 0 := by decide
    generalize hv : Int64.toInt32 (S.2.2 (57 + b) k) = v
    have hv2 : Int64.toInt32 (S.2.2 102 (60 * b + k)) = v := by rw [← he k (by omega)]; exact hv
    have s1 : F_X11_firstImpossible_4 (n1 + 1) b x2 (nI k) S = ((F_X8_has v S).bind (fun r_25 => if r_25.1 = 0 then (some (nI k, r_25.2)) else (if v = (x2 + 1) then (F_X11_firstImpossible_4 n1 b v (nI (k + 1)) r_25.2) else ((F_X8_isJump x2 v r_25.2).bind (fun r_46 => if r_46.1 = 0 then (some (nI k, r_46.2)) else (F_X11_firstImpossible_4 n1 b v (nI (k + 1)) r_46.2)))))) := by
      show (if (S.1 (14 + b) 3) ≤ nI k then _ else ((F_X9_intAt b (nI k) S).bind (fun r_14 => (F_X8_has r_14.1 r_14.2).bind (fun r_25 => if r_25.1 = 0 then (some (nI k, r_25.2)) else (if r_14.1 = (x2 + 1) then (F_X11_firstImpossible_4 n1 b r_14.1 (nI k + 1) r_25.2) else ((F_X8_isJump x2 r_14.1 r_25.2).bind (fun r_46 => if r_46.1 = 0 then (some (nI k, r_46.2)) else (F_X11_firstImpossible_4 n1 b r_14.1 (nI k + 1) r_46.2)))))))) = _
      rw [if_neg (by rw [z1]; exact nI_ge hkz (by omega)), F_intAt z1 hz hkz, hv, Option.bind_some, nI_1]
    have s2 : F_X12_wrongOn_4 (n2 + 1) (nI b) x2 (nI k) S = ((F_X12_isLine v S).bind (fun r_31 => if r_31.1 = 0 then (some (nI k, r_31.2)) else (if v = (x2 + 1) then (F_X12_wrongOn_4 n2 (nI b) v (nI (k + 1)) r_31.2) else (if x2 < 0 then (some (nI k, r_31.2)) else ((F_X12_isJump x2 v r_31.2).bind (fun r_53 => if r_53.1 = 0 then (some (nI k, r_53.2)) else (F_X12_wrongOn_4 n2 (nI b) v (nI (k + 1)) r_53.2))))))) := by
      show gd (inb (nI b) 6) (if (S.2.1 101 (Int32.toNatClampNeg (nI b))) ≤ nI k then _ else (gd (inb ((60 * nI b) + nI k) 360) ((F_X12_isLine (Int64.toInt32 (S.2.2 102 (Int32.toNatClampNeg ((60 * nI b) + nI k)))) S).bind (fun r_31 => if r_31.1 = 0 then (some (nI k, r_31.2)) else (if (Int64.toInt32 (S.2.2 102 (Int32.toNatClampNeg ((60 * nI b) + nI k)))) = (x2 + 1) then (F_X12_wrongOn_4 n2 (nI b) (Int64.toInt32 (S.2.2 102 (Int32.toNatClampNeg ((60 * nI b) + nI k)))) (nI k + 1) r_31.2) else (if x2 < 0 then (some (nI k, r_31.2)) else ((F_X12_isJump x2 (Int64.toInt32 (S.2.2 102 (Int32.toNatClampNeg ((60 * nI b) + nI k)))) r_31.2).bind (fun r_53 => if r_53.1 = 0 then (some (nI k, r_53.2)) else (F_X12_wrongOn_4 n2 (nI b) (Int64.toInt32 (S.2.2 102 (Int32.toNatClampNeg ((60 * nI b) + nI k)))) (nI k + 1) r_53.2))))))))) = _
      rw [gd_t (inb_nI hb (by decide)), nI_clamp (n := b) (by omega), if_neg (by rw [z2]; exact nI_ge hkz (by omega)), ix60, gd_t (inb_nI (by omega) (by decide)), nI_clamp (n := 60 * b + k) (by omega), hv2, nI_1]
    rw [s1, s2]
    rcases line_or v (V 8 0) with ⟨a, ha, rfl⟩ | hnl
    · rw [F_has8_t hc.1 h20 ha, F_isLine_t ha h20 hr.1]
      simp only [Option.bind_some, if_neg n10]
      obtain ⟨R, R1, R2, R3⟩ := tp_first ok hc hr hb hz z1 z2 he m (k + 1) n1 n2 (nI a) (by omega) (by omega) (by omega) (Or.inr ⟨a, ha, rfl⟩)
      by_cases c : nI a = x2 + 1
      · rw [if_pos c, if_pos c]
        exact ⟨R, R1, R2, R3⟩
      · rw [if_neg c, if_neg c]
        rcases hx with hx | ⟨a0, ha0, hx⟩
        · have hnj : F_X8_isJump x2 (nI a) S = some (0, S) := by
            unfold F_X8_isJump
            rw [F_has8_f h20 hc.1 (fun q => by
              obtain ⟨w, hw, hw2⟩ := q
              exact nI_pos (n := w) (by omega) (by rw [← hw2, hx]; decide)), Option.bind_some]
            rfl
          rw [hnj, if_pos (show x2 < 0 by rw [hx]; decide)]
          exact ⟨nI k, rfl, rfl, Or.inr ⟨k, by omega, rfl⟩⟩
        · rw [if_neg (show ¬ x2 < 0 by rw [hx]; exact nI_pos (by omega)), hx, cl_isJump ok hc ha0 ha, rl_isJump ok hr ha0 ha]
          simp only [Option.bind_some]
          by_cases d : bI (jpB V a0 a) = 0
          · rw [if_pos d, if_pos d]
            exact ⟨nI k, rfl, rfl, Or.inr ⟨k, by omega, rfl⟩⟩
          · rw [if_neg d, if_neg d]
            exact ⟨R, R1, R2, R3⟩
    · rw [F_has8_f h20 hc.1 hnl, F_isLine_f h20 hr.1 hnl]
      exact ⟨nI k, rfl, rfl, Or.inr ⟨k, by omega, rfl⟩⟩
theorem tp_cnt (hb : b < 6) (hz : z ≤ 60) (z1 : S.1 (14 + b) 3 = nI z) (z2 : S.2.1 101 b = nI z) (he : ∀ i, i < 60 → S.2.2 (57 + b) i = S.2.2 102 (60 * b + i)) (hbt : ∀ i, i < 60 → -128 ≤ (S.2.2 (57 + b) i).toInt ∧ (S.2.2 (57 + b) i).toInt ≤ 127) : ∀ (m k n1 n2 : Nat) (x : Int32), k + 1 + m = z ∨ (m = 0 ∧ z ≤ k + 1) → k ≤ 60 → m < n1 → m < n2 → ∃ R, F_X11_jumpsOnTape_4 n1 b x (nI (k + 1)) S = some (R, S) ∧ F_X12_tape_79 n2 (nI b) x (nI (k + 1)) S = some (R, S)
  | m, k, 0, n2, _, _, _, hn, _ => absurd hn (Nat.not_lt_zero m)
  | m, k, n1, 0, _, _, _, _, hn => absurd hn (Nat.not_lt_zero m)
  | 0, k, n1 + 1, n2 + 1, x, hk, hk6, _, _ => by
    have e : z ≤ k + 1 := by omega
    refine ⟨x, ?_, ?_⟩
    · show (if (S.1 (14 + b) 3) ≤ nI (k + 1) then (some (x, S)) else _) = _
      rw [if_pos (by rw [z1]; exact nI_le e (by omega))]
    · show gd (inb (nI b) 6) (if (S.2.1 101 (Int32.toNatClampNeg (nI b))) ≤ nI (k + 1) then (some (x, S)) else _) = _
      rw [gd_t (inb_nI hb (by decide)), nI_clamp (by omega), if_pos (by rw [z2]; exact nI_le e (by omega))]
  | m + 1, k, n1 + 1, n2 + 1, x, hk, hk6, _, _ => by
    have hkz : k + 1 < z := by omega
    have i1 := F_intAt z1 hz hkz
    have i2 := F_intAt z1 hz (show k < z by omega)
    have s1 : F_X11_jumpsOnTape_4 (n1 + 1) b x (nI (k + 1)) S = if Int64.toInt32 (S.2.2 (57 + b) (k + 1)) = Int64.toInt32 (S.2.2 (57 + b) k) + 1 then F_X11_jumpsOnTape_4 n1 b x (nI (k + 1 + 1)) S else F_X11_jumpsOnTape_4 n1 b (x + 1) (nI (k + 1 + 1)) S := by
      show (if (S.1 (14 + b) 3) ≤ nI (k + 1) then _ else ((F_X9_intAt b (nI (k + 1)) S).bind (fun r_14 => (F_X9_intAt b (nI (k + 1) - 1) r_14.2).bind (fun r_21 => if r_14.1 = (r_21.1 + 1) then (F_X11_jumpsOnTape_4 n1 b x (nI (k + 1) + 1) r_21.2) else (F_X11_jumpsOnTape_4 n1 b (x + 1) (nI (k + 1) + 1) r_21.2))))) = _
      rw [if_neg (by rw [z1]; exact nI_ge hkz (by omega)), i1, Option.bind_some, nI_pred]
      show ((F_X9_intAt b (nI k) S).bind (fun r_21 => if Int64.toInt32 (S.2.2 (57 + b) (k + 1)) = (r_21.1 + 1) then (F_X11_jumpsOnTape_4 n1 b x (nI (k + 1) + 1) r_21.2) else (F_X11_jumpsOnTape_4 n1 b (x + 1) (nI (k + 1) + 1) r_21.2))) = _
      rw [i2, Option.bind_some, nI_1]
    have s2 : F_X12_tape_79 (n2 + 1) (nI b) x (nI (k + 1)) S = if lg_cmp (S.2.2 102 (60 * b + (k + 1))) (S.2.2 102 (60 * b + k) + 1) = 0 then F_X12_tape_79 n2 (nI b) x (nI (k + 1 + 1)) S else F_X12_tape_79 n2 (nI b) (x + 1) (nI (k + 1 + 1)) S := by
      show gd (inb (nI b) 6) (if (S.2.1 101 (Int32.toNatClampNeg (nI b))) ≤ nI (k + 1) then _ else (gd (inb ((60 * nI b) + nI (k + 1)) 360) (gd (inb (((60 * nI b) + nI (k + 1)) - 1) 360) (if (lg_cmp (S.2.2 102 (Int32.toNatClampNeg ((60 * nI b) + nI (k + 1)))) ((S.2.2 102 (Int32.toNatClampNeg (((60 * nI b) + nI (k + 1)) - 1))) + 1)) = 0 then (F_X12_tape_79 n2 (nI b) x (nI (k + 1) + 1) S) else (F_X12_tape_79 n2 (nI b) (x + 1) (nI (k + 1) + 1) S))))) = _
      rw [gd_t (inb_nI hb (by decide)), nI_clamp (n := b) (by omega), if_neg (by rw [z2]; exact nI_ge hkz (by omega)), ix60, ← Nat.add_assoc, nI_pred, gd_t (inb_nI (by omega) (by decide)), gd_t (inb_nI (by omega) (by decide)), nI_clamp (n := 60 * b + k) (by omega), nI_clamp (n := 60 * b + k + 1) (by omega), nI_1]
    rw [s1, s2, ← he (k + 1) (by omega), ← he k (by omega)]
    by_cases c : S.2.2 (57 + b) (k + 1) = S.2.2 (57 + b) k + 1
    · rw [if_pos ((byte_eq (hbt _ (by omega)) (hbt _ (by omega))).mpr c), if_pos ((lg_cmp_eq _ _).mpr c)]
      exact tp_cnt hb hz z1 z2 he hbt m (k + 1) n1 n2 x (by omega) (by omega) (by omega) (by omega)
    · rw [if_neg (fun q => c ((byte_eq (hbt _ (by omega)) (hbt _ (by omega))).mp q)), if_neg (fun q => c ((lg_cmp_eq _ _).mp q))]
      exact tp_cnt hb hz z1 z2 he hbt m (k + 1) n1 n2 (x + 1) (by omega) (by omega) (by omega) (by omega)
end
/-- tape -/
theorem st_tape {N : Nat} (hN : 130 ≤ N) {S : St} (h : Inv S) (x y : Int32) : Both (F_X11_tape N x y) (F_X12_tape N x y) S := by
  obtain ⟨V, kd, hI⟩ := id h
  obtain ⟨ok, hc, hr, -⟩ := hI.parts
  have hl := hI.2.2.1.1
  have n10 : ¬ (1 : Int32) = 0 := by decide
  rcases (rng x 5 (by decide)).symm with hx | ⟨b, hb, rfl⟩
  · refine both_ro h (r := -1) ?_ ?_
    · unfold F_X11_tape
      simp only [F_noShelf_f hx, Option.bind_some, if_neg n10]
    · unfold F_X12_tape
      simp only [F_isShelf_f hx, Option.bind_some, if_true]
  rcases (rng y 1 (by decide)).symm with hy | ⟨j, hj, rfl⟩
  · refine both_ro h (r := -1) ?_ ?_
    · unfold F_X11_tape
      simp only [F_noShelf_t hb, Option.bind_some, if_true]
      rcases hy with q | q
      · rw [if_pos q]
      · by_cases c : y < 0
        · rw [if_pos c]
        · rw [if_neg c, if_neg (show ¬ y ≤ 1 from Int32.not_le.mpr q)]
    · unfold F_X12_tape
      have e : F_X12_in y (0 : Int32) (1 : Int32) S = some (0, S) := in_f (N := 1) hy S
      simp only [F_isShelf_t hb, Option.bind_some, if_neg n10, e, if_true]
  have e : F_X12_in (nI j) (0 : Int32) (1 : Int32) S = some (1, S) := in_t hj (by decide) S
  have a1 : ¬ nI j < 0 := nI_pos (by omega)
  have a2 : nI j ≤ 1 := nI_le (b := 1) hj (by decide)
  have hib : inb (nI b) 6 = true := inb_nI (by omega) (by decide)
  have hcb : Int32.toNatClampNeg (nI b) = b := nI_clamp (by omega)
  have hS := sh_at hI.2.2.2.2.1 (show b < 6 by omega)
  rcases shelf_cases hl hS with ⟨q1, q2⟩ | ⟨q1, q2, q3⟩ | ⟨q1, t, z, ht, hz, q2, q3, q4, q5, q6, q7, q8⟩
  · have k1 : F_X9_holdsNothing b S = some (1, S) := by unfold F_X9_holdsNothing; rw [if_pos q1]
    refine both_ro h (r := -11) ?_ ?_
    · unfold F_X11_tape
      simp only [F_noShelf_t hb, Option.bind_some, if_true, if_neg a1, if_pos a2, gd_t hib, hcb, k1, if_neg n10]
    · unfold F_X12_tape
      simp only [F_isShelf_t hb, Option.bind_some, if_neg n10, e, gd_t hib, hcb, if_pos q2]
  · have k1 : F_X9_holdsNothing b S = some (0, S) := by unfold F_X9_holdsNothing; rw [if_neg (by rw [q1]; decide)]
    have k2 : F_X9_holdsRowOf b 0 S = some (0, S) := by unfold F_X9_holdsRowOf; rw [if_neg (by rw [q1]; decide)]
    have q4 : ¬ S.2.1 100 b = -2 := fun z => absurd q3 (by rw [z]; decide)
    refine both_ro h (r := -12) ?_ ?_
    · unfold F_X11_tape
      simp only [F_noShelf_t hb, Option.bind_some, if_true, if_neg a1, if_pos a2, gd_t hib, hcb, k1, k2]
    · unfold F_X12_tape
      simp only [F_isShelf_t hb, Option.bind_some, if_neg n10, e, gd_t hib, hcb, if_neg q2, if_neg q4]
  · have k1 : F_X9_holdsNothing b S = some (0, S) := by unfold F_X9_holdsNothing; rw [if_neg (by rw [q1]; decide)]
    by_cases t0 : t = 0
    · subst t0
      have k2 : F_X9_holdsRowOf b 0 S = some (1, S) := by unfold F_X9_holdsRowOf; rw [if_pos q1, if_pos (by rw [q2]; rfl)]
      have q9 : S.2.1 100 b = -2 := by rw [q3]; decide
      obtain ⟨R, R1, R2, R3⟩ := tp_first ok hc hr (by omega) hz q6 q7 hS.1 z 0 N N (-1) (by omega) (by omega) (by omega) (Or.inl rfl)
      obtain ⟨T, T1, T2⟩ := tp_cnt (S := S) (show b < 6 by omega) hz q6 q7 hS.1 (q8 rfl) (z - 1) 0 N N 0 (by omega) (by omega) (by omega) (by omega)
      have R1' : F_X11_firstImpossible N b S = some (R, S) := R1
      have R2' : F_X12_wrongOn N (nI b) S = some (R, S) := R2
      have T1' : F_X11_jumpsOnTape N b S = some (T, S) := T1
      have T2' : F_X12_tape_79 N (nI b) 0 1 S = some (T, S) := T2
      have hRn : R = -1 ∨ (¬ R = -1 ∧ 0 ≤ R ∧ ¬ R < 0) := by
        rcases R3 with q | ⟨r, hr1, hr2⟩
        · exact Or.inl q
        · right
          rw [hr2]
          exact ⟨fun z => nI_pos (n := r) (by omega) (by rw [z]; decide), nI_pos' (by omega), nI_pos (by omega)⟩
      refine both_ro h (r := if nI j = 0 then (if R = -1 then -2 else R) else (if R = -1 then T else -5)) ?_ ?_
      · unfold F_X11_tape
        simp only [F_noShelf_t hb, Option.bind_some, if_true, if_neg a1, if_pos a2, gd_t hib, hcb, k1, k2, if_neg n10, R1', T1']
        by_cases c : nI j = 0
        · rw [if_pos c, if_pos c]
          by_cases d : R = -1
          · rw [if_pos d, if_pos d]
          · rw [if_neg d, if_neg d]
        · rw [if_neg c, if_neg c]
          by_cases d : R = -1
          · rw [if_pos d, if_pos d]
          · rw [if_neg d, if_neg d]
      · unfold F_X12_tape
        simp only [F_isShelf_t hb, Option.bind_some, if_neg n10, e, gd_t hib, hcb, if_neg q4, if_pos q9, R2', T2']
        rcases hRn with d | ⟨d1, d2, d3⟩
        · by_cases c : nI j = 0
          · rw [if_pos c, if_pos c, if_pos d, if_neg (by rw [d]; decide)]
          · rw [if_neg c, if_neg c, if_pos d, if_pos (by rw [d]; decide)]
        · by_cases c : nI j = 0
          · rw [if_pos c, if_pos c, if_neg d1, if_pos d2]
          · rw [if_neg c, if_neg c, if_neg d1, if_neg d3]
    · have k2 : F_X9_holdsRowOf b 0 S = some (0, S) := by
        unfold F_X9_holdsRowOf
        rw [if_pos q1, if_neg (by rw [q2]; exact nI_ne0 (by omega) (by omega))]
      have q9 : ¬ S.2.1 100 b = -2 := by
        rw [q3]
        rcases (show t = 1 ∨ t = 2 ∨ t = 3 ∨ t = 4 by omega) with rfl | rfl | rfl | rfl <;> decide
      refine both_ro h (r := -12) ?_ ?_
      · unfold F_X11_tape
        simp only [F_noShelf_t hb, Option.bind_some, if_true, if_neg a1, if_pos a2, gd_t hib, hcb, k1, k2]
      · unfold F_X12_tape
        simp only [F_isShelf_t hb, Option.bind_some, if_neg n10, e, gd_t hib, hcb, if_neg q4, if_neg q9]
