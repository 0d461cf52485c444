/-! small helpers of both systems, as equations -/
theorem F_in (x y z : Int32) (S : St) : F_X12_in x y z S = some (bI (decide (¬ x < y ∧ ¬ z < x)), S) := by
  unfold F_X12_in
  by_cases h1 : x < y
  · rw [if_pos h1]; simp [bI, h1]
  · rw [if_neg h1]
    by_cases h2 : z < x
    · rw [if_pos h2]; simp [bI, h1, h2]
    · rw [if_neg h2]; simp only [h1, h2]; rfl
theorem i32_nlt {a b : Int32} : ¬ a < b ↔ b ≤ a := Int32.not_lt
theorem nI_inj {a b : Nat} (ha : a < 2 ^ 31) (hb : b < 2 ^ 31) (h : nI a = nI b) : a = b := (nI_eq ha hb).mp h
theorem inb_nat {n N : Nat} (h : n < N) (hN : N < 2 ^ 31) : inb (nI n) N = true := inb_nI h hN
theorem nI_lit (n : Nat) : nI n = Int32.ofNat n := rfl
/-- feed -/
theorem st_feed {S : St} (h : Inv S) (x : Int32) : Both (F_X11_feed x) (F_X12_feed x) S := by
  obtain ⟨V, kd, hP, ⟨n, hn, e1, e2, ht⟩, hR⟩ := h
  unfold Both F_X11_feed F_X12_feed
  have hin : ∀ S' : St, F_X12_in x (0 : Int32) (255 : Int32) S' = some (bI (decide (¬ x < 0 ∧ ¬ 255 < x)), S') := fun S' => F_in x 0 255 S'
  by_cases h1 : x < 0
  · refine ⟨-1, S, S, by rw [if_pos h1], ?_, V, kd, hP, ⟨n, hn, e1, e2, ht⟩, hR⟩
    rw [hin]
    simp [bI, h1]
  · by_cases h2 : x ≤ 255
    · have hb : bI (decide (¬ x < 0 ∧ ¬ 255 < x)) = 1 := bI_t (decide_eq_true ⟨h1, Int32.not_lt.mpr h2⟩)
      obtain ⟨c, hc, rfl⟩ := nI_of2 (n := 255) (by decide) h1 h2
      by_cases h3 : n < 120
      · have hlt : S.1 0 2 < 120 := by rw [e1]; exact nI_lt h3 (by decide)
        have hi1 : inb (S.1 0 2) 120 = true := by rw [e1]; exact inb_nI h3 (by decide)
        have hne : ¬ (120 : Int32) = S.1 63 19 := by
          rw [e2]; intro q; have := nI_inj (a := 120) (b := n) (by decide) (by omega) q; omega
        have hi2 : inb (S.1 63 19) 120 = true := by rw [e2]; exact inb_nI h3 (by decide)
        let S1 : St := fset (aset S 20 (upd (S.2.1 20) (Int32.toNatClampNeg (S.1 0 2)) (nI c))) 0 2 (S.1 0 2 + 1)
        let S2 : St := fset (aset S1 76 (upd (S.2.1 76) (Int32.toNatClampNeg (S.1 63 19)) (vp_nar .byte ((Int32.toInt8 (nI c)).toInt32)))) 63 19 (S.1 63 19 + 1)
        refine ⟨nI (n + 1), S1, S2, ?_, ?_, V, kd, hP, ⟨n + 1, by omega, ?_, ?_, ?_⟩, hR⟩
        · rw [if_neg h1, if_pos h2, if_pos hlt, gd_t hi1]
          show some (S.1 0 2 + 1, S1) = _
          rw [e1, nI_1]
        · rw [hin, Option.bind_some]
          show (if bI _ = 0 then _ else _) = _
          rw [hb, if_neg (by decide)]
          show (if S.1 63 19 = 120 then _ else _) = _
          rw [if_neg (fun q => hne q.symm)]
          show gd (inb (S.1 63 19) 120) _ = _
          rw [gd_t hi2]
          show some (S.1 63 19 + 1, S2) = _
          rw [e2, nI_1]
        · show S.1 0 2 + 1 = _
          rw [e1, nI_1]
        · show S.1 63 19 + 1 = _
          rw [e2, nI_1]
        · intro i hi
          show ∃ c' : Nat, c' < 256 ∧ upd (S.2.1 20) (Int32.toNatClampNeg (S.1 0 2)) (nI c) i = nI c' ∧ upd (S.2.1 76) (Int32.toNatClampNeg (S.1 63 19)) (vp_nar .byte ((Int32.toInt8 (nI c)).toInt32)) i = _
          rw [e1, e2, nI_clamp (by omega)]
          by_cases hin2 : i = n
          · subst hin2
            exact ⟨c, by omega, pk_us, by rw [pk_us, vp_nar_byte]; simp⟩
          · rw [pk_un hin2, pk_un hin2]
            exact ht i (by omega)
      · have h120 : n = 120 := by omega
        subst h120
        refine ⟨-3, S, S, ?_, ?_, V, kd, hP, ⟨120, hn, e1, e2, ht⟩, hR⟩
        · rw [if_neg h1, if_pos h2, if_neg (by rw [e1]; decide)]
        · rw [hin, Option.bind_some]
          show (if bI _ = 0 then _ else _) = _
          rw [hb, if_neg (by decide), if_pos (by rw [e2]; decide)]
    · refine ⟨-1, S, S, by rw [if_neg h1, if_neg h2], ?_, V, kd, hP, ⟨n, hn, e1, e2, ht⟩, hR⟩
      rw [hin]
      simp [bI, h1, Int32.not_le.mp h2]
