theorem F_part12 (x : Int32) (S : St) : F_X12_isPart x S = some (bI (decide (¬ x < 0 ∧ ¬ 5 < x)), S) := by
  unfold F_X12_isPart
  rw [F_in, Option.bind_some]
  dsimp only
  cases decide (¬ x < 0 ∧ ¬ 5 < x) <;> rfl
theorem le_lt1 {x : Int32} {n : Nat} (hn : n + 1 < 2 ^ 31) : (¬ x < 0 ∧ ¬ nI n < x) ↔ (¬ x < 0 ∧ ¬ nI (n + 1) ≤ x) := by
  constructor
  · rintro ⟨h0, h1⟩
    refine ⟨h0, fun q => h1 ?_⟩
    obtain ⟨j, hj, rfl⟩ := nI_of h0
    exact nI_lt (by have := (nI_leI hn hj).mp q; omega) hj
  · rintro ⟨h0, h1⟩
    refine ⟨h0, fun q => h1 ?_⟩
    obtain ⟨j, hj, rfl⟩ := nI_of h0
    exact nI_le (by have := (nI_ltI (by omega) hj).mp q; omega) hj
theorem rl_lines {b z i n : Nat} (hb : b < 6) (hz : z ≤ 60) (hi : i < 2 ^ 31) (hn : n ≤ 12) {e : Nat → Int32} : ∀ (m k N : Nat) (V : Nat → Nat → Nat) (S : St), k + m = n → m < N → OKV V → RlP S V → S.2.1 101 b = nI z → (∀ j, j < 60 → e j = Int64.toInt32 (S.2.2 102 (60 * b + j))) →
    ∃ S1, F_X12_lines_58 N (nI b) (nI i) (nI n) (nI k) S = some (nI (linesP e z i m k V).1, S1) ∧ RlP S1 (linesP e z i m k V).2 ∧ AgO nfR naR lAll S S1 := by
  intro m
  induction m with
  | zero =>
    intro k N V S hk hN ok hc _ _
    obtain ⟨N, rfl⟩ : ∃ M, N = M + 1 := ⟨N - 1, by omega⟩
    refine ⟨S, ?_, hc, AgO.rfl⟩
    show (if nI n ≤ nI k then some (nI n, S) else _) = _
    rw [if_pos (nI_le (by omega) (by omega))]
    show some (nI n, S) = some (nI k, S)
    rw [show k = n by omega]
  | succ m ih =>
    intro k N V S hk hN ok hc hsz he
    obtain ⟨N, rfl⟩ : ∃ M, N = M + 1 := ⟨N - 1, by omega⟩
    have n10 : ¬ (1 : Int32) = 0 := by decide
    have i6 : inb (nI b) 6 = true := inb_nI hb (by decide)
    have cb : Int32.toNatClampNeg (nI b) = b := nI_clamp (by omega)
    have e2 : Int32.toInt64 (nI i) + Int32.toInt64 (5 * nI k) = lN (i + 5 * k) := by
      rw [show 5 * nI k = nI (5 * k) from pk_mul 5 k, nI_l hi, nI_l (by omega), lN_add]
    have c0 : ¬ lg_cmp (lN (i + 5 * k)) 0 < 0 := by
      rw [lg_cmp_lt]
      show ¬ lN (i + 5 * k) < lN 0
      rw [pk_lLT (by omega) (by omega)]
      omega
    have c1 : (0 ≤ lg_cmp (lN (i + 5 * k) + 4) (Int32.toInt64 (S.2.1 101 (Int32.toNatClampNeg (nI b))))) ↔ ¬ i + 5 * (k + 1) ≤ z := by
      rw [lg_cmp_ge, cb, hsz, nI_l (by omega)]
      show lN z ≤ lN (i + 5 * k) + lN 4 ↔ _
      rw [lN_add, pk_lLE (by omega) (by omega)]
      omega
    have e3 : Int64.toInt32 (lN (i + 5 * k)) = nI (i + 5 * k) := lN_i _
    have e4 : 60 * nI b + nI (i + 5 * k) = nI (60 * b + (i + 5 * k)) := ix60
    unfold linesP
    show ∃ S1, (if nI n ≤ nI k then (some (nI n, S)) else (if (lg_cmp ((Int32.toInt64 (nI i)) + (Int32.toInt64 (5 * nI k))) 0) < 0 then (some (nI k, S)) else (gd (inb (nI b) 6) (if 0 ≤ (lg_cmp (((Int32.toInt64 (nI i)) + (Int32.toInt64 (5 * nI k))) + 4) (Int32.toInt64 (S.2.1 101 (Int32.toNatClampNeg (nI b))))) then (some (nI k, S)) else _)))) = _ ∧ _
    rw [if_neg (nI_ge (by omega) (by omega)), e2, if_neg c0, gd_t i6]
    by_cases h1 : i + 5 * (k + 1) ≤ z
    · rw [if_neg (fun q => c1.mp q h1)]
      by_cases h3 : V 8 0 < 20
      · have hf : ¬ S.1 63 1 = 20 := by rw [hc.1]; intro q; have := nI_inj (b := 20) (by omega) (by decide) q; omega
        rw [if_neg hf, e3, e4, nI_1, show nI (60 * b + (i + 5 * k)) + 2 = nI (60 * b + (i + 5 * k + 2)) from nI_add _ 2, show nI (60 * b + (i + 5 * k)) + 3 = nI (60 * b + (i + 5 * k + 3)) from nI_add _ 3, show nI (60 * b + (i + 5 * k)) + 4 = nI (60 * b + (i + 5 * k + 4)) from nI_add _ 4, show 60 * b + (i + 5 * k) + 1 = 60 * b + (i + 5 * k + 1) by omega]
        rw [gd_t (inb_nI (by omega) (by decide)), gd_t (inb_nI (by omega) (by decide)), gd_t (inb_nI (by omega) (by decide)), gd_t (inb_nI (by omega) (by decide)), gd_t (inb_nI (by omega) (by decide))]
        rw [nI_clamp (by omega), nI_clamp (by omega), nI_clamp (by omega), nI_clamp (by omega), nI_clamp (by omega)]
        rw [← he _ (by omega), ← he _ (by omega), ← he _ (by omega), ← he _ (by omega), ← he _ (by omega)]
        rw [F_part12, Option.bind_some]
        dsimp only
        by_cases h2 : mbB e (i + 5 * k) = true
        · have hq : (i + 5 * (k + 1) ≤ z ∧ mbB e (i + 5 * k) = true ∧ V 8 0 < 20) := ⟨h1, h2, h3⟩
          rw [if_pos hq]
          obtain ⟨p, c, l, s, t, ep, ec, el, es, et, hp, hcc, hl, hs1, hs2, ht⟩ := mbD_nat h2
          have c1 : cN (nI p) = p := nI_clamp (by omega)
          have c2 : cN (nI c) = c := nI_clamp (by omega)
          have c3 : cN (nI l) = l := nI_clamp (by omega)
          have c4 : cN (nI s) = s := nI_clamp (by omega)
          have c5 : cN (nI t) = t := nI_clamp (by omega)
          rw [ep, ec, el, es, et, c1, c2, c3, c4, c5]
          rw [mI_t ⟨nI_pos (by omega), nI_nlt (a := 5) (by omega) (by decide)⟩, if_neg n10, F_in, Option.bind_some]
          dsimp only
          rw [mI_t ⟨nI_pos (by omega), nI_nlt (a := 9) (by omega) (by decide)⟩, if_neg n10, F_in, Option.bind_some]
          dsimp only
          rw [mI_t ⟨nI_pos (by omega), nI_nlt (a := 9) (by omega) (by decide)⟩, if_neg n10, F_in, Option.bind_some]
          dsimp only
          rw [mI_t ⟨nI_nlt (b := 1) (by omega) (by omega), nI_nlt (a := 30) (by omega) (by decide)⟩, if_neg n10, F_in, Option.bind_some]
          dsimp only
          rw [mI_t ⟨nI_pos (by omega), nI_nlt (a := 255) (by omega) (by decide)⟩, if_neg n10]
          obtain ⟨S1, r1, hc1, ag1⟩ := rl_add (p := 100 * p + 10 * c + l) (s := s) (t := t) (e := 0) ok hc h3 (by omega) hs1 hs2 ht (by decide)
          have ok' : OKV (addV V (100 * p + 10 * c + l) s t 0) := by
            have hc0 : ClP (fset (fset (fset (aset (aset (aset (aset (aset (aset (aset (aset (aset S 21 (fun i => nI (V 0 i))) 22 (fun i => nI (V 1 i))) 23 (fun i => nI (V 2 i))) 24 (fun i => nI (V 3 i))) 25 (fun i => nI (V 4 i))) 26 (fun i => nI (V 5 i))) 27 (fun i => nI (V 6 i))) 28 (fun i => nI (V 7 i))) 29 (fun w => nI (maskOf (fun i => decide (V 1 i = w)) (V 8 0)))) 1 0 (nI (V 8 0))) 1 10 (nI (V 8 1))) 1 11 (nI (V 8 2))) V := ⟨rfl, rfl, rfl, fun i hi => ⟨rfl, rfl, rfl, rfl, rfl, rfl, rfl⟩, fun i hi => rfl, fun w hw => rfl⟩
            exact (cl_add (p := 100 * p + 10 * c + l) (s := s) (t := t) (e := 0) ok hc0 h3 (by omega) hs1 hs2 ht (by decide)).1
          have d1 : (100 * p + 10 * c + l) / 100 = p := by omega
          have d2 : (100 * p + 10 * c + l) / 10 % 10 = c := by omega
          have d3 : (100 * p + 10 * c + l) % 10 = l := by omega
          rw [d1, d2, d3] at r1
          have r1' : F_X12_addLine (nI p) (nI c) (nI l) (nI s) (nI t) 0 S = some (nI (V 8 0), S1) := r1
          rw [r1', Option.bind_some]
          dsimp only
          rw [nI_1]
          have hsz' : S1.2.1 101 b = nI z := by
            rw [ag1.2.1 101 (by decide)]; exact hsz
          have he' : ∀ j, j < 60 → e j = Int64.toInt32 (S1.2.2 102 (60 * b + j)) := fun j hj => by
            rw [ag1.2.2 102 rfl]; exact he j hj
          obtain ⟨S2, q1, q4, q5⟩ := ih (k + 1) N _ S1 (by omega) (by omega) ok' hc1 hsz' he'
          exact ⟨S2, q1, q4, ag1.trans q5⟩
        · have hq : ¬ (i + 5 * (k + 1) ≤ z ∧ mbB e (i + 5 * k) = true ∧ V 8 0 < 20) := fun q => h2 q.2.1
          rw [if_neg hq]
          refine ⟨S, ?_, hc, AgO.rfl⟩
          by_cases g1 : ¬ e (i + 5 * k) < 0 ∧ ¬ 5 < e (i + 5 * k)
          · rw [mI_t g1, if_neg n10, F_in, Option.bind_some]
            dsimp only
            by_cases g2 : ¬ e (i + 5 * k + 1) < 0 ∧ ¬ 9 < e (i + 5 * k + 1)
            · rw [mI_t g2, if_neg n10, F_in, Option.bind_some]
              dsimp only
              by_cases g3 : ¬ e (i + 5 * k + 2) < 0 ∧ ¬ 9 < e (i + 5 * k + 2)
              · rw [mI_t g3, if_neg n10, F_in, Option.bind_some]
                dsimp only
                by_cases g4 : ¬ e (i + 5 * k + 3) < 1 ∧ ¬ 30 < e (i + 5 * k + 3)
                · rw [mI_t g4, if_neg n10, F_in, Option.bind_some]
                  dsimp only
                  by_cases g5 : ¬ e (i + 5 * k + 4) < 0 ∧ ¬ 255 < e (i + 5 * k + 4)
                  · have k1 := (le_lt1 (n := 5) (by decide)).mp g1
                    have k2 := (le_lt1 (n := 9) (by decide)).mp g2
                    have k3 := (le_lt1 (n := 9) (by decide)).mp g3
                    exact absurd (decide_eq_true ⟨k1, k2.1, k2.2, k3.1, k3.2, g4.1, g4.2, g5.1, g5.2⟩) h2
                  · rw [mI_f g5, if_pos rfl]
                · rw [mI_f g4, if_pos rfl]
              · rw [mI_f g3, if_pos rfl]
            · rw [mI_f g2, if_pos rfl]
          · rw [mI_f g1, if_pos rfl]
      · have hf : S.1 63 1 = 20 := by rw [hc.1, show V 8 0 = 20 by have := ok.1; omega]; decide
        rw [if_pos hf, if_neg (fun q => h3 q.2.2)]
        exact ⟨S, rfl, hc, AgO.rfl⟩
    · rw [if_pos (c1.mpr h1), if_neg (fun q => h1 q.1)]
      exact ⟨S, rfl, hc, AgO.rfl⟩
