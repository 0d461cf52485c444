/-! cutting by the reference -/
section
variable {N : Nat} {V : Nat → Nat → Nat} {S : St}
theorem rl_told (ok : OKV V) (hr : RlP S V) {m : Nat} (hm : m < 2 ^ 30) : ∀ (k i n : Nat) (t : Int32), i + k = V 8 0 → k < n → tkF V m i = some t → F_X12_isToldWithout_4 n (nI m) t (nI i) S = some (bI (vld V m), S)
  | k, i, 0, _, _, hn, _ => absurd hn (Nat.not_lt_zero k)
  | 0, i, n + 1, t, hi, _, ht => by
    have e : i = V 8 0 := hi
    show (if (S.1 63 1) ≤ nI i then (some (1, S)) else _) = _
    rw [if_pos (by rw [hr.1, e]; exact Int32.le_refl _)]
    rw [e] at ht
    rw [bI_t (by unfold vld; rw [ht]; rfl)]
  | k + 1, i, n + 1, t, hi, hn, ht => by
    have h20 := ok.1
    have hii : i < V 8 0 := by omega
    have gi : inb (nI i) 20 = true := inb_nI (by omega) (by decide)
    obtain ⟨-, -, -, -, e4, e5, -⟩ := hr.2.2.2.1 i hii
    have hs := tkF_succ ht
    show (if (S.1 63 1) ≤ nI i then _ else (if ((nI m >>> (nI i &&& 31)) &&& 1) = 1 then (F_X12_isToldWithout_4 n (nI m) t (nI i + 1) S) else (gd (inb (nI i) 20) (if ((S.2.1 69 (Int32.toNatClampNeg (nI i))) &&& (t ^^^ (-1))) = 0 then (gd (inb (nI i) 20) (F_X12_isToldWithout_4 n (nI m) (t ||| (S.2.1 68 (Int32.toNatClampNeg (nI i)))) (nI i + 1) S)) else (some (0, S)))))) = _
    rw [if_neg (by rw [hr.1]; exact nI_ge hii (by omega)), gd_t gi, gd_t gi, nI_clamp (by omega), e4, e5, nI_1]
    by_cases c : m.testBit i = true
    · rw [if_pos ((tst_bit1 (by omega) (by omega)).mpr c)]
      rw [if_pos c] at hs
      exact rl_told ok hr hm k (i + 1) n t (by omega) (by omega) hs
    · rw [if_neg (fun z => c ((tst_bit1 (by omega) (by omega)).mp z))]
      rw [if_neg c] at hs
      by_cases d : (nI (V 5 i) &&& (t ^^^ (-1))) = 0
      · rw [if_pos d]
        rw [if_pos d] at hs
        exact rl_told ok hr hm k (i + 1) n _ (by omega) (by omega) hs
      · rw [if_neg d]
        rw [if_neg d] at hs
        have := tkF_none hs k
        rw [show i + 1 + k = V 8 0 by omega] at this
        rw [bI_f (by unfold vld; rw [this]; rfl)]
theorem rl_ring1 (ok : OKV V) (hr : RlP S V) {m i c0 : Nat} (hm : m < 2 ^ 30) (hi : i < V 8 0) (k4 : Int32 → Int32 → Int32 → St → Option (Int32 × St)) : ∀ (k j n : Nat), j + k = i → k < n → F_X12_ringsWithout_15 k4 n (nI m) (nI (c0 + (if m.testBit i = true then 0 else cnt (fun j => rgB V i j && !m.testBit j) j))) (nI i) (nI j) S = k4 (nI m) (nI (c0 + (if m.testBit i = true then 0 else cnt (fun j => rgB V i j && !m.testBit j) i))) (nI (i + 1)) S
  | k, j, 0, _, hn => absurd hn (Nat.not_lt_zero k)
  | 0, j, n + 1, hj, _ => by
    have e : j = i := hj
    subst e
    show (if nI j ≤ nI j then (k4 (nI m) (nI _) (nI j + 1) S) else _) = _
    rw [if_pos (Int32.le_refl _), nI_1]
  | k + 1, j, n + 1, hj, hn => by
    have h20 := ok.1
    have ih := rl_ring1 (c0 := c0) ok hr hm hi k4 k (j + 1) n (by omega) (by omega)
    have gi : inb (nI i) 20 = true := inb_nI (by omega) (by decide)
    have gj : inb (nI j) 20 = true := inb_nI (by omega) (by decide)
    have e1 := (hr.2.2.2.1 j (by omega)).2.1
    have e2 := (hr.2.2.2.1 i hi).2.2.1
    have b1 := (ok.2.2.2.1 j (by omega)).2.1
    have b2 := (ok.2.2.2.1 i hi).2.2.1
    rw [← ih, cnt_succ]
    have stp : ∀ x2 : Int32, F_X12_ringsWithout_15 k4 (n + 1) (nI m) x2 (nI i) (nI j) S = (if ((nI m >>> (nI i &&& 31)) &&& 1) = 0 then (if ((nI m >>> (nI j &&& 31)) &&& 1) = 0 then (if nI (V 1 j) = nI (V 2 i) then (F_X12_ringsWithout_15 k4 n (nI m) (x2 + 1) (nI i) (nI (j + 1)) S) else (F_X12_ringsWithout_15 k4 n (nI m) x2 (nI i) (nI (j + 1)) S)) else (F_X12_ringsWithout_15 k4 n (nI m) x2 (nI i) (nI (j + 1)) S)) else (F_X12_ringsWithout_15 k4 n (nI m) x2 (nI i) (nI (j + 1)) S)) := by
      intro x2
      show (if nI i ≤ nI j then _ else (if ((nI m >>> (nI i &&& 31)) &&& 1) = 0 then (if ((nI m >>> (nI j &&& 31)) &&& 1) = 0 then (gd (inb (nI j) 20) (gd (inb (nI i) 20) (if (S.2.1 65 (Int32.toNatClampNeg (nI j))) = (S.2.1 66 (Int32.toNatClampNeg (nI i))) then (F_X12_ringsWithout_15 k4 n (nI m) (x2 + 1) (nI i) (nI j + 1) S) else (F_X12_ringsWithout_15 k4 n (nI m) x2 (nI i) (nI j + 1) S)))) else (F_X12_ringsWithout_15 k4 n (nI m) x2 (nI i) (nI j + 1) S)) else (F_X12_ringsWithout_15 k4 n (nI m) x2 (nI i) (nI j + 1) S))) = _
      rw [if_neg (nI_ge (by omega) (by omega)), gd_t gj, gd_t gi, nI_clamp (n := j) (by omega), nI_clamp (n := i) (by omega), e1, e2, nI_1]
    rw [stp]
    by_cases c : m.testBit i = true
    · rw [if_neg (fun z => by rw [(tst_bit (by omega) (by omega)).mp z] at c; cases c), if_pos c, if_pos c]
    · rw [if_pos ((tst_bit (by omega) (by omega)).mpr (Bool.eq_false_iff.mpr c)), if_neg c, if_neg c]
      by_cases d : m.testBit j = true
      · rw [if_neg (fun z => by rw [(tst_bit (by omega) (by omega)).mp z] at d; cases d), if_neg (show ¬ (rgB V i j && !m.testBit j) = true by rw [d]; simp)]
        rfl
      · have d' : m.testBit j = false := Bool.eq_false_iff.mpr d
        rw [if_pos ((tst_bit (by omega) (by omega)).mpr d')]
        by_cases e : V 1 j = V 2 i
        · rw [if_pos (by rw [e]), if_pos (show (rgB V i j && !m.testBit j) = true by unfold rgB; rw [d']; simp [e]; omega), nI_1, Nat.add_assoc]
        · rw [if_neg (fun z => e (nI_inj (by omega) (by omega) z)), if_neg (show ¬ (rgB V i j && !m.testBit j) = true by unfold rgB; simp [e])]
          rfl
theorem rl_rings (hN : 2100 ≤ N) (ok : OKV V) (hr : RlP S V) {m : Nat} (hm : m < 2 ^ 30) : ∀ (k i n : Nat), i + k = V 8 0 → k < n → F_X12_ringsWithout_4 N n (nI m) (nI (sumIf (fun i => !m.testBit i) (fun i => cnt (fun j => rgB V i j && !m.testBit j) (V 8 0)) i)) (nI i) S = some (nI (rgs V m), S)
  | k, i, 0, _, hn => absurd hn (Nat.not_lt_zero k)
  | 0, i, n + 1, hi, _ => by
    have e : i = V 8 0 := hi
    show (if (S.1 63 1) ≤ nI i then (some (nI _, S)) else _) = _
    rw [if_pos (by rw [hr.1, e]; exact Int32.le_refl _), e]
    rfl
  | k + 1, i, n + 1, hi, hn => by
    have h20 := ok.1
    have hii : i < V 8 0 := by omega
    have ih := rl_rings hN ok hr hm k (i + 1) n (by omega) (by omega)
    rw [← ih, sumIf_succ]
    show (if (S.1 63 1) ≤ nI i then _ else (F_X12_ringsWithout_15 (F_X12_ringsWithout_4 N n) N (nI m) (nI _) (nI i) 0 S)) = _
    rw [if_neg (by rw [hr.1]; exact nI_ge hii (by omega))]
    generalize sumIf (fun i => !m.testBit i) (fun i => cnt (fun j => rgB V i j && !m.testBit j) (V 8 0)) i = c0
    have h1 := rl_ring1 (c0 := c0) ok hr hm hii (F_X12_ringsWithout_4 N n) i 0 N (by omega) (by omega)
    have e0 : (if m.testBit i = true then 0 else cnt (fun j => rgB V i j && !m.testBit j) 0) = 0 := by split <;> rfl
    rw [e0, Nat.add_zero] at h1
    have h1' : F_X12_ringsWithout_15 (F_X12_ringsWithout_4 N n) N (nI m) (nI c0) (nI i) 0 S = _ := h1
    rw [h1']
    have ec : cnt (fun j => rgB V i j && !m.testBit j) (V 8 0) = cnt (fun j => rgB V i j && !m.testBit j) i := by
      rw [show V 8 0 = i + (V 8 0 - i) by omega, cnt_split, cnt_zero (V 8 0 - i) (fun j _ => by show (rgB V i (i + j) && !m.testBit (i + j)) = false; unfold rgB; rw [decide_eq_false (fun q => by omega)]; rfl), Nat.add_zero]
    rw [ec]
    by_cases c : m.testBit i = true
    · rw [if_pos c, if_neg (show ¬ (!m.testBit i) = true by rw [c]; decide)]
    · rw [if_neg c, if_pos (show (!m.testBit i) = true by rw [Bool.eq_false_iff.mpr c]; rfl)]
theorem rl_secs (ok : OKV V) (hr : RlP S V) {m : Nat} (hm : m < 2 ^ 30) : ∀ (k i n : Nat), i + k = V 8 0 → k < n → F_X12_secondsOf_4 n (nI m) (nI (sumIf (fun i => m.testBit i) (V 3) i)) (nI i) S = some (nI (scs V m), S)
  | k, i, 0, _, hn => absurd hn (Nat.not_lt_zero k)
  | 0, i, n + 1, hi, _ => by
    have e : i = V 8 0 := hi
    show (if (S.1 63 1) ≤ nI i then (some (nI _, S)) else _) = _
    rw [if_pos (by rw [hr.1, e]; exact Int32.le_refl _), e]
    rfl
  | k + 1, i, n + 1, hi, hn => by
    have h20 := ok.1
    have hii : i < V 8 0 := by omega
    have gi : inb (nI i) 20 = true := inb_nI (by omega) (by decide)
    have e3 := (hr.2.2.2.1 i hii).2.2.2.1
    have ih := rl_secs ok hr hm k (i + 1) n (by omega) (by omega)
    rw [← ih, sumIf_succ]
    show (if (S.1 63 1) ≤ nI i then _ else (if ((nI m >>> (nI i &&& 31)) &&& 1) = 1 then (gd (inb (nI i) 20) (F_X12_secondsOf_4 n (nI m) (nI _ + (S.2.1 67 (Int32.toNatClampNeg (nI i)))) (nI i + 1) S)) else (F_X12_secondsOf_4 n (nI m) (nI _) (nI i + 1) S))) = _
    rw [if_neg (by rw [hr.1]; exact nI_ge hii (by omega)), gd_t gi, nI_clamp (by omega), e3, nI_1, nI_add]
    by_cases c : m.testBit i = true
    · rw [if_pos ((tst_bit1 (by omega) (by omega)).mpr c), if_pos c]
    · rw [if_neg (fun z => c ((tst_bit1 (by omega) (by omega)).mp z)), if_neg c]; rfl
end
/-- the best so far, as the reference holds it -/
def RtB (S : St) (V : Nat → Nat → Nat) : Option Nat → Prop
  | none => S.1 63 48 = -2
  | some m => m < 2 ^ 20 ∧ S.1 63 48 = nI m ∧ S.1 63 49 = nI (rgs V m)
def fM (c s : Nat) : Bool := !decide (c = 63 ∧ (s = 48 ∨ s = 49))
def AgM (S S' : St) : Prop := AgO fM (fun _ => true) lAll S S'
theorem AgM.rl {V : Nat → Nat → Nat} {S S' : St} (h : AgM S S') (hr : RlP S V) : RlP S' V := hr.agree (AgO.weak h (fun c s q => by have := fRl_mem q; refine not_t (fun z => ?_); have := of_decide_eq_true z; omega) (fun _ _ => rfl) (fun k q => by cases q))
theorem rl_try {N : Nat} (hN : 2100 ≤ N) {V : Nat → Nat → Nat} {S : St} (ok : OKV V) (hr : RlP S V) {x : Nat} (hx : x < 2 ^ 20) {o : Option Nat} (hR : RtB S V o) : ∃ S', F_X12_tryCut N (nI x) S = some S' ∧ AgM S S' ∧ RtB S' V (upR V o x) := by
  have h20 := ok.1
  have ht : F_X12_isToldWithout N (nI x) S = some (bI (vld V x), S) := rl_told ok hr (by omega) (V 8 0) 0 N 0 (by omega) (by omega) rfl
  have hg : F_X12_ringsWithout N (nI x) S = some (nI (rgs V x), S) := rl_rings hN ok hr (by omega) (V 8 0) 0 N (by omega) (by omega)
  have hs : ∀ m, m < 2 ^ 20 → F_X12_secondsOf N (nI m) S = some (nI (scs V m), S) := fun m hm => rl_secs ok hr (by omega) (V 8 0) 0 N (by omega) (by omega)
  let T : St := fset (fset S 63 48 (nI x)) 63 49 (nI (rgs V x))
  have aT : AgM S T := AgO.fset (AgO.fset AgO.rfl _ (by decide)) _ (by decide)
  have cT : RtB T V (some x) := ⟨hx, rfl, rfl⟩
  have s31 : F_X12_tryCut_31 N (nI x) (nI (rgs V x)) S = (if (S.1 63 48) < 0 then some T else (if nI (rgs V x) = (S.1 63 49) then ((F_X12_secondsOf N (nI x) S).bind (fun r_48 => (F_X12_secondsOf N (r_48.2.1 63 48) r_48.2).bind (fun r_57 => if r_48.1 < r_57.1 then (some r_57.2) else (if r_48.1 = r_57.1 then (if nI x ≤ (r_57.2.1 63 48) then (some (fset (fset r_57.2 63 48 (nI x)) 63 49 (nI (rgs V x)))) else (some r_57.2)) else (some (fset (fset r_57.2 63 48 (nI x)) 63 49 (nI (rgs V x)))))))) else some T)) := rfl
  unfold F_X12_tryCut upR
  rw [ht, Option.bind_some]
  show ∃ S', (if bI (vld V x) = 0 then some S else ((F_X12_ringsWithout N (nI x) S).bind (fun r_11 => if (r_11.2.1 63 48) < 0 then (F_X12_tryCut_31 N (nI x) r_11.1 r_11.2) else (if r_11.1 ≤ (r_11.2.1 63 49) then (F_X12_tryCut_31 N (nI x) r_11.1 r_11.2) else (some r_11.2))))) = some S' ∧ _
  by_cases v : vld V x = true
  · rw [if_neg (bI_ne.mpr v), if_pos v, hg, Option.bind_some]
    show ∃ S', (if (S.1 63 48) < 0 then (F_X12_tryCut_31 N (nI x) (nI (rgs V x)) S) else (if nI (rgs V x) ≤ (S.1 63 49) then (F_X12_tryCut_31 N (nI x) (nI (rgs V x)) S) else (some S))) = some S' ∧ _
    cases o with
    | none =>
      have h48 : S.1 63 48 < 0 := by rw [show S.1 63 48 = -2 from hR]; decide
      rw [if_pos h48, s31, if_pos h48]
      exact ⟨T, rfl, aT, cT⟩
    | some b =>
      obtain ⟨hb, q0, q1⟩ := id hR
      have h48 : ¬ S.1 63 48 < 0 := by rw [q0]; exact nI_pos (by omega)
      have r1 := rgs_le ok x
      have r2 := rgs_le ok b
      have t1 := scs_le ok x
      have t2 := scs_le ok b
      show ∃ S', _ ∧ AgM S S' ∧ RtB S' V (if rgs V x < rgs V b ∨ (rgs V x = rgs V b ∧ (scs V b < scs V x ∨ (scs V b = scs V x ∧ x ≤ b))) then some x else some b)
      rw [if_neg h48, q1]
      by_cases c1 : rgs V x ≤ rgs V b
      · rw [if_pos (nI_le c1 (by omega)), s31, if_neg h48, q1]
        by_cases c2 : rgs V x = rgs V b
        · rw [if_pos (by rw [c2]), hs x hx, Option.bind_some]
          show ∃ S', ((F_X12_secondsOf N (S.1 63 48) S).bind (fun r_57 => if nI (scs V x) < r_57.1 then (some r_57.2) else (if nI (scs V x) = r_57.1 then (if nI x ≤ (r_57.2.1 63 48) then (some (fset (fset r_57.2 63 48 (nI x)) 63 49 (nI (rgs V x)))) else (some r_57.2)) else (some (fset (fset r_57.2 63 48 (nI x)) 63 49 (nI (rgs V x))))))) = some S' ∧ _
          rw [q0, hs b hb, Option.bind_some]
          show ∃ S', (if nI (scs V x) < nI (scs V b) then (some S) else (if nI (scs V x) = nI (scs V b) then (if nI x ≤ (S.1 63 48) then (some T) else (some S)) else (some T))) = some S' ∧ _
          rw [q0]
          by_cases c3 : scs V x < scs V b
          · rw [if_pos (nI_lt c3 (by omega)), if_neg (by omega)]
            exact ⟨S, rfl, AgO.rfl, hR⟩
          · rw [if_neg (nI_nlt (by omega) (by omega))]
            by_cases c4 : scs V x = scs V b
            · rw [if_pos (by rw [c4])]
              by_cases c5 : x ≤ b
              · rw [if_pos (nI_le c5 (by omega)), if_pos (by omega)]
                exact ⟨T, rfl, aT, cT⟩
              · rw [if_neg (nI_ge (by omega) (by omega)), if_neg (by omega)]
                exact ⟨S, rfl, AgO.rfl, hR⟩
            · rw [if_neg (fun z => c4 (nI_inj (by omega) (by omega) z)), if_pos (by omega)]
              exact ⟨T, rfl, aT, cT⟩
        · rw [if_neg (fun z => c2 (nI_inj (by omega) (by omega) z)), if_pos (by omega)]
          exact ⟨T, rfl, aT, cT⟩
      · rw [if_neg (nI_ge (by omega) (by omega)), if_neg (by omega)]
        exact ⟨S, rfl, AgO.rfl, hR⟩
  · rw [if_pos (bI_0.mpr (Bool.eq_false_iff.mpr v)), if_neg v]
    exact ⟨S, rfl, AgO.rfl, hR⟩
theorem or_lt20 {s j : Nat} (hs : s < 2 ^ 20) (hj : j < 20) : s ||| 2 ^ j < 2 ^ 20 := Nat.or_lt_two_pow hs (Nat.pow_lt_pow_right (by decide) hj)
theorem rl_from {N : Nat} (hN : 2100 ≤ N) {V : Nat → Nat → Nat} (ok : OKV V) : ∀ (c r i s : Nat) (S : St) (o : Option Nat) (D : Nat → Prop), c ≤ 3 → RlP S V → s < 2 ^ 20 → i ≤ V 8 0 → RtB S V o → Bst V o D → ∃ S' o', F_X12_cutFrom (rec_X12_cutFrom N (c + r)) N (nI i) (nI c) (nI s) S = some S' ∧ AgM S S' ∧ RtB S' V o' ∧ Bst V o' (fun m => D m ∨ RD (V 8 0) c i s m)
  | 0, r, i, s, S, o, D, _, hr, hs, hi, hR, hB => by
    obtain ⟨S', s1, s2, s3⟩ := rl_try hN ok hr hs hR
    refine ⟨S', upR V o s, ?_, s2, s3, hB.addR⟩
    unfold F_X12_cutFrom
    rw [if_pos (show nI 0 = 0 from rfl), s1]
    rfl
  | c + 1, r, i, s, S, o, D, hc3, hr, hs, hi, hR, hB => by
    have h20 := ok.1
    have loop : ∀ (k i n : Nat) (S : St) (o : Option Nat) (D : Nat → Prop), RlP S V → i + k = V 8 0 → k < n → RtB S V o → Bst V o D → ∃ S' o', F_X12_cutFrom_13 (rec_X12_cutFrom N (c + 1 + r)) n (nI (c + 1)) (nI s) (nI i) S = some S' ∧ AgM S S' ∧ RtB S' V o' ∧ Bst V o' (fun m => D m ∨ RD (V 8 0) (c + 1) i s m) := by
      intro k
      induction k with
      | zero =>
        intro i n S o D hr hi hn hR hB
        cases n with
        | zero => omega
        | succ n =>
          have e : i = V 8 0 := hi
          refine ⟨S, o, ?_, AgO.rfl, hR, hB.congr (fun m => ⟨Or.inl, fun q => q.elim id (fun ⟨j, h1, h2, _⟩ => by omega)⟩)⟩
          show (if (S.1 63 1) ≤ nI i then (some S) else _) = _
          rw [if_pos (by rw [hr.1, e]; exact Int32.le_refl _)]
      | succ k ih =>
        intro i n S o D hr hi hn hR hB
        cases n with
        | zero => omega
        | succ n =>
          have hii : i < V 8 0 := by omega
          obtain ⟨S1, o1, s1, s2, s3, s4⟩ := rl_from hN ok c r (i + 1) (s ||| 2 ^ i) S o D (by omega) hr (or_lt20 hs (by omega)) (by omega) hR hB
          obtain ⟨S2, o2, u1, u2, u3, u4⟩ := ih (i + 1) n S1 o1 _ (s2.rl hr) (by omega) (by omega) s3 s4
          refine ⟨S2, o2, ?_, s2.trans u2, u3, u4.congr (fun m => ?_)⟩
          · rw [← u1]
            show (if (S.1 63 1) ≤ nI i then _ else ((rec_X12_cutFrom N (c + 1 + r) (nI i + 1) (nI (c + 1) - 1) (nI s ||| (1 <<< (nI i &&& 31))) S).bind (fun r_36 => F_X12_cutFrom_13 (rec_X12_cutFrom N (c + 1 + r)) n (nI (c + 1)) (nI s) (nI i + 1) r_36))) = _
            rw [if_neg (by rw [hr.1]; exact nI_ge hii (by omega)), nI_1, nI_pred, bit_le _ (by omega), nI_or]
            have e : rec_X12_cutFrom N (c + 1 + r) = F_X12_cutFrom (rec_X12_cutFrom N (c + r)) N := by
              rw [show c + 1 + r = (c + r) + 1 by omega]
              rfl
            rw [e, s1, Option.bind_some]
          · constructor
            · rintro ((h | h) | ⟨j, h1, h2, h3⟩)
              · exact Or.inl h
              · exact Or.inr ⟨i, Nat.le_refl _, hii, h⟩
              · exact Or.inr ⟨j, by omega, h2, h3⟩
            · rintro (h | ⟨j, h1, h2, h3⟩)
              · exact Or.inl (Or.inl h)
              · by_cases e : j = i
                · subst e; exact Or.inl (Or.inr h3)
                · exact Or.inr ⟨j, by omega, h2, h3⟩
    obtain ⟨S', o', s1, s2⟩ := loop (V 8 0 - i) i N S o D hr (by omega) (by omega) hR hB
    refine ⟨S', o', ?_, s2⟩
    unfold F_X12_cutFrom
    rw [if_neg (nI_ne0 (by omega) (by omega))]
    exact s1
theorem AgK.ag {S S' : St} (h : AgK S S') : Ag S S' := AgO.weak h (fun c s q => by
    refine not_t (fun z => ?_)
    have z' := of_decide_eq_true z
    subst z'
    have q2 : fX 9 s = true ∨ fP 9 s = true := by rw [Bool.or_eq_true] at q; exact q
    rcases q2 with q2 | q2
    · have := of_decide_eq_true q2
      simp only [List.mem_cons, List.not_mem_nil, or_false, Prod.mk.injEq] at this
      omega
    · have := of_decide_eq_true q2
      simp only [List.mem_cons, List.not_mem_nil, or_false, Prod.mk.injEq] at this
      omega) (fun _ _ => rfl) (fun _ _ => rfl)
theorem AgM.ag {S S' : St} (h : AgM S S') : Ag S S' := AgO.weak h (fun c s q => by
    refine not_t (fun z => ?_)
    have z' := of_decide_eq_true z
    rcases z' with ⟨rfl, rfl | rfl⟩ <;> exact absurd q (by decide)) (fun _ _ => rfl) (fun _ _ => rfl)
/-- cut -/
theorem st_cut {N : Nat} (hN : 2100 ≤ N) {S : St} (h : Inv S) (x y : Int32) : Both (F_X11_cut N x y) (F_X12_cut N x y) S := by
  obtain ⟨V, kd, hI⟩ := id h
  obtain ⟨ok, hc, hr⟩ := play_iff.mp hI.1
  have h20 := ok.1
  have n10 : ¬ (1 : Int32) = 0 := by decide
  rcases (rng x 3 (by decide)).symm with hx | ⟨c, hc3, rfl⟩
  · refine both_ro h (r := -1) ?_ ?_
    · unfold F_X11_cut
      rcases hx with q | q
      · rw [if_pos q]
      · by_cases z : x < 0
        · rw [if_pos z]
        · rw [if_neg z, if_pos (show 3 < x from q)]
    · unfold F_X12_cut
      have e : F_X12_in x (0 : Int32) (3 : Int32) S = some (0, S) := in_f (N := 3) hx S
      simp only [e, Option.bind_some, if_true]
  have hin : ∀ T : St, F_X12_in (nI c) (0 : Int32) (3 : Int32) T = some (1, T) := fun T => in_t hc3 (by decide) T
  have a1 : ¬ nI c < 0 := nI_pos (by omega)
  have a2 : ¬ (3 : Int32) < nI c := nI_nlt (a := 3) hc3 (by decide)
  rcases (rng y 1 (by decide)).symm with hy | ⟨j, hj, rfl⟩
  · refine both_ro h (r := -1) ?_ ?_
    · unfold F_X11_cut
      rw [if_neg a1, if_neg a2]
      rcases hy with q | q
      · rw [if_pos q]
      · by_cases z : y < 0
        · rw [if_pos z]
        · rw [if_neg z, if_neg (show ¬ y ≤ 1 from Int32.not_le.mpr q)]
    · unfold F_X12_cut
      have e : F_X12_in y (0 : Int32) (1 : Int32) S = some (0, S) := in_f (N := 1) hy S
      simp only [hin, Option.bind_some, if_neg n10, e, if_true]
  have hin2 : ∀ T : St, F_X12_in (nI j) (0 : Int32) (1 : Int32) T = some (1, T) := fun T => in_t hj (by decide) T
  have hfind : ∃ S' x3' o', F_X2_find N (nI c) S = some (x3', S') ∧ AgK S S' ∧ CtB S' V x3' o' ∧ Bst V o' (RD (V 8 0) c 0 0) := by
    rcases (show c = 0 ∨ c = 1 ∨ c = 2 ∨ c = 3 by omega) with rfl | rfl | rfl | rfl
    · exact cl_find0 hN ok hc
    · exact cl_find1 hN ok hc
    · exact cl_find2 hN ok hc
    · exact cl_find3 hN ok hc
  obtain ⟨S1, x3, o, s1, s2, s3, s4⟩ := hfind
  let S2 : St := fset S1 63 48 (-2)
  have aM : AgM S1 S2 := AgO.fset AgO.rfl _ (by decide)
  have hr2 : RlP S2 V := aM.rl (hr.agree s2.ag.rl)
  obtain ⟨S3, o', u1, u2, u3, u4⟩ := rl_from hN ok c (5 - c) 0 0 S2 none (fun _ => False) hc3 hr2 (by decide) (Nat.zero_le _) rfl (fun m hm => hm.elim)
  have eo : o = o' := Bst.uniq (fun m => ⟨Or.inr, fun q => q.elim False.elim id⟩) s4 u4
  subst eo
  have u1' : FF_X12_cutFrom N (0 : Int32) (nI c) (0 : Int32) S2 = some S3 := by
    have e : c + (5 - c) = 5 := by omega
    rw [e] at u1
    exact u1
  have f1 : F_X11_cut N (nI c) (nI j) S = (if x3 = 0 then some (-2, S1) else if nI j = 0 then some (S1.1 9 0, S1) else some (S1.1 9 1, S1)) := by
    unfold F_X11_cut
    rw [if_neg a1, if_neg a2, if_neg (nI_pos (by omega)), if_pos (show nI j ≤ 1 from nI_le (b := 1) hj (by decide)), s1, Option.bind_some]
  have f2 : F_X12_cut N (nI c) (nI j) S1 = (if S3.1 63 48 < 0 then some (S3.1 63 48, S3) else if nI j = 0 then some (S3.1 63 48, S3) else some (S3.1 63 49, S3)) := by
    unfold F_X12_cut
    simp only [hin, hin2, Option.bind_some, if_neg n10]
    show ((FF_X12_cutFrom N (0 : Int32) (nI c) (0 : Int32) S2).bind (fun r_30 => if (r_30.1 63 48) < 0 then (some (r_30.1 63 48, r_30)) else (if nI j = 0 then (some (r_30.1 63 48, r_30)) else (some (r_30.1 63 49, r_30))))) = _
    rw [u1', Option.bind_some]
  have ag2 : Ag S1 S3 := AgO.trans aM.ag u2.ag
  cases o with
  | none =>
    have e1 : x3 = 0 := s3
    have e2 : S3.1 63 48 = -2 := u3
    refine both_ag h (S1 := S1) (S2 := S3) (r := -2) ?_ s2.ag ?_ ag2
    · rw [f1, if_pos e1]
    · rw [f2, if_pos (by rw [e2]; decide), e2]
  | some b =>
    obtain ⟨q0, q1, q2, q3⟩ := s3
    obtain ⟨w0, w1, w2⟩ := u3
    refine both_ag h (S1 := S1) (S2 := S3) (r := if nI j = 0 then nI b else nI (rgs V b)) ?_ s2.ag ?_ ag2
    · rw [f1, if_neg (by rw [q0]; decide), q1, q2]
      by_cases z : nI j = 0
      · rw [if_pos z, if_pos z]
      · rw [if_neg z, if_neg z]
    · rw [f2, if_neg (by rw [w1]; exact nI_pos (by omega)), w1, w2]
      by_cases z : nI j = 0
      · rw [if_pos z, if_pos z]
      · rw [if_neg z, if_neg z]
