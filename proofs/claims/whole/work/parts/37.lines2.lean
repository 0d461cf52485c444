def mbB (e : Nat → Int32) (a : Nat) : Bool := decide ((¬ e a < 0 ∧ ¬ 6 ≤ e a) ∧ ¬ e (a + 1) < 0 ∧ ¬ 10 ≤ e (a + 1) ∧ ¬ e (a + 2) < 0 ∧ ¬ 10 ≤ e (a + 2) ∧ ¬ e (a + 3) < 1 ∧ ¬ 30 < e (a + 3) ∧ ¬ e (a + 4) < 0 ∧ ¬ 255 < e (a + 4))
def cN (x : Int32) : Nat := Int32.toNatClampNeg x
def linesP (e : Nat → Int32) (z i : Nat) : Nat → Nat → (Nat → Nat → Nat) → Nat × (Nat → Nat → Nat)
  | 0, k, V => (k, V)
  | m + 1, k, V => if i + 5 * (k + 1) ≤ z ∧ mbB e (i + 5 * k) = true ∧ V 8 0 < 20 then linesP e z i m (k + 1) (addV V (100 * cN (e (i + 5 * k)) + 10 * cN (e (i + 5 * k + 1)) + cN (e (i + 5 * k + 2))) (cN (e (i + 5 * k + 3))) (cN (e (i + 5 * k + 4))) 0) else (k, V)
theorem mbD_nat {e : Nat → Int32} {a : Nat} (h : mbB e a = true) : ∃ p c l s t : Nat, e a = nI p ∧ e (a + 1) = nI c ∧ e (a + 2) = nI l ∧ e (a + 3) = nI s ∧ e (a + 4) = nI t ∧ p < 6 ∧ c < 10 ∧ l < 10 ∧ 1 ≤ s ∧ s ≤ 30 ∧ t < 256 := by
  obtain ⟨⟨h1, h2⟩, h3, h4, h5, h6, h7, h8, h9, h10⟩ := of_decide_eq_true h
  have lo : ∀ {x : Int32} {b : Nat}, b < 2 ^ 31 → ¬ x < 0 → ¬ nI b ≤ x → ∃ j, j < b ∧ x = nI j := by
    intro x b hb q1 q2
    obtain ⟨j, hj, rfl⟩ := nI_of q1
    exact ⟨j, Nat.not_le.mp fun q => q2 (nI_le q hj), rfl⟩
  obtain ⟨p, hp, ep⟩ := lo (b := 6) (by decide) h1 h2
  obtain ⟨c, hc, ec⟩ := lo (b := 10) (by decide) h3 h4
  obtain ⟨l, hl, el⟩ := lo (b := 10) (by decide) h5 h6
  obtain ⟨s, hs, es⟩ := nI_of2 (x := e (a + 3)) (n := 30) (by decide) (fun z => h7 (Int32.lt_trans z (by decide))) (Int32.not_lt.mp h8)
  obtain ⟨t, ht, et⟩ := nI_of2 (x := e (a + 4)) (n := 255) (by decide) h9 (Int32.not_lt.mp h10)
  refine ⟨p, c, l, s, t, ep, ec, el, es, et, hp, hc, hl, Nat.not_lt.mp fun z => h7 ?_, hs, by omega⟩
  rw [es]
  exact nI_lt (b := 1) z (by decide)
theorem F_intAt {S : St} {b z a : Nat} (hz : S.1 (14 + b) 3 = nI z) (hz2 : z ≤ 60) (ha : a < z) : F_X9_intAt b (nI a) S = some (Int64.toInt32 (S.2.2 (57 + b) a), S) := by
  have i60 : inb (nI a) 60 = true := inb_nI (by omega) (by decide)
  unfold F_X9_intAt
  rw [if_neg (nI_pos (by omega)), hz, if_neg (nI_ge ha (by omega)), gd_t i60, nI_clamp (by omega)]
theorem addRow_eq {S : St} {b z a : Nat} (hz : S.1 (14 + b) 3 = nI z) (hz2 : z ≤ 60) (ha : a + 5 ≤ z) {e : Nat → Int32} (he : ∀ j, j < 60 → e j = Int64.toInt32 (S.2.2 (57 + b) j)) : F_X11_addFromRow b (nI a) S = if mbB e a = true then (if S.1 1 0 < 20 then (F_X8_add (((100 * e a) + (10 * e (a + 1))) + e (a + 2)) (e (a + 3)) (e (a + 4)) 0 S).bind (fun r => some ((1 : Int32), r.2)) else some (0, S)) else some (0, S) := by
  have n10 : ¬ (1 : Int32) = 0 := by decide
  have i0 : F_X9_intAt b (nI a) S = some (e a, S) := by rw [F_intAt hz hz2 (by omega), he a (by omega)]
  have i1 : F_X9_intAt b (nI a + 1) S = some (e (a + 1), S) := by rw [nI_1, F_intAt hz hz2 (by omega), he _ (by omega)]
  have i2 : F_X9_intAt b (nI a + 2) S = some (e (a + 2), S) := by rw [show nI a + 2 = nI (a + 2) from nI_add a 2, F_intAt hz hz2 (by omega), he _ (by omega)]
  have i3 : F_X9_intAt b (nI a + 3) S = some (e (a + 3), S) := by rw [show nI a + 3 = nI (a + 3) from nI_add a 3, F_intAt hz hz2 (by omega), he _ (by omega)]
  have i4 : F_X9_intAt b (nI a + 4) S = some (e (a + 4), S) := by rw [show nI a + 4 = nI (a + 4) from nI_add a 4, F_intAt hz hz2 (by omega), he _ (by omega)]
  unfold F_X11_addFromRow
  rw [i0, Option.bind_some]
  dsimp only
  rw [i1, Option.bind_some]
  dsimp only
  rw [i2, Option.bind_some]
  dsimp only
  rw [i3, Option.bind_some]
  dsimp only
  rw [i4, Option.bind_some]
  dsimp only
  rw [F_mayBe, Option.bind_some]
  dsimp only
  by_cases hm : mbB e a = true
  · rw [if_pos hm, mI_t (of_decide_eq_true hm), if_neg n10]
    unfold F_X8_isFull
    by_cases hf : S.1 1 0 < 20
    · rw [if_pos hf, if_pos hf, Option.bind_some]
      dsimp only
      rw [if_pos rfl]
    · rw [if_neg hf, if_neg hf, Option.bind_some]
      dsimp only
      rw [if_neg n10]
  · rw [if_neg hm, mI_f (fun q => hm (decide_eq_true q)), if_pos rfl]
theorem cl_lines {b z i n : Nat} (hb : b < 6) (hz : z ≤ 60) (hi : i < 2 ^ 31) (hn : n ≤ 12) {e : Nat → Int32} : ∀ (m k N : Nat) (V : Nat → Nat → Nat) (S : St), k + m = n → m < N → OKV V → ClP S V → S.1 (14 + b) 3 = nI z → (∀ j, j < 60 → e j = Int64.toInt32 (S.2.2 (57 + b) j)) →
    ∃ S1, F_X11_lines_53 N (nI i) (nI n) b (nI k) S = some (nI (linesP e z i m k V).1, S1) ∧ OKV (linesP e z i m k V).2 ∧ V 8 0 ≤ (linesP e z i m k V).2 8 0 ∧ ClP S1 (linesP e z i m k V).2 ∧ AgO nfC naC lAll S S1 := by
  intro m
  induction m with
  | zero =>
    intro k N V S hk hN ok hc _ _
    obtain ⟨N, rfl⟩ : ∃ M, N = M + 1 := ⟨N - 1, by omega⟩
    refine ⟨S, ?_, ok, Nat.le_refl _, hc, AgO.rfl⟩
    show (if nI n ≤ nI k then some (nI n, S) else _) = _
    rw [if_pos (nI_le (by omega) (by omega))]
    show some (nI n, S) = some (nI k, S)
    rw [show k = n by omega]
  | succ m ih =>
    intro k N V S hk hN ok hc hsz he
    obtain ⟨N, rfl⟩ : ∃ M, N = M + 1 := ⟨N - 1, by omega⟩
    have e1 : (S.1 (14 + b) 3 - 5 * (nI k + 1) < nI i) ↔ ¬ i + 5 * (k + 1) ≤ z := by
      rw [hsz, nI_1, show 5 * nI (k + 1) = nI (5 * (k + 1)) from pk_mul 5 (k + 1), Int32.lt_iff_toInt_lt, pk_sub_toInt (by omega) (by omega), nI_toInt hi]
      omega
    have e2 : nI i + 5 * nI k = nI (i + 5 * k) := by rw [show 5 * nI k = nI (5 * k) from pk_mul 5 k, nI_add]
    have st : F_X11_lines_53 (N + 1) (nI i) (nI n) b (nI k) S = if ((S.1 (14 + b) 3) - (5 * (nI k + 1))) < nI i then (some (nI k, S)) else ((F_X11_addFromRow b (nI (i + 5 * k)) S).bind (fun r_88 => if r_88.1 = 0 then (some (nI k, r_88.2)) else ((F_X11_lines_53 N) (nI i) (nI n) b (nI (k + 1)) r_88.2))) := by
      show (if nI n ≤ nI k then (some (nI n, S)) else (if nI i < 0 then (some (nI k, S)) else (if ((S.1 (14 + b) 3) - (5 * (nI k + 1))) < nI i then (some (nI k, S)) else ((F_X11_addFromRow b (nI i + (5 * nI k)) S).bind (fun r_88 => if r_88.1 = 0 then (some (nI k, r_88.2)) else ((F_X11_lines_53 N) (nI i) (nI n) b (nI k + 1) r_88.2)))))) = _
      rw [if_neg (nI_ge (by omega) (by omega)), if_neg (nI_pos hi), e2, nI_1]
    rw [st]
    unfold linesP
    by_cases h1 : i + 5 * (k + 1) ≤ z
    · rw [if_neg (fun q => e1.mp q h1), addRow_eq hsz hz (by omega) he]
      by_cases h2 : mbB e (i + 5 * k) = true
      · rw [if_pos h2]
        by_cases h3 : V 8 0 < 20
        · have hf : S.1 1 0 < 20 := by rw [hc.1]; exact nI_lt (b := 20) h3 (by decide)
          rw [if_pos hf, if_pos ⟨h1, h2, h3⟩]
          obtain ⟨p, c, l, s, t, ep, ec, el, es, et, hp, hcc, hl, hs1, hs2, ht⟩ := mbD_nat h2
          have ex : ((100 * nI p) + (10 * nI c)) + nI l = nI (100 * p + 10 * c + l) := by
            rw [show 100 * nI p = nI (100 * p) from pk_mul 100 p, show 10 * nI c = nI (10 * c) from pk_mul 10 c, nI_add, nI_add]
          have c1 : cN (nI p) = p := nI_clamp (by omega)
          have c2 : cN (nI c) = c := nI_clamp (by omega)
          have c3 : cN (nI l) = l := nI_clamp (by omega)
          have c4 : cN (nI s) = s := nI_clamp (by omega)
          have c5 : cN (nI t) = t := nI_clamp (by omega)
          rw [ep, ec, el, es, et, ex, c1, c2, c3, c4, c5]
          obtain ⟨ok', S1, r1, hc1, ag1⟩ := cl_add (p := 100 * p + 10 * c + l) (s := s) (t := t) (e := 0) ok hc h3 (by omega) hs1 hs2 ht (by decide)
          have r1' : F_X8_add (nI (100 * p + 10 * c + l)) (nI s) (nI t) 0 S = some (nI (V 8 0), S1) := r1
          rw [r1', Option.bind_some, Option.bind_some]
          dsimp only
          rw [if_neg (by decide)]
          have hsz' : S1.1 (14 + b) 3 = nI z := by
            rw [ag1.1 (14 + b) 3 ((by decide : ∀ b, b < 6 → nfC (14 + b) 3 = true) b hb)]; exact hsz
          have he' : ∀ j, j < 60 → e j = Int64.toInt32 (S1.2.2 (57 + b) j) := fun j hj => by
            rw [ag1.2.2 (57 + b) rfl]; exact he j hj
          obtain ⟨S2, q1, q2, q3, q4, q5⟩ := ih (k + 1) N _ S1 (by omega) (by omega) ok' hc1 hsz' he'
          exact ⟨S2, q1, q2, Nat.le_trans (show V 8 0 ≤ V 8 0 + 1 by omega) q3, q4, ag1.trans q5⟩
        · have hf : ¬ S.1 1 0 < 20 := by rw [hc.1]; exact nI_nlt (b := 20) (by omega) (by have := ok.1; omega)
          rw [if_neg hf, if_neg (fun q => h3 q.2.2), Option.bind_some]
          dsimp only
          rw [if_pos rfl]
          exact ⟨S, rfl, ok, Nat.le_refl _, hc, AgO.rfl⟩
      · rw [if_neg h2, if_neg (fun q => h2 q.2.1), Option.bind_some]
        dsimp only
        rw [if_pos rfl]
        exact ⟨S, rfl, ok, Nat.le_refl _, hc, AgO.rfl⟩
    · rw [if_pos (e1.mpr h1), if_neg (fun q => h1 q.1)]
      exact ⟨S, rfl, ok, Nat.le_refl _, hc, AgO.rfl⟩
