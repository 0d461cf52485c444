/-- one step of the reference's pile -/
theorem rl_tok {fc : Nat → Int32} {S : St} {x1 x3 : Int32} {E q : Nat} (hE : (130 * x1) + x3 = nI E) (hq : q < E) (hE2 : E ≤ 390) {t : Nat × Nat} (ht : okT t) {f : Nat → Int32} (h77 : S.2.1 77 q = tkA t) (h78 : S.2.1 78 q = tkW t) (hfc : ∀ j, j < 6 → S.2.1 82 j = fc j) {st : List Int32} (hs : StkR f st) (hl : st.length < 121) {h' : Nat} (hbal : bal [t] st.length = some h') : ∃ g, (∀ m, F_X12_worked_12 (m + 1) x1 x3 (nI st.length) (nI q) (aset S 83 f) = F_X12_worked_12 m x1 x3 (nI h') (nI (q + 1)) (aset S 83 g)) ∧ StkR g (ev1 fc t st) ∧ (ev1 fc t st).length = h' := by
  obtain ⟨t1, t2⟩ := t
  rcases ht with ⟨q1, q2⟩ | ⟨q1, q2⟩ | q1 | q1 | ⟨q1, q2⟩
  · subst q1
    have hb' : st.length + 1 = h' := Option.some.inj hbal
    refine ⟨upd f st.length (nI t2), fun m => ?_, ⟨pk_us, hs.upd (Nat.le_refl _)⟩, hb'⟩
    rw [wk_num (S := aset S 83 f) hE hq hE2 h77 (by omega), hb', aset_aset, aset_get]
    show F_X12_worked_12 m x1 x3 (nI h') (nI (q + 1)) (aset S 83 (upd f st.length (S.2.1 78 q))) = _
    rw [h78]
    rfl
  · subst q1
    have hb' : st.length + 1 = h' := Option.some.inj hbal
    refine ⟨upd f st.length (fc t2), fun m => ?_, ⟨pk_us, hs.upd (Nat.le_refl _)⟩, hb'⟩
    rw [wk_nam (S := aset S 83 f) (j := t2) hE hq hE2 h77 h78 q2 (by omega), hb', aset_aset, aset_get]
    show F_X12_worked_12 m x1 x3 (nI h') (nI (q + 1)) (aset S 83 (upd f st.length (S.2.1 82 t2))) = _
    rw [hfc t2 q2]
  · rw [Prod.mk.injEq] at q1
    obtain ⟨rfl, rfl⟩ := q1
    cases st with
    | nil => cases hbal
    | cons x st =>
      have hb' : st.length + 1 = h' := Option.some.inj hbal
      have hl' : st.length + 1 < 121 := hl
      refine ⟨upd f st.length (if x = 0 then 1 else 0), fun m => ?_, ⟨pk_us, hs.2.upd (Nat.le_refl _)⟩, hb'⟩
      show F_X12_worked_12 (m + 1) x1 x3 (nI (st.length + 1)) (nI q) (aset S 83 f) = _
      rw [wk_not (S := aset S 83 f) (x := x) hE hq hE2 h77 (by rw [aset_get]; exact hs.1) (by omega), hb', aset_aset, aset_get]
  · rw [Prod.mk.injEq] at q1
    obtain ⟨rfl, rfl⟩ := q1
    cases st with
    | nil => cases hbal
    | cons x st =>
      have hb' : st.length + 1 = h' := Option.some.inj hbal
      have hl' : st.length + 1 < 121 := hl
      refine ⟨upd f st.length (-x), fun m => ?_, ⟨pk_us, hs.2.upd (Nat.le_refl _)⟩, hb'⟩
      show F_X12_worked_12 (m + 1) x1 x3 (nI (st.length + 1)) (nI q) (aset S 83 f) = _
      rw [wk_neg (S := aset S 83 f) hE hq hE2 h77 (by omega), hb', aset_aset, aset_get, hs.1]
  · subst q1
    cases st with
    | nil => cases hbal
    | cons x st =>
      cases st with
      | nil => cases hbal
      | cons y st =>
        have hb' : st.length + 1 = h' := Option.some.inj hbal
        have hl' : st.length + 1 + 1 < 121 := hl
        refine ⟨upd f st.length (twoW t2 y x), fun m => ?_, ⟨pk_us, hs.2.2.upd (Nat.le_refl _)⟩, hb'⟩
        show F_X12_worked_12 (m + 1) x1 x3 (nI (st.length + 1 + 1)) (nI q) (aset S 83 f) = _
        have hx : f h' = x := by rw [← hb']; exact hs.1
        rw [wk_two (S := aset S 83 f) q2 hE hq hE2 h77 (by omega), hb', aset_aset, aset_get, hs.2.1, hx]
theorem rl_ev {fc : Nat → Int32} {S : St} {x1 x3 : Int32} {E : Nat} (hE : (130 * x1) + x3 = nI E) (hE2 : E ≤ 390) (hfc : ∀ j, j < 6 → S.2.1 82 j = fc j) {h' : Nat} : ∀ (ts : List (Nat × Nat)) (q : Nat) (st : List Int32) (f : Nat → Int32), (∀ t ∈ ts, okT t) → bal ts st.length = some h' → (∀ i, i < ts.length → S.2.1 77 (q + i) = tkA (ts.getD i (0, 0)) ∧ S.2.1 78 (q + i) = tkW (ts.getD i (0, 0))) → q + ts.length ≤ E → StkR f st → st.length + ts.length ≤ 121 → ∃ g, (∀ m, F_X12_worked_12 (m + ts.length) x1 x3 (nI st.length) (nI q) (aset S 83 f) = F_X12_worked_12 m x1 x3 (nI h') (nI (q + ts.length)) (aset S 83 g)) ∧ StkR g (evT fc ts st) ∧ (evT fc ts st).length = h'
  | [], q, st, f, _, hbal, _, _, hs, _ => by
    have e : st.length = h' := Option.some.inj hbal
    subst e
    exact ⟨f, fun m => rfl, hs, rfl⟩
  | t :: ts, q, st, f, hok, hbal, hr, hp, hs, hl => by
    obtain ⟨h1, b1, b2, b3⟩ := bal_cons hbal
    have hp' : q + (ts.length + 1) ≤ E := hp
    have hl2 : st.length + (ts.length + 1) ≤ 121 := hl
    obtain ⟨r1, r2⟩ := hr 0 (Nat.succ_pos _)
    obtain ⟨g, s1, s3, s4⟩ := rl_tok (fc := fc) hE (show q < E by omega) hE2 (hok t (List.mem_cons_self ..)) r1 r2 hfc hs (by omega) b1
    obtain ⟨g2, u1, u3, u4⟩ := rl_ev hE hE2 hfc ts (q + 1) (ev1 fc t st) g (fun t' h' => hok t' (List.mem_cons_of_mem _ h')) (by rw [s4]; exact b2) (fun i hi => by
      have := hr (i + 1) (Nat.succ_lt_succ hi)
      rw [show q + 1 + i = q + (i + 1) by omega]
      exact this) (by omega) s3 (by omega)
    refine ⟨g2, fun m => ?_, u3, u4⟩
    show F_X12_worked_12 (m + (ts.length + 1)) x1 x3 (nI st.length) (nI q) (aset S 83 f) = F_X12_worked_12 m x1 x3 (nI h') (nI (q + (ts.length + 1))) (aset S 83 g2)
    rw [← Nat.add_assoc, s1, ← s4, u1, show q + 1 + ts.length = q + (ts.length + 1) by omega]
theorem m130 (w k : Nat) : (130 * nI w) + nI k = nI (130 * w + k) := by
  show nI 130 * nI w + nI k = _
  rw [pk_mul, nI_add]
theorem m61 (w k : Nat) : (61 * nI w) + nI k = nI (61 * w + k) := by
  show nI 61 * nI w + nI k = _
  rw [pk_mul, nI_add]
/-- one side of a line worked out -/
theorem rl_worked {N : Nat} (hN : 130 ≤ N) {fc : Nat → Int32} {S : St} {w a : Nat} (hw : w < 2) (hfc : ∀ j, j < 6 → S.2.1 82 j = fc j) {ts : List (Nat × Nat)} (hok : ∀ t ∈ ts, okT t) (hbal : bal ts 0 = some 1) (hr : ∀ i, i < ts.length → S.2.1 77 (130 * w + a + i) = tkA (ts.getD i (0, 0)) ∧ S.2.1 78 (130 * w + a + i) = tkW (ts.getD i (0, 0))) (hl : a + ts.length ≤ 121) (f : Nat → Int32) : ∃ g, F_X12_worked N (nI w) (nI a) (nI (a + ts.length)) (aset S 83 f) = some ((evT fc ts []).headD 0, aset S 83 g) := by
  obtain ⟨g, s1, s2, s3⟩ := rl_ev (E := 130 * w + (a + ts.length)) (m130 w (a + ts.length)) (by omega) hfc ts (130 * w + a) [] f hok hbal hr (by omega) trivial (by show 0 + _ ≤ _; omega)
  refine ⟨g, ?_⟩
  unfold F_X12_worked
  rw [m130, show N = (N - ts.length - 1 + 1) + ts.length by omega]
  have s1' := s1 (N - ts.length - 1 + 1)
  have s1'' : F_X12_worked_12 (N - ts.length - 1 + 1 + ts.length) (nI w) (nI (a + ts.length)) 0 (nI (130 * w + a)) (aset S 83 f) = _ := s1'
  rw [s1'']
  show (if ((130 * nI w) + nI (a + ts.length)) ≤ nI (130 * w + a + ts.length) then gd (inb (0 : Int32) 130) (some ((aset S 83 g).2.1 83 (Int32.toNatClampNeg (0 : Int32)), aset S 83 g)) else _) = _
  rw [m130, if_pos (by rw [Nat.add_assoc]; exact Int32.le_refl _), gd_t (by decide), aset_get]
  rw [one_of s3] at s2
  have hg : g 0 = (evT fc ts []).headD 0 := s2.1
  rw [← hg]
  rfl
/-! where the lines of a law lie -/
theorem toks_cons (q : List (Nat × Nat) × List (Nat × Nat)) (P : List (List (Nat × Nat) × List (Nat × Nat))) : toks (q :: P) = (q.1 ++ q.2) ++ toks P := rfl
theorem offL_0 (P : List (List (Nat × Nat) × List (Nat × Nat))) : offL P 0 = 0 := rfl
theorem offL_cons (q : List (Nat × Nat) × List (Nat × Nat)) (P : List (List (Nat × Nat) × List (Nat × Nat))) (k : Nat) : offL (q :: P) (k + 1) = (q.1.length + q.2.length) + offL P k := by
  unfold offL
  rw [List.take_succ_cons, toks_cons, List.length_append, List.length_append]
theorem offL_succ : ∀ (P : List (List (Nat × Nat) × List (Nat × Nat))) (k : Nat), k < P.length → offL P (k + 1) = offL P k + (P.getD k ([], [])).1.length + (P.getD k ([], [])).2.length
  | [], k, h => absurd h (Nat.not_lt_zero k)
  | q :: P, 0, _ => by
    rw [offL_cons, offL_0, offL_0]
    show q.1.length + q.2.length + 0 = 0 + q.1.length + q.2.length
    omega
  | q :: P, k + 1, h => by
    rw [offL_cons, offL_cons, offL_succ P k (Nat.lt_of_succ_lt_succ h)]
    show _ = q.1.length + q.2.length + offL P k + (P.getD k ([], [])).1.length + (P.getD k ([], [])).2.length
    omega
theorem toks_at : ∀ (P : List (List (Nat × Nat) × List (Nat × Nat))) (k i : Nat), k < P.length → i < (P.getD k ([], [])).1.length + (P.getD k ([], [])).2.length → offL P k + i < (toks P).length ∧ (toks P).getD (offL P k + i) (0, 0) = ((P.getD k ([], [])).1 ++ (P.getD k ([], [])).2).getD i (0, 0)
  | [], k, i, h, _ => absurd h (Nat.not_lt_zero k)
  | q :: P, 0, i, _, hi => by
    have hi' : i < q.1.length + q.2.length := hi
    rw [offL_0, toks_cons, Nat.zero_add]
    show i < _ ∧ _ = (q.1 ++ q.2).getD i (0, 0)
    have hl : i < (q.1 ++ q.2).length := by rw [List.length_append]; exact hi'
    refine ⟨by rw [List.length_append]; omega, ?_⟩
    rw [List.getD_eq_getElem?_getD, List.getD_eq_getElem?_getD, List.getElem?_append_left hl]
  | q :: P, k + 1, i, h, hi => by
    obtain ⟨h1, h2⟩ := toks_at P k i (Nat.lt_of_succ_lt_succ h) hi
    rw [offL_cons, toks_cons]
    have el : (q.1 ++ q.2).length = q.1.length + q.2.length := List.length_append
    refine ⟨by rw [List.length_append, el]; omega, ?_⟩
    rw [List.getD_eq_getElem?_getD, List.getElem?_append_right (by rw [el]; omega), el, show q.1.length + q.2.length + offL P k + i - (q.1.length + q.2.length) = offL P k + i by omega, ← List.getD_eq_getElem?_getD]
    exact h2
theorem toks_le : ∀ (P : List (List (Nat × Nat) × List (Nat × Nat))), (toks P).length + P.length ≤ (codeC P).length
  | [] => Nat.le_refl _
  | q :: P => by
    have := toks_le P
    rw [toks_cons, codeC_cons]
    simp only [List.length_append, List.length_map, List.length_cons, List.length_nil]
    omega
theorem offL_le (P : List (List (Nat × Nat) × List (Nat × Nat))) (k : Nat) : offL P k ≤ (toks P).length := by
  unfold offL
  conv => rhs; rw [← List.take_append_drop k P]
  unfold toks
  rw [List.flatMap_append, List.length_append]
  exact Nat.le_add_right _ _
