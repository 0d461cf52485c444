theorem InvV.parts {S : St} {V : Nat → Nat → Nat} {kd : List Nat} (h : InvV S V kd) : OKV V ∧ ClP S V ∧ RlP S V ∧ ∃ L0 L1 : LawT, WfL L0 ∧ WfL L1 ∧ ClL S 0 L0 ∧ ClL S 1 L1 ∧ RlL S 0 L0 ∧ RlL S 1 L1 := by
  obtain ⟨ok, hc, hr⟩ := play_iff.mp h.1
  obtain ⟨L0, a1, a2, a3⟩ := h.2.2.2.2.2.2.2.2.1.law
  obtain ⟨L1, b1, b2, b3⟩ := h.2.2.2.2.2.2.2.2.2.law
  exact ⟨ok, hc, hr, L0, L1, a1, b1, a2, b2, a3, b3⟩
theorem cnt_succ (p : Nat → Bool) (n : Nat) : cnt p (n + 1) = cnt p n + (if p n = true then 1 else 0) := rfl
/-! lines of a part -/
theorem cl_ofPart {S : St} {V : Nat → Nat → Nat} (ok : OKV V) (hc : ClP S V) {q : Nat} (hq : q < 6) : ∀ (m i n : Nat), i + m = V 8 0 → m < n → F_X8_linesOfPart_4 n (nI q) (nI (cnt (fun o => decide (V 0 o = q)) i)) (nI i) S = some (nI (cnt (fun o => decide (V 0 o = q)) (V 8 0)), S)
  | m, i, 0, _, hn => absurd hn (Nat.not_lt_zero m)
  | 0, i, n + 1, hi, hn => by
    have e : i = V 8 0 := hi
    show (if (S.1 1 0) ≤ nI i then _ else _) = _
    rw [if_pos (by rw [hc.1, e]; exact Int32.le_refl _), e]
  | m + 1, i, n + 1, hi, hn => by
    have h20 := ok.1
    have ih := cl_ofPart ok hc hq m (i + 1) n (by omega) (by omega)
    have hii : i < V 8 0 := by omega
    have e1 := (hc.2.2.2.1 i hii).1
    have b1 := (ok.2.2.2.1 i hii).1
    have hge : ¬ S.1 1 0 ≤ nI i := by rw [hc.1]; exact nI_ge hii (by omega)
    show (if (S.1 1 0) ≤ nI i then _ else (gd (inb (nI i) 20) (if (S.2.1 21 (Int32.toNatClampNeg (nI i))) = nI q then (F_X8_linesOfPart_4 n (nI q) (nI _ + 1) (nI i + 1) S) else (F_X8_linesOfPart_4 n (nI q) (nI _) (nI i + 1) S)))) = _
    rw [if_neg hge, gd_t (inb_nI (by omega) (by decide)), nI_clamp (by omega), e1, nI_1, nI_1, ← ih, cnt_succ]
    by_cases c : V 0 i = q
    · rw [if_pos (by rw [c]), if_pos (by simp [c])]
    · rw [if_neg (fun z => c (nI_inj (by omega) (by omega) z)), if_neg (by simp [c])]; rfl
theorem rl_ofPart {S : St} {V : Nat → Nat → Nat} (ok : OKV V) (hr : RlP S V) {q : Nat} (hq : q < 6) : ∀ (m i n : Nat), i + m = V 8 0 → m < n → F_X12_linesOf_4 n (nI q) (nI (cnt (fun o => decide (V 0 o = q)) i)) (nI i) S = some (nI (cnt (fun o => decide (V 0 o = q)) (V 8 0)), S)
  | m, i, 0, _, hn => absurd hn (Nat.not_lt_zero m)
  | 0, i, n + 1, hi, hn => by
    have e : i = V 8 0 := hi
    show (if (S.1 63 1) ≤ nI i then _ else _) = _
    rw [if_pos (by rw [hr.1, e]; exact Int32.le_refl _), e]
  | m + 1, i, n + 1, hi, hn => by
    have h20 := ok.1
    have ih := rl_ofPart ok hr hq m (i + 1) n (by omega) (by omega)
    have hii : i < V 8 0 := by omega
    have e1 := (hr.2.2.2.1 i hii).1
    have b1 := (ok.2.2.2.1 i hii).1
    have hge : ¬ S.1 63 1 ≤ nI i := by rw [hr.1]; exact nI_ge hii (by omega)
    show (if (S.1 63 1) ≤ nI i then _ else (gd (inb (nI i) 20) (if (S.2.1 64 (Int32.toNatClampNeg (nI i))) = nI q then (F_X12_linesOf_4 n (nI q) (nI _ + 1) (nI i + 1) S) else (F_X12_linesOf_4 n (nI q) (nI _) (nI i + 1) S)))) = _
    rw [if_neg hge, gd_t (inb_nI (by omega) (by decide)), nI_clamp (by omega), e1, nI_1, nI_1, ← ih, cnt_succ]
    by_cases c : V 0 i = q
    · rw [if_pos (by rw [c]), if_pos (by simp [c])]
    · rw [if_neg (fun z => c (nI_inj (by omega) (by omega) z)), if_neg (by simp [c])]; rfl
/-! jumps of the reference -/
theorem rl_isJump {S : St} {V : Nat → Nat → Nat} (ok : OKV V) (hr : RlP S V) {i j : Nat} (hi : i < V 8 0) (hj : j < V 8 0) : F_X12_isJump (nI i) (nI j) S = some (bI (jpB V i j), S) := by
  have h20 := ok.1
  have e1 := (hr.2.2.2.1 j hj).2.1
  have e2 := (hr.2.2.2.1 i hi).2.2.1
  have b1 := (ok.2.2.2.1 j hj).2.1
  have b2 := (ok.2.2.2.1 i hi).2.2.1
  unfold F_X12_isJump jpB
  rw [gd_t (inb_nI (by omega) (by decide)), gd_t (inb_nI (by omega) (by decide)), nI_clamp (n := j) (by omega), nI_clamp (n := i) (by omega), e1, e2, nI_1]
  by_cases c : V 1 j = V 2 i
  · rw [if_pos (by rw [c])]
    by_cases d : j = i
    · rw [if_pos (by rw [d]), bI_f (by simp [d])]
    · rw [if_neg (fun z => d (nI_inj (by omega) (by omega) z))]
      by_cases e : j = i + 1
      · rw [if_pos (by rw [e]), bI_f (by simp [e])]
      · rw [if_neg (fun z => e (nI_inj (by omega) (by omega) z)), bI_t (by simp [c, d, e])]
  · rw [if_neg (fun z => c (nI_inj (by omega) (by omega) z)), bI_f (by simp [c])]
theorem rl_jumpsFrom {S : St} {V : Nat → Nat → Nat} (ok : OKV V) (hr : RlP S V) {k : Nat} (hk : k < V 8 0) : ∀ (m i n : Nat), i + m = V 8 0 → m < n → F_X12_jumpsFrom_4 n (nI k) (nI (cnt (jpB V k) i)) (nI i) S = some (nI (cnt (jpB V k) (V 8 0)), S)
  | m, i, 0, _, hn => absurd hn (Nat.not_lt_zero m)
  | 0, i, n + 1, hi, hn => by
    have e : i = V 8 0 := hi
    show (if (S.1 63 1) ≤ nI i then _ else _) = _
    rw [if_pos (by rw [hr.1, e]; exact Int32.le_refl _), e]
  | m + 1, i, n + 1, hi, hn => by
    have h20 := ok.1
    have ih := rl_jumpsFrom ok hr hk m (i + 1) n (by omega) (by omega)
    have hii : i < V 8 0 := by omega
    have hge : ¬ S.1 63 1 ≤ nI i := by rw [hr.1]; exact nI_ge hii (by omega)
    show (if (S.1 63 1) ≤ nI i then _ else ((F_X12_isJump (nI k) (nI i) S).bind (fun r => if r.1 = 0 then (F_X12_jumpsFrom_4 n (nI k) (nI _) (nI i + 1) r.2) else (F_X12_jumpsFrom_4 n (nI k) (nI _ + 1) (nI i + 1) r.2)))) = _
    rw [if_neg hge, rl_isJump ok hr hk hii, Option.bind_some, nI_1, nI_1, ← ih, cnt_succ]
    by_cases c : jpB V k i = true
    · rw [if_neg (bI_ne.mpr c), if_pos c]
    · rw [if_pos (bI_0.mpr (Bool.eq_false_iff.mpr c)), if_neg c]; rfl
theorem rl_jf {N : Nat} (hN : 130 ≤ N) {S : St} {V : Nat → Nat → Nat} (ok : OKV V) (hr : RlP S V) {k : Nat} (hk : k < V 8 0) : F_X12_jumpsFrom N (nI k) S = some (nI (cnt (jpB V k) (V 8 0)), S) := by
  have h20 := ok.1
  exact rl_jumpsFrom ok hr hk (V 8 0) 0 N (by omega) (by omega)
theorem in_1011 {x : Int32} (h1 : ¬ x < 10) (h2 : ¬ 11 < x) : x = 10 ∨ x = 11 := by
  have h0 : ¬ x < 0 := fun q => h1 (Int32.lt_trans q (by decide))
  obtain ⟨j, hj, rfl⟩ := nI_of2 (M := 11) (n := 11) (by decide) h0 (Int32.not_lt.mp h2)
  have h3 : ¬ j < 10 := fun q => h1 (nI_lt (b := 10) q (by decide))
  rcases (show j = 10 ∨ j = 11 by omega) with rfl | rfl
  · exact Or.inl rfl
  · exact Or.inr rfl
/-- of -/
theorem st_of {N : Nat} (hN : 130 ≤ N) {S : St} (h : Inv S) (x y : Int32) : Both (F_X11_of N x y) (F_X12_of N x y) S := by
  obtain ⟨V, kd, hI⟩ := id h
  obtain ⟨ok, hc, hr, L0, L1, w0, w1, c0, c1, r0, r1⟩ := hI.parts
  have h20 := ok.1
  by_cases hy : y = 10 ∨ y = 11
  · have hin : F_X12_in y (10 : Int32) (11 : Int32) S = some (1, S) := by
      rw [F_in]
      rcases hy with rfl | rfl <;> rfl
    have e1 : F_X11_of N x y S = F_X11_of_12 N x y S := by
      unfold F_X11_of
      by_cases q : y = 10
      · rw [if_pos q]
      · rw [if_neg q, if_pos (hy.resolve_left q)]
    rcases line_or x 6 with ⟨q, hq, rfl⟩ | hx
    · have e2 : F_X8_linesOfPart N (nI q) S = some (nI (cnt (fun o => decide (V 0 o = q)) (V 8 0)), S) := cl_ofPart ok hc hq (V 8 0) 0 N (by omega) (by omega)
      have e3 : F_X12_linesOf N (nI q) S = some (nI (cnt (fun o => decide (V 0 o = q)) (V 8 0)), S) := rl_ofPart ok hr hq (V 8 0) 0 N (by omega) (by omega)
      refine both_ro h (r := if y = 10 then nI (V 7 q) else nI (cnt (fun o => decide (V 0 o = q)) (V 8 0))) ?_ ?_
      · rw [e1]
        unfold F_X11_of_12
        simp only [F_part_t hq, Option.bind_some, if_neg (show ¬ (1 : Int32) = 0 by decide), gd_t (inb_nI hq (by decide)), nI_clamp (show q < 2 ^ 31 by omega), hc.2.2.2.2.1 q hq, e2]
        by_cases q : y = 10
        · simp only [if_pos q]
        · simp only [if_neg q]
      · unfold F_X12_of
        simp only [hin, F_part12_t hq, Option.bind_some, if_neg (show ¬ (1 : Int32) = 0 by decide), gd_t (inb_nI hq (by decide)), nI_clamp (show q < 2 ^ 31 by omega), hr.2.2.2.2 q hq, e3]
        by_cases q : y = 10
        · simp only [if_pos q]
        · simp only [if_neg q]
    · refine both_ro h (r := -1) ?_ ?_
      · rw [e1]
        unfold F_X11_of_12
        simp only [F_part_f hx, Option.bind_some, if_true]
      · unfold F_X12_of
        simp only [hin, F_part12_f hx, Option.bind_some, if_true, if_neg (show ¬ (1 : Int32) = 0 by decide)]
  · have hn10 : ¬ y = 10 := fun q => hy (Or.inl q)
    have hn11 : ¬ y = 11 := fun q => hy (Or.inr q)
    have hin : F_X12_in y (10 : Int32) (11 : Int32) S = some (0, S) := by
      rw [F_in, bI_f (decide_eq_false (fun q => hy (in_1011 q.1 q.2)))]
    have n10 : ¬ (1 : Int32) = 0 := by decide
    rcases line_or x (V 8 0) with ⟨k, hk, rfl⟩ | hx
    · have t1 := F_has8_t hc.1 h20 hk
      have t2 := F_isLine_t hk h20 hr.1
      have hik : inb (nI k) 20 = true := inb_nI (by omega) (by decide)
      have hck : Int32.toNatClampNeg (nI k) = k := nI_clamp (by omega)
      obtain ⟨a21, a22, a23, a24, a25, a26, a27⟩ := hc.2.2.2.1 k hk
      obtain ⟨b21, b22, b23, b24, b25, b26, b27⟩ := hr.2.2.2.1 k hk
      have f1 : F_X11_of N (nI k) y S = (F_X8_about N (nI k) y S).bind (fun r => some (r.1, r.2)) := by
        unfold F_X11_of
        simp only [if_neg hn10, if_neg hn11, t1, Option.bind_some, if_neg n10]
      by_cases y0 : y = 0
      · subst y0
        refine both_ro h (r := nI (V 0 k)) ?_ ?_
        · rw [f1]; unfold F_X8_about; rw [if_pos rfl, gd_t hik, hck, a21]; rfl
        · unfold F_X12_of; simp only [hin, t2, Option.bind_some, if_neg n10, if_true, gd_t hik, hck, b21]
      by_cases y1 : y = 1
      · subst y1
        refine both_ro h (r := nI (V 1 k)) ?_ ?_
        · rw [f1]; unfold F_X8_about; rw [if_neg y0, if_pos rfl, gd_t hik, hck, a22]; rfl
        · unfold F_X12_of; simp only [hin, t2, Option.bind_some, if_neg n10, if_true, gd_t hik, hck, b22]
      by_cases y2 : y = 2
      · subst y2
        refine both_ro h (r := nI (V 2 k)) ?_ ?_
        · rw [f1]; unfold F_X8_about; rw [if_neg y0, if_neg y1, if_pos rfl, gd_t hik, hck, a23]; rfl
        · unfold F_X12_of; simp only [hin, t2, Option.bind_some, if_neg n10, if_neg y0, if_neg y1, if_true, gd_t hik, hck, b23]
      by_cases y3 : y = 3
      · subst y3
        refine both_ro h (r := nI (V 3 k)) ?_ ?_
        · rw [f1]; unfold F_X8_about; rw [if_neg y0, if_neg y1, if_neg y2, if_pos rfl, gd_t hik, hck, a24]; rfl
        · unfold F_X12_of; simp only [hin, t2, Option.bind_some, if_neg n10, if_neg y0, if_neg y1, if_neg y2, if_true, gd_t hik, hck, b24]
      by_cases y4 : y = 4
      · subst y4
        refine both_ro h (r := nI (V 4 k)) ?_ ?_
        · rw [f1]; unfold F_X8_about; rw [if_neg y0, if_neg y1, if_neg y2, if_neg y3, if_pos rfl, gd_t hik, hck, a25]; rfl
        · unfold F_X12_of; simp only [hin, t2, Option.bind_some, if_neg n10, if_neg y0, if_neg y1, if_neg y2, if_neg y3, if_true, gd_t hik, hck, b25]
      by_cases y5 : y = 5
      · subst y5
        refine both_ro h (r := nI (V 5 k)) ?_ ?_
        · rw [f1]; unfold F_X8_about; rw [if_neg y0, if_neg y1, if_neg y2, if_neg y3, if_neg y4, if_pos rfl, gd_t hik, hck, a26]; rfl
        · unfold F_X12_of; simp only [hin, t2, Option.bind_some, if_neg n10, if_neg y0, if_neg y1, if_neg y2, if_neg y3, if_neg y4, if_true, gd_t hik, hck, b26]
      by_cases y6 : y = 6
      · subst y6
        refine both_ro h (r := nI (V 6 k)) ?_ ?_
        · rw [f1]; unfold F_X8_about; rw [if_neg y0, if_neg y1, if_neg y2, if_neg y3, if_neg y4, if_neg y5, if_pos rfl, gd_t hik, hck, a27]; rfl
        · unfold F_X12_of; simp only [hin, t2, Option.bind_some, if_neg n10, if_neg y0, if_neg y1, if_neg y2, if_neg y3, if_neg y4, if_neg y5, if_true, gd_t hik, hck, b27]
      by_cases y7 : y = 7
      · subst y7
        obtain ⟨S1, s1, s2⟩ := cl_knows hN ok hc w0 c0 hk
        obtain ⟨S2, s3, s4⟩ := rl_knows hN ok (s2.rl hr) w0 (s2.rll r0) hk
        have t2' := F_isLine_t hk h20 (s2.rl hr).1
        have hin' : F_X12_in 7 (10 : Int32) (11 : Int32) S1 = some (0, S1) := by rw [F_in]; rfl
        refine both_ag h (r := nI (knW L0 V k)) (S1 := S1) (S2 := S2) ?_ s2.ag ?_ s4.ag
        · rw [f1]; unfold F_X8_about; rw [if_neg y0, if_neg y1, if_neg y2, if_neg y3, if_neg y4, if_neg y5, if_neg y6, if_pos rfl, s1]; rfl
        · unfold F_X12_of; simp only [hin', t2', Option.bind_some, if_neg n10, if_neg y0, if_neg y1, if_neg y2, if_neg y3, if_neg y4, if_neg y5, if_neg y6, if_true, s3]
      by_cases y8 : y = 8
      · subst y8
        have b6 : V 6 k < 101 := (ok.2.2.2.1 k hk).2.2.2.2.2.2.2
        obtain ⟨S1, s1, s2⟩ := cl_gains (h := V 6 k) hN ok hc w1 c1 hk (by omega)
        obtain ⟨S2, s3, s4⟩ := rl_gains hN ok (s2.rl hr) w1 (s2.rll r1) hk
        have t2' := F_isLine_t hk h20 (s2.rl hr).1
        have hin' : F_X12_in 8 (10 : Int32) (11 : Int32) S1 = some (0, S1) := by rw [F_in]; rfl
        refine both_ag h (r := nI (gnW L1 V k (V 6 k))) (S1 := S1) (S2 := S2) ?_ s2.ag ?_ s4.ag
        · rw [f1]; unfold F_X8_about; rw [if_neg y0, if_neg y1, if_neg y2, if_neg y3, if_neg y4, if_neg y5, if_neg y6, if_neg y7, if_pos rfl, gd_t hik, hck, a27, s1]; rfl
        · unfold F_X12_of; simp only [hin', t2', Option.bind_some, if_neg n10, if_neg y0, if_neg y1, if_neg y2, if_neg y3, if_neg y4, if_neg y5, if_neg y6, if_neg y7, if_true, s3]
      by_cases y9 : y = 9
      · subst y9
        refine both_ro h (r := nI (cnt (jpB V k) (V 8 0))) ?_ ?_
        · rw [f1]; unfold F_X8_about; rw [if_neg y0, if_neg y1, if_neg y2, if_neg y3, if_neg y4, if_neg y5, if_neg y6, if_neg y7, if_neg y8, if_pos rfl, jf_eq ok hc hk, Option.bind_some]
          show ((F_J6_bitCount_0f7a4 (nI (maskOf (jpB V k) (V 8 0))) S).bind (fun r => some (r.1, r.2))).bind (fun r => some (r.1, r.2)) = _
          rw [bc_mask _ h20]; rfl
        · unfold F_X12_of; simp only [hin, t2, Option.bind_some, if_neg n10, if_neg y0, if_neg y1, if_neg y2, if_neg y3, if_neg y4, if_neg y5, if_neg y6, if_neg y7, if_neg y8, if_true, rl_jf hN ok hr hk]
      refine both_ro h (r := -1) ?_ ?_
      · rw [f1]; unfold F_X8_about; rw [if_neg y0, if_neg y1, if_neg y2, if_neg y3, if_neg y4, if_neg y5, if_neg y6, if_neg y7, if_neg y8, if_neg y9]; rfl
      · unfold F_X12_of; simp only [hin, t2, Option.bind_some, if_neg n10, if_neg y0, if_neg y1, if_neg y2, if_neg y3, if_neg y4, if_neg y5, if_neg y6, if_neg y7, if_neg y8, if_neg y9, if_true]
    · refine both_ro h (r := -1) ?_ ?_
      · unfold F_X11_of
        simp only [if_neg hn10, if_neg hn11, F_has8_f h20 hc.1 hx, Option.bind_some, if_true]
      · unfold F_X12_of
        simp only [hin, F_isLine_f h20 hr.1 hx, Option.bind_some, if_true]
