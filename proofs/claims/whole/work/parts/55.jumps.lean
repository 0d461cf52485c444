def pK (kd : Nat) (V : Nat → Nat → Nat) (f j : Nat) : Bool := if kd = 0 then jpB V f j else rgB V f j
theorem cnt_mono (p : Nat → Bool) (m : Nat) : ∀ n, cnt p m ≤ cnt p (m + n)
  | 0 => Nat.le_refl _
  | n + 1 => by
    have := cnt_mono p m n
    show cnt p m ≤ cnt p (m + n) + _
    omega
theorem cnt_uniq {p : Nat → Bool} {a b : Nat} (ha : p a = true) (hb : p b = true) (h : cnt p a = cnt p b) : a = b := by
  rcases Nat.lt_trichotomy a b with c | c | c
  · obtain ⟨d, rfl⟩ : ∃ d, b = a + 1 + d := ⟨b - (a + 1), by omega⟩
    have := cnt_mono p (a + 1) d
    rw [cnt_succ, if_pos ha] at this
    omega
  · exact c
  · obtain ⟨d, rfl⟩ : ∃ d, a = b + 1 + d := ⟨a - (b + 1), by omega⟩
    have := cnt_mono p (b + 1) d
    rw [cnt_succ, if_pos hb] at this
    omega
/-- the class: the c-th bit of a mask, from place j on -/
theorem bitNum {p : Nat → Bool} {M : Nat} (hM : M ≤ 20) {S : St} : ∀ (m j c n : Nat), j + m = M → m < n → c < 2 ^ 30 → cnt p j + c < cnt p M → ∃ r, F_X11_bitNumber_4 n (nI (maskOf p M)) (nI c) (nI j) S = some (nI r, S) ∧ r < M ∧ p r = true ∧ cnt p r = cnt p j + c
  | m, j, c, 0, _, hn, _, _ => absurd hn (Nat.not_lt_zero m)
  | 0, j, c, n + 1, hj, hn, hc, hlt => by
    have e : j = M := hj
    rw [e] at hlt
    omega
  | m + 1, j, c, n + 1, hj, hn, hc, hlt => by
    have hml : maskOf p M < 2 ^ 20 := msk_lt hM
    have h20 : ¬ (20 : Int32) ≤ nI j := nI_ge (b := 20) (by omega) (by decide)
    have tb : (maskOf p M).testBit j = p j := by rw [maskOf_bit, decide_eq_true (show j < M by omega)]; rfl
    have stp : F_X11_bitNumber_4 (n + 1) (nI (maskOf p M)) (nI c) (nI j) S = (if ((nI (maskOf p M) >>> (nI j &&& 31)) &&& 1) = 0 then (F_X11_bitNumber_4 n (nI (maskOf p M)) (nI c) (nI (j + 1)) S) else (if nI c = 0 then (some (nI j, S)) else (F_X11_bitNumber_4 n (nI (maskOf p M)) (nI c + (-1)) (nI (j + 1)) S))) := by
      show (if 20 ≤ nI j then _ else (if ((nI (maskOf p M) >>> (nI j &&& 31)) &&& 1) = 0 then (F_X11_bitNumber_4 n (nI (maskOf p M)) (nI c) (nI j + 1) S) else (if nI c = 0 then (some (nI j, S)) else (F_X11_bitNumber_4 n (nI (maskOf p M)) (nI c + (-1)) (nI j + 1) S)))) = _
      rw [if_neg h20, nI_1]
    rw [stp]
    by_cases d : p j = true
    · rw [if_neg (fun z => by rw [(tst_bit (by omega) (by omega)).mp z, d] at tb; cases tb)]
      by_cases c0 : c = 0
      · rw [if_pos (show nI c = 0 by rw [c0]; rfl)]
        exact ⟨j, rfl, by omega, d, by omega⟩
      · obtain ⟨r, r1, r2, r3, r4⟩ := bitNum hM (S := S) m (j + 1) (c - 1) n (by omega) (by omega) (by omega) (by rw [cnt_succ, if_pos d]; omega)
        refine ⟨r, ?_, r2, r3, ?_⟩
        · rw [if_neg (nI_ne0 (by omega) (by omega)), sb_m1 (by omega)]
          exact r1
        · rw [r4, cnt_succ, if_pos d]; omega
    · obtain ⟨r, r1, r2, r3, r4⟩ := bitNum hM (S := S) m (j + 1) c n (by omega) (by omega) hc (by rw [cnt_succ, if_neg d]; omega)
      refine ⟨r, ?_, r2, r3, ?_⟩
      · rw [if_pos ((tst_bit (by omega) (by omega)).mpr (by rw [tb]; exact Bool.eq_false_iff.mpr d))]
        exact r1
      · rw [r4, cnt_succ, if_neg d]; omega
section
variable {V : Nat → Nat → Nat} {S : St} {kd : Nat}
theorem jp_in (ok : OKV V) (hr : RlP S V) (hk : kd ≤ 1) {i j : Nat} (hi : i < V 8 0) (hj : j < V 8 0) (k21 : Int32 → Int32 → Int32 → Int32 → St → Option (Int32 × St)) (n : Nat) (x2 x3 : Int32) : F_X12_jumps_33 k21 (n + 1) (nI kd) x2 x3 (nI i) (nI j) S = if pK kd V i j = true then (if x3 = x2 then some (nI (100 * i + j), S) else F_X12_jumps_33 k21 n (nI kd) x2 (x3 + 1) (nI i) (nI (j + 1)) S) else F_X12_jumps_33 k21 n (nI kd) x2 x3 (nI i) (nI (j + 1)) S := by
  have h20 := ok.1
  have hge : ¬ S.1 63 1 ≤ nI j := by rw [hr.1]; exact nI_ge hj (by omega)
  have e100 : (100 * nI i) + nI j = nI (100 * i + j) := by show nI 100 * nI i + nI j = _; rw [pk_mul, nI_add]
  show (if (S.1 63 1) ≤ nI j then _ else ((F_X12_isJump (nI i) (nI j) S).bind (fun r_47 => if r_47.1 = 0 then (F_X12_jumps_33 k21 n (nI kd) x2 x3 (nI i) (nI j + 1) r_47.2) else (if nI kd = 1 then (if nI j ≤ nI i then (if x3 = x2 then (some ((100 * nI i) + nI j, r_47.2)) else (F_X12_jumps_33 k21 n (nI kd) x2 (x3 + 1) (nI i) (nI j + 1) r_47.2)) else (F_X12_jumps_33 k21 n (nI kd) x2 x3 (nI i) (nI j + 1) r_47.2)) else (if x3 = x2 then (some ((100 * nI i) + nI j, r_47.2)) else (F_X12_jumps_33 k21 n (nI kd) x2 (x3 + 1) (nI i) (nI j + 1) r_47.2)))))) = _
  rw [if_neg hge, rl_isJump ok hr hi hj, Option.bind_some, nI_1, e100]
  unfold pK
  rcases (show kd = 0 ∨ kd = 1 by omega) with rfl | rfl
  · rw [if_neg (show ¬ nI 0 = 1 by decide), if_pos (show 0 = 0 from rfl)]
    by_cases c : jpB V i j = true
    · rw [if_neg (bI_ne.mpr c), if_pos c]
    · rw [if_pos (bI_0.mpr (Bool.eq_false_iff.mpr c)), if_neg c]
  · rw [if_pos (show nI 1 = 1 by decide), if_neg (show ¬ 1 = 0 by decide)]
    by_cases c : jpB V i j = true
    · have c' := c
      unfold jpB at c'
      rw [decide_eq_true_eq] at c'
      rw [if_neg (bI_ne.mpr c)]
      by_cases d : j ≤ i
      · rw [if_pos (nI_le d (by omega)), if_pos (show rgB V i j = true by unfold rgB; rw [decide_eq_true_eq]; exact ⟨c'.1, by omega⟩)]
      · rw [if_neg (nI_ge (by omega) (by omega)), if_neg (show ¬ rgB V i j = true by unfold rgB; rw [decide_eq_true_eq]; omega)]
    · have c' : ¬ rgB V i j = true := by
        unfold rgB
        unfold jpB at c
        rw [decide_eq_true_eq] at c ⊢
        omega
      rw [if_pos (bI_0.mpr (Bool.eq_false_iff.mpr c)), if_neg c']
theorem jp_pass (ok : OKV V) (hr : RlP S V) (hk : kd ≤ 1) {i c0 : Nat} (hi : i < V 8 0) {x2 : Int32} (k21 : Int32 → Int32 → Int32 → Int32 → St → Option (Int32 × St)) : ∀ (m j n : Nat), j + m = V 8 0 → m < n → (∀ v, c0 + cnt (pK kd V i) j ≤ v → v < c0 + cnt (pK kd V i) (V 8 0) → ¬ nI v = x2) → F_X12_jumps_33 k21 n (nI kd) x2 (nI (c0 + cnt (pK kd V i) j)) (nI i) (nI j) S = k21 (nI kd) x2 (nI (c0 + cnt (pK kd V i) (V 8 0))) (nI (i + 1)) S
  | m, j, 0, _, hn, _ => absurd hn (Nat.not_lt_zero m)
  | 0, j, n + 1, hj, hn, hv => by
    have e : j = V 8 0 := hj
    show (if (S.1 63 1) ≤ nI j then (k21 (nI kd) x2 (nI (c0 + cnt (pK kd V i) j)) (nI i + 1) S) else _) = _
    rw [if_pos (by rw [hr.1, e]; exact Int32.le_refl _), e, nI_1]
  | m + 1, j, n + 1, hj, hn, hv => by
    have hmono := cnt_mono (pK kd V i) (j + 1) m
    rw [show j + 1 + m = V 8 0 by omega] at hmono
    have cs := cnt_succ (pK kd V i) j
    have ih := jp_pass ok hr hk hi (x2 := x2) (c0 := c0) k21 m (j + 1) n (by omega) (by omega) (fun v h1 h2 => hv v (by rw [cs] at h1; omega) h2)
    rw [jp_in ok hr hk hi (by omega), ← ih, cs]
    by_cases d : pK kd V i j = true
    · rw [if_pos d] at cs
      rw [if_pos d, if_pos d, if_neg (hv _ (Nat.le_refl _) (by omega)), nI_1, Nat.add_assoc]
    · rw [if_neg d, if_neg d]; rfl
theorem jp_hit (ok : OKV V) (hr : RlP S V) (hk : kd ≤ 1) {i c0 t : Nat} (hi : i < V 8 0) (ht : t < 2 ^ 31) (k21 : Int32 → Int32 → Int32 → Int32 → St → Option (Int32 × St)) : ∀ (m j n : Nat), j + m = V 8 0 → m < n → c0 + cnt (pK kd V i) j ≤ t → t < c0 + cnt (pK kd V i) (V 8 0) → ∃ r, F_X12_jumps_33 k21 n (nI kd) (nI t) (nI (c0 + cnt (pK kd V i) j)) (nI i) (nI j) S = some (nI (100 * i + r), S) ∧ r < V 8 0 ∧ pK kd V i r = true ∧ c0 + cnt (pK kd V i) r = t
  | m, j, 0, _, hn, _, _ => absurd hn (Nat.not_lt_zero m)
  | 0, j, n + 1, hj, hn, h1, h2 => by
    have e : j = V 8 0 := hj
    rw [e] at h1
    omega
  | m + 1, j, n + 1, hj, hn, h1, h2 => by
    have cs := cnt_succ (pK kd V i) j
    rw [jp_in ok hr hk hi (by omega)]
    by_cases d : pK kd V i j = true
    · rw [if_pos d] at cs
      rw [if_pos d]
      by_cases e : c0 + cnt (pK kd V i) j = t
      · rw [if_pos (by rw [e])]
        exact ⟨j, rfl, by omega, d, e⟩
      · rw [if_neg (fun z => e (nI_inj (by omega) ht z)), nI_1]
        obtain ⟨r, r1, r2, r3, r4⟩ := jp_hit ok hr hk hi ht k21 m (j + 1) n (by omega) (by omega) (by omega) h2
        refine ⟨r, ?_, r2, r3, r4⟩
        rw [← r1, cs, Nat.add_assoc]
    · rw [if_neg d] at cs
      rw [if_neg d]
      obtain ⟨r, r1, r2, r3, r4⟩ := jp_hit ok hr hk hi ht k21 m (j + 1) n (by omega) (by omega) (by omega) h2
      refine ⟨r, ?_, r2, r3, r4⟩
      rw [← r1, cs]; rfl
theorem cl_jstep {N : Nat} (ok : OKV V) (hc : ClP S V) (hk : kd ≤ 1) {i : Nat} (hi : i < V 8 0) (n : Nat) (x2 x3 : Int32) : F_X11_jumps_21 N (n + 1) (nI kd) x2 x3 (nI i) S = if x2 < 0 then (F_X11_jumps_21 N n (nI kd) x2 (x3 + nI (cnt (pK kd V i) (V 8 0))) (nI (i + 1)) S) else (if (x3 + nI (cnt (pK kd V i) (V 8 0))) ≤ x2 then (F_X11_jumps_21 N n (nI kd) x2 (x3 + nI (cnt (pK kd V i) (V 8 0))) (nI (i + 1)) S) else ((F_X11_bitNumber N (nI (maskOf (pK kd V i) (V 8 0))) (x2 - x3) S).bind (fun r => some ((100 * nI i) + r.1, r.2)))) := by
  have h20 := ok.1
  have hge : ¬ S.1 1 0 ≤ nI i := by rw [hc.1]; exact nI_ge hi (by omega)
  show (if (S.1 1 0) ≤ nI i then _ else (if nI kd = 0 then ((F_X8_jumpsFrom (nI i) S).bind (fun r_43 => F_X11_jumps_58 N (F_X11_jumps_21 N n) (nI kd) x2 x3 (nI i) r_43.1 r_43.2)) else ((F_X8_ringsFrom (nI i) S).bind (fun r_55 => F_X11_jumps_58 N (F_X11_jumps_21 N n) (nI kd) x2 x3 (nI i) r_55.1 r_55.2)))) = _
  rw [if_neg hge, jf_eq ok hc hi, rf_eq ok hc hi, Option.bind_some, Option.bind_some]
  have e : (if nI kd = 0 then (F_X11_jumps_58 N (F_X11_jumps_21 N n) (nI kd) x2 x3 (nI i) (nI (jm V i)) S) else (F_X11_jumps_58 N (F_X11_jumps_21 N n) (nI kd) x2 x3 (nI i) (nI (rgm V i)) S)) = F_X11_jumps_58 N (F_X11_jumps_21 N n) (nI kd) x2 x3 (nI i) (nI (maskOf (pK kd V i) (V 8 0))) S := by
    rcases (show kd = 0 ∨ kd = 1 by omega) with rfl | rfl
    · rw [if_pos (show nI 0 = 0 from rfl)]; rfl
    · rw [if_neg (show ¬ nI 1 = 0 by decide)]; rfl
  show (if nI kd = 0 then (F_X11_jumps_58 N (F_X11_jumps_21 N n) (nI kd) x2 x3 (nI i) (nI (jm V i)) S) else (F_X11_jumps_58 N (F_X11_jumps_21 N n) (nI kd) x2 x3 (nI i) (nI (rgm V i)) S)) = _
  rw [e]
  unfold F_X11_jumps_58
  rw [bc_mask _ h20, Option.bind_some, nI_1]
theorem rl_jstep {N : Nat} (hr : RlP S V) (ok : OKV V) {i : Nat} (hi : i < V 8 0) (n : Nat) (x1 x2 x3 : Int32) : F_X12_jumps_21 N (n + 1) x1 x2 x3 (nI i) S = F_X12_jumps_33 (F_X12_jumps_21 N n) N x1 x2 x3 (nI i) 0 S := by
  have h20 := ok.1
  have hge : ¬ S.1 63 1 ≤ nI i := by rw [hr.1]; exact nI_ge hi (by omega)
  show (if (S.1 63 1) ≤ nI i then _ else (F_X12_jumps_33 (F_X12_jumps_21 N n) N x1 x2 x3 (nI i) 0 S)) = _
  rw [if_neg hge]
theorem jp_both {N : Nat} (hN : 130 ≤ N) (ok : OKV V) (hc : ClP S V) (hr : RlP S V) (hk : kd ≤ 1) (x2 : Int32) (hx : x2 = -1 ∨ ∃ t : Nat, t < 2 ^ 31 ∧ x2 = nI t) : ∀ (m i c n1 n2 : Nat), i + m = V 8 0 → m < n1 → m < n2 → c ≤ 20 * i → (∀ t : Nat, t < 2 ^ 31 → x2 = nI t → c ≤ t) → ∃ R, F_X11_jumps_21 N n1 (nI kd) x2 (nI c) (nI i) S = some (R, S) ∧ F_X12_jumps_21 N n2 (nI kd) x2 (nI c) (nI i) S = some (R, S)
  | m, i, c, 0, n2, _, hn, _, _, _ => absurd hn (Nat.not_lt_zero m)
  | m, i, c, n1, 0, _, _, hn, _, _ => absurd hn (Nat.not_lt_zero m)
  | 0, i, c, n1 + 1, n2 + 1, hi, _, _, hc20, ht => by
    have e : i = V 8 0 := hi
    have g1 : S.1 1 0 ≤ nI i := by rw [hc.1, e]; exact Int32.le_refl _
    have g2 : S.1 63 1 ≤ nI i := by rw [hr.1, e]; exact Int32.le_refl _
    refine ⟨if x2 = -1 then nI c else -1, ?_, ?_⟩
    · show (if (S.1 1 0) ≤ nI i then (if x2 = (-1) then (some (nI c, S)) else (some ((-1), S))) else _) = _
      rw [if_pos g1]
      by_cases d : x2 = -1
      · rw [if_pos d, if_pos d]
      · rw [if_neg d, if_neg d]
    · show (if (S.1 63 1) ≤ nI i then (if 0 ≤ x2 then (some ((-1), S)) else (some (nI c, S))) else _) = _
      rw [if_pos g2]
      rcases hx with hx | ⟨t, ht1, hx⟩
      · rw [if_pos hx, if_neg (by rw [hx]; decide)]
      · rw [if_pos (by rw [hx]; exact nI_pos' ht1), if_neg (fun z => nI_pos ht1 (by rw [← hx, z]; decide))]
  | m + 1, i, c, n1 + 1, n2 + 1, hi, hm1, hm2, hc20, ht => by
    have h20 := ok.1
    have hii : i < V 8 0 := by omega
    have hcl := cnt_le (pK kd V i) (V 8 0)
    rw [cl_jstep ok hc hk hii, rl_jstep hr ok hii, nI_add]
    have pass : (∀ v, c + cnt (pK kd V i) 0 ≤ v → v < c + cnt (pK kd V i) (V 8 0) → ¬ nI v = x2) → F_X12_jumps_33 (F_X12_jumps_21 N n2) N (nI kd) x2 (nI c) (nI i) 0 S = F_X12_jumps_21 N n2 (nI kd) x2 (nI (c + cnt (pK kd V i) (V 8 0))) (nI (i + 1)) S := fun hv => jp_pass ok hr hk hii (F_X12_jumps_21 N n2) (V 8 0) 0 N (by omega) (by omega) hv
    rcases id hx with hx1 | ⟨t, ht1, hx1⟩
    · obtain ⟨R, R1, R2⟩ := jp_both hN ok hc hr hk x2 hx m (i + 1) (c + cnt (pK kd V i) (V 8 0)) n1 n2 (by omega) (by omega) (by omega) (by omega) (fun t ht2 hx2 => by
        exfalso
        exact nI_pos ht2 (by rw [← hx2, hx1]; decide))
      refine ⟨R, ?_, ?_⟩
      · rw [if_pos (by rw [hx1]; decide)]
        exact R1
      · rw [pass (fun v h1 h2 z => nI_pos (n := v) (by omega) (by rw [z, hx1]; decide))]
        exact R2
    · have hct := ht t ht1 hx1
      have hx0 : ¬ x2 < 0 := by rw [hx1]; exact nI_pos ht1
      rw [if_neg hx0]
      by_cases d : c + cnt (pK kd V i) (V 8 0) ≤ t
      · obtain ⟨R, R1, R2⟩ := jp_both hN ok hc hr hk x2 hx m (i + 1) (c + cnt (pK kd V i) (V 8 0)) n1 n2 (by omega) (by omega) (by omega) (by omega) (fun t' ht2 hx2 => by
          have : t' = t := nI_inj ht2 ht1 (hx2.symm.trans hx1)
          omega)
        refine ⟨R, ?_, ?_⟩
        · rw [if_pos (by rw [hx1]; exact nI_le d ht1)]
          exact R1
        · rw [pass (fun v h1 h2 z => by
            have := nI_inj (by omega) ht1 (z.trans hx1)
            omega)]
          exact R2
      · have h0 : cnt (pK kd V i) 0 = 0 := rfl
        obtain ⟨r, r1, r2, r3, r4⟩ := bitNum (p := pK kd V i) h20 (S := S) (V 8 0) 0 (t - c) N (by omega) (by omega) (by omega) (by omega)
        obtain ⟨r', u1, u2, u3, u4⟩ := jp_hit (c0 := c) ok hr hk hii ht1 (F_X12_jumps_21 N n2) (V 8 0) 0 N (by omega) (by omega) (by omega) (by omega)
        have er : r = r' := cnt_uniq r3 u3 (by omega)
        subst er
        refine ⟨nI (100 * i + r), ?_, ?_⟩
        · rw [if_neg (by rw [hx1]; exact nI_ge (by omega) (by omega))]
          have e1 : x2 - nI c = nI (t - c) := by rw [hx1]; exact pk_sub hct
          have r1' : F_X11_bitNumber N (nI (maskOf (pK kd V i) (V 8 0))) (nI (t - c)) S = some (nI r, S) := r1
          rw [e1, r1', Option.bind_some]
          show some (nI 100 * nI i + nI r, S) = _
          rw [pk_mul, nI_add]
        · rw [hx1]
          exact u1
end
/-- jumps -/
theorem st_jumps {N : Nat} (hN : 130 ≤ N) {S : St} (h : Inv S) (x y : Int32) : Both (F_X11_jumps N x y) (F_X12_jumps N x y) S := by
  obtain ⟨V, kd, hI⟩ := id h
  obtain ⟨ok, hc, hr, -⟩ := hI.parts
  have h20 := ok.1
  have n10 : ¬ (1 : Int32) = 0 := by decide
  rcases (rng x 1 (by decide)).symm with hx | ⟨j, hj, rfl⟩
  · refine both_ro h (r := -1) ?_ ?_
    · unfold F_X11_jumps
      rcases hx with q | q
      · rw [if_pos q]
      · by_cases c : x < 0
        · rw [if_pos c]
        · rw [if_neg c, if_pos (show 1 < x from q)]
    · unfold F_X12_jumps
      have e : F_X12_in x (0 : Int32) (1 : Int32) S = some (0, S) := in_f (N := 1) hx S
      simp only [e, Option.bind_some, if_true]
  · have e : F_X12_in (nI j) (0 : Int32) (1 : Int32) S = some (1, S) := in_t hj (by decide) S
    have a1 : ¬ nI j < 0 := nI_pos (by omega)
    have a2 : ¬ (1 : Int32) < nI j := nI_nlt (a := 1) hj (by decide)
    by_cases hy : (-1 : Int32) ≤ y
    · have hx2 : y = -1 ∨ ∃ t : Nat, t < 2 ^ 31 ∧ y = nI t := by
        by_cases c : y < 0
        · left
          have h1 : (-1 : Int) ≤ y.toInt := Int32.le_iff_toInt_le.mp hy
          have h2 : y.toInt < (0 : Int32).toInt := Int32.lt_iff_toInt_lt.mp c
          have h3 : (0 : Int32).toInt = 0 := by decide
          exact Int32.toInt_inj.mp (by show y.toInt = -1; omega)
        · right
          obtain ⟨t, t1, t2⟩ := nI_of c
          exact ⟨t, t1, t2⟩
      obtain ⟨R, R1, R2⟩ := jp_both hN ok hc hr hj y hx2 (V 8 0) 0 0 N N (by omega) (by omega) (by omega) (by omega) (fun t _ _ => Nat.zero_le t)
      refine both_ro h (r := R) ?_ ?_
      · unfold F_X11_jumps
        rw [if_neg a1, if_neg a2, if_pos hy]
        exact R1
      · unfold F_X12_jumps
        simp only [e, Option.bind_some, if_neg n10, if_pos hy]
        exact R2
    · refine both_ro h (r := -1) ?_ ?_
      · unfold F_X11_jumps
        rw [if_neg a1, if_neg a2, if_neg hy]
      · unfold F_X12_jumps
        simp only [e, Option.bind_some, if_neg n10, if_neg hy]
