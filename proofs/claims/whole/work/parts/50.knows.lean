abbrev LawT := Option (List (List (Nat × Nat) × List (Nat × Nat)))
def clN (x : Int32) : Nat := if x < 0 then 0 else if x ≤ 100 then x.toNatClampNeg else 100
theorem h_le {j : Nat} (c : j ≤ 100) : nI j ≤ (100 : Int32) := nI_le (b := 100) c (by decide)
theorem h_nle {j : Nat} (c : 100 < j) (h : j < 2 ^ 31) : ¬ nI j ≤ (100 : Int32) := nI_ge (a := 100) c h
theorem h_lt {j : Nat} (c : j < 100) : nI j < (100 : Int32) := nI_lt (b := 100) c (by decide)
theorem h_nlt {j : Nat} (c : 100 ≤ j) (h : j < 2 ^ 31) : ¬ nI j < (100 : Int32) := nI_nlt (b := 100) c h
theorem h_0lt {j : Nat} (c : 0 < j) (h : j < 2 ^ 31) : (0 : Int32) < nI j := nI_lt (a := 0) c h
theorem clN_neg {x : Int32} (h : x < 0) : clN x = 0 := if_pos h
theorem clN_nI {j : Nat} (h : j < 2 ^ 31) : clN (nI j) = if j ≤ 100 then j else 100 := by
  unfold clN
  rw [if_neg (nI_pos h)]
  by_cases c : j ≤ 100
  · rw [if_pos c, if_pos (h_le c), nI_clamp h]
  · rw [if_neg c, if_neg (h_nle (by omega) h)]
theorem clN_le (x : Int32) : clN x ≤ 100 := by
  by_cases h : x < 0
  · rw [clN_neg h]; omega
  · obtain ⟨j, hj, rfl⟩ := nI_of h
    rw [clN_nI hj]
    split <;> omega
theorem held_eq (x : Int32) (S : St) : F_X12_held x 0 100 S = some (nI (clN x), S) := by
  unfold F_X12_held
  by_cases h : x < 0
  · rw [if_neg (Int32.not_le.mpr h), clN_neg h]; rfl
  · obtain ⟨j, hj, rfl⟩ := nI_of h
    rw [if_pos (nI_pos' hj), clN_nI hj]
    by_cases c : j ≤ 100
    · rw [if_pos c, if_pos (h_le c)]
    · rw [if_neg c, if_neg (h_nle (by omega) hj)]; rfl
theorem cl_eq (x : Int32) : (if (0 : Int32) < (if x < (100 : Int32) then x else 100) then if x < (100 : Int32) then x else 100 else 0) = nI (clN x) := by
  by_cases h : x < 0
  · rw [if_pos (Int32.lt_trans h (by decide)), if_neg (Int32.lt_asymm h), clN_neg h]; rfl
  · obtain ⟨j, hj, rfl⟩ := nI_of h
    rw [clN_nI hj]
    by_cases c : j < 100
    · rw [if_pos (h_lt c), if_pos (show j ≤ 100 by omega)]
      by_cases z : 0 < j
      · rw [if_pos (h_0lt z hj)]
      · have e : j = 0 := by omega
        subst e
        rw [if_neg (by decide)]; rfl
    · rw [if_neg (h_nlt (by omega) hj), if_pos (by decide)]
      by_cases c2 : j ≤ 100
      · rw [if_pos c2, show j = 100 by omega]; rfl
      · rw [if_neg c2]; rfl
/-! the reference: lines with the same cue, then the law -/
theorem cnt_but (p : Nat → Bool) {k : Nat} (hk : p k = true) : ∀ n, cnt p n = cnt (fun o => decide (o ≠ k) && p o) n + (if k < n then 1 else 0)
  | 0 => rfl
  | n + 1 => by
    show cnt p n + (if p n = true then 1 else 0) = cnt (fun o => decide (o ≠ k) && p o) n + (if (decide (n ≠ k) && p n) = true then 1 else 0) + (if k < n + 1 then 1 else 0)
    rw [cnt_but p hk n]
    by_cases c : n = k
    · subst c
      rw [if_pos hk, if_neg (show ¬ n < n by omega), if_pos (show n < n + 1 by omega)]
      simp
    · have e : (decide (n ≠ k) && p n) = p n := by simp [c]
      rw [e]
      by_cases d : k < n
      · rw [if_pos d, if_pos (show k < n + 1 by omega)]; omega
      · rw [if_neg d, if_neg (show ¬ k < n + 1 by omega)]; omega
def fcS (S : St) (k : Nat) (c : Int32) : St :=
  let S56 := aset S 82 (upd (S.2.1 82) 0 (S.2.1 70 k))
  let S66 := aset S56 82 (upd (S56.2.1 82) 1 (S56.1 63 11))
  let S78 := aset S66 82 (upd (S66.2.1 82) 2 (S66.2.1 64 k))
  let S85 := aset S78 82 (upd (S78.2.1 82) 3 (nI k))
  let S97 := aset S85 82 (upd (S85.2.1 82) 4 (S85.2.1 67 k))
  aset S97 82 (upd (S97.2.1 82) 5 c)
theorem fcS_ag (S : St) (k : Nat) (c : Int32) : AgW S (fcS S k c) := AgO.aset (AgO.aset (AgO.aset (AgO.aset (AgO.aset (AgO.aset AgO.rfl _ (by decide)) _ (by decide)) _ (by decide)) _ (by decide)) _ (by decide)) _ (by decide)
theorem lawOf_end {N n k : Nat} {x1 c : Int32} {S : St} {M : Nat} (h20 : M ≤ 20) (hk : k < M) (hM : S.1 63 1 = nI M) : F_X12_lawOf_5 N (n + 1) x1 (nI k) c (nI M) S = (F_X12_gives N x1 (fcS S k c)).bind (fun r => some (nI (clN r.1), r.2)) := by
  have hi : inb (nI k) 20 = true := inb_nI (by omega) (by decide)
  have hc : Int32.toNatClampNeg (nI k) = k := nI_clamp (by omega)
  show (if (S.1 63 1) ≤ nI M then (gd (inb (nI k) 20) (gd (inb (0 : Int32) 6) (let S56 := aset S 82 (upd (S.2.1 82) (Int32.toNatClampNeg (0 : Int32)) (S.2.1 70 (Int32.toNatClampNeg (nI k)))); gd (inb (1 : Int32) 6) (let S66 := aset S56 82 (upd (S56.2.1 82) (Int32.toNatClampNeg (1 : Int32)) (S56.1 63 11)); gd (inb (nI k) 20) (gd (inb (2 : Int32) 6) (let S78 := aset S66 82 (upd (S66.2.1 82) (Int32.toNatClampNeg (2 : Int32)) (S66.2.1 64 (Int32.toNatClampNeg (nI k)))); gd (inb (3 : Int32) 6) (let S85 := aset S78 82 (upd (S78.2.1 82) (Int32.toNatClampNeg (3 : Int32)) (nI k)); gd (inb (nI k) 20) (gd (inb (4 : Int32) 6) (let S97 := aset S85 82 (upd (S85.2.1 82) (Int32.toNatClampNeg (4 : Int32)) (S85.2.1 67 (Int32.toNatClampNeg (nI k)))); gd (inb (5 : Int32) 6) (let S104 := aset S97 82 (upd (S97.2.1 82) (Int32.toNatClampNeg (5 : Int32)) c); (F_X12_gives N x1 S104).bind (fun r_107 => (F_X12_held r_107.1 (0 : Int32) (100 : Int32) r_107.2).bind (fun r_113 => some (r_113.1, r_113.2))))))))))))) else _) = _
  rw [if_pos (by rw [hM]; exact Int32.le_refl _)]
  simp only [hi, hc, gd_t, show inb (0 : Int32) 6 = true from by decide, show inb (1 : Int32) 6 = true from by decide, show inb (2 : Int32) 6 = true from by decide, show inb (3 : Int32) 6 = true from by decide, show inb (4 : Int32) 6 = true from by decide, show inb (5 : Int32) 6 = true from by decide, show Int32.toNatClampNeg (0 : Int32) = 0 from by decide, show Int32.toNatClampNeg (1 : Int32) = 1 from by decide, show Int32.toNatClampNeg (2 : Int32) = 2 from by decide, show Int32.toNatClampNeg (3 : Int32) = 3 from by decide, show Int32.toNatClampNeg (4 : Int32) = 4 from by decide, show Int32.toNatClampNeg (5 : Int32) = 5 from by decide, held_eq, Option.bind_some]
  rfl
theorem lawOf_loop {N k : Nat} {x1 : Int32} {S : St} {V : Nat → Nat → Nat} (ok : OKV V) (hr : RlP S V) (hk : k < V 8 0) : ∀ (m i n : Nat), i + m = V 8 0 → m < n → ∃ n', F_X12_lawOf_5 N n x1 (nI k) (nI (cnt (fun o => decide (o ≠ k) && decide (V 1 o = V 1 k)) i)) (nI i) S = F_X12_lawOf_5 N (n' + 1) x1 (nI k) (nI (cnt (fun o => decide (o ≠ k) && decide (V 1 o = V 1 k)) (V 8 0))) (nI (V 8 0)) S
  | m, i, 0, _, hn => absurd hn (Nat.not_lt_zero m)
  | 0, i, n + 1, hi, hn => by
    have e : i = V 8 0 := hi
    exact ⟨n, by rw [e]⟩
  | m + 1, i, n + 1, hi, hn => by
    have h20 := ok.1
    obtain ⟨n', hn'⟩ := lawOf_loop (N := N) (x1 := x1) ok hr hk m (i + 1) n (by omega) (by omega)
    refine ⟨n', ?_⟩
    rw [← hn']
    have hge : ¬ S.1 63 1 ≤ nI i := by rw [hr.1]; exact nI_ge (by omega) (by omega)
    have hii : i < V 8 0 := by omega
    have e1 := (hr.2.2.2.1 i hii).2.1
    have e2 := (hr.2.2.2.1 k hk).2.1
    have b1 := (ok.2.2.2.1 i hii).2.1
    have b2 := (ok.2.2.2.1 k hk).2.1
    show (if (S.1 63 1) ≤ nI i then _ else (if nI i = nI k then F_X12_lawOf_5 N n x1 (nI k) (nI _) (nI i + 1) S else (gd (inb (nI i) 20) (gd (inb (nI k) 20) (if (S.2.1 65 (Int32.toNatClampNeg (nI i))) = (S.2.1 65 (Int32.toNatClampNeg (nI k))) then F_X12_lawOf_5 N n x1 (nI k) (nI _ + 1) (nI i + 1) S else F_X12_lawOf_5 N n x1 (nI k) (nI _) (nI i + 1) S))))) = F_X12_lawOf_5 N n x1 (nI k) (nI (cnt _ i + (if (decide (i ≠ k) && decide (V 1 i = V 1 k)) = true then 1 else 0))) (nI (i + 1)) S
    rw [if_neg hge, nI_1]
    by_cases c : i = k
    · rw [if_pos (by rw [c]), if_neg (by simp [c])]; rfl
    · rw [if_neg (fun q => c (nI_inj (by omega) (by omega) q)), gd_t (inb_nI (by omega) (by decide)), gd_t (inb_nI (by omega) (by decide)), nI_clamp (n := i) (by omega), nI_clamp (n := k) (by omega), e1, e2]
      by_cases d : V 1 i = V 1 k
      · rw [if_pos (by rw [d]), if_pos (by simp [c, d]), nI_1]
      · rw [if_neg (fun q => d (nI_inj (by omega) (by omega) q)), if_neg (by simp [d])]; rfl
theorem rl_law {N : Nat} (hN : 130 ≤ N) {S : St} {V : Nat → Nat → Nat} (ok : OKV V) (hr : RlP S V) {k w : Nat} (hk : k < V 8 0) (hw : w < 2) {P : List (List (Nat × Nat) × List (Nat × Nat))} (hP : WfL (some P)) (hR : RlL S w (some P)) : ∃ S', F_X12_lawOf N (nI w) (nI k) S = some (nI (clN (evL (fcV V k (nI (V 6 k))) P)), S') ∧ AgW S S' := by
  have h20 := ok.1
  have hlen := toks_le P
  have h121 := hP.2.2
  obtain ⟨n', hn'⟩ := lawOf_loop (N := N) (x1 := nI w) ok hr hk (V 8 0) 0 N (by omega) (by omega)
  unfold F_X12_lawOf
  have hn2 : F_X12_lawOf_5 N N (nI w) (nI k) 0 0 S = _ := hn'
  rw [hn2, lawOf_end h20 hk hr.1]
  generalize hc : cnt (fun o => decide (o ≠ k) && decide (V 1 o = V 1 k)) (V 8 0) = c
  have ha : AgW S (fcS S k (nI c)) := fcS_ag S k (nI c)
  have hcb := cnt_but (fun o => decide (V 1 o = V 1 k)) (k := k) (by simp) (V 8 0)
  rw [if_pos hk, hc] at hcb
  obtain ⟨e21, e22, e23, e24, e25, e26, e27⟩ := hr.2.2.2.1 k hk
  have hfc : ∀ j, j < 6 → (fcS S k (nI c)).2.1 82 j = fcV V k (nI (V 6 k)) j := by
    intro j hj
    rcases lt6 hj with rfl | rfl | rfl | rfl | rfl | rfl
    · show S.2.1 70 k = nI (V 6 k)
      exact e27
    · show S.1 63 11 = nI (V 8 2)
      exact hr.2.2.1
    · show S.2.1 64 k = nI (V 0 k)
      exact e21
    · rfl
    · show S.2.1 67 k = nI (V 3 k)
      exact e24
    · show nI c = nI (cnt (fun o => decide (V 1 o = V 1 k)) (V 8 0) - 1)
      rw [hcb, Nat.add_sub_cancel]
  obtain ⟨g, hg⟩ := rl_gives hN hw hfc hP (ha.rll hR) P.length 0 ((fcS S k (nI c)).2.1 83) N (by omega) (by omega)
  refine ⟨aset (fcS S k (nI c)) 83 g, ?_, AgO.aset ha _ (by decide)⟩
  rw [aset_self, Nat.add_zero, offL_0, List.drop_zero] at hg
  unfold F_X12_gives
  have e61 : (61 * nI w : Int32) = nI (61 * w) := by show nI 61 * nI w = _; rw [pk_mul]
  rw [e61]
  have hg2 : F_X12_gives_7 N N (nI w) 0 (nI (61 * w)) (fcS S k (nI c)) = _ := hg
  rw [hg2, Option.bind_some]
/-! knows and gains, both systems -/
def knW (L : LawT) (V : Nat → Nat → Nat) (k : Nat) : Nat := match L with
  | none => clN (nI (V 6 k) - 3 * nI (V 8 2))
  | some P => clN (evL (fcV V k (nI (V 6 k))) P)
def gnW (L : LawT) (V : Nat → Nat → Nat) (k h : Nat) : Nat := match L with
  | none => (100 - h) / 3
  | some P => clN (evL (fcV V k (nI h)) P)
theorem knW_le (L : LawT) (V : Nat → Nat → Nat) (k : Nat) : knW L V k ≤ 100 := by
  cases L <;> exact clN_le _
theorem gnW_le (L : LawT) (V : Nat → Nat → Nat) (k h : Nat) : gnW L V k h ≤ 100 := by
  cases L with
  | none => show (100 - h) / 3 ≤ 100; omega
  | some P => exact clN_le _
theorem codeC_pos {P : List (List (Nat × Nat) × List (Nat × Nat))} (h : P ≠ []) : 0 < (codeC P).length := by
  cases P with
  | nil => exact absurd rfl h
  | cons q P => rw [codeC_cons]; simp only [List.length_append, List.length_cons]; omega
theorem cl_law {N : Nat} (hN : 130 ≤ N) {S : St} {V : Nat → Nat → Nat} (ok : OKV V) (hc : ClP S V) {k b : Nat} (hk : k < V 8 0) (hb : b < 2) {P : List (List (Nat × Nat) × List (Nat × Nat))} (hP : WfL (some P)) (hC : ClL S b (some P)) (h : Int32) : ∃ S', F_X5_isTold b S = some (1, S) ∧ F_X5_worth N b (nI k) h S = some (evL (fcV V k h) P, S') ∧ AgW S S' := by
  have hpos := codeC_pos hP.1
  have h121 := hP.2.2
  have hf : fW (2 + b) 3 = false := (by decide : ∀ b, b < 2 → fW (2 + b) 3 = false) b hb
  have ha : AgW S (fset S (2 + b) 3 0) := AgO.fset AgO.rfl _ hf
  have hs : Stk (fset S (2 + b) 3 0) b [] := ⟨fset_get _ _ _ _, trivial⟩
  obtain ⟨c1, c2⟩ := ha.cll hb hC
  obtain ⟨S', s1, s2⟩ := cl_worth (h := h) hb ok hk h121 P 0 (fset S (2 + b) 3 0) (ha.cl hc) hP.2.1 c2 (by omega) c1 hs
  refine ⟨S', ?_, ?_, ha.tr s2⟩
  · unfold F_X5_isTold
    rw [if_neg (by rw [hC.1]; exact nI_ge (a := 0) hpos (by omega))]
  · have := s1 (N - (codeC P).length - 1)
    rw [show N - (codeC P).length - 1 + (codeC P).length + 1 = N by omega] at this
    exact this
theorem cl_knows {N : Nat} (hN : 130 ≤ N) {S : St} {V : Nat → Nat → Nat} (ok : OKV V) (hc : ClP S V) {L : LawT} (hL : WfL L) (hC : ClL S 0 L) {k : Nat} (hk : k < V 8 0) : ∃ S', F_X8_knows N (nI k) S = some (nI (knW L V k), S') ∧ AgW S S' := by
  have h20 := ok.1
  have e27 := (hc.2.2.2.1 k hk).2.2.2.2.2.2
  unfold F_X8_knows
  rw [gd_t (inb_nI (by omega) (by decide)), nI_clamp (by omega), e27]
  cases L with
  | none =>
    have hi : F_X5_isTold 0 S = some (0, S) := by
      unfold F_X5_isTold
      rw [if_pos (by rw [show S.1 (2 + 0) 1 = 0 from hC]; exact Int32.le_refl _)]
    refine ⟨S, ?_, AgO.rfl⟩
    rw [hi, Option.bind_some]
    show (if (0 : Int32) = 0 then _ else _) = _
    rw [if_pos rfl]
    simp only [cl_eq, hc.2.2.1]
    rfl
  | some P =>
    obtain ⟨S', s0, s1, s2⟩ := cl_law hN ok hc hk (b := 0) (by decide) hL hC (nI (V 6 k))
    refine ⟨S', ?_, s2⟩
    rw [s0, Option.bind_some]
    show (if (1 : Int32) = 0 then _ else _) = _
    rw [if_neg (by decide), s1, Option.bind_some]
    simp only [cl_eq]
    rfl
theorem cl_gains {N : Nat} (hN : 130 ≤ N) {S : St} {V : Nat → Nat → Nat} (ok : OKV V) (hc : ClP S V) {L : LawT} (hL : WfL L) (hC : ClL S 1 L) {k h : Nat} (hk : k < V 8 0) (hh : h ≤ 100) : ∃ S', F_X8_gains N (nI k) (nI h) S = some (nI (gnW L V k h), S') ∧ AgW S S' := by
  unfold F_X8_gains
  cases L with
  | none =>
    have hi : F_X5_isTold 1 S = some (0, S) := by
      unfold F_X5_isTold
      rw [if_pos (by rw [show S.1 (2 + 1) 1 = 0 from hC]; exact Int32.le_refl _)]
    have e : ((100 : Int32) - nI h) / 3 = nI ((100 - h) / 3) := by
      show (nI 100 - nI h) / nI 3 = _
      rw [pk_sub hh, pk_div (by omega) (by decide) (by decide)]
    refine ⟨S, ?_, AgO.rfl⟩
    rw [hi, Option.bind_some]
    show (if (0 : Int32) = 0 then _ else _) = _
    rw [if_pos rfl]
    simp only [cl_eq, e]
    rw [clN_nI (by omega), if_pos (by omega)]
    rfl
  | some P =>
    obtain ⟨S', s0, s1, s2⟩ := cl_law hN ok hc hk (b := 1) (by decide) hL hC (nI h)
    refine ⟨S', ?_, s2⟩
    rw [s0, Option.bind_some]
    show (if (1 : Int32) = 0 then _ else _) = _
    rw [if_neg (by decide), s1, Option.bind_some]
    simp only [cl_eq]
    rfl
theorem rl_knows {N : Nat} (hN : 130 ≤ N) {S : St} {V : Nat → Nat → Nat} (ok : OKV V) (hr : RlP S V) {L : LawT} (hL : WfL L) (hR : RlL S 0 L) {k : Nat} (hk : k < V 8 0) : ∃ S', F_X12_knows N (nI k) S = some (nI (knW L V k), S') ∧ AgW S S' := by
  have h20 := ok.1
  have e27 := (hr.2.2.2.1 k hk).2.2.2.2.2.2
  unfold F_X12_knows
  rw [gd_t (by decide), show Int32.toNatClampNeg (0 : Int32) = 0 by decide]
  cases L with
  | none =>
    refine ⟨S, ?_, AgO.rfl⟩
    rw [if_pos (show S.2.1 84 0 = 0 from hR), gd_t (inb_nI (by omega) (by decide)), nI_clamp (by omega), e27, hr.2.2.1, held_eq, Option.bind_some]
    rfl
  | some P =>
    obtain ⟨S', s1, s2⟩ := rl_law hN ok hr hk (w := 0) (by decide) hL hR
    refine ⟨S', ?_, s2⟩
    rw [if_neg (by rw [hR.1]; decide)]
    have s1' : F_X12_lawOf N 0 (nI k) S = _ := s1
    rw [s1', Option.bind_some]
    rfl
theorem rl_gains {N : Nat} (hN : 130 ≤ N) {S : St} {V : Nat → Nat → Nat} (ok : OKV V) (hr : RlP S V) {L : LawT} (hL : WfL L) (hR : RlL S 1 L) {k : Nat} (hk : k < V 8 0) : ∃ S', F_X12_gains N (nI k) S = some (nI (gnW L V k (V 6 k)), S') ∧ AgW S S' := by
  have h20 := ok.1
  have b6 : V 6 k < 101 := (ok.2.2.2.1 k hk).2.2.2.2.2.2.2
  have e27 := (hr.2.2.2.1 k hk).2.2.2.2.2.2
  unfold F_X12_gains
  rw [gd_t (by decide), show Int32.toNatClampNeg (1 : Int32) = 1 by decide]
  cases L with
  | none =>
    have e : ((100 : Int32) - nI (V 6 k)) / 3 = nI ((100 - V 6 k) / 3) := by
      show (nI 100 - nI (V 6 k)) / nI 3 = _
      rw [pk_sub (by omega), pk_div (by omega) (by decide) (by decide)]
    refine ⟨S, ?_, AgO.rfl⟩
    rw [if_pos (show S.2.1 84 1 = 0 from hR), gd_t (inb_nI (by omega) (by decide)), nI_clamp (by omega), e27, e]
    rfl
  | some P =>
    obtain ⟨S', s1, s2⟩ := rl_law hN ok hr hk (w := 1) (by decide) hL hR
    refine ⟨S', ?_, s2⟩
    rw [if_neg (by rw [hR.1]; decide)]
    have s1' : F_X12_lawOf N 1 (nI k) S = _ := s1
    rw [s1', Option.bind_some]
    rfl
