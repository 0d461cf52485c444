section
variable {N : Nat} {V : Nat → Nat → Nat} {t : Nat}
theorem SndM.pos {M : Nat → Nat} (hs : SndM V t M) {i T : Nat} (hi : i < V 8 0) (hT : T < 256) : 1 ≤ M (256 * i + T) := by
  by_cases c : M (256 * i + T) < 100000
  · obtain ⟨ls, l1, l2⟩ := hs.2 i T hi hT c
    have := l2.len
    omega
  · omega
theorem Le2.cons {j : Nat} {x y : List Nat} (h : Le2 (j :: x) (j :: y)) : Le2 x y := by
  rcases h with h | h | ⟨h1, k, k1, k2, k3, k4⟩
  · exact Or.inl (List.cons.inj h).2
  · exact Or.inr (Or.inl (by rw [List.length_cons, List.length_cons] at h; omega))
  · refine Or.inr (Or.inr ⟨by rw [List.length_cons, List.length_cons] at h1; omega, ?_⟩)
    cases k with
    | zero => exact absurd k3 (Nat.lt_irrefl _)
    | succ k => exact ⟨k, by rw [List.length_cons] at k1; omega, by rw [List.length_cons] at k2; omega, k3, fun i hi => k4 (i + 1) (by omega)⟩
/-- the first line of the first of the shortest ways -/
theorem first_line (ok : OKV V) {M : Nat → Nat} (hs : SndM V t M) (hf : ∀ ls i T, i < V 8 0 → T < 256 → VPt V t ls i T → M (256 * i + T) ≤ ls.length) {i T j : Nat} {rest : List Nat} (hi : i < V 8 0) (hT : T < 256) (hlen : rest.length < 90000) (hv : VPt V t (j :: rest) i T) (hmin : ∀ ls, VPt V t ls i T → Le2 (j :: rest) ls) : isW V M t T j = rest.length + 1 ∧ (∀ j', j' < j → ¬ (mgB V i T j' = true ∧ isW V M t T j' = rest.length + 1)) ∧ (j ≠ t → M (256 * j + (T ||| V 4 j)) = rest.length) := by
  obtain ⟨v1, v2, v3⟩ := id hv
  have key : j ≠ t → M (256 * j + (T ||| V 4 j)) = rest.length := by
    intro c
    rw [if_neg c] at v3
    have ho := or256 ok v1 hT
    have h1 := hf rest j (T ||| V 4 j) v1 ho v3
    obtain ⟨ls, l1, l2⟩ := hs.2 j (T ||| V 4 j) v1 ho (by omega)
    have h2 := hmin (j :: ls) ⟨v1, v2, by rw [if_neg c]; exact l2⟩
    rcases h2 with h2 | h2 | ⟨h2, _⟩
    · rw [← (List.cons.inj h2).2] at l1; omega
    · rw [List.length_cons, List.length_cons] at h2; omega
    · rw [List.length_cons, List.length_cons] at h2; omega
  refine ⟨?_, fun j' hj' hg => ?_, key⟩
  · unfold isW
    by_cases c : j = t
    · rw [if_pos c] at v3 ⊢
      rw [v3]; rfl
    · rw [if_neg c, key c]; omega
  · obtain ⟨g1, g2⟩ := hg
    have hj'n : j' < V 8 0 := by omega
    unfold isW at g2
    have contra : ∀ ls', VPt V t (j' :: ls') i T → (j' :: ls').length = rest.length + 1 → False := by
      intro ls' hv' hl'
      rcases hmin _ hv' with h2 | h2 | ⟨h2, k, k1, k2, k3, k4⟩
      · have := (List.cons.inj h2).1; omega
      · rw [List.length_cons, hl'] at h2; omega
      · cases k with
        | zero =>
          have k3' : j < j' := k3
          omega
        | succ k =>
          have e : j = j' := k4 0 (by omega)
          omega
    by_cases c : j' = t
    · rw [if_pos c] at g2
      exact contra [] ⟨hj'n, g1, by rw [if_pos c]⟩ (by show 1 = _; omega)
    · rw [if_neg c] at g2
      obtain ⟨ls, l1, l2⟩ := hs.2 j' (T ||| V 4 j') hj'n (or256 ok hj'n hT) (by omega)
      exact contra ls ⟨hj'n, g1, by rw [if_neg c]; exact l2⟩ (by rw [List.length_cons, l1]; omega)
theorem rl_best (ok : OKV V) {S : St} (hr : RlP S V) {M : Nat → Nat} (hM : ArM S M) (hs : SndM V t M) (ht : t < V 8 0) {i T j left : Nat} (hi : i < V 8 0) (hT : T < 256) (hj : j < V 8 0) (hl : left < 100000) (hg : mgB V i T j = true ∧ isW V M t T j = left) (hno : ∀ j', j' < j → ¬ (mgB V i T j' = true ∧ isW V M t T j' = left)) : ∀ (m k n : Nat), k + m = j → m < n → F_X12_goesBest_3 n (nI i) (nI T) (nI t) (nI left) (nI k) S = some (nI j, S) := by
  have h20 := ok.1
  intro m
  induction m with
  | zero =>
    intro k n hk hn
    obtain ⟨n, rfl⟩ : ∃ q, n = q + 1 := ⟨n - 1, by omega⟩
    have e : k = j := hk
    subst e
    have e4 := (hr.2.2.2.1 k hj).2.2.2.2.1
    have ho := or256 ok hj hT
    have hb := hs.1 (256 * k + (T ||| V 4 k)) (by omega)
    show (if (S.1 63 1) ≤ nI k then _ else ((F_X12_mayGo (nI i) (nI k) (nI T) S).bind (fun r_17 => if r_17.1 = 0 then _ else (if nI k = nI t then (if (1 : Int32) = nI left then (some (nI k, r_17.2)) else _) else (gd (inb (nI k) 20) (gd (inb ((256 * nI k) + (nI T ||| (r_17.2.2.1 68 (Int32.toNatClampNeg (nI k))))) 5120) (if (1 + (r_17.2.2.1 85 (Int32.toNatClampNeg ((256 * nI k) + (nI T ||| (r_17.2.2.1 68 (Int32.toNatClampNeg (nI k)))))))) = nI left then (some (nI k, r_17.2)) else _))))))) = _
    rw [if_neg (by rw [hr.1]; exact nI_ge hj (by omega)), rl_mayGo ok hr hi hj, Option.bind_some, if_neg (bI_ne.mpr hg.1)]
    have hw := hg.2
    unfold isW at hw
    by_cases d : k = t
    · rw [if_pos d] at hw
      rw [if_pos (show nI k = nI t by rw [d]), if_pos (show (1 : Int32) = nI left by rw [← hw]; rfl)]
    · rw [if_neg d] at hw
      rw [if_neg (show ¬ nI k = nI t from fun z => d (nI_inj (by omega) (by omega) z)), gd_t (inb_nI (by omega) (by decide)), nI_clamp (n := k) (by omega)]
      show gd (inb ((256 * nI k) + (nI T ||| S.2.1 68 k)) 5120) (if (1 + (S.2.1 85 (Int32.toNatClampNeg ((256 * nI k) + (nI T ||| S.2.1 68 k))))) = nI left then (some (nI k, S)) else _) = _
      rw [e4, nI_or, ix256, gd_t (inb_nI (by omega) (by decide)), nI_clamp (by omega), hM _ (by omega), show (1 : Int32) + nI (M (256 * k + (T ||| V 4 k))) = nI (1 + M (256 * k + (T ||| V 4 k))) from nI_add 1 _, if_pos (by rw [hw])]
  | succ m ih =>
    intro k n hk hn
    obtain ⟨n, rfl⟩ : ∃ q, n = q + 1 := ⟨n - 1, by omega⟩
    have hkn : k < V 8 0 := by omega
    have := ih (k + 1) n (by omega) (by omega)
    have e4 := (hr.2.2.2.1 k hkn).2.2.2.2.1
    have ho := or256 ok hkn hT
    have hb := hs.1 (256 * k + (T ||| V 4 k)) (by omega)
    have hnk := hno k (by omega)
    rw [← this]
    show (if (S.1 63 1) ≤ nI k then _ else ((F_X12_mayGo (nI i) (nI k) (nI T) S).bind (fun r_17 => if r_17.1 = 0 then (F_X12_goesBest_3 n (nI i) (nI T) (nI t) (nI left) (nI k + 1) r_17.2) else (if nI k = nI t then (if (1 : Int32) = nI left then _ else (F_X12_goesBest_3 n (nI i) (nI T) (nI t) (nI left) (nI k + 1) r_17.2)) else (gd (inb (nI k) 20) (gd (inb ((256 * nI k) + (nI T ||| (r_17.2.2.1 68 (Int32.toNatClampNeg (nI k))))) 5120) (if (1 + (r_17.2.2.1 85 (Int32.toNatClampNeg ((256 * nI k) + (nI T ||| (r_17.2.2.1 68 (Int32.toNatClampNeg (nI k)))))))) = nI left then _ else (F_X12_goesBest_3 n (nI i) (nI T) (nI t) (nI left) (nI k + 1) r_17.2)))))))) = _
    rw [if_neg (by rw [hr.1]; exact nI_ge hkn (by omega)), rl_mayGo ok hr hi hkn, Option.bind_some, nI_1]
    by_cases c : mgB V i T k = true
    · rw [if_neg (bI_ne.mpr c)]
      have hne : ¬ isW V M t T k = left := fun z => hnk ⟨c, z⟩
      unfold isW at hne
      by_cases d : k = t
      · rw [if_pos d] at hne
        rw [if_pos (show nI k = nI t by rw [d]), if_neg (show ¬ (1 : Int32) = nI left from fun z => hne (nI_inj (a := 1) (by decide) (by omega) z))]
      · rw [if_neg d] at hne
        rw [if_neg (show ¬ nI k = nI t from fun z => d (nI_inj (by omega) (by omega) z)), gd_t (inb_nI (by omega) (by decide)), nI_clamp (n := k) (by omega)]
        show gd (inb ((256 * nI k) + (nI T ||| S.2.1 68 k)) 5120) (if (1 + (S.2.1 85 (Int32.toNatClampNeg ((256 * nI k) + (nI T ||| S.2.1 68 k))))) = nI left then _ else (F_X12_goesBest_3 n (nI i) (nI T) (nI t) (nI left) (nI (k + 1)) S)) = _
        rw [e4, nI_or, ix256, gd_t (inb_nI (by omega) (by decide)), nI_clamp (by omega), hM _ (by omega), show (1 : Int32) + nI (M (256 * k + (T ||| V 4 k))) = nI (1 + M (256 * k + (T ||| V 4 k))) from nI_add 1 _, if_neg (fun z => hne (nI_inj (by omega) (by omega) z))]
    · rw [if_pos (bI_0.mpr (Bool.eq_false_iff.mpr c))]
theorem rl_w124 (hN : 1000000000 ≤ N) (ok : OKV V) {S : St} (hr : RlP S V) {M : Nat → Nat} (hM : ArM S M) (hs : SndM V t M) (ht : t < V 8 0) (hf : ∀ ls i T, i < V 8 0 → T < 256 → VPt V t ls i T → M (256 * i + T) ≤ ls.length) {k : Nat} (hk9 : k < 90000) : ∀ (ls : List Nat) (i T q n : Nat), i < V 8 0 → T < 256 → VPt V t ls i T → ls.length ≤ 5121 → (∀ ls', VPt V t ls' i T → Le2 ls ls') → q ≤ k → k < q + ls.length → ls.length < n → F_X12_way_124 N n (nI k) (nI i) (nI t) (nI T) (nI ls.length) (nI q) S = some (nI (ls.getD (k - q) 0), S) := by
  have h20 := ok.1
  intro ls
  induction ls with
  | nil => intro i T q n _ _ hv; exact hv.elim
  | cons j rest ih =>
    intro i T q n hi hT hv hl hmin hq hk hn
    obtain ⟨v1, v2, v3⟩ := id hv
    have hl' : rest.length + 1 ≤ 5121 := hl
    obtain ⟨f1, f2, f3⟩ := first_line ok hs hf hi hT (by omega) hv hmin
    have hb : F_X12_goesBest N (nI i) (nI T) (nI t) (nI (rest.length + 1)) S = some (nI j, S) := rl_best ok hr hM hs ht hi hT v1 (by omega) ⟨v2, f1⟩ f2 j 0 N (by omega) (by omega)
    obtain ⟨n, rfl⟩ : ∃ z, n = z + 1 := ⟨n - 1, by omega⟩
    have e4 := (hr.2.2.2.1 j v1).2.2.2.2.1
    have hn' : rest.length + 1 < n + 1 := hn
    have stp : F_X12_way_124 N (n + 1) (nI k) (nI i) (nI t) (nI T) (nI (rest.length + 1)) (nI q) S = F_X12_way_124 N n (nI k) (nI j) (nI t) (nI (T ||| V 4 j)) (nI rest.length) (nI (q + 1)) S := by
      show (if nI k < nI q then _ else ((F_X12_goesBest N (nI i) (nI T) (nI t) (nI (rest.length + 1)) S).bind (fun r_138 => gd (inb r_138.1 20) (F_X12_way_124 N n (nI k) r_138.1 (nI t) (nI T ||| (r_138.2.2.1 68 (Int32.toNatClampNeg r_138.1))) (nI (rest.length + 1) + (-1)) (nI q + 1) r_138.2)))) = _
      rw [if_neg (nI_nlt hq (by omega)), hb, Option.bind_some, gd_t (inb_nI (by omega) (by decide)), nI_clamp (n := j) (by omega), pk_m1, nI_1]
      show F_X12_way_124 N n (nI k) (nI j) (nI t) (nI T ||| S.2.1 68 j) (nI rest.length) (nI (q + 1)) S = _
      rw [e4, nI_or]
    show F_X12_way_124 N (n + 1) (nI k) (nI i) (nI t) (nI T) (nI (rest.length + 1)) (nI q) S = _
    rw [stp]
    have hk' : k < q + (rest.length + 1) := hk
    by_cases c : k = q
    · obtain ⟨n, rfl⟩ : ∃ z, n = z + 1 := ⟨n - 1, by omega⟩
      rw [show k - q = 0 by omega]
      show (if nI k < nI (q + 1) then (some (nI j, S)) else _) = _
      rw [if_pos (nI_lt (by omega) (by omega))]
      rfl
    · have hjt : j ≠ t := by
        intro z
        rw [if_pos z] at v3
        rw [v3] at hk'
        have : k < q + 1 := hk'
        omega
      rw [if_neg hjt] at v3
      have := ih j (T ||| V 4 j) (q + 1) n v1 (or256 ok v1 hT) v3 (by omega) (fun ls' hv' => (hmin (j :: ls') ⟨v1, v2, by rw [if_neg hjt]; exact hv'⟩).cons) (by omega) (by omega) (by omega)
      rw [this, show k - q = (k - (q + 1)) + 1 by omega]
      rfl
theorem rl_w56 (ok : OKV V) {S : St} (hr : RlP S V) {i : Nat} (hi : i < V 8 0) (x2 x4 : Int32) : ∀ (m k n : Nat), k + m = i + 1 → m < n → F_X12_way_56 N n x2 (nI i) x4 (nI (tld V k)) (nI k) S = gd (inb (nI (256 * i + tld V (i + 1))) 5120) (if (S.2.1 85 (256 * i + tld V (i + 1))) < 100000 then (if 0 ≤ x2 then (if x2 < (S.2.1 85 (256 * i + tld V (i + 1))) then (F_X12_way_124 N N x2 (nI i) x4 (nI (tld V (i + 1))) (S.2.1 85 (256 * i + tld V (i + 1))) 0 S) else (some ((-1), S))) else (some (S.2.1 85 (256 * i + tld V (i + 1)), S))) else (some ((-2), S))) := by
  have h20 := ok.1
  intro m
  induction m with
  | zero =>
    intro k n hk hn
    obtain ⟨n, rfl⟩ : ∃ z, n = z + 1 := ⟨n - 1, by omega⟩
    have e : k = i + 1 := hk
    have hT := tld_lt ok (i + 1) (by omega)
    show (if nI i < nI k then (gd (inb ((256 * nI i) + nI (tld V k)) 5120) (if (S.2.1 85 (Int32.toNatClampNeg ((256 * nI i) + nI (tld V k)))) < 100000 then (if 0 ≤ x2 then (if x2 < (S.2.1 85 (Int32.toNatClampNeg ((256 * nI i) + nI (tld V k)))) then (F_X12_way_124 N N x2 (nI i) x4 (nI (tld V k)) (S.2.1 85 (Int32.toNatClampNeg ((256 * nI i) + nI (tld V k)))) 0 S) else (some ((-1), S))) else (some (S.2.1 85 (Int32.toNatClampNeg ((256 * nI i) + nI (tld V k))), S))) else (some ((-2), S)))) else _) = _
    rw [if_pos (by rw [e]; exact nI_lt (by omega) (by omega)), e, ix256, nI_clamp (by omega)]
  | succ m ih =>
    intro k n hk hn
    obtain ⟨n, rfl⟩ : ∃ z, n = z + 1 := ⟨n - 1, by omega⟩
    have hkn : k < V 8 0 := by omega
    have e4 := (hr.2.2.2.1 k hkn).2.2.2.2.1
    rw [← ih (k + 1) n (by omega) (by omega)]
    show (if nI i < nI k then _ else (gd (inb (nI k) 20) (F_X12_way_56 N n x2 (nI i) x4 (nI (tld V k) ||| (S.2.1 68 (Int32.toNatClampNeg (nI k)))) (nI k + 1) S))) = _
    rw [if_neg (nI_nlt (by omega) (by omega)), gd_t (inb_nI (by omega) (by decide)), nI_clamp (by omega), e4, nI_or, nI_1]
    rfl
end
theorem AgB.ag {S S' : St} (h : AgB S S') : Ag S S' := AgO.weak h (fun c s q => by
    refine not_t (fun z => ?_)
    have z' := of_decide_eq_true z
    subst z'
    have q2 : fX 7 s = true ∨ fP 7 s = true := by rw [Bool.or_eq_true] at q; exact q
    rcases q2 with q2 | q2
    · have := of_decide_eq_true q2
      simp only [List.mem_cons, List.not_mem_nil, or_false, Prod.mk.injEq] at this
      omega
    · have := of_decide_eq_true q2
      simp only [List.mem_cons, List.not_mem_nil, or_false, Prod.mk.injEq] at this
      omega) (fun k q => by
    refine not_t (fun z => ?_)
    have z' := of_decide_eq_true z
    rcases z' with rfl | rfl <;> exact absurd q (by decide)) (fun _ _ => rfl)
theorem AgQ.ag {S S' : St} (h : AgQ S S') : Ag S S' := AgO.weak h (fun _ _ _ => rfl) (fun k q => by
    refine not_t (fun z => ?_)
    have z' := of_decide_eq_true z
    subst z'
    exact absurd q (by decide)) (fun _ _ => rfl)
/-- way -/
theorem st_way {N : Nat} (hN : 1000000000 ≤ N) {S : St} (h : Inv S) (x y : Int32) : Both (F_X11_way N x y) (F_X12_way N x y) S := by
  obtain ⟨V, kd, hI⟩ := id h
  obtain ⟨ok, hc, hr⟩ := play_iff.mp hI.1
  have h20 := ok.1
  have n10 : ¬ (1 : Int32) = 0 := by decide
  rcases pair_cases ok hc hr x with ⟨i, t, hi, ht, h0, ei, et, ea⟩ | ⟨ea, ho⟩
  · by_cases hy : (-1 : Int32) ≤ y
    · have hx2 : y = -1 ∨ ∃ k : Nat, k < 2 ^ 31 ∧ y = nI k := by
        by_cases c : y < 0
        · left
          have h1 : (-1 : Int) ≤ y.toInt := Int32.le_iff_toInt_le.mp hy
          have h2 : y.toInt < (0 : Int32).toInt := Int32.lt_iff_toInt_lt.mp c
          have h3 : (0 : Int32).toInt = 0 := by decide
          exact Int32.toInt_inj.mp (by show y.toInt = -1; omega)
        · right
          obtain ⟨k, t1, t2⟩ := nI_of c
          exact ⟨k, t1, t2⟩
      obtain ⟨S1, r, s1, s2, s3⟩ := cl_search hN ok ht hi hc
      have hr1 : RlP S1 V := hr.agree s2.ag.rl
      obtain ⟨S2, M, u1, u2, u3, u4, u5⟩ := rl_ways hN ok ht hr1
      have hr2 : RlP S2 V := u2.rl hr1
      have hT := tld_lt ok (i + 1) (by omega)
      have hk : 256 * i + tld V (i + 1) < 5120 := by omega
      have hML := u4.1 _ hk
      have hM1 := u4.pos hi hT
      have f1 : F_X11_way N x y S = (if r = (-1) then (some ((-2), S1)) else (if y < r then (if y = (-1) then (some (r, S1)) else ((F_X10_lineAt N r y S1).bind (fun r_65 => some (r_65.1, r_65.2)))) else (some ((-1), S1)))) := by
        unfold F_X11_way
        rw [ea, et, ei]
        simp only [Option.bind_some, if_neg n10, if_pos hy, s1]
      have f2 : F_X12_way N x y S1 = (if nI (M (256 * i + tld V (i + 1))) < 100000 then (if 0 ≤ y then (if y < nI (M (256 * i + tld V (i + 1))) then (F_X12_way_124 N N y (nI i) (nI t) (nI (tld V (i + 1))) (nI (M (256 * i + tld V (i + 1)))) 0 S2) else (some ((-1), S2))) else (some (nI (M (256 * i + tld V (i + 1))), S2))) else (some ((-2), S2))) := by
        unfold F_X12_way
        rw [if_neg h0, et, ei]
        simp only [F_isLine_t hi h20 hr1.1, F_isLine_t ht h20 hr1.1, Option.bind_some, if_neg n10, if_pos hy, u1]
        have e := rl_w56 (N := N) ok hr2 hi y (nI t) (i + 1) 0 N (by omega) (by omega)
        have e' : F_X12_way_56 N N y (nI i) (nI t) 0 0 S2 = _ := e
        rw [e', gd_t (inb_nI hk (by decide)), u3 _ hk]
      have hag : Ag S1 S2 := u2.ag
      rcases s3 with ⟨r1, r2⟩ | ⟨P, p1, p2, p3, p4, p5, p6, p7⟩
      · have hM : ¬ M (256 * i + tld V (i + 1)) < 100000 := fun z => by
          obtain ⟨ls, -, l2⟩ := u4.2 i _ hi hT z
          exact r2 ls l2
        refine both_ag h (S1 := S1) (S2 := S2) (r := -2) ?_ s2.ag ?_ hag
        · rw [f1, if_pos r1]
        · rw [f2, if_neg (show ¬ nI (M (256 * i + tld V (i + 1))) < 100000 from nI_nlt (b := 100000) (by omega) (by omega))]
      · have hle := u5 P i _ hi hT p4
        have hM : M (256 * i + tld V (i + 1)) = P.length := by
          obtain ⟨ls, l1, l2⟩ := u4.2 i _ hi hT (by omega)
          rcases p5 ls l2 with z | z | ⟨z, _⟩
          · rw [z]; exact l1.symm
          · omega
          · omega
        have hrn : ¬ r = -1 := fun z => nI_pos (n := P.length) (by omega) (by rw [← p3, z]; decide)
        have hf2 : ∀ (v : Int32), F_X12_way N x y S1 = (if 0 ≤ y then (if y < nI P.length then (F_X12_way_124 N N y (nI i) (nI t) (nI (tld V (i + 1))) (nI P.length) 0 S2) else (some ((-1), S2))) else (some (nI P.length, S2))) := by
          intro _
          rw [f2, hM, if_pos (show nI P.length < 100000 from nI_lt (b := 100000) (by omega) (by decide))]
        rcases hx2 with hx2 | ⟨k, hk1, hx2⟩
        · refine both_ag h (S1 := S1) (S2 := S2) (r := nI P.length) ?_ s2.ag ?_ hag
          · rw [f1, if_neg hrn, if_pos (show y < r by rw [hx2, p3]; exact Int32.lt_of_lt_of_le (show (-1 : Int32) < 0 by decide) (nI_pos' (by omega))), if_pos hx2, p3]
          · rw [hf2 0, if_neg (show ¬ (0 : Int32) ≤ y by rw [hx2]; decide)]
        · by_cases c : k < P.length
          · refine both_ag h (S1 := S1) (S2 := S2) (r := nI (P.getD k 0)) ?_ s2.ag ?_ hag
            · rw [f1, if_neg hrn, if_pos (show y < r by rw [hx2, p3]; exact nI_lt c (by omega)), if_neg (show ¬ y = -1 from fun z => nI_pos hk1 (by rw [← hx2, z]; decide)), p3, hx2, p7 k c]
              rfl
            · have e := rl_w124 hN ok hr2 u3 u4 ht u5 (k := k) (by omega) P i (tld V (i + 1)) 0 N hi hT p4 p2 p5 (Nat.zero_le _) (by omega) (by omega)
              have e' : F_X12_way_124 N N (nI k) (nI i) (nI t) (nI (tld V (i + 1))) (nI P.length) 0 S2 = _ := e
              rw [hf2 0, if_pos (show (0 : Int32) ≤ y by rw [hx2]; exact nI_pos' hk1), if_pos (show y < nI P.length by rw [hx2]; exact nI_lt c (by omega)), hx2, e']
              rfl
          · refine both_ag h (S1 := S1) (S2 := S2) (r := -1) ?_ s2.ag ?_ hag
            · rw [f1, if_neg hrn, if_neg (show ¬ y < r by rw [hx2, p3]; exact nI_nlt (by omega) hk1)]
            · rw [hf2 0, if_pos (show (0 : Int32) ≤ y by rw [hx2]; exact nI_pos' hk1), if_neg (show ¬ y < nI P.length by rw [hx2]; exact nI_nlt (by omega) hk1)]
    · refine both_ro h (r := -1) ?_ ?_
      · unfold F_X11_way
        simp only [ea, Option.bind_some, if_neg n10, if_neg hy]
      · unfold F_X12_way
        rw [if_neg h0, et, ei]
        simp only [F_isLine_t hi h20 hr.1, F_isLine_t ht h20 hr.1, Option.bind_some, if_neg n10, if_neg hy]
  · refine both_ro h (r := -1) ?_ ?_
    · unfold F_X11_way
      simp only [ea, Option.bind_some, if_true]
    · unfold F_X12_way
      rcases ho with q | ⟨q, q1⟩ | ⟨q, q1, q2⟩
      · rw [if_pos q]
      · rw [if_neg q, q1]
        simp only [Option.bind_some, if_true]
      · rw [if_neg q, q1]
        simp only [Option.bind_some, if_neg n10, q2, if_true]
