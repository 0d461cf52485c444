theorem line_end {S : St} {b p z : Nat} {v : Int32} (hS : S.1 (2 + b) 1 = nI z) (hz : z ≤ 121) (hp : p < z) (hr : S.2.1 (30 + b) p = -59) (hs : Stk S b [v]) (m : Nat) (x2 x3 x4 : Int32) : F_X5_worth_11 (m + 1) b x2 x3 x4 (nI p) S = if x4 = 0 then F_X5_worth_11 m b x2 x3 1 (nI (p + 1)) (popS S b 0) else some (v, popS S b 0) := by
  have hv : S.2.1 (32 + b) 0 = v := hs.2.1
  have hp' : F_X5_pop b S = some (v, popS S b 0) := by rw [← hv]; exact pop_eq (n := 0) hs.1 (by decide)
  rw [wo_e hS hz hp hr, hp', Option.bind_some]
theorem line_q {S : St} {b p z : Nat} {v : Int32} (hS : S.1 (2 + b) 1 = nI z) (hz : z ≤ 121) (hp : p < z) (hr : S.2.1 (30 + b) p = -63) (hs : Stk S b [v]) (m : Nat) (x2 x3 x4 : Int32) : F_X5_worth_11 (m + 1) b x2 x3 x4 (nI p) S = F_X5_worth_11 m b x2 x3 (if v = 0 then 0 else 1) (nI (p + 1)) (popS S b 0) := by
  have hv : S.2.1 (32 + b) 0 = v := hs.2.1
  have hp' : F_X5_pop b S = some (v, popS S b 0) := by rw [← hv]; exact pop_eq (n := 0) hs.1 (by decide)
  rw [wo_q hS hz hp hr, hp', Option.bind_some]
  by_cases q : v = 0
  · rw [if_pos q, if_pos q]
  · rw [if_neg q, if_neg q]
theorem one_of {l : List Int32} (h : l.length = 1) : l = [l.headD 0] := by
  match l, h with
  | [x], _ => rfl
theorem codeC_cons (q : List (Nat × Nat) × List (Nat × Nat)) (P : List (List (Nat × Nat) × List (Nat × Nat))) : codeC (q :: P) = (q.1.map tkC ++ ((if q.1 = [] then [] else [-63]) ++ (q.2.map tkC ++ [-59]))) ++ codeC P := rfl
theorem cl_worth {b k z : Nat} {V : Nat → Nat → Nat} {h : Int32} (hb : b < 2) (ok : OKV V) (hk : k < V 8 0) (hz : z ≤ 121) : ∀ (P : List (List (Nat × Nat) × List (Nat × Nat))) (p : Nat) (S : St), ClP S V → (∀ q ∈ P, wfL q) → Rd (S.2.1 (30 + b)) p (codeC P) → p + (codeC P).length = z → S.1 (2 + b) 1 = nI z → Stk S b [] → ∃ S', (∀ m, F_X5_worth_11 (m + (codeC P).length + 1) b (nI k) h 1 (nI p) S = some (evL (fcV V k h) P, S')) ∧ AgW S S'
  | [], p, S, hc, _, _, hp, hS, hs => by
    refine ⟨S, fun m => ?_, AgO.rfl⟩
    have hp' : p = z := hp
    show (if (S.1 (2 + b) 1) ≤ nI p then _ else _) = _
    rw [if_pos (by rw [hS, hp']; exact Int32.le_refl _)]
    rfl
  | q :: P, p, S, hc, hw, hr, hp, hS, hs => by
    obtain ⟨w1, w2, w3⟩ := hw q (List.mem_cons_self ..)
    have hw' : ∀ q' ∈ P, wfL q' := fun q' h' => hw q' (List.mem_cons_of_mem _ h')
    rw [codeC_cons] at hr hp
    obtain ⟨hr1, hrP⟩ := Rd_app hr
    by_cases c : q.1 = []
    · rw [c] at hr1 hrP hp
      rw [if_pos rfl] at hr1 hrP hp
      have hr1' : Rd (S.2.1 (30 + b)) p (q.2.map tkC ++ [-59]) := hr1
      obtain ⟨hr2, hr3⟩ := Rd_app hr1'
      rw [List.length_map] at hr3
      have hpl : p + (q.2.length + 1 + (codeC P).length) = z := by
        rw [← hp]
        simp only [List.map_nil, List.nil_append, List.length_append, List.length_map, List.length_cons, List.length_nil]
      obtain ⟨S1, s1, s2, s3, s4⟩ := cl_ev (h := h) hb ok hk hz q.2 p [] S hc (fun t ht => w1 t (List.mem_append_right _ ht)) w3 hr2 (by omega) hS hs (by show 0 + _ ≤ _; omega)
      rw [one_of s4] at s3
      have e1 : S1.1 (2 + b) 1 = nI z := (s2.1 _ _ (fW_of (by omega))).trans hS
      have e2 : S1.2.1 (30 + b) (p + q.2.length) = -59 := by rw [s2.2.1 _ (aW_of (by omega))]; exact hr3.1
      refine ⟨popS S1 b 0, fun m => ?_, s2.tr (AgW.pop hb _)⟩
      have el : m + (codeC (q :: P)).length + 1 = (m + (codeC P).length + 1) + 1 + q.2.length := by
        rw [codeC_cons, c, if_pos rfl]
        simp only [List.map_nil, List.nil_append, List.length_append, List.length_map, List.length_cons, List.length_nil]
        omega
      rw [el, s1, line_end e1 hz (by omega) e2 s3, if_neg (by decide)]
      show _ = some ((if q.1 = [] then (evT (fcV V k h) q.2 []).headD 0 else _), _)
      rw [if_pos c]
    · rw [if_neg c] at hr1 hrP hp
      obtain ⟨hr2, hr3⟩ := Rd_app hr1
      rw [List.length_map] at hr3
      have hr4 : S.2.1 (30 + b) (p + q.1.length) = -63 := hr3.1
      have hr5 : Rd (S.2.1 (30 + b)) (p + q.1.length + 1) (q.2.map tkC ++ [-59]) := hr3.2
      obtain ⟨hr6, hr7⟩ := Rd_app hr5
      rw [List.length_map] at hr7
      have hpl : p + (q.1.length + (1 + (q.2.length + 1)) + (codeC P).length) = z := by
        rw [← hp]
        simp only [List.length_append, List.length_map, List.length_cons, List.length_nil]
      have hrP' : Rd (S.2.1 (30 + b)) (p + q.1.length + 1 + q.2.length + 1) (codeC P) := by
        rw [show p + q.1.length + 1 + q.2.length + 1 = p + (List.map tkC q.1 ++ ([-63] ++ (List.map tkC q.2 ++ [-59]))).length by
          simp only [List.length_append, List.length_map, List.length_cons, List.length_nil]; omega]
        exact hrP
      obtain ⟨S1, s1, s2, s3, s4⟩ := cl_ev (h := h) hb ok hk hz q.1 p [] S hc (fun t ht => w1 t (List.mem_append_left _ ht)) (w2.resolve_left c) hr2 (by omega) hS hs (by show 0 + _ ≤ _; omega)
      rw [one_of s4] at s3
      have e1 : S1.1 (2 + b) 1 = nI z := (s2.1 _ _ (fW_of (by omega))).trans hS
      have e2 : S1.2.1 (30 + b) = S.2.1 (30 + b) := s2.2.1 _ (aW_of (by omega))
      have a2 : AgW S (popS S1 b 0) := s2.tr (AgW.pop hb _)
      have f1 : (popS S1 b 0).1 (2 + b) 1 = nI z := (a2.1 _ _ (fW_of (by omega))).trans hS
      have f2 : (popS S1 b 0).2.1 (30 + b) = S.2.1 (30 + b) := a2.2.1 _ (aW_of (by omega))
      obtain ⟨S3, u1, u2, u3, u4⟩ := cl_ev (h := h) hb ok hk hz q.2 (p + q.1.length + 1) [] (popS S1 b 0) (a2.cl hc) (fun t ht => w1 t (List.mem_append_right _ ht)) w3 (by rw [f2]; exact hr6) (by omega) f1 s3.pop (by show 0 + _ ≤ _; omega)
      rw [one_of u4] at u3
      have a3 : AgW S S3 := a2.tr u2
      have g1 : S3.1 (2 + b) 1 = nI z := (a3.1 _ _ (fW_of (by omega))).trans hS
      have g2 : S3.2.1 (30 + b) (p + q.1.length + 1 + q.2.length) = -59 := by rw [a3.2.1 _ (aW_of (by omega))]; exact hr7.1
      have a4 : AgW S (popS S3 b 0) := a3.tr (AgW.pop hb _)
      obtain ⟨S5, v1, v2⟩ := cl_worth (h := h) hb ok hk hz P (p + q.1.length + 1 + q.2.length + 1) (popS S3 b 0) (a4.cl hc) hw' (by rw [a4.2.1 _ (aW_of (by omega))]; exact hrP') (by omega) ((a4.1 _ _ (fW_of (by omega))).trans hS) u3.pop
      have el : ∀ m, m + (codeC (q :: P)).length + 1 = ((m + (codeC P).length + 1) + 1 + q.2.length) + 1 + q.1.length := by
        intro m
        rw [codeC_cons, if_neg c]
        simp only [List.length_append, List.length_map, List.length_cons, List.length_nil]
        omega
      have ee : evL (fcV V k h) (q :: P) = if (evT (fcV V k h) q.1 []).headD 0 = 0 then evL (fcV V k h) P else (evT (fcV V k h) q.2 []).headD 0 := if_neg c
      by_cases d : (evT (fcV V k h) q.1 []).headD 0 = 0
      · refine ⟨S5, fun m => ?_, a4.tr v2⟩
        rw [el, s1, line_q e1 hz (by omega) (by rw [e2]; exact hr4) s3, if_pos d, u1, line_end g1 hz (by omega) g2 u3, if_pos rfl, v1, ee, if_pos d]
      · refine ⟨popS S3 b 0, fun m => ?_, a4⟩
        rw [el, s1, line_q e1 hz (by omega) (by rw [e2]; exact hr4) s3, if_neg d, u1, line_end g1 hz (by omega) g2 u3, if_neg (by decide), ee, if_neg d]
/-! the reference: one step -/
section
variable {S : St} {x1 x3 : Int32} {E q n : Nat}
theorem wk_num (hE : (130 * x1) + x3 = nI E) (hq : q < E) (hE2 : E ≤ 390) (h77 : S.2.1 77 q = 1) (hn : n < 130) (m : Nat) : F_X12_worked_12 (m + 1) x1 x3 (nI n) (nI q) S = F_X12_worked_12 m x1 x3 (nI (n + 1)) (nI (q + 1)) (aset S 83 (upd (S.2.1 83) n (S.2.1 78 q))) := by
  have h1 : ¬ ((130 * x1) + x3) ≤ nI q := by rw [hE]; exact nI_ge hq (by omega)
  have h2 : S.2.1 77 (Int32.toNatClampNeg (nI q)) = 1 := by rw [nI_clamp (by omega)]; exact h77
  have hi : inb (nI q) 390 = true := inb_nI (by omega) (by decide)
  show (if ((130 * x1) + x3) ≤ nI q then _ else gd (inb (nI q) 390) (if (S.2.1 77 (Int32.toNatClampNeg (nI q))) = 1 then (F_X12_worked_45 (F_X12_worked_12 m) x1 x3 (nI n) (nI q) (S.2.1 77 (Int32.toNatClampNeg (nI q))) S) else _)) = _
  rw [if_neg h1, gd_t hi, h2, if_pos rfl]
  unfold F_X12_worked_45
  rw [if_pos rfl, gd_t hi, gd_t (inb_nI hn (by decide)), nI_clamp (n := n) (by omega), nI_clamp (n := q) (by omega)]
  show F_X12_worked_12 m x1 x3 (nI n + 1) (nI q + 1) _ = _
  rw [nI_1, nI_1]
theorem wk_nam {j : Nat} (hE : (130 * x1) + x3 = nI E) (hq : q < E) (hE2 : E ≤ 390) (h77 : S.2.1 77 q = 2) (h78 : S.2.1 78 q = nI j) (hj : j < 6) (hn : n < 130) (m : Nat) : F_X12_worked_12 (m + 1) x1 x3 (nI n) (nI q) S = F_X12_worked_12 m x1 x3 (nI (n + 1)) (nI (q + 1)) (aset S 83 (upd (S.2.1 83) n (S.2.1 82 j))) := by
  have h1 : ¬ ((130 * x1) + x3) ≤ nI q := by rw [hE]; exact nI_ge hq (by omega)
  have h2 : S.2.1 77 (Int32.toNatClampNeg (nI q)) = 2 := by rw [nI_clamp (by omega)]; exact h77
  have h3 : S.2.1 78 (Int32.toNatClampNeg (nI q)) = nI j := by rw [nI_clamp (by omega)]; exact h78
  have hi : inb (nI q) 390 = true := inb_nI (by omega) (by decide)
  show (if ((130 * x1) + x3) ≤ nI q then _ else gd (inb (nI q) 390) (if (S.2.1 77 (Int32.toNatClampNeg (nI q))) = 1 then _ else (if (S.2.1 77 (Int32.toNatClampNeg (nI q))) = 2 then (F_X12_worked_45 (F_X12_worked_12 m) x1 x3 (nI n) (nI q) (S.2.1 77 (Int32.toNatClampNeg (nI q))) S) else _))) = _
  rw [if_neg h1, gd_t hi, h2, if_neg (by decide), if_pos rfl]
  unfold F_X12_worked_45
  rw [if_neg (by decide), gd_t hi, h3, gd_t (inb_nI hj (by decide)), gd_t (inb_nI hn (by decide)), nI_clamp (n := n) (by omega), nI_clamp (n := j) (by omega)]
  show F_X12_worked_12 m x1 x3 (nI n + 1) (nI q + 1) _ = _
  rw [nI_1, nI_1]
theorem wk_not {x : Int32} (hE : (130 * x1) + x3 = nI E) (hq : q < E) (hE2 : E ≤ 390) (h77 : S.2.1 77 q = 3) (hx : S.2.1 83 n = x) (hn : n < 130) (m : Nat) : F_X12_worked_12 (m + 1) x1 x3 (nI (n + 1)) (nI q) S = F_X12_worked_12 m x1 x3 (nI (n + 1)) (nI (q + 1)) (aset S 83 (upd (S.2.1 83) n (if x = 0 then 1 else 0))) := by
  have h1 : ¬ ((130 * x1) + x3) ≤ nI q := by rw [hE]; exact nI_ge hq (by omega)
  have h2 : S.2.1 77 (Int32.toNatClampNeg (nI q)) = 3 := by rw [nI_clamp (by omega)]; exact h77
  have hi : inb (nI q) 390 = true := inb_nI (by omega) (by decide)
  have hi2 : inb (nI (n + 1) - 1) 130 = true := by rw [nI_pred]; exact inb_nI hn (by decide)
  have h4 : S.2.1 83 (Int32.toNatClampNeg (nI (n + 1) - 1)) = x := by rw [nI_pred, nI_clamp (by omega)]; exact hx
  show (if ((130 * x1) + x3) ≤ nI q then _ else gd (inb (nI q) 390) (if (S.2.1 77 (Int32.toNatClampNeg (nI q))) = 1 then _ else (if (S.2.1 77 (Int32.toNatClampNeg (nI q))) = 2 then _ else (if (S.2.1 77 (Int32.toNatClampNeg (nI q))) = 3 then (gd (inb (nI (n + 1) - 1) 130) (if (S.2.1 83 (Int32.toNatClampNeg (nI (n + 1) - 1))) = 0 then (gd (inb (nI (n + 1) - 1) 130) (F_X12_worked_12 m x1 x3 (nI (n + 1)) (nI q + 1) (aset S 83 (upd (S.2.1 83) (Int32.toNatClampNeg (nI (n + 1) - 1)) (1 : Int32))))) else (gd (inb (nI (n + 1) - 1) 130) (F_X12_worked_12 m x1 x3 (nI (n + 1)) (nI q + 1) (aset S 83 (upd (S.2.1 83) (Int32.toNatClampNeg (nI (n + 1) - 1)) (0 : Int32))))))) else _)))) = _
  rw [if_neg h1, gd_t hi, h2, if_neg (by decide), if_neg (by decide), if_pos rfl, gd_t hi2, h4]
  by_cases c : x = 0
  · rw [if_pos c, if_pos c, gd_t hi2, nI_pred, nI_clamp (n := n) (by omega), nI_1]
  · rw [if_neg c, if_neg c, gd_t hi2, nI_pred, nI_clamp (n := n) (by omega), nI_1]
theorem wk_neg (hE : (130 * x1) + x3 = nI E) (hq : q < E) (hE2 : E ≤ 390) (h77 : S.2.1 77 q = 4) (hn : n < 130) (m : Nat) : F_X12_worked_12 (m + 1) x1 x3 (nI (n + 1)) (nI q) S = F_X12_worked_12 m x1 x3 (nI (n + 1)) (nI (q + 1)) (aset S 83 (upd (S.2.1 83) n (-(S.2.1 83 n)))) := by
  have h1 : ¬ ((130 * x1) + x3) ≤ nI q := by rw [hE]; exact nI_ge hq (by omega)
  have h2 : S.2.1 77 (Int32.toNatClampNeg (nI q)) = 4 := by rw [nI_clamp (by omega)]; exact h77
  have hi : inb (nI q) 390 = true := inb_nI (by omega) (by decide)
  have hi2 : inb (nI (n + 1) - 1) 130 = true := by rw [nI_pred]; exact inb_nI hn (by decide)
  show (if ((130 * x1) + x3) ≤ nI q then _ else gd (inb (nI q) 390) (if (S.2.1 77 (Int32.toNatClampNeg (nI q))) = 1 then _ else (if (S.2.1 77 (Int32.toNatClampNeg (nI q))) = 2 then _ else (if (S.2.1 77 (Int32.toNatClampNeg (nI q))) = 3 then _ else (if (S.2.1 77 (Int32.toNatClampNeg (nI q))) = 4 then (gd (inb (nI (n + 1) - 1) 130) (gd (inb (nI (n + 1) - 1) 130) (F_X12_worked_12 m x1 x3 (nI (n + 1)) (nI q + 1) (aset S 83 (upd (S.2.1 83) (Int32.toNatClampNeg (nI (n + 1) - 1)) (-(S.2.1 83 (Int32.toNatClampNeg (nI (n + 1) - 1)))))))))  else _))))) = _
  rw [if_neg h1, gd_t hi, h2, if_neg (by decide), if_neg (by decide), if_neg (by decide), if_pos rfl, gd_t hi2, gd_t hi2, nI_pred, nI_clamp (n := n) (by omega), nI_1]
theorem wk_two {s : Nat} (hs : s ∈ ([124, 38, 60, 61, 62, 43, 45, 42, 47, 37] : List Nat)) (hE : (130 * x1) + x3 = nI E) (hq : q < E) (hE2 : E ≤ 390) (h77 : S.2.1 77 q = nI s) (hn : n + 1 < 130) (m : Nat) : F_X12_worked_12 (m + 1) x1 x3 (nI (n + 1 + 1)) (nI q) S = F_X12_worked_12 m x1 x3 (nI (n + 1)) (nI (q + 1)) (aset S 83 (upd (S.2.1 83) n (twoW s (S.2.1 83 n) (S.2.1 83 (n + 1))))) := by
  have h1 : ¬ ((130 * x1) + x3) ≤ nI q := by rw [hE]; exact nI_ge hq (by omega)
  have h2 : S.2.1 77 (Int32.toNatClampNeg (nI q)) = nI s := by rw [nI_clamp (by omega)]; exact h77
  have hi : inb (nI q) 390 = true := inb_nI (by omega) (by decide)
  have w := (sg_not hs).2.2
  show (if ((130 * x1) + x3) ≤ nI q then _ else gd (inb (nI q) 390) (if (S.2.1 77 (Int32.toNatClampNeg (nI q))) = 1 then _ else (if (S.2.1 77 (Int32.toNatClampNeg (nI q))) = 2 then _ else (if (S.2.1 77 (Int32.toNatClampNeg (nI q))) = 3 then _ else (if (S.2.1 77 (Int32.toNatClampNeg (nI q))) = 4 then _ else (gd (inb ((nI (n + 1 + 1) + (-1)) - 1) 130) (gd (inb (nI (n + 1 + 1) + (-1)) 130) ((F_X12_twoOf (S.2.1 77 (Int32.toNatClampNeg (nI q))) (S.2.1 83 (Int32.toNatClampNeg ((nI (n + 1 + 1) + (-1)) - 1))) (S.2.1 83 (Int32.toNatClampNeg (nI (n + 1 + 1) + (-1)))) S).bind (fun r => gd (inb ((nI (n + 1 + 1) + (-1)) - 1) 130) (F_X12_worked_12 m x1 x3 (nI (n + 1 + 1) + (-1)) (nI q + 1) (aset r.2 83 (upd (r.2.2.1 83) (Int32.toNatClampNeg ((nI (n + 1 + 1) + (-1)) - 1)) r.1))))))))))) ) = _
  rw [if_neg h1, gd_t hi, h2, if_neg w.1, if_neg w.2.1, if_neg w.2.2.1, if_neg w.2.2.2, pk_m1, nI_pred, gd_t (inb_nI (by omega) (by decide)), gd_t (inb_nI hn (by decide)), nI_clamp (n := n) (by omega), nI_clamp (n := n + 1) (by omega), twoOf_eq hs, Option.bind_some, gd_t (inb_nI (by omega) (by decide)), nI_1]
end
