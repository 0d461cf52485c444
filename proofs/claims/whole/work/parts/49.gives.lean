theorem drop_cons {α : Type} (P : List α) (d : α) {k : Nat} (h : k < P.length) : P.drop k = P.getD k d :: P.drop (k + 1) := by
  rw [List.drop_eq_getElem_cons h, List.getD_eq_getElem?_getD, List.getElem?_eq_getElem h]
  rfl
theorem getD_mem {α : Type} (P : List α) (d : α) {k : Nat} (h : k < P.length) : P.getD k d ∈ P := by
  rw [List.getD_eq_getElem?_getD, List.getElem?_eq_getElem h]
  exact List.getElem_mem h
theorem getD_app_l {α : Type} (l l' : List α) (d : α) {i : Nat} (h : i < l.length) : (l ++ l').getD i d = l.getD i d := by
  rw [List.getD_eq_getElem?_getD, List.getD_eq_getElem?_getD, List.getElem?_append_left h]
theorem getD_app_r {α : Type} (l l' : List α) (d : α) (i : Nat) : (l ++ l').getD (l.length + i) d = l'.getD i d := by
  rw [List.getD_eq_getElem?_getD, List.getD_eq_getElem?_getD, List.getElem?_append_right (by omega), Nat.add_sub_cancel_left]
/-- a law as the class, and as the reference, holds it -/
def WfL : Option (List (List (Nat × Nat) × List (Nat × Nat))) → Prop
  | none => True
  | some P => P ≠ [] ∧ (∀ q ∈ P, wfL q) ∧ (codeC P).length ≤ 121
def ClL (S : St) (b : Nat) : Option (List (List (Nat × Nat) × List (Nat × Nat))) → Prop
  | none => S.1 (2 + b) 1 = 0
  | some P => S.1 (2 + b) 1 = nI (codeC P).length ∧ Rd (S.2.1 (30 + b)) 0 (codeC P)
def RlL (S : St) (w : Nat) : Option (List (List (Nat × Nat) × List (Nat × Nat))) → Prop
  | none => S.2.1 84 w = 0
  | some P => S.2.1 84 w = 1 ∧ S.2.1 79 w = nI P.length ∧ (∀ i, i < (toks P).length → S.2.1 77 (130 * w + i) = tkA ((toks P).getD i (0, 0)) ∧ S.2.1 78 (130 * w + i) = tkW ((toks P).getD i (0, 0))) ∧ (∀ k, k < P.length → S.2.1 80 (61 * w + k) = nI (offL P k + (P.getD k ([], [])).1.length) ∧ S.2.1 81 (61 * w + k) = nI (offL P (k + 1)))
theorem LwB.law {S : St} {w : Nat} (h : LwB S w) : ∃ L, WfL L ∧ ClL S w L ∧ RlL S w L := by
  rcases h with ⟨h1, h2⟩ | ⟨h1, P, h2, h3, h4, h5, h6, h7, h8, h9⟩
  · exact ⟨none, trivial, h1, h2⟩
  · exact ⟨some P, ⟨h2, h3, h4⟩, ⟨h5, Rd_of (fun i hi => by rw [Nat.zero_add]; exact h6 i hi)⟩, h1, h7, h8, h9⟩
theorem ClL.agree {S S' : St} {b : Nat} {L : Option (List (List (Nat × Nat) × List (Nat × Nat)))} (h : ClL S b L) (h1 : S'.1 (2 + b) 1 = S.1 (2 + b) 1) (h2 : S'.2.1 (30 + b) = S.2.1 (30 + b)) : ClL S' b L := by
  cases L with
  | none => exact h1.trans h
  | some P => exact ⟨h1.trans h.1, by rw [h2]; exact h.2⟩
theorem RlL.agree {S S' : St} {w : Nat} {L : Option (List (List (Nat × Nat) × List (Nat × Nat)))} (h : RlL S w L) (h1 : S'.2.1 84 = S.2.1 84) (h2 : S'.2.1 79 = S.2.1 79) (h3 : S'.2.1 77 = S.2.1 77) (h4 : S'.2.1 78 = S.2.1 78) (h5 : S'.2.1 80 = S.2.1 80) (h6 : S'.2.1 81 = S.2.1 81) : RlL S' w L := by
  cases L with
  | none => show S'.2.1 84 w = 0; rw [h1]; exact h
  | some P =>
    show S'.2.1 84 w = 1 ∧ S'.2.1 79 w = nI P.length ∧ (∀ i, i < (toks P).length → S'.2.1 77 (130 * w + i) = tkA ((toks P).getD i (0, 0)) ∧ S'.2.1 78 (130 * w + i) = tkW ((toks P).getD i (0, 0))) ∧ (∀ k, k < P.length → S'.2.1 80 (61 * w + k) = nI (offL P k + (P.getD k ([], [])).1.length) ∧ S'.2.1 81 (61 * w + k) = nI (offL P (k + 1)))
    rw [h1, h2, h3, h4, h5, h6]
    exact h
theorem AgW.cll {S S' : St} {b : Nat} {L : Option (List (List (Nat × Nat) × List (Nat × Nat)))} (h : AgW S S') (hb : b < 2) (hc : ClL S b L) : ClL S' b L := hc.agree (h.1 _ _ (fW_of (by omega))) (h.2.1 _ (aW_of (by omega)))
theorem AgW.rll {S S' : St} {w : Nat} {L : Option (List (List (Nat × Nat) × List (Nat × Nat)))} (h : AgW S S') (hc : RlL S w L) : RlL S' w L := hc.agree (h.2.1 _ (by decide)) (h.2.1 _ (by decide)) (h.2.1 _ (by decide)) (h.2.1 _ (by decide)) (h.2.1 _ (by decide)) (h.2.1 _ (by decide))
/-- the lines one by one -/
theorem rl_gives {N : Nat} (hN : 130 ≤ N) {fc : Nat → Int32} {S : St} {w : Nat} (hw : w < 2) (hfc : ∀ j, j < 6 → S.2.1 82 j = fc j) {P : List (List (Nat × Nat) × List (Nat × Nat))} (hP : WfL (some P)) (hR : RlL S w (some P)) : ∀ (m k : Nat) (f : Nat → Int32) (n : Nat), k + m = P.length → m < n → ∃ g, F_X12_gives_7 N n (nI w) (nI (offL P k)) (nI (61 * w + k)) (aset S 83 f) = some (evL fc (P.drop k), aset S 83 g)
  | m, k, f, 0, hk, hn => absurd hn (Nat.not_lt_zero m)
  | 0, k, f, n + 1, hk, hn => by
    obtain ⟨r1, r2, r3, r4⟩ := hR
    have hlen := toks_le P
    have h121 := hP.2.2
    refine ⟨f, ?_⟩
    show gd (inb (nI w) 3) (if ((61 * nI w) + (S.2.1 79 (Int32.toNatClampNeg (nI w)))) ≤ nI (61 * w + k) then (some (0, aset S 83 f)) else _) = _
    rw [gd_t (inb_nI (by omega) (by decide)), nI_clamp (n := w) (by omega), r2, m61, if_pos (by rw [← hk]; exact Int32.le_refl _), List.drop_eq_nil_of_le (by omega)]
    rfl
  | m + 1, k, f, n + 1, hk, hn => by
    obtain ⟨r1, r2, r3, r4⟩ := id hR
    have hlen := toks_le P
    have h121 := hP.2.2
    have hkP : k < P.length := by omega
    obtain ⟨t1, t2⟩ := r4 k hkP
    obtain ⟨w1, w2, w3⟩ := hP.2.1 _ (getD_mem P ([], []) hkP)
    have ho := offL_succ P k hkP
    have hol := offL_le P (k + 1)
    have hat := toks_at P k
    rw [drop_cons P ([], []) hkP]
    generalize P.getD k ([], []) = q at t1 w1 w2 w3 ho hat ⊢
    have hge : ¬ ((61 * nI w) + S.2.1 79 w) ≤ nI (61 * w + k) := by rw [r2, m61]; exact nI_ge (by omega) (by omega)
    have hi : inb (nI (61 * w + k)) 183 = true := inb_nI (by omega) (by decide)
    -- both sides of the line
    have rd1 : ∀ i, i < q.1.length → S.2.1 77 (130 * w + offL P k + i) = tkA (q.1.getD i (0, 0)) ∧ S.2.1 78 (130 * w + offL P k + i) = tkW (q.1.getD i (0, 0)) := by
      intro i hi
      obtain ⟨a1, a2⟩ := hat i hkP (by omega)
      rw [Nat.add_assoc, ← getD_app_l q.1 q.2 _ hi, ← a2]
      exact r3 _ a1
    have rd2 : ∀ i, i < q.2.length → S.2.1 77 (130 * w + (offL P k + q.1.length) + i) = tkA (q.2.getD i (0, 0)) ∧ S.2.1 78 (130 * w + (offL P k + q.1.length) + i) = tkW (q.2.getD i (0, 0)) := by
      intro i hi
      obtain ⟨a1, a2⟩ := hat (q.1.length + i) hkP (by omega)
      rw [Nat.add_assoc, Nat.add_assoc, ← getD_app_r q.1 q.2, ← a2]
      exact r3 _ a1
    have run2 : ∀ f, ∃ g, F_X12_worked N (nI w) (nI (offL P k + q.1.length)) (nI (offL P (k + 1))) (aset S 83 f) = some ((evT fc q.2 []).headD 0, aset S 83 g) := fun f => by
      rw [ho]
      exact rl_worked hN hw hfc (fun t ht => w1 t (List.mem_append_right _ ht)) w3 rd2 (by omega) f
    by_cases c : q.1 = []
    · obtain ⟨g, hg⟩ := run2 f
      refine ⟨g, ?_⟩
      have heq : S.2.1 80 (61 * w + k) = nI (offL P k) := by rw [t1, c]; rfl
      show gd (inb (nI w) 3) (if ((61 * nI w) + (S.2.1 79 (Int32.toNatClampNeg (nI w)))) ≤ nI (61 * w + k) then _ else (gd (inb (nI (61 * w + k)) 183) (if (S.2.1 80 (Int32.toNatClampNeg (nI (61 * w + k)))) = nI (offL P k) then (gd (inb (nI (61 * w + k)) 183) (gd (inb (nI (61 * w + k)) 183) ((F_X12_worked N (nI w) (S.2.1 80 (Int32.toNatClampNeg (nI (61 * w + k)))) (S.2.1 81 (Int32.toNatClampNeg (nI (61 * w + k)))) (aset S 83 f)).bind (fun r => some (r.1, r.2))))) else _))) = _
      rw [gd_t (inb_nI (by omega) (by decide)), nI_clamp (n := w) (by omega), if_neg hge, gd_t hi, nI_clamp (n := 61 * w + k) (by omega), if_pos heq, gd_t hi, gd_t hi, t1, t2, hg]
      show some (_, _) = some ((if q.1 = [] then (evT fc q.2 []).headD 0 else _), _)
      rw [if_pos c]
    · have hne : ¬ S.2.1 80 (61 * w + k) = nI (offL P k) := by
        rw [t1]
        intro q'
        have := nI_inj (by omega) (by omega) q'
        exact c (List.length_eq_zero_iff.mp (by omega))
      obtain ⟨g1, hg1⟩ := rl_worked hN hw hfc (fun t ht => w1 t (List.mem_append_left _ ht)) (w2.resolve_left c) rd1 (by omega) f
      have hd : evL fc (q :: P.drop (k + 1)) = if (evT fc q.1 []).headD 0 = 0 then evL fc (P.drop (k + 1)) else (evT fc q.2 []).headD 0 := if_neg c
      rw [hd]
      by_cases d : (evT fc q.1 []).headD 0 = 0
      · obtain ⟨g2, hg2⟩ := rl_gives hN hw hfc hP hR m (k + 1) g1 n (by omega) (by omega)
        refine ⟨g2, ?_⟩
        show gd (inb (nI w) 3) (if ((61 * nI w) + (S.2.1 79 (Int32.toNatClampNeg (nI w)))) ≤ nI (61 * w + k) then _ else (gd (inb (nI (61 * w + k)) 183) (if (S.2.1 80 (Int32.toNatClampNeg (nI (61 * w + k)))) = nI (offL P k) then _ else (gd (inb (nI (61 * w + k)) 183) ((F_X12_worked N (nI w) (nI (offL P k)) (S.2.1 80 (Int32.toNatClampNeg (nI (61 * w + k)))) (aset S 83 f)).bind (fun r => if r.1 = 0 then (gd (inb (nI (61 * w + k)) 183) ((F_X12_gives_7 N n) (nI w) (r.2.2.1 81 (Int32.toNatClampNeg (nI (61 * w + k)))) (nI (61 * w + k) + 1) r.2)) else _)))))) = _
        rw [gd_t (inb_nI (by omega) (by decide)), nI_clamp (n := w) (by omega), if_neg hge, gd_t hi, nI_clamp (n := 61 * w + k) (by omega), if_neg hne, gd_t hi, t1, hg1, Option.bind_some, if_pos d, gd_t hi, nI_1, if_pos d]
        show F_X12_gives_7 N n (nI w) (S.2.1 81 (61 * w + k)) (nI (61 * w + (k + 1))) (aset S 83 g1) = _
        rw [t2, hg2]
      · obtain ⟨g2, hg2⟩ := run2 g1
        refine ⟨g2, ?_⟩
        show gd (inb (nI w) 3) (if ((61 * nI w) + (S.2.1 79 (Int32.toNatClampNeg (nI w)))) ≤ nI (61 * w + k) then _ else (gd (inb (nI (61 * w + k)) 183) (if (S.2.1 80 (Int32.toNatClampNeg (nI (61 * w + k)))) = nI (offL P k) then _ else (gd (inb (nI (61 * w + k)) 183) ((F_X12_worked N (nI w) (nI (offL P k)) (S.2.1 80 (Int32.toNatClampNeg (nI (61 * w + k)))) (aset S 83 f)).bind (fun r => if r.1 = 0 then _ else (gd (inb (nI (61 * w + k)) 183) (gd (inb (nI (61 * w + k)) 183) ((F_X12_worked N (nI w) (r.2.2.1 80 (Int32.toNatClampNeg (nI (61 * w + k)))) (r.2.2.1 81 (Int32.toNatClampNeg (nI (61 * w + k)))) r.2).bind (fun r => some (r.1, r.2))))))))))) = _
        rw [gd_t (inb_nI (by omega) (by decide)), nI_clamp (n := w) (by omega), if_neg hge, gd_t hi, nI_clamp (n := 61 * w + k) (by omega), if_neg hne, gd_t hi, t1, hg1, Option.bind_some, if_neg d, gd_t hi, gd_t hi, if_neg d]
        show (F_X12_worked N (nI w) (S.2.1 80 (61 * w + k)) (S.2.1 81 (61 * w + k)) (aset S 83 g1)).bind (fun r => some (r.1, r.2)) = _
        rw [t1, t2, hg2]
        rfl
