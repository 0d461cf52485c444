def uB (w : List Nat) : Nat := (w.filter (fun s => decide (s = 40 ∨ sgS s = 6))).length
def bB (w : List Nat) : Nat := (w.filter (fun s => decide (s = 40))).length
theorem uB_cons (s : Nat) (w : List Nat) : uB (s :: w) = uB w + (if s = 40 ∨ sgS s = 6 then 1 else 0) := by
  unfold uB
  by_cases c : s = 40 ∨ sgS s = 6
  · rw [List.filter_cons_of_pos (by simpa using c), if_pos c]; rfl
  · rw [List.filter_cons_of_neg (by simpa using c), if_neg c]; rfl
theorem bB_cons (s : Nat) (w : List Nat) : bB (s :: w) = bB w + (if s = 40 then 1 else 0) := by
  unfold bB
  by_cases c : s = 40
  · rw [List.filter_cons_of_pos (by simpa using c), if_pos c]; rfl
  · rw [List.filter_cons_of_neg (by simpa using c), if_neg c]; rfl
def OkW (w : List Nat) : Prop := ∀ s ∈ w, s < 256 ∧ (s = 40 ∨ 1 ≤ sgS s)
theorem OkW.tail {s : Nat} {w : List Nat} (h : OkW (s :: w)) : OkW w := fun z hz => h z (List.mem_cons_of_mem _ hz)
theorem uB_le (w : List Nat) : uB w ≤ w.length := List.length_filter_le _ _
theorem bB_le : ∀ (w : List Nat), bB w ≤ uB w
  | [] => Nat.le_refl _
  | s :: w => by
    have := bB_le w
    rw [uB_cons, bB_cons]
    by_cases c : s = 40
    · rw [if_pos c, if_pos (Or.inl c)]; omega
    · rw [if_neg c]; omega
theorem unary_le : ∀ (w : List Nat), (w.filter (fun s => decide (sgS s = 6))).length ≤ uB w
  | [] => Nat.le_refl _
  | s :: w => by
    have := unary_le w
    rw [uB_cons]
    by_cases c : sgS s = 6
    · rw [List.filter_cons_of_pos (by simpa using c), if_pos (Or.inr c), List.length_cons]; omega
    · rw [List.filter_cons_of_neg (by simpa using c)]; omega
theorem s40 : sgS 40 = 0 := by decide
theorem stl_ok {k : Nat} (hk : 1 ≤ k) : ∀ (w : List Nat) (m : List Int32), OkW w → OkW (stl k w m (uB w)).1 ∧ (stl k w m (uB w)).2.2 = uB (stl k w m (uB w)).1 ∧ bB (stl k w m (uB w)).1 = bB w
  | [], m, h => ⟨h, rfl, rfl⟩
  | s :: w, m, h => by
    unfold stl
    by_cases c : sgS s < k
    · rw [if_pos c]; exact ⟨h, rfl, rfl⟩
    · rw [if_neg c]
      have hs := h s (List.mem_cons_self ..)
      have hn : ¬ s = 40 := fun z => c (by rw [z, s40]; omega)
      obtain ⟨i1, i2, i3⟩ := stl_ok hk w ((- nI s) :: m) h.tail
      have eu : (if sgS s = 6 then uB (s :: w) - 1 else uB (s :: w)) = uB w := by
        rw [uB_cons]
        by_cases d : sgS s = 6
        · rw [if_pos d, if_pos (Or.inr d)]; omega
        · rw [if_neg d, if_neg (fun z => z.elim hn d)]; omega
      rw [eu]
      refine ⟨i1, i2, ?_⟩
      rw [i3, bB_cons, if_neg hn]; rfl
theorem stl_top {k : Nat} : ∀ (w : List Nat) (m : List Int32) (o : Nat), (stl k w m o).1 = [] ∨ ∃ s w', (stl k w m o).1 = s :: w' ∧ sgS s < k
  | [], m, o => Or.inl rfl
  | s :: w, m, o => by
    unfold stl
    by_cases c : sgS s < k
    · rw [if_pos c]; exact Or.inr ⟨s, w, rfl, c⟩
    · rw [if_neg c]; exact stl_top w _ _
/-- what holds of the machine's states behind p bytes -/
def WS (σ : CSt) (p : Nat) : Prop := σ.1.length + σ.2.1.length ≤ p ∧ OkW σ.1 ∧ σ.2.2.1 = uB σ.1 ∧ σ.2.2.2.1 = bB σ.1 ∧ σ.2.2.2.2.1 ≤ 4
theorem isDg_eq {c : Nat} (hc : c < 256) (S : St) : F_X6_isDigit (nI c) S = some (bI (isDg c), S) := by
  unfold F_X6_isDigit isDg
  by_cases h1 : c < 48
  · rw [if_pos (show nI c < 48 from nI_lt (b := 48) h1 (by decide)), bI_f (decide_eq_false (by omega))]
  · rw [if_neg (show ¬ nI c < 48 from nI_nlt (b := 48) (by omega) (by omega))]
    by_cases h2 : 57 < c
    · rw [if_pos (show (57 : Int32) < nI c from nI_lt (a := 57) h2 (by omega)), bI_f (decide_eq_false (by omega))]
    · rw [if_neg (show ¬ (57 : Int32) < nI c from nI_nlt (a := 57) (by omega) (by decide)), bI_t (decide_eq_true (by omega))]
theorem isNm_eq {c : Nat} (hc : c < 256) (S : St) : F_X5_isName (nI c) S = some (bI (isNm c), S) := by
  have key : ∀ k : Nat, k < 256 → (nI c = nI k ↔ c = k) := fun k hk => nI_eq (by omega) (by omega)
  by_cases h : isNm c = true
  · rw [bI_t h]
    have := of_decide_eq_true h
    rcases this with rfl | rfl | rfl | rfl | rfl | rfl
    · exact isName_t (j := 0) (by decide) S
    · exact isName_t (j := 1) (by decide) S
    · exact isName_t (j := 2) (by decide) S
    · exact isName_t (j := 3) (by decide) S
    · exact isName_t (j := 4) (by decide) S
    · exact isName_t (j := 5) (by decide) S
  · rw [bI_f (Bool.eq_false_iff.mpr h)]
    have h' : ¬ (c = 104 ∨ c = 110 ∨ c = 112 ∨ c = 105 ∨ c = 108 ∨ c = 99) := fun z => h (decide_eq_true z)
    exact isName_f ⟨fun z => h' (by have := (key 104 (by decide)).mp z; omega), fun z => h' (by have := (key 110 (by decide)).mp z; omega), fun z => h' (by have := (key 112 (by decide)).mp z; omega), fun z => h' (by have := (key 105 (by decide)).mp z; omega), fun z => h' (by have := (key 108 (by decide)).mp z; omega), fun z => h' (by have := (key 99 (by decide)).mp z; omega)⟩ S
/-- what a step of the class must do -/
def StpC (f : Option (Int32 × St)) (S : St) (o : Option CSt) : Prop := match o with
  | none => ∃ S', f = some (0, S') ∧ AgR S S'
  | some τ => ∃ S', f = some (1, S') ∧ AgR S S' ∧ CR S' τ
theorem cl_begin_op {S : St} {σ : CSt} {p c : Nat} (hp : p < 120) (hc : c < 256) (h : CR S σ) (hw : WS σ p) (ht : σ.2.2.2.2.2.1 = true) : StpC (F_X6_beginsOperand (nI c) S) S (cstep c σ) := by
  obtain ⟨w, m, o, br, dg, wt, ak⟩ := σ
  have ht' : wt = true := ht
  subst ht'
  obtain ⟨w1, w2, w3, w4, w5⟩ := hw
  have w1' : w.length + m.length ≤ p := w1
  have w3' : o = uB w := w3
  have hu := uB_le w
  unfold F_X6_beginsOperand cstep
  rw [isDg_eq hc, Option.bind_some, if_pos rfl]
  show StpC (if bI (isDg c) = 0 then ((F_X5_isName (nI c) S).bind (fun r_28 => if r_28.1 = 0 then (if nI c = 40 then (F_X6_beginsOperand_65 (nI c) r_28.2) else (if nI c = 33 then (F_X6_beginsOperand_65 (nI c) r_28.2) else (if nI c = 45 then (F_X6_beginsOperand_65 (nI c) r_28.2) else (some (0, r_28.2))))) else ((F_X6_addStep (-nI c) r_28.2).bind (fun r_37 => some (1, fset r_37 4 7 0))))) else ((F_X6_addStep (nI c - 48) S).bind (fun r_12 => some (1, fset (fset r_12 4 6 1) 4 7 0)))) S _
  have hT := addT_eq (S := S) (n := m.length) h.1.1 (by omega)
  by_cases c1 : isDg c = true
  · have cd := of_decide_eq_true c1
    rw [if_neg (bI_ne.mpr c1), if_pos c1, hT, Option.bind_some]
    have e48 : nI c - 48 = nI (c - 48) := pk_sub (b := 48) cd.1
    rw [e48]
    have h2 := h.addT (nI (c - 48))
    exact ⟨_, rfl, AgO.fset (AgO.fset (addT_ag S _ _) _ (by decide)) _ (by decide), h2.1, h2.2.1, h2.2.2.1, h2.2.2.2.1, rfl, rfl, h2.2.2.2.2.2.2⟩
  · rw [if_pos (bI_0.mpr (Bool.eq_false_iff.mpr c1)), if_neg c1, isNm_eq hc, Option.bind_some]
    by_cases c2 : isNm c = true
    · rw [if_neg (bI_ne.mpr c2), if_pos c2, hT, Option.bind_some]
      have h2 := h.addT (-nI c)
      exact ⟨_, rfl, AgO.fset (addT_ag S _ _) _ (by decide), h2.1, h2.2.1, h2.2.2.1, h2.2.2.2.1, h2.2.2.2.2.1, rfl, h2.2.2.2.2.2.2⟩
    · rw [if_pos (bI_0.mpr (Bool.eq_false_iff.mpr c2)), if_neg c2]
      have key : ∀ k : Nat, k < 256 → (nI c = nI k ↔ c = k) := fun k hk => nI_eq (by omega) (by omega)
      have k40 : nI c = 40 ↔ c = 40 := key 40 (by decide)
      have k33 : nI c = 33 ↔ c = 33 := key 33 (by decide)
      have k45 : nI c = 45 ↔ c = 45 := key 45 (by decide)
      by_cases c3 : c = 40 ∨ c = 33 ∨ c = 45
      · have e65 : (if nI c = 40 then (F_X6_beginsOperand_65 (nI c) S) else (if nI c = 33 then (F_X6_beginsOperand_65 (nI c) S) else (if nI c = 45 then (F_X6_beginsOperand_65 (nI c) S) else (some (0, S))))) = F_X6_beginsOperand_65 (nI c) S := by
          rcases c3 with q | q | q
          · rw [if_pos (k40.mpr q)]
          · rw [if_neg (fun z => by have := k40.mp z; omega), if_pos (k33.mpr q)]
          · rw [if_neg (fun z => by have := k40.mp z; omega), if_neg (fun z => by have := k33.mp z; omega), if_pos (k45.mpr q)]
        show StpC (if nI c = 40 then (F_X6_beginsOperand_65 (nI c) S) else (if nI c = 33 then (F_X6_beginsOperand_65 (nI c) S) else (if nI c = 45 then (F_X6_beginsOperand_65 (nI c) S) else (some (0, S))))) S _
        rw [e65, if_pos c3]
        unfold F_X6_beginsOperand_65
        have h44 : S.1 4 4 = nI o := h.2.2.1
        have h45 : S.1 4 5 = nI br := h.2.2.2.1
        by_cases c4 : o < 6
        · rw [if_pos (by rw [h44]; exact nI_lt (b := 6) c4 (by decide)), if_pos (show (w, m, o, br, dg, true, ak).2.2.1 < 6 from c4)]
          let S1 : St := fset S 4 4 (nI (o + 1))
          have eS1 : fset S 4 4 ((S.1 4 4) + 1) = S1 := by rw [h44, nI_1]
          have h1 : CR S1 (w, m, o + 1, br, dg, true, ak) := ⟨h.1, h.2.1, rfl, h.2.2.2⟩
          have a1 : AgR S S1 := AgO.fset AgO.rfl _ (by decide)
          show StpC (if nI c = 40 then (if nI c = 45 then ((F_X6_addWaiting (126 : Int32) (fset (fset S 4 4 ((S.1 4 4) + 1)) 4 5 ((S.1 4 5) + 1))).bind (fun r_115 => some (1, r_115))) else ((F_X6_addWaiting (nI c) (fset (fset S 4 4 ((S.1 4 4) + 1)) 4 5 ((S.1 4 5) + 1))).bind (fun r_115 => some (1, r_115)))) else (if nI c = 45 then ((F_X6_addWaiting (126 : Int32) (fset S 4 4 ((S.1 4 4) + 1))).bind (fun r_115 => some (1, r_115))) else ((F_X6_addWaiting (nI c) (fset S 4 4 ((S.1 4 4) + 1))).bind (fun r_115 => some (1, r_115))))) S _
          rw [eS1, h45, nI_1]
          by_cases c5 : c = 40
          · let S2 : St := fset S1 4 5 (nI (br + 1))
            have h2 : CR S2 (w, m, o + 1, br + 1, dg, true, ak) := ⟨h1.1, h1.2.1, h1.2.2.1, rfl, h1.2.2.2.2⟩
            rw [if_pos (k40.mpr c5), if_neg (fun z => by have := k45.mp z; omega), addW_eq (S := S2) (n := w.length) h2.2.1.1 (by omega), Option.bind_some]
            show ∃ S', _ ∧ AgR S S' ∧ CR S' ((if c = 45 then 126 else c) :: w, m, o + 1, (if c = 40 then br + 1 else br), dg, true, ak)
            rw [if_pos c5, if_neg (show ¬ c = 45 by omega)]
            exact ⟨_, rfl, (a1.trans (AgO.fset AgO.rfl _ (by decide))).trans (addW_ag S2 _ _), h2.addW hc⟩
          · rw [if_neg (fun z => c5 (k40.mp z))]
            show ∃ S', _ ∧ AgR S S' ∧ CR S' ((if c = 45 then 126 else c) :: w, m, o + 1, (if c = 40 then br + 1 else br), dg, true, ak)
            rw [if_neg c5]
            by_cases c6 : c = 45
            · rw [if_pos (k45.mpr c6), if_pos c6, addW_eq (S := S1) (n := w.length) h1.2.1.1 (by omega), Option.bind_some]
              exact ⟨_, rfl, a1.trans (addW_ag S1 _ _), h1.addW (s := 126) (by decide)⟩
            · rw [if_neg (fun z => c6 (k45.mp z)), if_neg c6, addW_eq (S := S1) (n := w.length) h1.2.1.1 (by omega), Option.bind_some]
              exact ⟨_, rfl, a1.trans (addW_ag S1 _ _), h1.addW hc⟩
        · rw [if_neg (by rw [h44]; exact nI_nlt (b := 6) (by omega) (by omega)), if_neg (show ¬ (w, m, o, br, dg, true, ak).2.2.1 < 6 from c4)]
          exact ⟨S, rfl, AgO.rfl⟩
      · rw [if_neg c3]
        show StpC (if nI c = 40 then (F_X6_beginsOperand_65 (nI c) S) else (if nI c = 33 then (F_X6_beginsOperand_65 (nI c) S) else (if nI c = 45 then (F_X6_beginsOperand_65 (nI c) S) else (some (0, S))))) S _
        rw [if_neg (fun z => c3 (Or.inl (k40.mp z))), if_neg (fun z => c3 (Or.inr (Or.inl (k33.mp z)))), if_neg (fun z => c3 (Or.inr (Or.inr (k45.mp z))))]
        exact ⟨S, rfl, AgO.rfl⟩
theorem settle_ok {N : Nat} (hN : 2100 ≤ N) {S : St} {w : List Nat} {m : List Int32} {br dg k : Nat} {wt ak : Bool} (hk : k ≤ 6) (h : CR S (w, m, uB w, br, dg, wt, ak)) (hl : w.length + m.length ≤ 120) : ∃ S', F_X6_settle N (nI k) S = some S' ∧ AgR S S' ∧ CR S' ((stl k w m (uB w)).1, (stl k w m (uB w)).2.1, (stl k w m (uB w)).2.2, br, dg, wt, ak) := by
  have hu := uB_le w
  exact settle_eq hk w m (uB w) N S h (by omega) (by omega) (by omega) (fun _ _ _ => trivial) (unary_le w) (by omega)
theorem cl_endl {N : Nat} (hN : 2100 ≤ N) {S : St} {σ : CSt} {p : Nat} (hp : p ≤ 120) (h : CR S σ) (hw : WS σ p) : StpC (F_X6_endsLine N S) S (cEndL σ) := by
  obtain ⟨w, m, o, br, dg, wt, ak⟩ := σ
  obtain ⟨w1, w2, w3, w4, w5⟩ := hw
  have w1' : w.length + m.length ≤ p := w1
  have w3' : o = uB w := w3
  subst w3'
  have w4' : br = bB w := w4
  have hb := bB_le w
  have hu := uB_le w
  have h45 : S.1 4 5 = nI br := h.2.2.2.1
  unfold F_X6_endsLine cEndL
  by_cases c : br = 0
  · subst c
    rw [if_pos (by rw [h45]; exact Int32.le_refl _), if_pos (show (w, m, uB w, 0, dg, wt, ak).2.2.2.1 = 0 from rfl)]
    obtain ⟨S1, s1, s2, s3⟩ := settle_ok hN (k := 1) (by decide) h (by omega)
    have s1' : F_X6_settle N (1 : Int32) S = some S1 := s1
    have sl := (stl_len 1 w m (uB w)).1
    rw [s1', Option.bind_some, addT_eq (n := (stl 1 w m (uB w)).2.1.length) s3.1.1 (by omega), Option.bind_some]
    have h2 := s3.addT (-59)
    exact ⟨_, rfl, s2.trans (AgO.fset (AgO.fset (addT_ag S1 _ _) _ (by decide)) _ (by decide)), h2.1, h2.2.1, h2.2.2.1, h2.2.2.2.1, h2.2.2.2.2.1, rfl, rfl⟩
  · rw [if_neg (by rw [h45]; exact nI_ge (a := 0) (by omega) (by omega)), if_neg (show ¬ (w, m, uB w, br, dg, wt, ak).2.2.2.1 = 0 from c)]
    exact ⟨S, rfl, AgO.rfl⟩
theorem StpC.gd {f : Option (Int32 × St)} {S : St} {o : Option CSt} (h : StpC f S o) : StpC (f.bind (fun r => gd (decide (r.1 = 0 ∨ r.1 = 1)) (some (r.1, r.2)))) S o := by
  cases o with
  | none =>
    obtain ⟨S', s1, s2⟩ := h
    exact ⟨S', by rw [s1]; rfl, s2⟩
  | some τ =>
    obtain ⟨S', s1, s2⟩ := h
    exact ⟨S', by rw [s1]; rfl, s2⟩
theorem StpC.pre {f : Option (Int32 × St)} {S S1 : St} {o : Option CSt} (a : AgR S S1) (h : StpC f S1 o) : StpC f S o := by
  cases o with
  | none =>
    obtain ⟨S', s1, s2⟩ := h
    exact ⟨S', s1, a.trans s2⟩
  | some τ =>
    obtain ⟨S', s1, s2, s3⟩ := h
    exact ⟨S', s1, a.trans s2, s3⟩
