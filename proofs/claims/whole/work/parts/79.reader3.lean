theorem cl_join {N : Nat} (hN : 2100 ≤ N) {S : St} {w : List Nat} {m : List Int32} {br dg p c : Nat} {ak : Bool} (hp : p < 120) (hc : c < 256) (h : CR S (w, m, uB w, br, 0, false, ak)) (hl : w.length + m.length ≤ p) (hok : OkW w) : StpC (F_X6_joins N (nI c) S) S (cJoin c (w, m, uB w, br, dg, false, ak)) := by
  have sg := sgS_le c
  unfold F_X6_joins cJoin
  rw [str_eq hc, Option.bind_some]
  show StpC (if nI (sgS c) = 0 then (some (0, S)) else (if nI (sgS c) = 6 then (some (0, S)) else (if nI (sgS c) = 3 then (F_X6_joins_30 N (nI c) (nI (sgS c)) (nI (sgS c) + 1) S) else (F_X6_joins_30 N (nI c) (nI (sgS c)) (nI (sgS c)) S)))) S _
  have key : ∀ k : Nat, k < 256 → (nI (sgS c) = nI k ↔ sgS c = k) := fun k hk => nI_eq (by omega) (by omega)
  by_cases c0 : sgS c = 0 ∨ sgS c = 6
  · rw [if_pos c0]
    rcases c0 with q | q
    · rw [if_pos (show nI (sgS c) = 0 from (key 0 (by decide)).mpr q)]
      exact ⟨S, rfl, AgO.rfl⟩
    · rw [if_neg (show ¬ nI (sgS c) = 0 from fun z => by have := (key 0 (by decide)).mp z; omega), if_pos (show nI (sgS c) = 6 from (key 6 (by decide)).mpr q)]
      exact ⟨S, rfl, AgO.rfl⟩
  · rw [if_neg c0, if_neg (show ¬ nI (sgS c) = 0 from fun z => c0 (Or.inl ((key 0 (by decide)).mp z))), if_neg (show ¬ nI (sgS c) = 6 from fun z => c0 (Or.inr ((key 6 (by decide)).mp z)))]
    have e30 : (if nI (sgS c) = 3 then (F_X6_joins_30 N (nI c) (nI (sgS c)) (nI (sgS c) + 1) S) else (F_X6_joins_30 N (nI c) (nI (sgS c)) (nI (sgS c)) S)) = F_X6_joins_30 N (nI c) (nI (sgS c)) (nI (if sgS c = 3 then 4 else sgS c)) S := by
      by_cases q : sgS c = 3
      · rw [if_pos (show nI (sgS c) = 3 from (key 3 (by decide)).mpr q), if_pos q, q, nI_1]
      · rw [if_neg (show ¬ nI (sgS c) = 3 from fun z => q ((key 3 (by decide)).mp z)), if_neg q]
    rw [e30]
    generalize hk : (if sgS c = 3 then 4 else sgS c) = k
    have hk6 : k ≤ 6 := by rw [← hk]; split <;> omega
    have hk1 : 1 ≤ k := by rw [← hk]; split <;> omega
    obtain ⟨S1, s1, s2, s3⟩ := settle_ok hN (k := k) hk6 h (by omega)
    have sl := (stl_len k w m (uB w)).1
    obtain ⟨o1, o2, o3⟩ := stl_ok hk1 w m hok
    unfold F_X6_joins_30
    rw [s1, Option.bind_some]
    show StpC _ S (let q := stl k w m (uB w); if sgS c = 3 ∧ sgS (q.1.headD 0) = 3 then none else some (c :: q.1, q.2.1, q.2.2, br, 0, true, ak))
    generalize hq : stl k w m (uB w) = q at s3 sl o1 o2 o3
    obtain ⟨q1, q2, q3⟩ := q
    have sl' : q1.length + q2.length = w.length + m.length := sl
    have fin : StpC ((F_X6_addWaiting (nI c) S1).bind (fun r_67 => some (1, fset r_67 4 7 1))) S (some (c :: q1, q2, q3, br, 0, true, ak)) := by
      rw [addW_eq (n := q1.length) s3.2.1.1 (by omega), Option.bind_some]
      have h2 := s3.addW hc
      exact ⟨_, rfl, s2.trans (AgO.fset (addW_ag S1 _ _) _ (by decide)), h2.1, h2.2.1, h2.2.2.1, h2.2.2.2.1, h2.2.2.2.2.1, rfl, h2.2.2.2.2.2.2⟩
    show StpC (if nI (sgS c) = 3 then (if (S1.1 4 3) ≤ 0 then ((F_X6_addWaiting (nI c) S1).bind (fun r_67 => some (1, fset r_67 4 7 1))) else (gd (inb ((S1.1 4 3) - 1) 120) ((F_X6_strengthOf (S1.2.1 35 (Int32.toNatClampNeg ((S1.1 4 3) - 1))) S1).bind (fun r_56 => if r_56.1 = 3 then (some (0, r_56.2)) else ((F_X6_addWaiting (nI c) r_56.2).bind (fun r_67 => some (1, fset r_67 4 7 1))))))) else ((F_X6_addWaiting (nI c) S1).bind (fun r_67 => some (1, fset r_67 4 7 1)))) S (if sgS c = 3 ∧ sgS (q1.headD 0) = 3 then none else some (c :: q1, q2, q3, br, 0, true, ak))
    by_cases c3 : sgS c = 3
    · rw [if_pos (show nI (sgS c) = 3 from (key 3 (by decide)).mpr c3)]
      cases q1 with
      | nil =>
        rw [if_pos (by rw [show S1.1 4 3 = nI 0 from s3.2.1.1]; exact Int32.le_refl _), if_neg (fun z => absurd z.2 (by decide))]
        exact fin
      | cons s q1 =>
        have h43 : S1.1 4 3 = nI (q1.length + 1) := s3.2.1.1
        have hs : s < 256 := s3.2.1.2.2 s (List.mem_cons_self ..)
        have h35 : S1.2.1 35 q1.length = nI s := by
          have := s3.2.1.2.1.1
          rw [List.length_map] at this
          exact this
        have sl2 : q1.length + 1 + q2.length = w.length + m.length := sl'
        have sgs := sgS_le s
        rw [if_neg (by rw [h43]; exact nI_ge (a := 0) (by omega) (by omega)), h43, nI_pred, gd_t (inb_nI (by omega) (by decide)), nI_clamp (by omega), h35, str_eq hs, Option.bind_some]
        show StpC (if nI (sgS s) = 3 then (some (0, S1)) else ((F_X6_addWaiting (nI c) S1).bind (fun r_67 => some (1, fset r_67 4 7 1)))) S (if sgS c = 3 ∧ sgS s = 3 then none else _)
        by_cases c4 : sgS s = 3
        · rw [if_pos (show nI (sgS s) = 3 by rw [c4]; rfl), if_pos ⟨c3, c4⟩]
          exact ⟨S1, rfl, s2⟩
        · rw [if_neg (show ¬ nI (sgS s) = 3 from fun z => c4 (nI_inj (b := 3) (by omega) (by decide) z)), if_neg (fun z => c4 z.2)]
          exact fin
    · rw [if_neg (show ¬ nI (sgS c) = 3 from fun z => c3 ((key 3 (by decide)).mp z)), if_neg (fun z => c3 z.1)]
      exact fin
theorem cl_follow {N : Nat} (hN : 2100 ≤ N) {S : St} {σ : CSt} {p c : Nat} (hp : p < 120) (hc : c < 256) (h : CR S σ) (hw : WS σ p) (ht : σ.2.2.2.2.2.1 = false) : StpC (F_X6_followsOperand N (nI c) S) S (cstep c σ) := by
  obtain ⟨w, m, o, br, dg, wt, ak⟩ := σ
  have ht' : wt = false := ht
  subst ht'
  obtain ⟨w1, w2, w3, w4, w5⟩ := hw
  have w1' : w.length + m.length ≤ p := w1
  have w3' : o = uB w := w3
  subst w3'
  have w4' : br = bB w := w4
  have w5' : dg ≤ 4 := w5
  have hu := uB_le w
  have hb := bB_le w
  have h46 : S.1 4 6 = nI dg := h.2.2.2.2.1
  have key : ∀ k : Nat, k < 256 → (nI c = nI k ↔ c = k) := fun k hk => nI_eq (by omega) (by omega)
  have k41 : nI c = 41 ↔ c = 41 := key 41 (by decide)
  have k63 : nI c = 63 ↔ c = 63 := key 63 (by decide)
  have k59 : nI c = 59 ↔ c = 59 := key 59 (by decide)
  unfold F_X6_followsOperand cstep
  rw [isDg_eq hc, Option.bind_some, if_neg (show ¬ (w, m, uB w, br, dg, false, ak).2.2.2.2.2.1 = true from fun z => by cases z)]
  let S1 : St := fset S 4 6 0
  have a1 : AgR S S1 := AgO.fset AgO.rfl _ (by decide)
  have h1 : CR S1 (w, m, uB w, br, 0, false, ak) := ⟨h.1, h.2.1, h.2.2.1, h.2.2.2.1, rfl, h.2.2.2.2.2⟩
  show StpC (if bI (isDg c) = 0 then (if nI c = 41 then ((F_X6_closesBracket N S1).bind (fun r_28 => gd (decide (r_28.1 = 0 ∨ r_28.1 = 1)) (some (r_28.1, r_28.2)))) else (if nI c = 63 then ((F_X6_endsCondition N S1).bind (fun r_39 => gd (decide (r_39.1 = 0 ∨ r_39.1 = 1)) (some (r_39.1, r_39.2)))) else (if nI c = 59 then ((F_X6_endsLine N S1).bind (fun r_50 => gd (decide (r_50.1 = 0 ∨ r_50.1 = 1)) (some (r_50.1, r_50.2)))) else ((F_X6_joins N (nI c) S1).bind (fun r_58 => gd (decide (r_58.1 = 0 ∨ r_58.1 = 1)) (some (r_58.1, r_58.2))))))) else ((F_X6_addDigit (nI c - 48) S).bind (fun r_12 => gd (decide (r_12.1 = 0 ∨ r_12.1 = 1)) (some (r_12.1, r_12.2))))) S _
  by_cases c1 : isDg c = true
  · have cd := of_decide_eq_true c1
    have e48 : nI c - 48 = nI (c - 48) := pk_sub (b := 48) cd.1
    rw [if_neg (bI_ne.mpr c1), if_pos c1, e48]
    refine StpC.gd ?_
    unfold F_X6_addDigit
    show StpC _ S (if 1 ≤ dg ∧ dg < 4 then _ else none)
    by_cases d1 : dg < 1
    · rw [if_pos (by rw [h46]; exact nI_lt (b := 1) d1 (by decide)), if_neg (show ¬ (1 ≤ dg ∧ dg < 4) by omega)]
      exact ⟨S, rfl, AgO.rfl⟩
    · rw [if_neg (by rw [h46]; exact nI_nlt (b := 1) (by omega) (by omega))]
      by_cases d2 : 4 ≤ dg
      · rw [if_pos (by rw [h46]; exact nI_le (a := 4) d2 (by omega)), if_neg (show ¬ (1 ≤ dg ∧ dg < 4) by omega)]
        exact ⟨S, rfl, AgO.rfl⟩
      · rw [if_neg (by rw [h46]; exact nI_ge (b := 4) (by omega) (by decide)), if_pos (show 1 ≤ dg ∧ dg < 4 by omega)]
        have h41 : S.1 4 1 = nI m.length := h.1.1
        cases m with
        | nil =>
          rw [if_neg (show ¬ (1 : Int32) ≤ S.1 4 1 by rw [h41]; decide)]
          exact ⟨S, rfl, AgO.rfl⟩
        | cons x m =>
          have h41' : S.1 4 1 = nI (m.length + 1) := h41
          have hl2 : w.length + (m.length + 1) ≤ p := w1'
          rw [if_pos (show (1 : Int32) ≤ S.1 4 1 by rw [h41']; exact nI_le (a := 1) (by omega) (by omega)), h41', nI_pred, gd_t (inb_nI (by omega) (by decide)), gd_t (inb_nI (by omega) (by decide)), nI_clamp (by omega), h.1.2.1]
          refine ⟨fset (aset S 34 (upd (S.2.1 34) m.length (x * 10 + nI (c - 48)))) 4 6 (nI (dg + 1)), ?_, AgO.fset (AgO.aset AgO.rfl _ (by decide)) _ (by decide), ⟨h41, pk_us, h.1.2.2.upd (Nat.le_refl _)⟩, h.2.1, h.2.2.1, h.2.2.2.1, rfl, h.2.2.2.2.2⟩
          show some ((1 : Int32), fset (aset S 34 (upd (S.2.1 34) m.length (x * 10 + nI (c - 48)))) 4 6 (S.1 4 6 + 1)) = _
          rw [h46, nI_1]
  · rw [if_pos (bI_0.mpr (Bool.eq_false_iff.mpr c1)), if_neg c1]
    by_cases c2 : c = 41
    · rw [if_pos (k41.mpr c2), if_pos c2]
      refine StpC.gd (StpC.pre a1 ?_)
      unfold F_X6_closesBracket
      have h45 : S1.1 4 5 = nI br := h1.2.2.2.1
      show StpC _ S1 (if br = 0 then none else _)
      by_cases d : br = 0
      · rw [if_pos (by rw [h45, d]; rfl), if_pos d]
        exact ⟨S1, rfl, AgO.rfl⟩
      · rw [if_neg (by rw [h45]; exact nI_ne0 (by omega) (by omega)), if_neg d]
        obtain ⟨S2, s1, s2, s3⟩ := settle_ok hN (k := 1) (by decide) h1 (by omega)
        have s1' : F_X6_settle N (1 : Int32) S1 = some S2 := s1
        obtain ⟨o1, o2, o3⟩ := stl_ok (k := 1) (by decide) w m w2
        have sl := (stl_len 1 w m (uB w)).1
        rw [s1', Option.bind_some]
        show StpC (some (1, fset (fset (fset S2 4 3 ((S2.1 4 3) - 1)) 4 5 ((S2.1 4 5) - 1)) 4 4 ((S2.1 4 4) - 1))) S1 (some ((stl 1 w m (uB w)).1.tail, (stl 1 w m (uB w)).2.1, (stl 1 w m (uB w)).2.2 - 1, br - 1, 0, false, ak))
        generalize hq : stl 1 w m (uB w) = q at s3 o1 o2 o3 sl
        obtain ⟨q1, q2, q3⟩ := q
        have o3' : bB q1 = bB w := o3
        have o2' : q3 = uB q1 := o2
        cases q1 with
        | nil =>
          have : bB ([] : List Nat) = 0 := rfl
          omega
        | cons s q1 =>
          have hbq := bB_le (s :: q1)
          have e43 : S2.1 4 3 = nI (q1.length + 1) := s3.2.1.1
          have e45 : S2.1 4 5 = nI br := s3.2.2.2.1
          have e44 : S2.1 4 4 = nI q3 := s3.2.2.1
          rw [e43, nI_pred, e45, pred_nI (by omega), e44, pred_nI (by omega)]
          exact ⟨_, rfl, s2.trans (AgO.fset (AgO.fset (AgO.fset AgO.rfl _ (by decide)) _ (by decide)) _ (by decide)), s3.1, ⟨rfl, s3.2.1.2.1.2, fun z hz => s3.2.1.2.2 z (List.mem_cons_of_mem _ hz)⟩, rfl, rfl, s3.2.2.2.2⟩
    · rw [if_neg (fun z => c2 (k41.mp z)), if_neg c2]
      by_cases c3 : c = 63
      · rw [if_pos (k63.mpr c3), if_pos c3]
        refine StpC.gd (StpC.pre a1 ?_)
        unfold F_X6_endsCondition
        have h45 : S1.1 4 5 = nI br := h1.2.2.2.1
        have h48 : S1.1 4 8 = bI ak := h1.2.2.2.2.2.2
        show StpC _ S1 (if br = 0 ∧ ak = false then _ else none)
        by_cases d : br = 0
        · rw [if_neg (by rw [h45, d]; decide)]
          by_cases f : ak = false
          · rw [if_pos (by rw [h48, f]; rfl), if_pos ⟨d, f⟩]
            obtain ⟨S2, s1, s2, s3⟩ := settle_ok hN (k := 1) (by decide) h1 (by omega)
            have s1' : F_X6_settle N (1 : Int32) S1 = some S2 := s1
            have sl := (stl_len 1 w m (uB w)).1
            rw [s1', Option.bind_some, addT_eq (n := (stl 1 w m (uB w)).2.1.length) s3.1.1 (by omega), Option.bind_some]
            have h2 := s3.addT (-63)
            exact ⟨_, rfl, s2.trans (AgO.fset (AgO.fset (addT_ag S2 _ _) _ (by decide)) _ (by decide)), h2.1, h2.2.1, h2.2.2.1, by rw [← d]; exact h2.2.2.2.1, h2.2.2.2.2.1, rfl, rfl⟩
          · rw [if_neg (by rw [h48]; cases ak with | false => exact absurd rfl f | true => decide), if_neg (fun z => f z.2)]
            exact ⟨S1, rfl, AgO.rfl⟩
        · rw [if_pos (by rw [h45]; exact h_0lt (by omega) (by omega)), if_neg (fun z => d z.1)]
          exact ⟨S1, rfl, AgO.rfl⟩
      · rw [if_neg (fun z => c3 (k63.mp z)), if_neg c3]
        by_cases c4 : c = 59
        · rw [if_pos (k59.mpr c4), if_pos c4]
          exact StpC.gd (StpC.pre a1 (cl_endl hN (p := p) (by omega) h1 ⟨w1, w2, rfl, w4, Nat.zero_le _⟩))
        · rw [if_neg (fun z => c4 (k59.mp z)), if_neg c4]
          exact StpC.gd (StpC.pre a1 (cl_join hN hp hc h1 w1' w2))
