theorem WS.endl {σ τ : CSt} {p : Nat} (h : WS σ p) (e : cEndL σ = some τ) : WS τ (p + 1) := by
  obtain ⟨w, m, o, br, dg, wt, ak⟩ := σ
  obtain ⟨h1, h2, h3, h4, h5⟩ := h
  have h1' : w.length + m.length ≤ p := h1
  have h3' : o = uB w := h3
  subst h3'
  have h4' : br = bB w := h4
  have h5' : dg ≤ 4 := h5
  unfold cEndL at e
  by_cases c : br = 0
  · rw [if_pos (show (w, m, uB w, br, dg, wt, ak).2.2.2.1 = 0 from c)] at e
    obtain ⟨o1, o2, o3⟩ := stl_ok (k := 1) (by decide) w m h2
    have sl := (stl_len 1 w m (uB w)).1
    have e' := Option.some.inj e
    rw [← e']
    exact ⟨by show (stl 1 w m (uB w)).1.length + ((stl 1 w m (uB w)).2.1.length + 1) ≤ p + 1; omega, o1, o2, by show 0 = bB (stl 1 w m (uB w)).1; omega, h5'⟩
  · rw [if_neg (show ¬ (w, m, uB w, br, dg, wt, ak).2.2.2.1 = 0 from c)] at e
    cases e
theorem WS.step {σ τ : CSt} {p c : Nat} (hc : c < 256) (h : WS σ p) (e : cstep c σ = some τ) : WS τ (p + 1) := by
  obtain ⟨w, m, o, br, dg, wt, ak⟩ := σ
  obtain ⟨h1, h2, h3, h4, h5⟩ := id h
  have h1' : w.length + m.length ≤ p := h1
  have h3' : o = uB w := h3
  subst h3'
  have h4' : br = bB w := h4
  have h5' : dg ≤ 4 := h5
  have hw2 : OkW w := h2
  unfold cstep at e
  cases wt with
  | true =>
    rw [if_pos (show (w, m, uB w, br, dg, true, ak).2.2.2.2.2.1 = true from rfl)] at e
    by_cases c1 : isDg c = true
    · rw [if_pos c1] at e
      rw [← Option.some.inj e]
      exact ⟨by show w.length + (m.length + 1) ≤ p + 1; omega, hw2, rfl, h4', by show 1 ≤ 4; decide⟩
    · rw [if_neg c1] at e
      by_cases c2 : isNm c = true
      · rw [if_pos c2] at e
        rw [← Option.some.inj e]
        exact ⟨by show w.length + (m.length + 1) ≤ p + 1; omega, hw2, rfl, h4', h5'⟩
      · rw [if_neg c2] at e
        by_cases c3 : c = 40 ∨ c = 33 ∨ c = 45
        · rw [if_pos c3] at e
          by_cases c4 : uB w < 6
          · rw [if_pos (show (w, m, uB w, br, dg, true, ak).2.2.1 < 6 from c4)] at e
            rw [← Option.some.inj e]
            have hs : (if c = 45 then 126 else c) < 256 ∧ ((if c = 45 then 126 else c) = 40 ∨ sgS (if c = 45 then 126 else c) = 6) := by
              rcases c3 with q | q | q
              · rw [q]; decide
              · rw [q]; decide
              · rw [q]; decide
            refine ⟨by show (w.length + 1) + m.length ≤ p + 1; omega, fun z hz => ?_, ?_, ?_, h5'⟩
            · rcases List.mem_cons.mp hz with q | q
              · rw [q]; exact ⟨hs.1, hs.2.imp id (fun t => by omega)⟩
              · exact hw2 z q
            · show uB w + 1 = uB ((if c = 45 then 126 else c) :: w)
              rw [uB_cons, if_pos hs.2]
            · show (if c = 40 then br + 1 else br) = bB ((if c = 45 then 126 else c) :: w)
              rw [bB_cons]
              by_cases q : c = 40
              · rw [if_pos q, if_neg (show ¬ c = 45 by omega), if_pos q]; omega
              · rw [if_neg q]
                by_cases q2 : c = 45
                · rw [if_pos q2, if_neg (by decide)]; omega
                · rw [if_neg q2, if_neg q]; omega
          · rw [if_neg (show ¬ (w, m, uB w, br, dg, true, ak).2.2.1 < 6 from c4)] at e
            cases e
        · rw [if_neg c3] at e
          cases e
  | false =>
    rw [if_neg (show ¬ (w, m, uB w, br, dg, false, ak).2.2.2.2.2.1 = true from fun z => by cases z)] at e
    by_cases c1 : isDg c = true
    · rw [if_pos c1] at e
      have e1 : (if 1 ≤ dg ∧ dg < 4 then (match m with | [] => none | x :: m => some (w, (x * 10 + nI (c - 48)) :: m, uB w, br, dg + 1, false, ak)) else none) = some τ := e
      by_cases c2 : 1 ≤ dg ∧ dg < 4
      · rw [if_pos c2] at e1
        cases m with
        | nil => cases e1
        | cons x m =>
          have e2 := Option.some.inj e1
          rw [← e2]
          have h1'' : w.length + (m.length + 1) ≤ p := h1'
          exact ⟨by show w.length + (m.length + 1) ≤ p + 1; omega, hw2, rfl, h4', by show dg + 1 ≤ 4; omega⟩
      · rw [if_neg c2] at e1
        cases e1
    · rw [if_neg c1] at e
      by_cases c2 : c = 41
      · rw [if_pos c2] at e
        by_cases c3 : br = 0
        · rw [if_pos (show (w, m, uB w, br, dg, false, ak).2.2.2.1 = 0 from c3)] at e
          cases e
        · rw [if_neg (show ¬ (w, m, uB w, br, dg, false, ak).2.2.2.1 = 0 from c3)] at e
          obtain ⟨o1, o2, o3⟩ := stl_ok (k := 1) (by decide) w m hw2
          have sl := (stl_len 1 w m (uB w)).1
          have e1 : some ((stl 1 w m (uB w)).1.tail, (stl 1 w m (uB w)).2.1, (stl 1 w m (uB w)).2.2 - 1, br - 1, 0, false, ak) = some τ := e
          rw [← Option.some.inj e1]
          have tp := stl_top (k := 1) w m (uB w)
          generalize stl 1 w m (uB w) = q at o1 o2 o3 sl tp
          obtain ⟨q1, q2, q3⟩ := q
          have o3' : bB q1 = bB w := o3
          have o2' : q3 = uB q1 := o2
          have sl' : q1.length + q2.length = w.length + m.length := sl
          rcases tp with tp | ⟨s, w', tp, ts⟩
          · have tp' : q1 = [] := tp
            rw [tp'] at o3'
            have : bB ([] : List Nat) = 0 := rfl
            omega
          · have tp' : q1 = s :: w' := tp
            subst tp'
            have hs : s = 40 := (o1 s (List.mem_cons_self ..)).2.resolve_right (by omega)
            have eu := uB_cons s w'
            rw [if_pos (Or.inl hs)] at eu
            have eb := bB_cons s w'
            rw [if_pos hs] at eb
            have sl2 : w'.length + 1 + q2.length = w.length + m.length := sl'
            exact ⟨by show w'.length + q2.length ≤ p + 1; omega, OkW.tail o1, by show q3 - 1 = uB w'; omega, by show br - 1 = bB w'; omega, by show 0 ≤ 4; decide⟩
      · rw [if_neg c2] at e
        by_cases c3 : c = 63
        · rw [if_pos c3] at e
          have e1 : (if br = 0 ∧ ak = false then some ((stl 1 w m (uB w)).1, (-63) :: (stl 1 w m (uB w)).2.1, (stl 1 w m (uB w)).2.2, 0, 0, true, true) else none) = some τ := e
          by_cases c4 : br = 0 ∧ ak = false
          · rw [if_pos c4] at e1
            rw [← Option.some.inj e1]
            obtain ⟨o1, o2, o3⟩ := stl_ok (k := 1) (by decide) w m hw2
            have sl := (stl_len 1 w m (uB w)).1
            exact ⟨by show (stl 1 w m (uB w)).1.length + ((stl 1 w m (uB w)).2.1.length + 1) ≤ p + 1; omega, o1, o2, by show 0 = bB (stl 1 w m (uB w)).1; omega, by show 0 ≤ 4; decide⟩
          · rw [if_neg c4] at e1
            cases e1
        · rw [if_neg c3] at e
          by_cases c4 : c = 59
          · rw [if_pos c4] at e
            exact WS.endl (σ := (w, m, uB w, br, 0, false, ak)) ⟨h1', hw2, rfl, h4', by show 0 ≤ 4; decide⟩ e
          · rw [if_neg c4] at e
            unfold cJoin at e
            by_cases c5 : sgS c = 0 ∨ sgS c = 6
            · rw [if_pos c5] at e
              cases e
            · rw [if_neg c5] at e
              have hk1 : 1 ≤ (if sgS c = 3 then 4 else sgS c) := by split <;> omega
              have e1 : (if sgS c = 3 ∧ sgS ((stl (if sgS c = 3 then 4 else sgS c) w m (uB w)).1.headD 0) = 3 then none else some (c :: (stl (if sgS c = 3 then 4 else sgS c) w m (uB w)).1, (stl (if sgS c = 3 then 4 else sgS c) w m (uB w)).2.1, (stl (if sgS c = 3 then 4 else sgS c) w m (uB w)).2.2, br, 0, true, ak)) = some τ := e
              obtain ⟨o1, o2, o3⟩ := stl_ok hk1 w m hw2
              have sl := (stl_len (if sgS c = 3 then 4 else sgS c) w m (uB w)).1
              generalize stl (if sgS c = 3 then 4 else sgS c) w m (uB w) = q at e1 o1 o2 o3 sl
              obtain ⟨q1, q2, q3⟩ := q
              have o3' : bB q1 = bB w := o3
              have o2' : q3 = uB q1 := o2
              have sl' : q1.length + q2.length = w.length + m.length := sl
              by_cases c6 : sgS c = 3 ∧ sgS (q1.headD 0) = 3
              · rw [if_pos c6] at e1
                cases e1
              · rw [if_neg c6] at e1
                rw [← Option.some.inj e1]
                have hn40 : ¬ c = 40 := fun z => c5 (Or.inl (by rw [z]; decide))
                refine ⟨by show q1.length + 1 + q2.length ≤ p + 1; omega, fun z hz => ?_, ?_, ?_, by show 0 ≤ 4; decide⟩
                · rcases List.mem_cons.mp hz with q | q
                  · rw [q]; exact ⟨hc, Or.inr (by omega)⟩
                  · exact o1 z q
                · show q3 = uB (c :: q1)
                  rw [uB_cons, if_neg (fun z => z.elim hn40 (fun t => c5 (Or.inr t)))]; omega
                · show br = bB (c :: q1)
                  rw [bB_cons, if_neg hn40]; omega
theorem ListA.rd {f : Nat → Int32} : ∀ {l : List Int32}, ListA f l → ∀ i, i < l.length → f i = l.reverse.getD i 0
  | [], _, i, hi => absurd hi (Nat.not_lt_zero i)
  | x :: l, h, i, hi => by
    rw [List.reverse_cons]
    have hi' : i < l.length + 1 := hi
    by_cases c : i < l.length
    · rw [getD_app_l _ _ _ (by rw [List.length_reverse]; exact c)]
      exact ListA.rd h.2 i c
    · have e : i = l.length := by omega
      have e2 := getD_app_r l.reverse [x] (0 : Int32) 0
      rw [Nat.add_zero, List.length_reverse] at e2
      rw [e, e2]
      exact h.1
/-- what the reader gives -/
def RdC (S : St) (f : Option (Int32 × St)) (r : Nat ⊕ List Int32) : Prop := match r with
  | .inl k => ∃ S', f = some (nI k, S') ∧ AgR S S'
  | .inr l => ∃ S', f = some (-1, S') ∧ AgR S S' ∧ l.length ≤ 121 ∧ S'.1 4 1 = nI l.length ∧ ∀ i, i < l.length → S'.2.1 34 i = l.getD i 0
theorem cl_run {N : Nat} (hN : 2100 ≤ N) {tx : Nat → Nat} {len : Nat} (hlen : len ≤ 120) : ∀ (r n : Nat) (σ : CSt) (S : St), r ≤ len → CR S σ → WS σ (len - r) → (∀ i, i < len → S.2.1 20 i = nI (tx i) ∧ tx i < 256) → r < n → RdC S (F_X6_faultOf_6 N n (nI len) (nI (len - r)) S) (crun tx len r σ)
  | r, 0, σ, S, _, _, _, _, hn => absurd hn (Nat.not_lt_zero r)
  | 0, n + 1, σ, S, _, h, hw, ht, _ => by
    have h47 : S.1 4 7 = bI σ.2.2.2.2.2.1 := h.2.2.2.2.2.1
    have stp : F_X6_faultOf_6 N (n + 1) (nI len) (nI (len - 0)) S = (if (S.1 4 7) = 0 then ((F_X6_endsLine N S).bind (fun r_58 => if r_58.1 = 0 then (some (nI len, r_58.2)) else (some ((-1), r_58.2)))) else (some (nI len, S))) := by
      show (if nI len ≤ nI (len - 0) then (if (S.1 4 7) = 0 then ((F_X6_endsLine N S).bind (fun r_58 => if r_58.1 = 0 then (some (nI len, r_58.2)) else (some ((-1), r_58.2)))) else (some (nI len, S))) else _) = _
      rw [if_pos (show nI len ≤ nI (len - 0) from Int32.le_refl _)]
    rw [stp, h47]
    show RdC S _ (if σ.2.2.2.2.2.1 = true then .inl len else (match cEndL σ with | none => .inl len | some τ => .inr τ.2.1.reverse))
    by_cases c : σ.2.2.2.2.2.1 = true
    · rw [if_pos c, if_neg (bI_ne.mpr c)]
      exact ⟨S, rfl, AgO.rfl⟩
    · rw [if_neg c, if_pos (bI_0.mpr (Bool.eq_false_iff.mpr c))]
      have he := cl_endl hN (p := len) hlen h hw
      cases hE : cEndL σ with
      | none =>
        rw [hE] at he
        obtain ⟨S', s1, s2⟩ := he
        exact ⟨S', by rw [s1]; rfl, s2⟩
      | some τ =>
        rw [hE] at he
        obtain ⟨S', s1, s2, s3⟩ := he
        have hwt := WS.endl hw hE
        have hl : τ.2.1.length ≤ 121 := by
          have := hwt.1
          have : τ.1.length + τ.2.1.length ≤ len - 0 + 1 := this
          omega
        refine ⟨S', by rw [s1]; rfl, s2, by rw [List.length_reverse]; exact hl, by rw [List.length_reverse]; exact s3.1.1, fun i hi => ?_⟩
        rw [List.length_reverse] at hi
        exact s3.1.2.rd i hi
  | r + 1, n + 1, σ, S, hr, h, hw, ht, hn => by
    have h47 : S.1 4 7 = bI σ.2.2.2.2.2.1 := h.2.2.2.2.2.1
    obtain ⟨p, hp⟩ : ∃ p, len - (r + 1) = p := ⟨_, rfl⟩
    have hp1 : len - r = p + 1 := by omega
    have hpl : p < len := by omega
    obtain ⟨t1, t2⟩ := ht p hpl
    show RdC S _ (match cstep (tx (len - (r + 1))) σ with | none => .inl (len - (r + 1)) | some τ => crun tx len r τ)
    rw [hp] at hw ⊢
    have go : ∀ (f : Option (Int32 × St)), StpC f S (cstep (tx p) σ) → F_X6_faultOf_6 N (n + 1) (nI len) (nI p) S = (f.bind (fun z => if z.1 = 0 then (some (nI p, z.2)) else (F_X6_faultOf_6 N n (nI len) (nI (p + 1)) z.2))) → RdC S (F_X6_faultOf_6 N (n + 1) (nI len) (nI p) S) (match cstep (tx p) σ with | none => .inl p | some τ => crun tx len r τ) := by
      intro f hf he
      rw [he]
      cases hE : cstep (tx p) σ with
      | none =>
        rw [hE] at hf
        obtain ⟨S', s1, s2⟩ := hf
        exact ⟨S', by rw [s1]; rfl, s2⟩
      | some τ =>
        rw [hE] at hf
        obtain ⟨S', s1, s2, s3⟩ := hf
        have hwt := WS.step t2 hw hE
        have ht' : ∀ i, i < len → S'.2.1 20 i = nI (tx i) ∧ tx i < 256 := by rw [s2.2.1 20 (by decide)]; exact ht
        have ih := cl_run hN hlen r n τ S' (by omega) s3 (by rw [hp1]; exact hwt) ht' (by omega)
        rw [hp1] at ih
        rw [s1, Option.bind_some]
        show RdC S (F_X6_faultOf_6 N n (nI len) (nI (p + 1)) S') (crun tx len r τ)
        revert ih
        generalize crun tx len r τ = res
        intro ih
        cases res with
        | inl k =>
          obtain ⟨S2, u1, u2⟩ := ih
          exact ⟨S2, u1, s2.trans u2⟩
        | inr l =>
          obtain ⟨S2, u1, u2, u3⟩ := ih
          exact ⟨S2, u1, s2.trans u2, u3⟩
    by_cases c : σ.2.2.2.2.2.1 = true
    · refine go _ (cl_begin_op (by omega) t2 h hw c) ?_
      show (if nI len ≤ nI p then _ else (if (S.1 4 7) = 0 then _ else (gd (inb (nI p) 120) ((F_X6_beginsOperand (S.2.1 20 (Int32.toNatClampNeg (nI p))) S).bind (fun r_22 => if r_22.1 = 0 then (some (nI p, r_22.2)) else (F_X6_faultOf_6 N n (nI len) (nI p + 1) r_22.2)))))) = _
      rw [if_neg (nI_ge hpl (by omega)), if_neg (by rw [h47]; exact bI_ne.mpr c), gd_t (inb_nI (by omega) (by decide)), nI_clamp (by omega), t1, nI_1]
    · refine go _ (cl_follow hN (by omega) t2 h hw (Bool.eq_false_iff.mpr c)) ?_
      show (if nI len ≤ nI p then _ else (if (S.1 4 7) = 0 then (gd (inb (nI p) 120) ((F_X6_followsOperand N (S.2.1 20 (Int32.toNatClampNeg (nI p))) S).bind (fun r_32 => if r_32.1 = 0 then (some (nI p, r_32.2)) else (F_X6_faultOf_6 N n (nI len) (nI p + 1) r_32.2)))) else _)) = _
      rw [if_neg (nI_ge hpl (by omega)), if_pos (by rw [h47]; exact bI_0.mpr (Bool.eq_false_iff.mpr c)), gd_t (inb_nI (by omega) (by decide)), nI_clamp (by omega), t1, nI_1]
theorem cl_fault {N : Nat} (hN : 2100 ≤ N) {tx : Nat → Nat} {len : Nat} (hlen : len ≤ 120) {S : St} (ht : ∀ i, i < len → S.2.1 20 i = nI (tx i) ∧ tx i < 256) : RdC S (F_X6_faultOf N (nI len) S) (crun tx len len ([], [], 0, 0, 0, true, false)) := by
  let S1 : St := fset (fset (fset (fset (fset (fset (fset S 4 1 0) 4 3 0) 4 4 0) 4 5 0) 4 6 0) 4 7 1) 4 8 0
  have a1 : AgR S S1 := AgO.fset (AgO.fset (AgO.fset (AgO.fset (AgO.fset (AgO.fset (AgO.fset AgO.rfl _ (by decide)) _ (by decide)) _ (by decide)) _ (by decide)) _ (by decide)) _ (by decide)) _ (by decide)
  have h1 : CR S1 ([], [], 0, 0, 0, true, false) := ⟨⟨rfl, trivial⟩, ⟨rfl, trivial, fun z hz => by cases hz⟩, rfl, rfl, rfl, rfl, rfl⟩
  have h := cl_run hN hlen len N ([], [], 0, 0, 0, true, false) S1 (Nat.le_refl _) h1 ⟨Nat.zero_le _, (fun z hz => by cases hz), rfl, rfl, Nat.zero_le _⟩ ht (by omega)
  rw [Nat.sub_self] at h
  have e : F_X6_faultOf N (nI len) S = F_X6_faultOf_6 N N (nI len) (nI 0) S1 := rfl
  rw [e]
  revert h
  generalize crun tx len len ([], [], 0, 0, 0, true, false) = res
  intro h
  cases res with
  | inl k =>
    obtain ⟨S2, u1, u2⟩ := h
    exact ⟨S2, u1, a1.trans u2⟩
  | inr l =>
    obtain ⟨S2, u1, u2, u3⟩ := h
    exact ⟨S2, u1, a1.trans u2, u3⟩
