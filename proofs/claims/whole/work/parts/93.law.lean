/-! law -/
theorem aset_oth (S : St) {k k' : Nat} (f : Nat → Int32) (h : k' ≠ k) : (aset S k f).2.1 k' = S.2.1 k' := by
  show va_up S.2.1 k f k' = _
  unfold va_up
  rw [if_neg h]
theorem fset_oth (S : St) {k c i s : Nat} (x : Int32) (h : c ≠ k) : (fset S k i x).1 c s = S.1 c s := by rw [fset_at, if_neg h]
theorem len_toks : ∀ {P : Lns}, (∀ q ∈ P, wfL q) → P.length ≤ (toks P).length
  | [], _ => Nat.le_refl _
  | q :: P, h => by
    have ih := len_toks (P := P) (fun z hz => h z (List.mem_cons_of_mem _ hz))
    have hq := (h q (List.mem_cons_self ..)).2.2
    have hn : 0 < q.2.length := by
      cases e : q.2 with
      | nil => rw [e] at hq; exact absurd hq (by decide)
      | cons a l => exact Nat.succ_pos _
    rw [toks_cons]
    simp only [List.length_append, List.length_cons]
    omega
/-- a law that nothing has touched -/
theorem LwB.keep {S S' : St} {v : Nat} (h : LwB S v) (e1 : S'.1 (2 + v) 1 = S.1 (2 + v) 1) (e2 : S'.2.1 84 v = S.2.1 84 v) (e3 : S'.2.1 79 v = S.2.1 79 v) (e4 : S'.2.1 (30 + v) = S.2.1 (30 + v)) (e5 : ∀ i, i < 130 → S'.2.1 77 (130 * v + i) = S.2.1 77 (130 * v + i) ∧ S'.2.1 78 (130 * v + i) = S.2.1 78 (130 * v + i)) (e6 : ∀ i, i < 61 → S'.2.1 80 (61 * v + i) = S.2.1 80 (61 * v + i) ∧ S'.2.1 81 (61 * v + i) = S.2.1 81 (61 * v + i)) : LwB S' v := by
  rcases h with ⟨h1, h2⟩ | ⟨h1, P, h2, h3, h4, h5, h6, h7, h8, h9⟩
  · exact Or.inl ⟨e1.trans h1, e2.trans h2⟩
  · have l1 := toks_le P
    have l2 := len_toks h3
    refine Or.inr ⟨e2.trans h1, P, h2, h3, h4, e1.trans h5, fun i hi => ?_, e3.trans h7, fun i hi => ?_, fun k hk => ?_⟩
    · rw [e4]; exact h6 i hi
    · rw [(e5 i (by omega)).1, (e5 i (by omega)).2]; exact h8 i hi
    · rw [(e6 k (by omega)).1, (e6 k (by omega)).2]; exact h9 k hk
def fLw (c s : Nat) : Bool := !decide (c = 0 ∧ s = 2 ∨ c = 2 ∧ s = 1 ∨ c = 3 ∧ s = 1 ∨ c = 4 ∨ c = 63 ∧ 19 ≤ s ∧ s ≤ 23)
def aLw (k : Nat) : Bool := !decide (k = 30 ∨ k = 31 ∨ k = 34 ∨ k = 35 ∨ 77 ≤ k ∧ k ≤ 81 ∨ k = 84)
theorem ShB.agreeW {S S' : St} {kd : List Nat} {b : Nat} (hb : b < 6) (h : ShB S kd b) (ha : AgO fLw aLw lAll S S') : ShB S' kd b := by
  have q0 : fLw (14 + b) 0 = true := (by decide : ∀ b, b < 6 → fLw (14 + b) 0 = true) b hb
  have q1 : fLw (14 + b) 1 = true := (by decide : ∀ b, b < 6 → fLw (14 + b) 1 = true) b hb
  have q2 : fLw (14 + b) 2 = true := (by decide : ∀ b, b < 6 → fLw (14 + b) 2 = true) b hb
  have q3 : fLw (14 + b) 3 = true := (by decide : ∀ b, b < 6 → fLw (14 + b) 3 = true) b hb
  unfold ShB
  rw [ha.1 _ _ q0, ha.1 _ _ q1, ha.1 _ _ q2, ha.1 _ _ q3, ha.2.2 _ rfl, ha.2.1 100 (by decide), ha.2.1 101 (by decide), ha.2.2 102 rfl]
  exact h
/-- the tape empty, laws anew, all else as it was -/
theorem InvV.law {S S' : St} {V : Nat → Nat → Nat} {kd : List Nat} (h : InvV S V kd) (ha : AgO fLw aLw lAll S S') (t1 : S'.1 0 2 = 0) (t2 : S'.1 63 19 = 0) (hL : LwB S' 0 ∧ LwB S' 1) : InvV S' V kd := by
  obtain ⟨hP, _, hB, hTr, hSh, hC, hI, hN, _⟩ := h
  refine ⟨?_, ⟨0, by decide, t1, t2, fun i hi => absurd hi (Nat.not_lt_zero i)⟩, ?_, ?_, ⟨hSh.1.agreeW (by decide) ha, hSh.2.1.agreeW (by decide) ha, hSh.2.2.1.agreeW (by decide) ha, hSh.2.2.2.1.agreeW (by decide) ha, hSh.2.2.2.2.1.agreeW (by decide) ha, hSh.2.2.2.2.2.agreeW (by decide) ha⟩, ?_, ?_, ?_, hL⟩
  · rw [ha.1 1 0 (by decide), ha.1 63 1 (by decide), ha.1 1 10 (by decide), ha.1 63 10 (by decide), ha.1 1 11 (by decide), ha.1 63 11 (by decide), ha.2.1 21 (by decide), ha.2.1 22 (by decide), ha.2.1 23 (by decide), ha.2.1 24 (by decide), ha.2.1 25 (by decide), ha.2.1 26 (by decide), ha.2.1 27 (by decide), ha.2.1 28 (by decide), ha.2.1 29 (by decide), ha.2.1 64 (by decide), ha.2.1 65 (by decide), ha.2.1 66 (by decide), ha.2.1 67 (by decide), ha.2.1 68 (by decide), ha.2.1 69 (by decide), ha.2.1 70 (by decide), ha.2.1 71 (by decide)]
    exact hP
  · rw [ha.1 12 0 (by decide), ha.1 63 55 (by decide), ha.2.1 55 (by decide), ha.2.1 98 (by decide)]
    exact hB
  · rw [ha.1 12 1 (by decide), ha.1 63 57 (by decide), ha.2.1 56 (by decide), ha.2.1 99 (by decide)]
    exact hTr
  · rw [ha.1 11 0 (by decide), ha.1 11 1 (by decide), ha.1 63 12 (by decide), ha.1 63 13 (by decide), ha.2.1 51 (by decide), ha.2.1 52 (by decide), ha.2.1 53 (by decide), ha.2.1 54 (by decide), ha.2.1 72 (by decide), ha.2.1 73 (by decide), ha.2.1 74 (by decide), ha.2.1 75 (by decide)]
    exact hC
  · rw [ha.1 10 0 (by decide), ha.1 10 2 (by decide), ha.1 10 3 (by decide), ha.1 63 50 (by decide), ha.1 63 51 (by decide), ha.1 63 53 (by decide), ha.1 63 54 (by decide), ha.2.1 50 (by decide), ha.2.1 97 (by decide)]
    exact hI
  · rw [ha.1 5 0 (by decide), ha.1 5 4 (by decide), ha.1 5 5 (by decide), ha.1 5 6 (by decide), ha.1 5 7 (by decide), ha.1 63 33 (by decide), ha.1 63 40 (by decide), ha.2.1 36 (by decide), ha.2.1 38 (by decide), ha.2.1 40 (by decide), ha.2.1 90 (by decide), ha.2.1 91 (by decide), ha.2.1 92 (by decide), ha.2.1 93 (by decide)]
    exact hN
theorem AgR.W {S S' : St} (h : AgR S S') : AgO fLw aLw lAll S S' := h.weak (fun c s q => by
    unfold fLw at q
    unfold fR
    rw [Bool.not_eq_true'] at q ⊢
    have := of_decide_eq_false q
    exact decide_eq_false (by omega)) (fun k q => by
    unfold aLw at q
    unfold aR
    rw [Bool.not_eq_true'] at q ⊢
    have := of_decide_eq_false q
    exact decide_eq_false (by omega)) (fun _ q => q)
theorem AgT.W {w : Nat} {S S' : St} (h : AgT w S S') : AgO fLw aLw lAll S S' := h.1.weak (fun c s q => by
    unfold fLw at q
    unfold fV
    rw [Bool.not_eq_true'] at q ⊢
    have := of_decide_eq_false q
    exact decide_eq_false (by omega)) (fun k q => by
    unfold aLw at q
    unfold aL
    rw [Bool.not_eq_true'] at q ⊢
    have := of_decide_eq_false q
    exact decide_eq_false (by omega)) (fun _ q => q)
theorem cpok121 {n : Nat} (hn : n ≤ 121) : cpok (0 : Int32) (0 : Int32) (nI n) 121 121 = true := by
  refine decide_eq_true ⟨⟨by decide, by decide, nI_pos (by omega)⟩, ?_, ?_⟩ <;> (rw [nI_clamp (by omega)]; show 0 + n ≤ 121; omega)
theorem hand_eq {w n : Nat} {S : St} (h : S.1 4 1 = nI n) (hn : n ≤ 121) : F_X6_handTo w S = some (fset (aset S (30 + w) (cpF (S.2.1 34) (S.2.1 (30 + w)) 0 n)) (2 + w) 1 (nI n)) := by
  have c0 : Int32.toNatClampNeg (0 : Int32) = 0 := by decide
  unfold F_X6_handTo
  show gd (cpok (0 : Int32) (0 : Int32) (S.1 4 1) 121 121) (some (fset (aset S (30 + w) (va_cpy (S.2.1 34) (S.2.1 (30 + w)) (Int32.toNatClampNeg (0 : Int32)) (Int32.toNatClampNeg (0 : Int32)) (Int32.toNatClampNeg (S.1 4 1)))) (2 + w) 1 (S.1 4 1))) = _
  rw [h, gd_t (cpok121 hn), nI_clamp (by omega), c0, cpF_cpy]
theorem law_11 {N w : Nat} (hw : w < 2) (S : St) : F_X11_law N (nI w) S = (F_X6_faultOf N (S.1 0 2) S).bind (fun r_23 => if r_23.1 = (-1) then ((F_X6_handTo w (fset r_23.2 0 2 0)).bind (fun r_67 => some (1, r_67))) else (some ((-100) - r_23.1, fset r_23.2 0 2 0))) := by
  rcases (show w = 0 ∨ w = 1 by omega) with rfl | rfl
  · unfold F_X11_law
    rw [if_pos (show nI 0 = 0 from rfl)]
    rfl
  · unfold F_X11_law
    rw [if_neg (show ¬ nI 1 = 0 by decide), if_pos (show nI 1 = 1 from rfl)]
    rfl
/-- law -/
theorem st_law {N : Nat} (hN : 2100 ≤ N) {S : St} (h : Inv S) (x : Int32) : Both (F_X11_law N x) (F_X12_law N x) S := by
  by_cases hx : x < 0 ∨ nI 1 < x
  · have e1 : F_X11_law N x S = some (-1, S) := by
      unfold F_X11_law
      have n0 : ¬ x = 0 := fun z => by rw [z] at hx; exact absurd hx (by decide)
      have n1 : ¬ x = 1 := fun z => by rw [z] at hx; exact absurd hx (by decide)
      rw [if_neg n0, if_neg n1]
    have e2 : F_X12_law N x S = some (-1, S) := by
      unfold F_X12_law
      have e : F_X12_in x (0 : Int32) (1 : Int32) S = some (0, S) := in_f (N := 1) hx S
      rw [e, Option.bind_some, if_pos rfl]
    exact both_ro h e1 e2
  · obtain ⟨w, hw2, rfl⟩ := nI_of (show ¬ x < 0 from fun z => hx (Or.inl z))
    have hw : w < 2 := by
      rcases Nat.lt_or_ge w 2 with q | q
      · exact q
      · exact absurd (Or.inr (nI_lt (a := 1) q hw2)) hx
    obtain ⟨V, kd, hI⟩ := id h
    obtain ⟨len, hl, t1, t2, t3⟩ := hI.2.1
    have hLw := hI.2.2.2.2.2.2.2.2
    let tx : Nat → Nat := fun i => Int32.toNatClampNeg (S.2.1 20 i)
    have htx : ∀ i, i < len → S.2.1 20 i = nI (tx i) ∧ tx i < 256 ∧ S.2.1 76 i = (nI (tx i)).toInt8.toInt32 := fun i hi => by
      obtain ⟨c, c1, c2, c3⟩ := t3 i hi
      have e : tx i = c := by
        show Int32.toNatClampNeg (S.2.1 20 i) = c
        rw [c2]
        exact nI_clamp (by omega)
      rw [e]
      exact ⟨c2, c1, c3⟩
    have hcl := cl_fault hN hl (tx := tx) (S := S) (fun i hi => ⟨(htx i hi).1, (htx i hi).2.1⟩)
    have q2 : fR (2 + w) 1 = true := (by decide : ∀ b, b < 2 → fR (2 + b) 1 = true) w hw
    have hrd := read_ok (tx := tx) hl (fun i hi => (htx i hi).2.1) (N := N) (by omega) hw (S := S) t2 (fun i hi => (htx i hi).2.2)
    have hin : ∀ T : St, F_X12_law N (nI w) T = ((F_X12_readText N (nI w) T).bind (fun r_13 => if r_13.1 < 0 then (gd (inb (nI w) 2) (some (1, aset r_13.2 84 (upd (r_13.2.2.1 84) (Int32.toNatClampNeg (nI w)) (vp_nar .boolean (1 : Int32)))))) else (some ((-100) - r_13.1, r_13.2)))) := fun T => by
      unfold F_X12_law
      have e : F_X12_in (nI w) (0 : Int32) (1 : Int32) T = some (1, T) := in_t (N := 1) (by omega) (by decide) T
      rw [e, Option.bind_some, if_neg (show ¬ (1 : Int32) = 0 by decide)]
    rcases hrd with ⟨f, _, hc, hf, _⟩ | ⟨P, _, hc, _⟩
    · rw [hc] at hcl
      obtain ⟨S', r1, a1⟩ := hcl
      let S1 : St := fset S' 0 2 0
      have e1 : F_X11_law N (nI w) S = some ((-100) - nI f, S1) := by
        rw [law_11 hw, t1, r1, Option.bind_some, if_neg (show ¬ nI f = -1 from fun z => absurd (show nI f < 0 by rw [z]; decide) (nI_pos (by omega)))]
      have t2' : S1.1 63 19 = nI len := (a1.1 63 19 (by decide)).trans t2
      have e76 : S1.2.1 76 = S.2.1 76 := a1.2.1 76 (by decide)
      rcases read_ok (tx := tx) hl (fun i hi => (htx i hi).2.1) (N := N) (by omega) hw (S := S1) t2' (fun i hi => by rw [e76]; exact (htx i hi).2.2) with ⟨f', S2, hc', hf', g1, g2, g3⟩ | ⟨P, _, hc', _⟩
      · rw [hc] at hc'
        have ef : f = f' := Sum.inl.inj hc'
        subst ef
        refine ⟨(-100) - nI f, S1, S2, e1, ?_, V, kd, hI.law (AgO.trans (AgO.fset a1.W _ (by decide)) g3.W) ?_ g2 ?_⟩
        · rw [hin, g1, Option.bind_some, if_neg (nI_pos (by omega))]
        · rw [g3.1.1 0 2 (by decide)]; rfl
        · have kp : ∀ v, v < 2 → LwB S2 v := fun v hv => by
            have p1 : fV (2 + v) 1 = true := (by decide : ∀ b, b < 2 → fV (2 + b) 1 = true) v hv
            have p2 : fR (2 + v) 1 = true := (by decide : ∀ b, b < 2 → fR (2 + b) 1 = true) v hv
            have p3 : aL (30 + v) = true := (by decide : ∀ b, b < 2 → aL (30 + b) = true) v hv
            have p4 : aR (30 + v) = true := (by decide : ∀ b, b < 2 → aR (30 + b) = true) v hv
            obtain ⟨f1, f2, f3⟩ := g3.2 v hv (by omega)
            have b77 : S1.2.1 77 = S.2.1 77 := a1.2.1 77 (by decide)
            have b78 : S1.2.1 78 = S.2.1 78 := a1.2.1 78 (by decide)
            have b79 : S1.2.1 79 = S.2.1 79 := a1.2.1 79 (by decide)
            have b80 : S1.2.1 80 = S.2.1 80 := a1.2.1 80 (by decide)
            have b81 : S1.2.1 81 = S.2.1 81 := a1.2.1 81 (by decide)
            have b84 : S1.2.1 84 = S.2.1 84 := a1.2.1 84 (by decide)
            have b30 : S1.2.1 (30 + v) = S.2.1 (30 + v) := a1.2.1 _ p4
            refine (lw_at hLw hv).keep ?_ ?_ ?_ ?_ (fun i hi => ?_) (fun i hi => ?_)
            · rw [g3.1.1 _ _ p1]
              show (fset S' 0 2 0).1 (2 + v) 1 = _
              rw [fset_oth _ _ (by omega)]
              exact a1.1 _ _ p2
            · rw [g3.1.2.1 84 (by decide), b84]
            · rw [f3, b79]
            · rw [g3.1.2.1 _ p3, b30]
            · rw [(f1 i hi).1, (f1 i hi).2, b77, b78]; exact ⟨rfl, rfl⟩
            · rw [(f2 i hi).1, (f2 i hi).2, b80, b81]; exact ⟨rfl, rfl⟩
          exact ⟨kp 0 (by decide), kp 1 (by decide)⟩
      · rw [hc] at hc'
        cases hc'
    · rw [hc] at hcl
      obtain ⟨S', r1, a1, l121, h41, h34⟩ := hcl
      let S29 : St := fset S' 0 2 0
      let n : Nat := (codeC P).length
      let S1 : St := fset (aset S29 (30 + w) (cpF (S29.2.1 34) (S29.2.1 (30 + w)) 0 n)) (2 + w) 1 (nI n)
      have e1 : F_X11_law N (nI w) S = some (1, S1) := by
        rw [law_11 hw, t1, r1, Option.bind_some, if_pos rfl]
        show (F_X6_handTo w S29).bind (fun r_67 => some ((1 : Int32), r_67)) = _
        rw [hand_eq (S := S29) (n := n) h41 l121, Option.bind_some]
      have u2 : fLw (2 + w) 1 = false := (by decide : ∀ b, b < 2 → fLw (2 + b) 1 = false) w hw
      have u3 : aLw (30 + w) = false := (by decide : ∀ b, b < 2 → aLw (30 + b) = false) w hw
      have a1' : AgO fLw aLw lAll S S1 := AgO.fset (AgO.aset (AgO.fset a1.W _ (by decide)) _ u3) _ u2
      have c63 : S1.1 63 19 = S'.1 63 19 := by
        show (fset (aset S29 (30 + w) (cpF (S29.2.1 34) (S29.2.1 (30 + w)) 0 n)) (2 + w) 1 (nI n)).1 63 19 = _
        rw [fset_oth _ _ (by omega)]
        rfl
      have t2' : S1.1 63 19 = nI len := c63.trans ((a1.1 63 19 (by decide)).trans t2)
      have e76 : S1.2.1 76 = S.2.1 76 := a1'.2.1 76 (by decide)
      rcases read_ok (tx := tx) hl (fun i hi => (htx i hi).2.1) (N := N) (by omega) hw (S := S1) t2' (fun i hi => by rw [e76]; exact (htx i hi).2.2) with ⟨f', S2, hc', _⟩ | ⟨P', S2, hc', g1, g2, g3, g4, g5, g6, g7, g8⟩
      · rw [hc] at hc'
        cases hc'
      · let S3 : St := aset S2 84 (upd (S2.2.1 84) w 1)
        have ecc : codeC P = codeC P' := by
          rw [hc] at hc'
          exact Sum.inr.inj hc'
        have a3 : AgO fLw aLw lAll S S3 := AgO.aset (AgO.trans a1' g5.W) _ (by decide)
        refine ⟨1, S1, S3, e1, ?_, V, kd, hI.law a3 ?_ g4 ?_⟩
        · rw [hin, g3, Option.bind_some, if_pos (show (-1 : Int32) < 0 by decide), gd_t (inb_nI (by omega) (by decide)), nI_clamp (by omega)]
          rfl
        · show S2.1 0 2 = 0
          rw [g5.1.1 0 2 (by decide)]
          show (fset (aset S29 (30 + w) (cpF (S29.2.1 34) (S29.2.1 (30 + w)) 0 n)) (2 + w) 1 (nI n)).1 0 2 = _
          rw [fset_oth _ _ (by omega)]
          rfl
        · have kp : ∀ v, v < 2 → LwB S3 v := fun v hv => by
            have p1 : fV (2 + v) 1 = true := (by decide : ∀ b, b < 2 → fV (2 + b) 1 = true) v hv
            have p2 : fR (2 + v) 1 = true := (by decide : ∀ b, b < 2 → fR (2 + b) 1 = true) v hv
            have p3 : aL (30 + v) = true := (by decide : ∀ b, b < 2 → aL (30 + b) = true) v hv
            have p4 : aR (30 + v) = true := (by decide : ∀ b, b < 2 → aR (30 + b) = true) v hv
            have z30 : S3.2.1 (30 + v) = S1.2.1 (30 + v) := by
              show (aset S2 84 (upd (S2.2.1 84) w 1)).2.1 (30 + v) = _
              rw [aset_oth _ _ (by omega)]
              exact g5.1.2.1 _ p3
            have z2 : S3.1 (2 + v) 1 = S1.1 (2 + v) 1 := g5.1.1 _ _ p1
            by_cases c : v = w
            · subst c
              right
              refine ⟨pk_us, P', g1, g2, by rw [← ecc]; exact l121, ?_, fun i hi => ?_, g6, g7, g8⟩
              · rw [z2]
                show (fset (aset S29 (30 + v) (cpF (S29.2.1 34) (S29.2.1 (30 + v)) 0 n)) (2 + v) 1 (nI n)).1 (2 + v) 1 = _
                rw [fset_get, ← ecc]
              · rw [← ecc] at hi ⊢
                rw [z30]
                show (aset S29 (30 + v) (cpF (S29.2.1 34) (S29.2.1 (30 + v)) 0 n)).2.1 (30 + v) i = _
                rw [aset_get]
                show (if 0 ≤ i ∧ i < n then S29.2.1 34 i else _) = _
                rw [if_pos ⟨Nat.zero_le _, hi⟩]
                exact h34 i hi
            · obtain ⟨f1, f2, f3⟩ := g5.2 v hv c
              have b77 : S1.2.1 77 = S.2.1 77 := (aset_oth S29 _ (by omega)).trans (a1.2.1 77 (by decide))
              have b78 : S1.2.1 78 = S.2.1 78 := (aset_oth S29 _ (by omega)).trans (a1.2.1 78 (by decide))
              have b79 : S1.2.1 79 = S.2.1 79 := (aset_oth S29 _ (by omega)).trans (a1.2.1 79 (by decide))
              have b80 : S1.2.1 80 = S.2.1 80 := (aset_oth S29 _ (by omega)).trans (a1.2.1 80 (by decide))
              have b81 : S1.2.1 81 = S.2.1 81 := (aset_oth S29 _ (by omega)).trans (a1.2.1 81 (by decide))
              have b84 : S1.2.1 84 = S.2.1 84 := (aset_oth S29 _ (by omega)).trans (a1.2.1 84 (by decide))
              have b30 : S1.2.1 (30 + v) = S.2.1 (30 + v) := (aset_oth S29 _ (by omega)).trans (a1.2.1 _ p4)
              refine (lw_at hLw hv).keep ?_ ?_ ?_ ?_ (fun i hi => ?_) (fun i hi => ?_)
              · rw [z2]
                show (fset (aset S29 (30 + w) (cpF (S29.2.1 34) (S29.2.1 (30 + w)) 0 n)) (2 + w) 1 (nI n)).1 (2 + v) 1 = _
                rw [fset_oth _ _ (by omega)]
                show (fset S' 0 2 0).1 (2 + v) 1 = _
                rw [fset_oth _ _ (by omega)]
                exact a1.1 _ _ p2
              · show upd (S2.2.1 84) w 1 v = _
                rw [pk_un c, g5.1.2.1 84 (by decide), b84]
              · show S2.2.1 79 v = _
                rw [f3, b79]
              · rw [z30, b30]
              · show S2.2.1 77 (130 * v + i) = _ ∧ S2.2.1 78 (130 * v + i) = _
                rw [(f1 i hi).1, (f1 i hi).2, b77, b78]; exact ⟨rfl, rfl⟩
              · show S2.2.1 80 (61 * v + i) = _ ∧ S2.2.1 81 (61 * v + i) = _
                rw [(f2 i hi).1, (f2 i hi).2, b80, b81]; exact ⟨rfl, rfl⟩
          exact ⟨kp 0 (by decide), kp 1 (by decide)⟩
