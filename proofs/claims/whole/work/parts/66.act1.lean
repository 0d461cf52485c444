/-! acts: the trace as a list -/
def TC (S : St) (l : List Int32) : Prop := S.1 12 1 = nI l.length ∧ ∀ i, i < l.length → i < 24 → S.2.1 56 i = l.getD i 0
def TR (S : St) (l : List Int32) : Prop := S.1 63 57 = nI l.length ∧ ∀ i, i < l.length → i < 24 → S.2.1 99 i = l.getD i 0
def fAc (c s : Nat) : Bool := !decide (c = 12 ∧ s = 1)
def aAc (k : Nat) : Bool := !decide (k = 56)
def AgC (S S' : St) : Prop := AgO fAc aAc lAll S S'
def fAr (c s : Nat) : Bool := !decide (c = 63 ∧ s = 57)
def aAr (k : Nat) : Bool := !decide (k = 99)
def AgD (S S' : St) : Prop := AgO fAr aAr lAll S S'
def rcS (S : St) (n : Nat) (c : Int32) : St := fset (if n < 24 then aset S 56 (upd (S.2.1 56) n c) else S) 12 1 (nI (n + 1))
def rrS (S : St) (n : Nat) (c : Int32) : St := fset (if n < 24 then aset S 99 (upd (S.2.1 99) n c) else S) 63 57 (nI (n + 1))
theorem getD_end32 (l : List Int32) (c : Int32) : (l ++ [c]).getD l.length 0 = c := by
  have := getD_app_r l [c] (0 : Int32) 0
  rw [Nat.add_zero] at this
  exact this
theorem TC.push {S : St} {l : List Int32} (h : TC S l) (c : Int32) : TC (rcS S l.length c) (l ++ [c]) := by
  refine ⟨?_, fun i hi hi2 => ?_⟩
  · rw [List.length_append]
    exact fset_get _ _ _ _
  · rw [List.length_append] at hi
    have hi' : i < l.length + 1 := hi
    unfold rcS
    by_cases q : l.length < 24
    · rw [if_pos q]
      show upd (S.2.1 56) l.length c i = _
      by_cases w : i = l.length
      · rw [w, pk_us, getD_end32]
      · rw [pk_un w, getD_app_l _ _ _ (by omega)]
        exact h.2 i (by omega) hi2
    · rw [if_neg q]
      show S.2.1 56 i = _
      rw [getD_app_l _ _ _ (by omega)]
      exact h.2 i (by omega) hi2
theorem TR.push {S : St} {l : List Int32} (h : TR S l) (c : Int32) : TR (rrS S l.length c) (l ++ [c]) := by
  refine ⟨?_, fun i hi hi2 => ?_⟩
  · rw [List.length_append]
    exact fset_get _ _ _ _
  · rw [List.length_append] at hi
    have hi' : i < l.length + 1 := hi
    unfold rrS
    by_cases q : l.length < 24
    · rw [if_pos q]
      show upd (S.2.1 99) l.length c i = _
      by_cases w : i = l.length
      · rw [w, pk_us, getD_end32]
      · rw [pk_un w, getD_app_l _ _ _ (by omega)]
        exact h.2 i (by omega) hi2
    · rw [if_neg q]
      show S.2.1 99 i = _
      rw [getD_app_l _ _ _ (by omega)]
      exact h.2 i (by omega) hi2
theorem AgC.rc (S : St) (n : Nat) (c : Int32) : AgC S (rcS S n c) := by
  unfold rcS
  by_cases q : n < 24
  · rw [if_pos q]; exact AgO.fset (AgO.aset AgO.rfl _ (by decide)) _ (by decide)
  · rw [if_neg q]; exact AgO.fset AgO.rfl _ (by decide)
theorem AgD.rr (S : St) (n : Nat) (c : Int32) : AgD S (rrS S n c) := by
  unfold rrS
  by_cases q : n < 24
  · rw [if_pos q]; exact AgO.fset (AgO.aset AgO.rfl _ (by decide)) _ (by decide)
  · rw [if_neg q]; exact AgO.fset AgO.rfl _ (by decide)
theorem ran_eq {S : St} {l : List Int32} (h : TR S l) (hl : l.length < 2 ^ 30) (c : Int32) : F_X12_ran c S = some (rrS S l.length c) := by
  unfold F_X12_ran rrS
  by_cases q : l.length < 24
  · rw [if_neg (by rw [h.1]; exact nI_ge (b := 24) q (by decide)), gd_t (by rw [h.1]; exact inb_nI q (by decide)), if_pos q]
    show some (fset (aset S 99 (upd (S.2.1 99) (Int32.toNatClampNeg (S.1 63 57)) c)) 63 57 (S.1 63 57 + 1)) = _
    rw [h.1, nI_clamp (by omega), nI_1]
  · rw [if_pos (by rw [h.1]; exact nI_le (a := 24) (by omega) (by omega)), if_neg q]
    show some (fset S 63 57 (S.1 63 57 + 1)) = _
    rw [h.1, nI_1]
/-- what a piece of the class answers and traces, of the body q of kind k -/
def Sp (q k : Nat) (f : St → Option (Int32 × St)) (v : Int32) (tr : List Int32) : Prop := ∀ (S : St) (l : List Int32), S.1 12 4 = nI q → S.2.1 55 q = nI k → TC S l → l.length + tr.length ≤ 900 → ∃ S', f S = some (v, S') ∧ TC S' (l ++ tr) ∧ AgC S S'
def Sr (q k : Nat) (f : St → Option (Int32 × St)) (v : Int32) (tr : List Int32) : Prop := ∀ (S : St) (l : List Int32), S.2.1 98 q = nI k → TR S l → l.length + tr.length ≤ 900 → ∃ S', f S = some (v, S') ∧ TR S' (l ++ tr) ∧ AgD S S'
theorem Sp.map {q k : Nat} {f : St → Option (Int32 × St)} {v : Int32} {tr : List Int32} (h : Sp q k f v tr) (g : Int32 → Int32) : Sp q k (fun S => (f S).bind (fun r => some (g r.1, r.2))) (g v) tr := by
  intro S l h1 h2 h3 h4
  obtain ⟨S', s1, s2, s3⟩ := h S l h1 h2 h3 h4
  refine ⟨S', ?_, s2, s3⟩
  show (f S).bind _ = _
  rw [s1, Option.bind_some]
theorem Sr.map {q k : Nat} {f : St → Option (Int32 × St)} {v : Int32} {tr : List Int32} (h : Sr q k f v tr) (g : Int32 → Int32) : Sr q k (fun S => (f S).bind (fun r => some (g r.1, r.2))) (g v) tr := by
  intro S l h2 h3 h4
  obtain ⟨S', s1, s2, s3⟩ := h S l h2 h3 h4
  refine ⟨S', ?_, s2, s3⟩
  show (f S).bind _ = _
  rw [s1, Option.bind_some]
theorem Sp.two {q k : Nat} {f1 f2 : St → Option (Int32 × St)} {v1 v2 : Int32} {t1 t2 : List Int32} (h1 : Sp q k f1 v1 t1) (h2 : Sp q k f2 v2 t2) (g : Int32 → Int32 → Int32) : Sp q k (fun S => (f1 S).bind (fun r1 => (f2 r1.2).bind (fun r2 => some (g r1.1 r2.1, r2.2)))) (g v1 v2) (t1 ++ t2) := by
  intro S l q1 q2 q3 q4
  rw [List.length_append] at q4
  obtain ⟨S1, s1, s2, s3⟩ := h1 S l q1 q2 q3 (by omega)
  obtain ⟨S2, u1, u2, u3⟩ := h2 S1 (l ++ t1) ((s3.1 _ _ (by decide)).trans q1) (by rw [s3.2.1 55 (by decide)]; exact q2) s2 (by rw [List.length_append]; omega)
  refine ⟨S2, ?_, by rw [← List.append_assoc]; exact u2, s3.trans u3⟩
  show (f1 S).bind _ = _
  rw [s1, Option.bind_some]
  show (f2 S1).bind _ = _
  rw [u1, Option.bind_some]
theorem Sr.two {q k : Nat} {f1 f2 : St → Option (Int32 × St)} {v1 v2 : Int32} {t1 t2 : List Int32} (h1 : Sr q k f1 v1 t1) (h2 : Sr q k f2 v2 t2) (g : Int32 → Int32 → Int32) : Sr q k (fun S => (f1 S).bind (fun r1 => (f2 r1.2).bind (fun r2 => some (g r1.1 r2.1, r2.2)))) (g v1 v2) (t1 ++ t2) := by
  intro S l q2 q3 q4
  rw [List.length_append] at q4
  obtain ⟨S1, s1, s2, s3⟩ := h1 S l q2 q3 (by omega)
  obtain ⟨S2, u1, u2, u3⟩ := h2 S1 (l ++ t1) (by rw [s3.2.1 98 (by decide)]; exact q2) s2 (by rw [List.length_append]; omega)
  refine ⟨S2, ?_, by rw [← List.append_assoc]; exact u2, s3.trans u3⟩
  show (f1 S).bind _ = _
  rw [s1, Option.bind_some]
  show (f2 S1).bind _ = _
  rw [u1, Option.bind_some]
/-- the reference: a trace ahead of a piece -/
theorem Sr.ran {q k : Nat} {f : St → Option (Int32 × St)} {v : Int32} {tr : List Int32} (h : Sr q k f v tr) (c : Int32) : Sr q k (fun S => (F_X12_ran c S).bind (fun r => f r)) v (c :: tr) := by
  intro S l h2 h3 h4
  have h4' : l.length + (tr.length + 1) ≤ 900 := h4
  have a := AgD.rr S l.length c
  obtain ⟨S', s1, s2, s3⟩ := h (rrS S l.length c) (l ++ [c]) (by rw [a.2.1 98 (by decide)]; exact h2) (h3.push c) (by rw [List.length_append]; show l.length + 1 + _ ≤ 900; omega)
  refine ⟨S', ?_, by rw [List.append_assoc] at s2; exact s2, a.trans s3⟩
  show (F_X12_ran c S).bind _ = _
  rw [ran_eq h3 (by omega), Option.bind_some]
  exact s1
theorem Sr.cst {q k : Nat} {v : Int32} {c : Int32} : Sr q k (fun S => (F_X12_ran c S).bind (fun r => some (v, r))) v [c] := by
  intro S l h2 h3 h4
  have h4' : l.length + 1 ≤ 900 := h4
  refine ⟨rrS S l.length c, ?_, h3.push c, AgD.rr _ _ _⟩
  show (F_X12_ran c S).bind _ = _
  rw [ran_eq h3 (by omega), Option.bind_some]
/-- the class: begun -/
theorem Sp.begun {q k : Nat} {r : Int32 → Int32 → Int32 → Int32 → St → Option (Int32 × St)} {c x d : Int32} {br : St → Option (Int32 × St)} (hb : ∀ T : St, F_X0_begun_19 r c x d T = br (fset T 12 1 (T.1 12 1 + 1))) {v : Int32} {tr : List Int32} (h : Sp q k br v tr) : Sp q k (F_X0_begun r c x d) v (c :: tr) := by
  intro S l h1 h2 h3 h4
  have h4' : l.length + (tr.length + 1) ≤ 900 := h4
  have a := AgC.rc S l.length c
  obtain ⟨S', s1, s2, s3⟩ := h (rcS S l.length c) (l ++ [c]) ((a.1 _ _ (by decide)).trans h1) (by rw [a.2.1 55 (by decide)]; exact h2) (h3.push c) (by rw [List.length_append]; show l.length + 1 + _ ≤ 900; omega)
  refine ⟨S', ?_, by rw [List.append_assoc] at s2; exact s2, a.trans s3⟩
  rw [← s1]
  unfold F_X0_begun rcS
  by_cases w : l.length < 24
  · rw [if_neg (by rw [h3.1]; exact nI_ge (b := 24) w (by decide)), gd_t (by rw [h3.1]; exact inb_nI w (by decide)), if_pos w]
    show F_X0_begun_19 r c x d (aset S 56 (upd (S.2.1 56) (Int32.toNatClampNeg (S.1 12 1)) c)) = _
    rw [hb]
    show br (fset (aset S 56 (upd (S.2.1 56) (Int32.toNatClampNeg (S.1 12 1)) c)) 12 1 (S.1 12 1 + 1)) = _
    rw [h3.1, nI_clamp (by omega), nI_1]
  · rw [if_pos (by rw [h3.1]; exact nI_le (a := 24) (by omega) (by omega)), if_neg w, hb, h3.1, nI_1]
theorem fr_step {r : Int32 → Int32 → Int32 → Int32 → St → Option (Int32 × St)} {n s a k : Nat} (hs : s < 8) (ha : a < 4) (hk : k < 8) (x x4 : Int32) (S : St) : F_X0_from_6 r (n + 1) (nI a) x x4 (nI s) (nI k) S = if ownT (s * 4 + a) = 0 then F_X0_from_6 r n (nI a) x x4 (aboveT s) (nI (k + 1)) S else if x4 ≤ 30 then (F_X0_begun r (ownT (s * 4 + a)) x x4 S).bind (fun z => some (z.1, z.2)) else some (0, S) := by
  have e : (nI s * 4) + nI a = nI (s * 4 + a) := by show nI s * nI 4 + nI a = _; rw [pk_mul, nI_add]
  show (if 8 ≤ nI k then _ else (if nI s = (-1) then _ else (gd (inb ((nI s * 4) + nI a) 32) (if (ownT (Int32.toNatClampNeg ((nI s * 4) + nI a))) = 0 then (gd (inb (nI s) 8) (F_X0_from_6 r n (nI a) x x4 (aboveT (Int32.toNatClampNeg (nI s))) (nI k + 1) S)) else (if x4 ≤ 30 then ((F_X0_begun r (ownT (Int32.toNatClampNeg ((nI s * 4) + nI a))) x x4 S).bind (fun r_53 => some (r_53.1, r_53.2))) else (some (0, S))))))) = _
  rw [if_neg (show ¬ (8 : Int32) ≤ nI k from nI_ge (b := 8) hk (by decide)), if_neg (show ¬ nI s = (-1 : Int32) from fun z => nI_pos (n := s) (by omega) (by rw [z]; decide)), e, gd_t (inb_nI (by omega) (by decide)), nI_clamp (n := s * 4 + a) (by omega), gd_t (inb_nI hs (by decide)), nI_clamp (n := s) (by omega), nI_1]
theorem Sp.id {q k : Nat} {f : St → Option (Int32 × St)} {v : Int32} {tr : List Int32} (h : Sp q k f v tr) : Sp q k (fun S => (f S).bind (fun r => some (r.1, r.2))) v tr := h.map (fun x => x)
theorem Sr.id {q k : Nat} {f : St → Option (Int32 × St)} {v : Int32} {tr : List Int32} (h : Sr q k f v tr) : Sr q k (fun S => (f S).bind (fun r => some (r.1, r.2))) v tr := h.map (fun x => x)

theorem fr_0_0 (r : Int32 → Int32 → Int32 → Int32 → St → Option (Int32 × St)) (n : Nat) (x x4 : Int32) (hx : x4 ≤ 30) (S : St) : F_X0_from_6 r (n + 9) (nI 0) x x4 (nI 0) (nI 0) S = (F_X0_begun r 1 x x4 S).bind (fun z => some (z.1, z.2)) := by
  rw [fr_step (s := 0) (a := 0) (k := 0) (by decide) (by decide) (by decide), if_neg (show ¬ ownT (0 * 4 + 0) = 0 by decide), if_pos hx, show ownT (0 * 4 + 0) = 1 by decide]
theorem fr_0_1 (r : Int32 → Int32 → Int32 → Int32 → St → Option (Int32 × St)) (n : Nat) (x x4 : Int32) (hx : x4 ≤ 30) (S : St) : F_X0_from_6 r (n + 9) (nI 1) x x4 (nI 0) (nI 0) S = (F_X0_begun r 10 x x4 S).bind (fun z => some (z.1, z.2)) := by
  rw [fr_step (s := 0) (a := 1) (k := 0) (by decide) (by decide) (by decide), if_neg (show ¬ ownT (0 * 4 + 1) = 0 by decide), if_pos hx, show ownT (0 * 4 + 1) = 10 by decide]
theorem fr_0_2 (r : Int32 → Int32 → Int32 → Int32 → St → Option (Int32 × St)) (n : Nat) (x x4 : Int32) (hx : x4 ≤ 30) (S : St) : F_X0_from_6 r (n + 9) (nI 2) x x4 (nI 0) (nI 0) S = (F_X0_begun r 11 x x4 S).bind (fun z => some (z.1, z.2)) := by
  rw [fr_step (s := 0) (a := 2) (k := 0) (by decide) (by decide) (by decide), if_neg (show ¬ ownT (0 * 4 + 2) = 0 by decide), if_pos hx, show ownT (0 * 4 + 2) = 11 by decide]
theorem fr_0_3 (r : Int32 → Int32 → Int32 → Int32 → St → Option (Int32 × St)) (n : Nat) (x x4 : Int32) (hx : x4 ≤ 30) (S : St) : F_X0_from_6 r (n + 9) (nI 3) x x4 (nI 0) (nI 0) S = (F_X0_begun r 2 x x4 S).bind (fun z => some (z.1, z.2)) := by
  rw [fr_step (s := 0) (a := 3) (k := 0) (by decide) (by decide) (by decide), if_neg (show ¬ ownT (0 * 4 + 3) = 0 by decide), if_pos hx, show ownT (0 * 4 + 3) = 2 by decide]
theorem fr_1_0 (r : Int32 → Int32 → Int32 → Int32 → St → Option (Int32 × St)) (n : Nat) (x x4 : Int32) (hx : x4 ≤ 30) (S : St) : F_X0_from_6 r (n + 9) (nI 0) x x4 (nI 1) (nI 0) S = (F_X0_begun r 20 x x4 S).bind (fun z => some (z.1, z.2)) := by
  rw [fr_step (s := 1) (a := 0) (k := 0) (by decide) (by decide) (by decide), if_neg (show ¬ ownT (1 * 4 + 0) = 0 by decide), if_pos hx, show ownT (1 * 4 + 0) = 20 by decide]
theorem fr_1_1 (r : Int32 → Int32 → Int32 → Int32 → St → Option (Int32 × St)) (n : Nat) (x x4 : Int32) (hx : x4 ≤ 30) (S : St) : F_X0_from_6 r (n + 9) (nI 1) x x4 (nI 1) (nI 0) S = (F_X0_begun r 10 x x4 S).bind (fun z => some (z.1, z.2)) := by
  rw [fr_step (s := 1) (a := 1) (k := 0) (by decide) (by decide) (by decide), if_pos (show ownT (1 * 4 + 1) = 0 by decide), show aboveT 1 = nI 0 by decide]
  rw [fr_step (s := 0) (a := 1) (k := 1) (by decide) (by decide) (by decide), if_neg (show ¬ ownT (0 * 4 + 1) = 0 by decide), if_pos hx, show ownT (0 * 4 + 1) = 10 by decide]
theorem fr_1_2 (r : Int32 → Int32 → Int32 → Int32 → St → Option (Int32 × St)) (n : Nat) (x x4 : Int32) (hx : x4 ≤ 30) (S : St) : F_X0_from_6 r (n + 9) (nI 2) x x4 (nI 1) (nI 0) S = (F_X0_begun r 11 x x4 S).bind (fun z => some (z.1, z.2)) := by
  rw [fr_step (s := 1) (a := 2) (k := 0) (by decide) (by decide) (by decide), if_pos (show ownT (1 * 4 + 2) = 0 by decide), show aboveT 1 = nI 0 by decide]
  rw [fr_step (s := 0) (a := 2) (k := 1) (by decide) (by decide) (by decide), if_neg (show ¬ ownT (0 * 4 + 2) = 0 by decide), if_pos hx, show ownT (0 * 4 + 2) = 11 by decide]
theorem fr_1_3 (r : Int32 → Int32 → Int32 → Int32 → St → Option (Int32 × St)) (n : Nat) (x x4 : Int32) (hx : x4 ≤ 30) (S : St) : F_X0_from_6 r (n + 9) (nI 3) x x4 (nI 1) (nI 0) S = (F_X0_begun r 2 x x4 S).bind (fun z => some (z.1, z.2)) := by
  rw [fr_step (s := 1) (a := 3) (k := 0) (by decide) (by decide) (by decide), if_pos (show ownT (1 * 4 + 3) = 0 by decide), show aboveT 1 = nI 0 by decide]
  rw [fr_step (s := 0) (a := 3) (k := 1) (by decide) (by decide) (by decide), if_neg (show ¬ ownT (0 * 4 + 3) = 0 by decide), if_pos hx, show ownT (0 * 4 + 3) = 2 by decide]
theorem fr_2_0 (r : Int32 → Int32 → Int32 → Int32 → St → Option (Int32 × St)) (n : Nat) (x x4 : Int32) (hx : x4 ≤ 30) (S : St) : F_X0_from_6 r (n + 9) (nI 0) x x4 (nI 2) (nI 0) S = (F_X0_begun r 1 x x4 S).bind (fun z => some (z.1, z.2)) := by
  rw [fr_step (s := 2) (a := 0) (k := 0) (by decide) (by decide) (by decide), if_pos (show ownT (2 * 4 + 0) = 0 by decide), show aboveT 2 = nI 0 by decide]
  rw [fr_step (s := 0) (a := 0) (k := 1) (by decide) (by decide) (by decide), if_neg (show ¬ ownT (0 * 4 + 0) = 0 by decide), if_pos hx, show ownT (0 * 4 + 0) = 1 by decide]
theorem fr_2_1 (r : Int32 → Int32 → Int32 → Int32 → St → Option (Int32 × St)) (n : Nat) (x x4 : Int32) (hx : x4 ≤ 30) (S : St) : F_X0_from_6 r (n + 9) (nI 1) x x4 (nI 2) (nI 0) S = (F_X0_begun r 30 x x4 S).bind (fun z => some (z.1, z.2)) := by
  rw [fr_step (s := 2) (a := 1) (k := 0) (by decide) (by decide) (by decide), if_neg (show ¬ ownT (2 * 4 + 1) = 0 by decide), if_pos hx, show ownT (2 * 4 + 1) = 30 by decide]
theorem fr_2_2 (r : Int32 → Int32 → Int32 → Int32 → St → Option (Int32 × St)) (n : Nat) (x x4 : Int32) (hx : x4 ≤ 30) (S : St) : F_X0_from_6 r (n + 9) (nI 2) x x4 (nI 2) (nI 0) S = (F_X0_begun r 11 x x4 S).bind (fun z => some (z.1, z.2)) := by
  rw [fr_step (s := 2) (a := 2) (k := 0) (by decide) (by decide) (by decide), if_pos (show ownT (2 * 4 + 2) = 0 by decide), show aboveT 2 = nI 0 by decide]
  rw [fr_step (s := 0) (a := 2) (k := 1) (by decide) (by decide) (by decide), if_neg (show ¬ ownT (0 * 4 + 2) = 0 by decide), if_pos hx, show ownT (0 * 4 + 2) = 11 by decide]
theorem fr_2_3 (r : Int32 → Int32 → Int32 → Int32 → St → Option (Int32 × St)) (n : Nat) (x x4 : Int32) (hx : x4 ≤ 30) (S : St) : F_X0_from_6 r (n + 9) (nI 3) x x4 (nI 2) (nI 0) S = (F_X0_begun r 2 x x4 S).bind (fun z => some (z.1, z.2)) := by
  rw [fr_step (s := 2) (a := 3) (k := 0) (by decide) (by decide) (by decide), if_pos (show ownT (2 * 4 + 3) = 0 by decide), show aboveT 2 = nI 0 by decide]
  rw [fr_step (s := 0) (a := 3) (k := 1) (by decide) (by decide) (by decide), if_neg (show ¬ ownT (0 * 4 + 3) = 0 by decide), if_pos hx, show ownT (0 * 4 + 3) = 2 by decide]
theorem fr_3_0 (r : Int32 → Int32 → Int32 → Int32 → St → Option (Int32 × St)) (n : Nat) (x x4 : Int32) (hx : x4 ≤ 30) (S : St) : F_X0_from_6 r (n + 9) (nI 0) x x4 (nI 3) (nI 0) S = (F_X0_begun r 1 x x4 S).bind (fun z => some (z.1, z.2)) := by
  rw [fr_step (s := 3) (a := 0) (k := 0) (by decide) (by decide) (by decide), if_pos (show ownT (3 * 4 + 0) = 0 by decide), show aboveT 3 = nI 2 by decide]
  rw [fr_step (s := 2) (a := 0) (k := 1) (by decide) (by decide) (by decide), if_pos (show ownT (2 * 4 + 0) = 0 by decide), show aboveT 2 = nI 0 by decide]
  rw [fr_step (s := 0) (a := 0) (k := 2) (by decide) (by decide) (by decide), if_neg (show ¬ ownT (0 * 4 + 0) = 0 by decide), if_pos hx, show ownT (0 * 4 + 0) = 1 by decide]
theorem fr_3_1 (r : Int32 → Int32 → Int32 → Int32 → St → Option (Int32 × St)) (n : Nat) (x x4 : Int32) (hx : x4 ≤ 30) (S : St) : F_X0_from_6 r (n + 9) (nI 1) x x4 (nI 3) (nI 0) S = (F_X0_begun r 41 x x4 S).bind (fun z => some (z.1, z.2)) := by
  rw [fr_step (s := 3) (a := 1) (k := 0) (by decide) (by decide) (by decide), if_neg (show ¬ ownT (3 * 4 + 1) = 0 by decide), if_pos hx, show ownT (3 * 4 + 1) = 41 by decide]
theorem fr_3_2 (r : Int32 → Int32 → Int32 → Int32 → St → Option (Int32 × St)) (n : Nat) (x x4 : Int32) (hx : x4 ≤ 30) (S : St) : F_X0_from_6 r (n + 9) (nI 2) x x4 (nI 3) (nI 0) S = (F_X0_begun r 40 x x4 S).bind (fun z => some (z.1, z.2)) := by
  rw [fr_step (s := 3) (a := 2) (k := 0) (by decide) (by decide) (by decide), if_neg (show ¬ ownT (3 * 4 + 2) = 0 by decide), if_pos hx, show ownT (3 * 4 + 2) = 40 by decide]
theorem fr_3_3 (r : Int32 → Int32 → Int32 → Int32 → St → Option (Int32 × St)) (n : Nat) (x x4 : Int32) (hx : x4 ≤ 30) (S : St) : F_X0_from_6 r (n + 9) (nI 3) x x4 (nI 3) (nI 0) S = (F_X0_begun r 2 x x4 S).bind (fun z => some (z.1, z.2)) := by
  rw [fr_step (s := 3) (a := 3) (k := 0) (by decide) (by decide) (by decide), if_pos (show ownT (3 * 4 + 3) = 0 by decide), show aboveT 3 = nI 2 by decide]
  rw [fr_step (s := 2) (a := 3) (k := 1) (by decide) (by decide) (by decide), if_pos (show ownT (2 * 4 + 3) = 0 by decide), show aboveT 2 = nI 0 by decide]
  rw [fr_step (s := 0) (a := 3) (k := 2) (by decide) (by decide) (by decide), if_neg (show ¬ ownT (0 * 4 + 3) = 0 by decide), if_pos hx, show ownT (0 * 4 + 3) = 2 by decide]
theorem fr_4_0 (r : Int32 → Int32 → Int32 → Int32 → St → Option (Int32 × St)) (n : Nat) (x x4 : Int32) (hx : x4 ≤ 30) (S : St) : F_X0_from_6 r (n + 9) (nI 0) x x4 (nI 4) (nI 0) S = (F_X0_begun r 20 x x4 S).bind (fun z => some (z.1, z.2)) := by
  rw [fr_step (s := 4) (a := 0) (k := 0) (by decide) (by decide) (by decide), if_pos (show ownT (4 * 4 + 0) = 0 by decide), show aboveT 4 = nI 1 by decide]
  rw [fr_step (s := 1) (a := 0) (k := 1) (by decide) (by decide) (by decide), if_neg (show ¬ ownT (1 * 4 + 0) = 0 by decide), if_pos hx, show ownT (1 * 4 + 0) = 20 by decide]
theorem fr_4_1 (r : Int32 → Int32 → Int32 → Int32 → St → Option (Int32 × St)) (n : Nat) (x x4 : Int32) (hx : x4 ≤ 30) (S : St) : F_X0_from_6 r (n + 9) (nI 1) x x4 (nI 4) (nI 0) S = (F_X0_begun r 10 x x4 S).bind (fun z => some (z.1, z.2)) := by
  rw [fr_step (s := 4) (a := 1) (k := 0) (by decide) (by decide) (by decide), if_pos (show ownT (4 * 4 + 1) = 0 by decide), show aboveT 4 = nI 1 by decide]
  rw [fr_step (s := 1) (a := 1) (k := 1) (by decide) (by decide) (by decide), if_pos (show ownT (1 * 4 + 1) = 0 by decide), show aboveT 1 = nI 0 by decide]
  rw [fr_step (s := 0) (a := 1) (k := 2) (by decide) (by decide) (by decide), if_neg (show ¬ ownT (0 * 4 + 1) = 0 by decide), if_pos hx, show ownT (0 * 4 + 1) = 10 by decide]
theorem fr_4_2 (r : Int32 → Int32 → Int32 → Int32 → St → Option (Int32 × St)) (n : Nat) (x x4 : Int32) (hx : x4 ≤ 30) (S : St) : F_X0_from_6 r (n + 9) (nI 2) x x4 (nI 4) (nI 0) S = (F_X0_begun r 11 x x4 S).bind (fun z => some (z.1, z.2)) := by
  rw [fr_step (s := 4) (a := 2) (k := 0) (by decide) (by decide) (by decide), if_pos (show ownT (4 * 4 + 2) = 0 by decide), show aboveT 4 = nI 1 by decide]
  rw [fr_step (s := 1) (a := 2) (k := 1) (by decide) (by decide) (by decide), if_pos (show ownT (1 * 4 + 2) = 0 by decide), show aboveT 1 = nI 0 by decide]
  rw [fr_step (s := 0) (a := 2) (k := 2) (by decide) (by decide) (by decide), if_neg (show ¬ ownT (0 * 4 + 2) = 0 by decide), if_pos hx, show ownT (0 * 4 + 2) = 11 by decide]
theorem fr_4_3 (r : Int32 → Int32 → Int32 → Int32 → St → Option (Int32 × St)) (n : Nat) (x x4 : Int32) (hx : x4 ≤ 30) (S : St) : F_X0_from_6 r (n + 9) (nI 3) x x4 (nI 4) (nI 0) S = (F_X0_begun r 50 x x4 S).bind (fun z => some (z.1, z.2)) := by
  rw [fr_step (s := 4) (a := 3) (k := 0) (by decide) (by decide) (by decide), if_neg (show ¬ ownT (4 * 4 + 3) = 0 by decide), if_pos hx, show ownT (4 * 4 + 3) = 50 by decide]
theorem fr_5_0 (r : Int32 → Int32 → Int32 → Int32 → St → Option (Int32 × St)) (n : Nat) (x x4 : Int32) (hx : x4 ≤ 30) (S : St) : F_X0_from_6 r (n + 9) (nI 0) x x4 (nI 5) (nI 0) S = (F_X0_begun r 1 x x4 S).bind (fun z => some (z.1, z.2)) := by
  rw [fr_step (s := 5) (a := 0) (k := 0) (by decide) (by decide) (by decide), if_pos (show ownT (5 * 4 + 0) = 0 by decide), show aboveT 5 = nI 3 by decide]
  rw [fr_step (s := 3) (a := 0) (k := 1) (by decide) (by decide) (by decide), if_pos (show ownT (3 * 4 + 0) = 0 by decide), show aboveT 3 = nI 2 by decide]
  rw [fr_step (s := 2) (a := 0) (k := 2) (by decide) (by decide) (by decide), if_pos (show ownT (2 * 4 + 0) = 0 by decide), show aboveT 2 = nI 0 by decide]
  rw [fr_step (s := 0) (a := 0) (k := 3) (by decide) (by decide) (by decide), if_neg (show ¬ ownT (0 * 4 + 0) = 0 by decide), if_pos hx, show ownT (0 * 4 + 0) = 1 by decide]
theorem fr_5_1 (r : Int32 → Int32 → Int32 → Int32 → St → Option (Int32 × St)) (n : Nat) (x x4 : Int32) (hx : x4 ≤ 30) (S : St) : F_X0_from_6 r (n + 9) (nI 1) x x4 (nI 5) (nI 0) S = (F_X0_begun r 41 x x4 S).bind (fun z => some (z.1, z.2)) := by
  rw [fr_step (s := 5) (a := 1) (k := 0) (by decide) (by decide) (by decide), if_pos (show ownT (5 * 4 + 1) = 0 by decide), show aboveT 5 = nI 3 by decide]
  rw [fr_step (s := 3) (a := 1) (k := 1) (by decide) (by decide) (by decide), if_neg (show ¬ ownT (3 * 4 + 1) = 0 by decide), if_pos hx, show ownT (3 * 4 + 1) = 41 by decide]
theorem fr_5_2 (r : Int32 → Int32 → Int32 → Int32 → St → Option (Int32 × St)) (n : Nat) (x x4 : Int32) (hx : x4 ≤ 30) (S : St) : F_X0_from_6 r (n + 9) (nI 2) x x4 (nI 5) (nI 0) S = (F_X0_begun r 60 x x4 S).bind (fun z => some (z.1, z.2)) := by
  rw [fr_step (s := 5) (a := 2) (k := 0) (by decide) (by decide) (by decide), if_neg (show ¬ ownT (5 * 4 + 2) = 0 by decide), if_pos hx, show ownT (5 * 4 + 2) = 60 by decide]
theorem fr_5_3 (r : Int32 → Int32 → Int32 → Int32 → St → Option (Int32 × St)) (n : Nat) (x x4 : Int32) (hx : x4 ≤ 30) (S : St) : F_X0_from_6 r (n + 9) (nI 3) x x4 (nI 5) (nI 0) S = (F_X0_begun r 61 x x4 S).bind (fun z => some (z.1, z.2)) := by
  rw [fr_step (s := 5) (a := 3) (k := 0) (by decide) (by decide) (by decide), if_neg (show ¬ ownT (5 * 4 + 3) = 0 by decide), if_pos hx, show ownT (5 * 4 + 3) = 61 by decide]
theorem fr_6_0 (r : Int32 → Int32 → Int32 → Int32 → St → Option (Int32 × St)) (n : Nat) (x x4 : Int32) (hx : x4 ≤ 30) (S : St) : F_X0_from_6 r (n + 9) (nI 0) x x4 (nI 6) (nI 0) S = (F_X0_begun r 70 x x4 S).bind (fun z => some (z.1, z.2)) := by
  rw [fr_step (s := 6) (a := 0) (k := 0) (by decide) (by decide) (by decide), if_neg (show ¬ ownT (6 * 4 + 0) = 0 by decide), if_pos hx, show ownT (6 * 4 + 0) = 70 by decide]
theorem fr_6_1 (r : Int32 → Int32 → Int32 → Int32 → St → Option (Int32 × St)) (n : Nat) (x x4 : Int32) (hx : x4 ≤ 30) (S : St) : F_X0_from_6 r (n + 9) (nI 1) x x4 (nI 6) (nI 0) S = (F_X0_begun r 10 x x4 S).bind (fun z => some (z.1, z.2)) := by
  rw [fr_step (s := 6) (a := 1) (k := 0) (by decide) (by decide) (by decide), if_pos (show ownT (6 * 4 + 1) = 0 by decide), show aboveT 6 = nI 0 by decide]
  rw [fr_step (s := 0) (a := 1) (k := 1) (by decide) (by decide) (by decide), if_neg (show ¬ ownT (0 * 4 + 1) = 0 by decide), if_pos hx, show ownT (0 * 4 + 1) = 10 by decide]
theorem fr_6_2 (r : Int32 → Int32 → Int32 → Int32 → St → Option (Int32 × St)) (n : Nat) (x x4 : Int32) (hx : x4 ≤ 30) (S : St) : F_X0_from_6 r (n + 9) (nI 2) x x4 (nI 6) (nI 0) S = (F_X0_begun r 11 x x4 S).bind (fun z => some (z.1, z.2)) := by
  rw [fr_step (s := 6) (a := 2) (k := 0) (by decide) (by decide) (by decide), if_pos (show ownT (6 * 4 + 2) = 0 by decide), show aboveT 6 = nI 0 by decide]
  rw [fr_step (s := 0) (a := 2) (k := 1) (by decide) (by decide) (by decide), if_neg (show ¬ ownT (0 * 4 + 2) = 0 by decide), if_pos hx, show ownT (0 * 4 + 2) = 11 by decide]
theorem fr_6_3 (r : Int32 → Int32 → Int32 → Int32 → St → Option (Int32 × St)) (n : Nat) (x x4 : Int32) (hx : x4 ≤ 30) (S : St) : F_X0_from_6 r (n + 9) (nI 3) x x4 (nI 6) (nI 0) S = (F_X0_begun r 2 x x4 S).bind (fun z => some (z.1, z.2)) := by
  rw [fr_step (s := 6) (a := 3) (k := 0) (by decide) (by decide) (by decide), if_pos (show ownT (6 * 4 + 3) = 0 by decide), show aboveT 6 = nI 0 by decide]
  rw [fr_step (s := 0) (a := 3) (k := 1) (by decide) (by decide) (by decide), if_neg (show ¬ ownT (0 * 4 + 3) = 0 by decide), if_pos hx, show ownT (0 * 4 + 3) = 2 by decide]
theorem fr_7_0 (r : Int32 → Int32 → Int32 → Int32 → St → Option (Int32 × St)) (n : Nat) (x x4 : Int32) (hx : x4 ≤ 30) (S : St) : F_X0_from_6 r (n + 9) (nI 0) x x4 (nI 7) (nI 0) S = (F_X0_begun r 81 x x4 S).bind (fun z => some (z.1, z.2)) := by
  rw [fr_step (s := 7) (a := 0) (k := 0) (by decide) (by decide) (by decide), if_neg (show ¬ ownT (7 * 4 + 0) = 0 by decide), if_pos hx, show ownT (7 * 4 + 0) = 81 by decide]
theorem fr_7_1 (r : Int32 → Int32 → Int32 → Int32 → St → Option (Int32 × St)) (n : Nat) (x x4 : Int32) (hx : x4 ≤ 30) (S : St) : F_X0_from_6 r (n + 9) (nI 1) x x4 (nI 7) (nI 0) S = (F_X0_begun r 80 x x4 S).bind (fun z => some (z.1, z.2)) := by
  rw [fr_step (s := 7) (a := 1) (k := 0) (by decide) (by decide) (by decide), if_neg (show ¬ ownT (7 * 4 + 1) = 0 by decide), if_pos hx, show ownT (7 * 4 + 1) = 80 by decide]
theorem fr_7_2 (r : Int32 → Int32 → Int32 → Int32 → St → Option (Int32 × St)) (n : Nat) (x x4 : Int32) (hx : x4 ≤ 30) (S : St) : F_X0_from_6 r (n + 9) (nI 2) x x4 (nI 7) (nI 0) S = (F_X0_begun r 11 x x4 S).bind (fun z => some (z.1, z.2)) := by
  rw [fr_step (s := 7) (a := 2) (k := 0) (by decide) (by decide) (by decide), if_pos (show ownT (7 * 4 + 2) = 0 by decide), show aboveT 7 = nI 6 by decide]
  rw [fr_step (s := 6) (a := 2) (k := 1) (by decide) (by decide) (by decide), if_pos (show ownT (6 * 4 + 2) = 0 by decide), show aboveT 6 = nI 0 by decide]
  rw [fr_step (s := 0) (a := 2) (k := 2) (by decide) (by decide) (by decide), if_neg (show ¬ ownT (0 * 4 + 2) = 0 by decide), if_pos hx, show ownT (0 * 4 + 2) = 11 by decide]
theorem fr_7_3 (r : Int32 → Int32 → Int32 → Int32 → St → Option (Int32 × St)) (n : Nat) (x x4 : Int32) (hx : x4 ≤ 30) (S : St) : F_X0_from_6 r (n + 9) (nI 3) x x4 (nI 7) (nI 0) S = (F_X0_begun r 2 x x4 S).bind (fun z => some (z.1, z.2)) := by
  rw [fr_step (s := 7) (a := 3) (k := 0) (by decide) (by decide) (by decide), if_pos (show ownT (7 * 4 + 3) = 0 by decide), show aboveT 7 = nI 6 by decide]
  rw [fr_step (s := 6) (a := 3) (k := 1) (by decide) (by decide) (by decide), if_pos (show ownT (6 * 4 + 3) = 0 by decide), show aboveT 6 = nI 0 by decide]
  rw [fr_step (s := 0) (a := 3) (k := 2) (by decide) (by decide) (by decide), if_neg (show ¬ ownT (0 * 4 + 3) = 0 by decide), if_pos hx, show ownT (0 * 4 + 3) = 2 by decide]
theorem b19_1 (r : Int32 → Int32 → Int32 → Int32 → St → Option (Int32 × St)) (x d : Int32) (T : St) : F_X0_begun_19 r 1 x d T = (fun S26 => some (x + (S26.1 12 4), S26)) (fset T 12 1 (T.1 12 1 + 1)) := by
  unfold F_X0_begun_19
  rw [if_pos (by decide)]
theorem b19_2 (r : Int32 → Int32 → Int32 → Int32 → St → Option (Int32 × St)) (x d : Int32) (T : St) : F_X0_begun_19 r 2 x d T = (fun S26 => (F_X0_own r (1 : Int32) x d S26).bind (fun r_163 => (F_X0_own r (2 : Int32) (1 : Int32) d r_163.2).bind (fun r_170 => some (r_163.1 - r_170.1, r_170.2)))) (fset T 12 1 (T.1 12 1 + 1)) := by
  unfold F_X0_begun_19
  rw [if_neg (by decide), if_pos (by decide)]
theorem b19_10 (r : Int32 → Int32 → Int32 → Int32 → St → Option (Int32 × St)) (x d : Int32) (T : St) : F_X0_begun_19 r 10 x d T = (fun S26 => (F_X0_own r (0 : Int32) x d S26).bind (fun r_179 => some (r_179.1 * 2, r_179.2))) (fset T 12 1 (T.1 12 1 + 1)) := by
  unfold F_X0_begun_19
  rw [if_neg (by decide), if_neg (by decide), if_pos (by decide)]
theorem b19_11 (r : Int32 → Int32 → Int32 → Int32 → St → Option (Int32 × St)) (x d : Int32) (T : St) : F_X0_begun_19 r 11 x d T = (fun S26 => some (x ^^^ (S26.1 12 4), S26)) (fset T 12 1 (T.1 12 1 + 1)) := by
  unfold F_X0_begun_19
  rw [if_neg (by decide), if_neg (by decide), if_neg (by decide), if_pos (by decide)]
theorem b19_20 (r : Int32 → Int32 → Int32 → Int32 → St → Option (Int32 × St)) (x d : Int32) (T : St) : F_X0_begun_19 r 20 x d T = (fun S26 => (F_X0_above r (1 : Int32) (0 : Int32) x d S26).bind (fun r_197 => some (r_197.1 + 3, r_197.2))) (fset T 12 1 (T.1 12 1 + 1)) := by
  unfold F_X0_begun_19
  rw [if_neg (by decide), if_neg (by decide), if_neg (by decide), if_neg (by decide), if_pos (by decide)]
theorem b19_30 (r : Int32 → Int32 → Int32 → Int32 → St → Option (Int32 × St)) (x d : Int32) (T : St) : F_X0_begun_19 r 30 x d T = (fun S26 => (F_X0_above r (2 : Int32) (1 : Int32) x d S26).bind (fun r_208 => some (-r_208.1, r_208.2))) (fset T 12 1 (T.1 12 1 + 1)) := by
  unfold F_X0_begun_19
  rw [if_neg (by decide), if_neg (by decide), if_neg (by decide), if_neg (by decide), if_neg (by decide), if_pos (by decide)]
theorem b19_40 (r : Int32 → Int32 → Int32 → Int32 → St → Option (Int32 × St)) (x d : Int32) (T : St) : F_X0_begun_19 r 40 x d T = (fun S26 => (F_X0_above r (3 : Int32) (2 : Int32) x d S26).bind (fun r_218 => some (r_218.1 * 3, r_218.2))) (fset T 12 1 (T.1 12 1 + 1)) := by
  unfold F_X0_begun_19
  rw [if_neg (by decide), if_neg (by decide), if_neg (by decide), if_neg (by decide), if_neg (by decide), if_neg (by decide), if_pos (by decide)]
theorem b19_41 (r : Int32 → Int32 → Int32 → Int32 → St → Option (Int32 × St)) (x d : Int32) (T : St) : F_X0_begun_19 r 41 x d T = (fun S26 => (F_X0_above r (3 : Int32) (1 : Int32) (x + 1) d S26).bind (fun r_231 => some (r_231.1, r_231.2))) (fset T 12 1 (T.1 12 1 + 1)) := by
  unfold F_X0_begun_19
  rw [if_neg (by decide), if_neg (by decide), if_neg (by decide), if_neg (by decide), if_neg (by decide), if_neg (by decide), if_neg (by decide), if_pos (by decide)]
theorem b19_50 (r : Int32 → Int32 → Int32 → Int32 → St → Option (Int32 × St)) (x d : Int32) (T : St) : F_X0_begun_19 r 50 x d T = (fun S26 => (F_X0_above r (4 : Int32) (3 : Int32) x d S26).bind (fun r_240 => some (r_240.1 ^^^ 5, r_240.2))) (fset T 12 1 (T.1 12 1 + 1)) := by
  unfold F_X0_begun_19
  rw [if_neg (by decide), if_neg (by decide), if_neg (by decide), if_neg (by decide), if_neg (by decide), if_neg (by decide), if_neg (by decide), if_neg (by decide), if_pos (by decide)]
theorem b19_60 (r : Int32 → Int32 → Int32 → Int32 → St → Option (Int32 × St)) (x d : Int32) (T : St) : F_X0_begun_19 r 60 x d T = (fun S26 => (F_X0_above r (5 : Int32) (2 : Int32) x d S26).bind (fun r_251 => (F_X0_own r (0 : Int32) (2 : Int32) d r_251.2).bind (fun r_258 => some (r_251.1 - r_258.1, r_258.2)))) (fset T 12 1 (T.1 12 1 + 1)) := by
  unfold F_X0_begun_19
  rw [if_neg (by decide), if_neg (by decide), if_neg (by decide), if_neg (by decide), if_neg (by decide), if_neg (by decide), if_neg (by decide), if_neg (by decide), if_neg (by decide), if_pos (by decide)]
theorem b19_61 (r : Int32 → Int32 → Int32 → Int32 → St → Option (Int32 × St)) (x d : Int32) (T : St) : F_X0_begun_19 r 61 x d T = (fun S26 => (F_X0_above r (5 : Int32) (3 : Int32) x d S26).bind (fun r_268 => some (r_268.1 + 1, r_268.2))) (fset T 12 1 (T.1 12 1 + 1)) := by
  unfold F_X0_begun_19
  rw [if_neg (by decide), if_neg (by decide), if_neg (by decide), if_neg (by decide), if_neg (by decide), if_neg (by decide), if_neg (by decide), if_neg (by decide), if_neg (by decide), if_neg (by decide), if_pos (by decide)]
theorem b19_70 (r : Int32 → Int32 → Int32 → Int32 → St → Option (Int32 × St)) (x d : Int32) (T : St) : F_X0_begun_19 r 70 x d T = (fun S26 => (F_X0_above r (6 : Int32) (0 : Int32) x d S26).bind (fun r_280 => some (r_280.1 * 2, r_280.2))) (fset T 12 1 (T.1 12 1 + 1)) := by
  unfold F_X0_begun_19
  rw [if_neg (by decide), if_neg (by decide), if_neg (by decide), if_neg (by decide), if_neg (by decide), if_neg (by decide), if_neg (by decide), if_neg (by decide), if_neg (by decide), if_neg (by decide), if_neg (by decide), if_pos (by decide)]
theorem b19_80 (r : Int32 → Int32 → Int32 → Int32 → St → Option (Int32 × St)) (x d : Int32) (T : St) : F_X0_begun_19 r 80 x d T = (fun S26 => (F_X0_above r (7 : Int32) (1 : Int32) x d S26).bind (fun r_292 => (F_X0_own r (2 : Int32) (2 : Int32) d r_292.2).bind (fun r_299 => some (r_292.1 + r_299.1, r_299.2)))) (fset T 12 1 (T.1 12 1 + 1)) := by
  unfold F_X0_begun_19
  rw [if_neg (by decide), if_neg (by decide), if_neg (by decide), if_neg (by decide), if_neg (by decide), if_neg (by decide), if_neg (by decide), if_neg (by decide), if_neg (by decide), if_neg (by decide), if_neg (by decide), if_neg (by decide), if_pos (by decide)]
theorem b19_81 (r : Int32 → Int32 → Int32 → Int32 → St → Option (Int32 × St)) (x d : Int32) (T : St) : F_X0_begun_19 r 81 x d T = (fun S26 => (F_X0_above r (7 : Int32) (0 : Int32) x d S26).bind (fun r_310 => some (r_310.1 - 1, r_310.2))) (fset T 12 1 (T.1 12 1 + 1)) := by
  unfold F_X0_begun_19
  rw [if_neg (by decide), if_neg (by decide), if_neg (by decide), if_neg (by decide), if_neg (by decide), if_neg (by decide), if_neg (by decide), if_neg (by decide), if_neg (by decide), if_neg (by decide), if_neg (by decide), if_neg (by decide), if_neg (by decide), if_pos (by decide)]
