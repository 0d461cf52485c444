def EntC (r51 r52 r53 r54 r72 r73 r74 r75 : Nat → Int32) (n i : Nat) : Prop := r51 i = r72 i ∧ r52 i = r73 i ∧ r53 i = r74 i ∧ r54 i = r75 i ∧ ∃ k x y : Nat, r52 i = nI k ∧ r53 i = nI x ∧ r54 i = nI y ∧ ((r51 i = 0 ∧ k < n ∧ x ≤ 100 ∧ y ≤ 100) ∨ (r51 i = 1 ∧ k < 6 ∧ x ≤ 9 ∧ y ≤ 9))
theorem chg_push {r51 r52 r53 r54 r72 r73 r74 r75 : Nat → Int32} {a n : Nat} (ha : a < 40) (h : ∀ i, i < a → EntC r51 r52 r53 r54 r72 r73 r74 r75 n i) {w : Int32} {k x y : Nat} (hw : (w = 0 ∧ k < n ∧ x ≤ 100 ∧ y ≤ 100) ∨ (w = 1 ∧ k < 6 ∧ x ≤ 9 ∧ y ≤ 9)) : IChg (nI (a + 1)) (nI (a + 1)) (nI (a + 1)) 0 (upd r51 a w) (upd r52 a (nI k)) (upd r53 a (nI x)) (upd r54 a (nI y)) (upd r72 a w) (upd r73 a (nI k)) (upd r74 a (nI x)) (upd r75 a (nI y)) n := by
  refine ⟨a + 1, 0, by omega, rfl, rfl, rfl, rfl, fun i hi => ?_⟩
  by_cases hk : i = a
  · subst hk
    simp only [pk_us]
    exact ⟨trivial, trivial, trivial, trivial, k, x, y, rfl, rfl, rfl, hw⟩
  · simp only [pk_un hk]
    exact h i (by omega)
theorem ent_sh {r51 r52 r53 r54 r72 r73 r74 r75 : Nat → Int32} {n : Nat} (h : ∀ i, i < 40 → EntC r51 r52 r53 r54 r72 r73 r74 r75 n i) : ∀ i, i < 39 → EntC (shP r51 1) (shP r52 1) (shP r53 1) (shP r54 1) (shP r72 1) (shP r73 1) (shP r74 1) (shP r75 1) n i := by
  intro i hi
  have e : ∀ f : Nat → Int32, shP f 1 i = f (i + 1) := fun f => if_pos ⟨by omega, hi⟩
  unfold EntC
  simp only [e]
  exact h (i + 1) (by omega)
theorem mend0 {N : Nat} (hN : 50 ≤ N) {S : St} {V : Nat → Nat → Nat} {kd : List Nat} (hI : InvV S V kd) {k y : Nat} (hk : k < V 8 0) (hy : y ≤ 100) (hne : ¬ V 6 k = y) : ∃ S1 S2, F_X11_mend_99 (nI k) 0 (nI y) (nI (V 6 k)) S = some (nI (V 6 k), S1) ∧ (F_X12_changes N 0 (nI k) (nI y) S1).bind (fun r => some (r.1, r.2)) = some (nI (V 6 k), S2) ∧ Inv S2 ∧ S1.1 63 1 = S.1 63 1 := by
  obtain ⟨hP, hT, hB, hTr, hSh, ⟨a, u, hau, d1, k1, d2, u2, hc⟩, hIm, hNt, hL⟩ := id hI
  obtain ⟨h20, n1, n2⟩ := hP.1
  obtain ⟨v1, v2, v3⟩ := hP.2.2.2.2.2.2.2.2.2.1 k hk
  have hne1 : ¬ nI y = nI (V 6 k) := fun q => hne (nI_inj (by omega) (by omega) q).symm
  have hne2 : ¬ nI (V 6 k) = nI y := fun q => hne1 q.symm
  have i20 : inb (nI k) 20 = true := inb_nI (by omega) (by decide)
  have ck : Int32.toNatClampNeg (nI k) = k := nI_clamp (by omega)
  have val : ∀ S1 : St, S1.2.1 70 = S.2.1 70 → F_X12_valueAt 0 (nI k) S1 = some (nI (V 6 k), S1) := fun S1 hs => by
    unfold F_X12_valueAt
    rw [if_pos rfl, gd_t i20, ck, hs, v2]
  by_cases ha : a < 40
  · let S1 : St := aset (noteS S a 0 (nI k) (nI (V 6 k)) (nI y)) 27 (upd (S.2.1 27) k (nI y))
    have r1 : F_X11_mend_99 (nI k) 0 (nI y) (nI (V 6 k)) S = some (nI (V 6 k), S1) := by
      unfold F_X11_mend_99
      rw [if_neg hne1, note_eq (by omega) d1, if_pos ha, Option.bind_some]
      rw [F_change0 (S := noteS S a 0 (nI k) (nI (V 6 k)) (nI y)) n1 h20 hk]
      rfl
    let S2 : St := aset (chgS (fset S1 63 13 0) a 0 (nI k) (nI y) (nI (V 6 k))) 70 (upd (S.2.1 70) k (nI y))
    have r2 : (F_X12_changes N 0 (nI k) (nI y) S1).bind (fun r => some (r.1, r.2)) = some (nI (V 6 k), S2) := by
      have d2' : S1.1 63 12 = nI a := d2
      rw [chg_eq hN (S := S1) (by omega) d2' 0 (nI k) (nI y) (nI (V 6 k)) (val S1 rfl) hne2, if_pos ha, F_lays0 (by omega)]
      rfl
    have hcp := chg_push (n := V 8 0) ha (fun i hi => hc i (by omega)) (w := 0) (k := k) (x := V 6 k) (y := y) (Or.inl ⟨rfl, hk, by omega, hy⟩)
    exact ⟨S1, S2, r1, r2, ⟨setV V 6 k y, kd, hP.held hy, hT, hB, hTr, hSh, hcp, hIm, hNt, hL⟩, rfl⟩
  · have h40 : a = 40 := by omega
    have hu : u = 0 := by omega
    let S1 : St := aset (noteS (dropS S) 39 0 (nI k) (nI (V 6 k)) (nI y)) 27 (upd (S.2.1 27) k (nI y))
    have r1 : F_X11_mend_99 (nI k) 0 (nI y) (nI (V 6 k)) S = some (nI (V 6 k), S1) := by
      unfold F_X11_mend_99
      rw [if_neg hne1, note_eq (by omega) d1, if_neg ha, Option.bind_some]
      rw [F_change0 (S := noteS (dropS S) 39 0 (nI k) (nI (V 6 k)) (nI y)) n1 h20 hk]
      rfl
    let S2 : St := aset (chgS (shR (fset S1 63 13 0)) 39 0 (nI k) (nI y) (nI (V 6 k))) 70 (upd (S.2.1 70) k (nI y))
    have r2 : (F_X12_changes N 0 (nI k) (nI y) S1).bind (fun r => some (r.1, r.2)) = some (nI (V 6 k), S2) := by
      have d2' : S1.1 63 12 = nI a := d2
      rw [chg_eq hN (S := S1) (by omega) d2' 0 (nI k) (nI y) (nI (V 6 k)) (val S1 rfl) hne2, if_neg ha, F_lays0 (by omega)]
      rfl
    have hcp := chg_push (n := V 8 0) (show 39 < 40 by decide) (ent_sh (fun i hi => hc i (by omega))) (w := 0) (k := k) (x := V 6 k) (y := y) (Or.inl ⟨rfl, hk, by omega, hy⟩)
    exact ⟨S1, S2, r1, r2, ⟨setV V 6 k y, kd, hP.held hy, hT, hB, hTr, hSh, hcp, hIm, hNt, hL⟩, rfl⟩
theorem mend1 {N : Nat} (hN : 50 ≤ N) {S : St} {V : Nat → Nat → Nat} {kd : List Nat} (hI : InvV S V kd) {k y : Nat} (hk : k < 6) (hy : y ≤ 9) (hne : ¬ V 7 k = y) : ∃ S1 S2, F_X11_mend_99 (nI k) 1 (nI y) (nI (V 7 k)) S = some (nI (V 7 k), S1) ∧ (F_X12_changes N 1 (nI k) (nI y) S1).bind (fun r => some (r.1, r.2)) = some (nI (V 7 k), S2) ∧ Inv S2 := by
  obtain ⟨hP, hT, hB, hTr, hSh, ⟨a, u, hau, d1, k1, d2, u2, hc⟩, hIm, hNt, hL⟩ := id hI
  obtain ⟨v1, v2, v3⟩ := hP.2.2.2.2.2.2.2.2.2.2.1 k hk
  have hne1 : ¬ nI y = nI (V 7 k) := fun q => hne (nI_inj (by omega) (by omega) q).symm
  have hne2 : ¬ nI (V 7 k) = nI y := fun q => hne1 q.symm
  have i6 : inb (nI k) 6 = true := inb_nI (by omega) (by decide)
  have ck : Int32.toNatClampNeg (nI k) = k := nI_clamp (by omega)
  have val : ∀ S1 : St, S1.2.1 71 = S.2.1 71 → F_X12_valueAt 1 (nI k) S1 = some (nI (V 7 k), S1) := fun S1 hs => by
    unfold F_X12_valueAt
    rw [if_neg (by decide), gd_t i6, ck, hs, v2]
  by_cases ha : a < 40
  · let S1 : St := aset (noteS S a 1 (nI k) (nI (V 7 k)) (nI y)) 28 (upd (S.2.1 28) k (nI y))
    have r1 : F_X11_mend_99 (nI k) 1 (nI y) (nI (V 7 k)) S = some (nI (V 7 k), S1) := by
      unfold F_X11_mend_99
      rw [if_neg hne1, note_eq (by omega) d1, if_pos ha, Option.bind_some]
      rw [F_change1 (S := noteS S a 1 (nI k) (nI (V 7 k)) (nI y)) hk]
      rfl
    let S2 : St := aset (chgS (fset S1 63 13 0) a 1 (nI k) (nI y) (nI (V 7 k))) 71 (upd (S.2.1 71) k (nI y))
    have r2 : (F_X12_changes N 1 (nI k) (nI y) S1).bind (fun r => some (r.1, r.2)) = some (nI (V 7 k), S2) := by
      have d2' : S1.1 63 12 = nI a := d2
      rw [chg_eq hN (S := S1) (by omega) d2' 1 (nI k) (nI y) (nI (V 7 k)) (val S1 rfl) hne2, if_pos ha, F_lays1 hk]
      rfl
    have hcp := chg_push (n := V 8 0) ha (fun i hi => hc i (by omega)) (w := 1) (k := k) (x := V 7 k) (y := y) (Or.inr ⟨rfl, hk, by omega, hy⟩)
    exact ⟨S1, S2, r1, r2, setV V 7 k y, kd, hP.pause hy, hT, hB, hTr, hSh, hcp, hIm, hNt, hL⟩
  · have h40 : a = 40 := by omega
    have hu : u = 0 := by omega
    let S1 : St := aset (noteS (dropS S) 39 1 (nI k) (nI (V 7 k)) (nI y)) 28 (upd (S.2.1 28) k (nI y))
    have r1 : F_X11_mend_99 (nI k) 1 (nI y) (nI (V 7 k)) S = some (nI (V 7 k), S1) := by
      unfold F_X11_mend_99
      rw [if_neg hne1, note_eq (by omega) d1, if_neg ha, Option.bind_some]
      rw [F_change1 (S := noteS (dropS S) 39 1 (nI k) (nI (V 7 k)) (nI y)) hk]
      rfl
    let S2 : St := aset (chgS (shR (fset S1 63 13 0)) 39 1 (nI k) (nI y) (nI (V 7 k))) 71 (upd (S.2.1 71) k (nI y))
    have r2 : (F_X12_changes N 1 (nI k) (nI y) S1).bind (fun r => some (r.1, r.2)) = some (nI (V 7 k), S2) := by
      have d2' : S1.1 63 12 = nI a := d2
      rw [chg_eq hN (S := S1) (by omega) d2' 1 (nI k) (nI y) (nI (V 7 k)) (val S1 rfl) hne2, if_neg ha, F_lays1 hk]
      rfl
    have hcp := chg_push (n := V 8 0) (show 39 < 40 by decide) (ent_sh (fun i hi => hc i (by omega))) (w := 1) (k := k) (x := V 7 k) (y := y) (Or.inr ⟨rfl, hk, by omega, hy⟩)
    exact ⟨S1, S2, r1, r2, setV V 7 k y, kd, hP.pause hy, hT, hB, hTr, hSh, hcp, hIm, hNt, hL⟩
theorem line_or (x : Int32) (n : Nat) : (∃ q : Nat, q < n ∧ x = nI q) ∨ ¬ ∃ q : Nat, q < n ∧ x = nI q := Classical.em _
/-- mend -/
theorem st_mend {N : Nat} (hN : 50 ≤ N) {S : St} (h : Inv S) (x1 x2 x3 : Int32) : Both (F_X11_mend x1 x2 x3) (F_X12_mend N x1 x2 x3) S := by
  obtain ⟨V, kd, hI⟩ := id h
  have hP := hI.1
  obtain ⟨h20, n1, n2⟩ := hP.1
  have n10 : ¬ (1 : Int32) = 0 := by decide
  have n01 : ¬ (0 : Int32) = 1 := by decide
  by_cases x0 : x2 = 0
  · subst x0
    rcases line_or x1 (V 8 0) with ⟨k, hk, rfl⟩ | hx
    · obtain ⟨v1, v2, v3⟩ := hP.2.2.2.2.2.2.2.2.2.1 k hk
      have i20 : inb (nI k) 20 = true := inb_nI (by omega) (by decide)
      have ck : Int32.toNatClampNeg (nI k) = k := nI_clamp (by omega)
      rcases rng x3 100 (by decide) with ⟨y, hy, rfl⟩ | hb
      · have a0 : ¬ nI y < 0 := nI_pos (by omega)
        have a1 : ¬ (100 : Int32) < nI y := nI_nlt (a := 100) (by omega) (by decide)
        have a2 : ∀ S', F_X12_in (nI y) (0 : Int32) (100 : Int32) S' = some (1, S') := fun S' => in_t hy (by decide) S'
        have e1 : F_X11_mend (nI k) 0 (nI y) S = F_X11_mend_99 (nI k) 0 (nI y) (nI (V 6 k)) S := by
          unfold F_X11_mend F_X11_mend_30 F_X11_mend_59
          simp only [if_true, F_has8_t n1 h20 hk, Option.bind_some, if_neg n10, if_neg a0, if_neg a1, if_neg n01, gd_t i20, ck, v1]
        have e2 : ∀ S1 : St, S1.1 63 1 = S.1 63 1 → F_X12_mend N (nI k) 0 (nI y) S1 = (F_X12_changes N 0 (nI k) (nI y) S1).bind (fun r => some (r.1, r.2)) := fun S1 hs => by
          unfold F_X12_mend
          simp only [if_true, F_isLine_t hk h20 (hs.trans n2), Option.bind_some, if_neg n10, a2]
        by_cases hne : V 6 k = y
        · refine both_ro h (r := nI (V 6 k)) ?_ ?_
          · rw [e1]
            unfold F_X11_mend_99
            rw [if_pos (by rw [hne])]
          · rw [e2 S rfl]
            unfold F_X12_changes F_X12_valueAt
            rw [if_pos rfl, gd_t i20, ck, v2, Option.bind_some]
            dsimp only
            rw [if_pos (by rw [hne]), Option.bind_some]
        · obtain ⟨S1, S2, r1, r2, r3, r4⟩ := mend0 hN hI hk hy hne
          exact ⟨_, S1, S2, e1.trans r1, (e2 S1 r4).trans r2, r3⟩
      · have a2 : ∀ S', F_X12_in x3 (0 : Int32) (100 : Int32) S' = some (0, S') := fun S' => in_f hb S'
        refine both_ro h (r := -1) ?_ ?_
        · unfold F_X11_mend F_X11_mend_30 F_X11_mend_59
          by_cases q0 : x3 < 0
          · simp only [if_true, F_has8_t n1 h20 hk, Option.bind_some, if_neg n10, if_pos q0, if_neg n01]
          · have q1 : (100 : Int32) < x3 := hb.resolve_left q0
            simp only [if_true, F_has8_t n1 h20 hk, Option.bind_some, if_neg n10, if_neg q0, if_pos q1, if_neg n01]
        · unfold F_X12_mend
          simp only [if_true, F_isLine_t hk h20 n2, Option.bind_some, if_neg n10, a2]
    · refine both_ro h (r := -1) ?_ ?_
      · unfold F_X11_mend F_X11_mend_30 F_X11_mend_59
        simp only [if_true, F_has8_f h20 n1 hx, Option.bind_some, if_neg n01]
      · unfold F_X12_mend
        simp only [if_true, F_isLine_f h20 n2 hx, Option.bind_some]
  · by_cases x1' : x2 = 1
    · subst x1'
      rcases line_or x1 6 with ⟨k, hk, rfl⟩ | hx
      · obtain ⟨v1, v2, v3⟩ := hP.2.2.2.2.2.2.2.2.2.2.1 k hk
        have i6 : inb (nI k) 6 = true := inb_nI (by omega) (by decide)
        have ck : Int32.toNatClampNeg (nI k) = k := nI_clamp (by omega)
        rcases rng x3 9 (by decide) with ⟨y, hy, rfl⟩ | hb
        · have a0 : ¬ nI y < 0 := nI_pos (by omega)
          have a1 : ¬ (9 : Int32) < nI y := nI_nlt (a := 9) (by omega) (by decide)
          have a2 : ∀ S', F_X12_in (nI y) (0 : Int32) (9 : Int32) S' = some (1, S') := fun S' => in_t hy (by decide) S'
          have e1 : F_X11_mend (nI k) 1 (nI y) S = F_X11_mend_99 (nI k) 1 (nI y) (nI (V 7 k)) S := by
            unfold F_X11_mend F_X11_mend_30 F_X11_mend_59
            simp only [if_true, F_part_t hk, Option.bind_some, if_neg n10, if_neg a0, if_neg a1, gd_t i6, ck, v1]
          have e2 : ∀ S1 : St, F_X12_mend N (nI k) 1 (nI y) S1 = (F_X12_changes N 1 (nI k) (nI y) S1).bind (fun r => some (r.1, r.2)) := fun S1 => by
            unfold F_X12_mend
            simp only [if_true, F_part12_t hk, Option.bind_some, if_neg n10, a2]
          by_cases hne : V 7 k = y
          · refine both_ro h (r := nI (V 7 k)) ?_ ?_
            · rw [e1]
              unfold F_X11_mend_99
              rw [if_pos (by rw [hne])]
            · rw [e2 S]
              unfold F_X12_changes F_X12_valueAt
              rw [if_neg n10, gd_t i6, ck, v2, Option.bind_some]
              dsimp only
              rw [if_pos (by rw [hne]), Option.bind_some]
          · obtain ⟨S1, S2, r1, r2, r3⟩ := mend1 hN hI hk hy hne
            exact ⟨_, S1, S2, e1.trans r1, (e2 S1).trans r2, r3⟩
        · have a2 : ∀ S', F_X12_in x3 (0 : Int32) (9 : Int32) S' = some (0, S') := fun S' => in_f hb S'
          refine both_ro h (r := -1) ?_ ?_
          · unfold F_X11_mend F_X11_mend_30 F_X11_mend_59
            by_cases q0 : x3 < 0
            · simp only [if_true, F_part_t hk, Option.bind_some, if_neg n10, if_pos q0]
            · have q1 : (9 : Int32) < x3 := hb.resolve_left q0
              simp only [if_true, F_part_t hk, Option.bind_some, if_neg n10, if_neg q0, if_pos q1]
          · unfold F_X12_mend
            simp only [if_true, F_part12_t hk, Option.bind_some, if_neg n10, a2]
      · refine both_ro h (r := -1) ?_ ?_
        · unfold F_X11_mend F_X11_mend_30 F_X11_mend_59
          simp only [if_true, F_part_f hx, Option.bind_some, if_neg n10]
        · unfold F_X12_mend
          simp only [if_true, F_part12_f hx, Option.bind_some, if_neg n10]
    · refine both_ro h (r := -1) ?_ ?_
      · unfold F_X11_mend F_X11_mend_30 F_X11_mend_59
        simp only [if_neg x0, if_neg x1', if_true]
      · unfold F_X12_mend
        simp only [if_neg x0, if_neg x1']
