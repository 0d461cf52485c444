theorem F_has8_t {S : St} {n k : Nat} (hn : S.1 1 0 = nI n) (h20 : n ≤ 20) (hk : k < n) : F_X8_has (nI k) S = some (1, S) := by
  unfold F_X8_has
  rw [if_neg (nI_pos (by omega)), hn, if_neg (nI_ge hk (by omega))]
theorem F_part_t {p : Nat} (hp : p < 6) (S : St) : F_X11_isPart (nI p) S = some (1, S) := by
  unfold F_X11_isPart
  rw [if_neg (nI_pos (by omega))]
  exact if_neg (nI_ge (b := 6) hp (by decide))
theorem F_change0 {S : St} {n k : Nat} (hn : S.1 1 0 = nI n) (h20 : n ≤ 20) (hk : k < n) (x : Int32) : F_X8_change 0 (nI k) x S = some (aset S 27 (upd (S.2.1 27) k x)) := by
  have i20 : inb (nI k) 20 = true := inb_nI (by omega) (by decide)
  have ck : Int32.toNatClampNeg (nI k) = k := nI_clamp (by omega)
  have n10 : ¬ (1 : Int32) = 0 := by decide
  unfold F_X8_change
  rw [if_pos rfl, F_has8_t hn h20 hk, Option.bind_some]
  dsimp only
  rw [if_neg n10, gd_t i20, ck]
theorem F_change1 {S : St} {k : Nat} (hk : k < 6) (x : Int32) : F_X8_change 1 (nI k) x S = some (aset S 28 (upd (S.2.1 28) k x)) := by
  have i6 : inb (nI k) 6 = true := inb_nI hk (by decide)
  have ck : Int32.toNatClampNeg (nI k) = k := nI_clamp (by omega)
  have n10 : ¬ (1 : Int32) = 0 := by decide
  unfold F_X8_change
  rw [if_neg n10, if_pos rfl, F_part_t hk, Option.bind_some]
  dsimp only
  rw [if_neg n10, gd_t i6, ck]
theorem F_lays0 {S : St} {k : Nat} (hk : k < 20) (x : Int32) : F_X12_lays 0 (nI k) x S = some (aset S 70 (upd (S.2.1 70) k x)) := by
  have i20 : inb (nI k) 20 = true := inb_nI hk (by decide)
  have ck : Int32.toNatClampNeg (nI k) = k := nI_clamp (by omega)
  unfold F_X12_lays
  rw [if_pos rfl, gd_t i20, ck]
theorem F_lays1 {S : St} {k : Nat} (hk : k < 6) (x : Int32) : F_X12_lays 1 (nI k) x S = some (aset S 71 (upd (S.2.1 71) k x)) := by
  have i6 : inb (nI k) 6 = true := inb_nI hk (by decide)
  have ck : Int32.toNatClampNeg (nI k) = k := nI_clamp (by omega)
  unfold F_X12_lays
  rw [if_neg (by decide), gd_t i6, ck]
theorem Eq2.upd {a b : Nat → Int32} {v : Nat → Nat} {n bd k x : Nat} (h : Eq2 a b v n bd) (hx : x < bd) : Eq2 (upd a k (nI x)) (upd b k (nI x)) (fun j => if j = k then x else v j) n bd := by
  intro i hi
  by_cases hk : i = k
  · subst hk
    rw [pk_us, pk_us]
    simp only [if_pos rfl]
    exact ⟨rfl, rfl, hx⟩
  · rw [pk_un hk, pk_un hk]
    simp only [if_neg hk]
    exact h i hi
def setV (V : Nat → Nat → Nat) (a k x : Nat) : Nat → Nat → Nat := fun p q => if p = a then (if q = k then x else V p q) else V p q
theorem IPlay.held {n1 n2 w1 w2 v1 v2 : Int32} {a21 a22 a23 a24 a25 a26 a27 a28 a29 a64 a65 a66 a67 a68 a69 a70 a71 : Nat → Int32} {V : Nat → Nat → Nat} (h : IPlay n1 n2 w1 w2 v1 v2 a21 a22 a23 a24 a25 a26 a27 a28 a29 a64 a65 a66 a67 a68 a69 a70 a71 V) {k x : Nat} (hx : x ≤ 100) : IPlay n1 n2 w1 w2 v1 v2 a21 a22 a23 a24 a25 a26 (upd a27 k (nI x)) a28 a29 a64 a65 a66 a67 a68 a69 (upd a70 k (nI x)) a71 (setV V 6 k x) := by
  obtain ⟨h1, h2, h3, h4, h5, h6, h7, h8, h9, h10, h11, h12⟩ := h
  exact ⟨h1, h2, h3, h4, h5, h6, h7, h8, h9, h10.upd (show x < 101 by omega), h11, h12⟩
theorem IPlay.pause {n1 n2 w1 w2 v1 v2 : Int32} {a21 a22 a23 a24 a25 a26 a27 a28 a29 a64 a65 a66 a67 a68 a69 a70 a71 : Nat → Int32} {V : Nat → Nat → Nat} (h : IPlay n1 n2 w1 w2 v1 v2 a21 a22 a23 a24 a25 a26 a27 a28 a29 a64 a65 a66 a67 a68 a69 a70 a71 V) {k x : Nat} (hx : x ≤ 9) : IPlay n1 n2 w1 w2 v1 v2 a21 a22 a23 a24 a25 a26 a27 (upd a28 k (nI x)) a29 a64 a65 a66 a67 a68 a69 a70 (upd a71 k (nI x)) (setV V 7 k x) := by
  obtain ⟨h1, h2, h3, h4, h5, h6, h7, h8, h9, h10, h11, h12⟩ := h
  exact ⟨h1, h2, h3, h4, h5, h6, h7, h8, h9, h10, h11.upd (show x < 10 by omega), h12⟩
theorem undo1_eq {S : St} {a : Nat} (ha : a < 40) (d1 : S.1 11 0 = nI (a + 1)) : F_X1_stepBack S = (F_X8_change (S.2.1 51 a) (S.2.1 52 a) (S.2.1 53 a) (fset S 11 0 (nI a))).bind (fun r => some ((1 : Int32), r)) := by
  have i40 : inb (nI a) 40 = true := inb_nI ha (by decide)
  have ca : Int32.toNatClampNeg (nI a) = a := nI_clamp (by omega)
  have e : S.1 11 0 - 1 = nI a := by rw [d1, nI_pred]
  have g0 : (0 : Int32) < S.1 11 0 := by rw [d1]; exact nI_lt (a := 0) (by omega) (by omega)
  unfold F_X1_stepBack
  rw [if_pos g0, e]
  show gd (inb (nI a) 40) (gd (inb (nI a) 40) (gd (inb (nI a) 40) ((F_X8_change (S.2.1 51 (Int32.toNatClampNeg (nI a))) (S.2.1 52 (Int32.toNatClampNeg (nI a))) (S.2.1 53 (Int32.toNatClampNeg (nI a))) (fset S 11 0 (nI a))).bind (fun r => some ((1 : Int32), r))))) = _
  rw [gd_t i40, gd_t i40, gd_t i40, ca]
theorem undo2_eq {S : St} {a u : Nat} (ha : a < 40) (d2 : S.1 63 12 = nI (a + 1)) (u2 : S.1 63 13 = nI u) : F_X12_undo S = (F_X12_lays (S.2.1 72 a) (S.2.1 73 a) (S.2.1 74 a) (fset (fset S 63 12 (nI a)) 63 13 (nI (u + 1)))).bind (fun r => some (r.1 63 12, r)) := by
  have i40 : inb (nI a) 40 = true := inb_nI ha (by decide)
  have ca : Int32.toNatClampNeg (nI a) = a := nI_clamp (by omega)
  have e : S.1 63 12 - 1 = nI a := by rw [d2, nI_pred]
  have z0 : ¬ S.1 63 12 = 0 := by rw [d2]; exact nI_ne0 (by omega) (by omega)
  have e2 : (fset S 63 12 (nI a)).1 63 13 + 1 = nI (u + 1) := by
    show S.1 63 13 + 1 = _
    rw [u2, nI_1]
  unfold F_X12_undo
  rw [if_neg z0, e]
  dsimp only
  rw [e2]
  show gd (inb (nI a) 40) (gd (inb (nI a) 40) (gd (inb (nI a) 40) ((F_X12_lays (S.2.1 72 (Int32.toNatClampNeg (nI a))) (S.2.1 73 (Int32.toNatClampNeg (nI a))) (S.2.1 74 (Int32.toNatClampNeg (nI a))) (fset (fset S 63 12 (nI a)) 63 13 (nI (u + 1)))).bind (fun r => some (r.1 63 12, r))))) = _
  rw [gd_t i40, gd_t i40, gd_t i40, ca]
/-- undo -/
theorem st_undo {S : St} (h : Inv S) : Both F_X11_undo F_X12_undo S := by
  obtain ⟨V, kd, hP, hT, hB, hTr, hSh, ⟨a, u, hau, d1, k1, d2, u2, hc⟩, hI, hN, hL⟩ := id h
  obtain ⟨h20, n1, n2⟩ := hP.1
  have n10 : ¬ (1 : Int32) = 0 := by decide
  by_cases ha : a = 0
  · subst ha
    refine both_ro h (r := -5) ?_ ?_
    · unfold F_X11_undo F_X1_stepBack
      rw [d1, if_neg (by decide), Option.bind_some]
      rfl
    · unfold F_X12_undo
      rw [d2, if_pos (by decide)]
  · obtain ⟨a, rfl⟩ : ∃ m, a = m + 1 := ⟨a - 1, by omega⟩
    obtain ⟨e1, e2, e3, e4, k, x, y, f1, f2, f3, hkx⟩ := hc a (by omega)
    have hk1 : S.1 11 1 = nI (a + (u + 1)) := by rw [k1]; congr 1; omega
    have hcc : ∀ i, i < a + (u + 1) → _ := fun i hi => hc i (by omega)
    rcases hkx with ⟨w0, hk, hx, hy⟩ | ⟨w0, hk, hx, hy⟩
    · let S1 : St := aset (fset S 11 0 (nI a)) 27 (upd (S.2.1 27) k (nI x))
      have r1 : F_X11_undo S = some (nI a, S1) := by
        unfold F_X11_undo
        rw [undo1_eq (by omega) d1, w0, f1, f2, F_change0 (S := fset S 11 0 (nI a)) (n := V 8 0) n1 h20 hk (nI x)]
        rfl
      have r2 : F_X12_undo S1 = some (nI a, aset (fset (fset S1 63 12 (nI a)) 63 13 (nI (u + 1))) 70 (upd (S.2.1 70) k (nI x))) := by
        have q1 : S1.2.1 72 a = 0 := e1.symm.trans w0
        have q2 : S1.2.1 73 a = nI k := e2.symm.trans f1
        have q3 : S1.2.1 74 a = nI x := e3.symm.trans f2
        rw [undo2_eq (S := S1) (u := u) (by omega) d2 u2, q1, q2, q3, F_lays0 (by omega) (nI x)]
        rfl
      exact ⟨nI a, S1, _, r1, r2, setV V 6 k x, kd, hP.held hx, hT, hB, hTr, hSh, ⟨a, u + 1, by omega, rfl, hk1, rfl, rfl, hcc⟩, hI, hN, hL⟩
    · let S1 : St := aset (fset S 11 0 (nI a)) 28 (upd (S.2.1 28) k (nI x))
      have r1 : F_X11_undo S = some (nI a, S1) := by
        unfold F_X11_undo
        rw [undo1_eq (by omega) d1, w0, f1, f2, F_change1 hk (nI x)]
        rfl
      have r2 : F_X12_undo S1 = some (nI a, aset (fset (fset S1 63 12 (nI a)) 63 13 (nI (u + 1))) 71 (upd (S.2.1 71) k (nI x))) := by
        have q1 : S1.2.1 72 a = 1 := e1.symm.trans w0
        have q2 : S1.2.1 73 a = nI k := e2.symm.trans f1
        have q3 : S1.2.1 74 a = nI x := e3.symm.trans f2
        rw [undo2_eq (S := S1) (u := u) (by omega) d2 u2, q1, q2, q3, F_lays1 hk (nI x)]
        rfl
      exact ⟨nI a, S1, _, r1, r2, setV V 7 k x, kd, hP.pause hx, hT, hB, hTr, hSh, ⟨a, u + 1, by omega, rfl, hk1, rfl, rfl, hcc⟩, hI, hN, hL⟩
