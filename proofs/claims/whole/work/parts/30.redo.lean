theorem redo1_eq {S S' : St} {a w : Nat} (ha : a < w) (hw : w ≤ 40) (d1 : S.1 11 0 = nI a) (k1 : S.1 11 1 = nI w) (hch : F_X8_change (S.2.1 51 a) (S.2.1 52 a) (S.2.1 54 a) S = some S') (d1' : S'.1 11 0 = nI a) (k1' : S'.1 11 1 = nI w) : F_X11_redo S = some (nI (w - (a + 1)), fset S' 11 0 (nI (a + 1))) := by
  have i40 : inb (nI a) 40 = true := inb_nI (by omega) (by decide)
  have ca : Int32.toNatClampNeg (nI a) = a := nI_clamp (by omega)
  have g0 : S.1 11 0 < S.1 11 1 := by rw [d1, k1]; exact nI_lt ha (by omega)
  have e : F_X1_stepOn S = some (1, fset S' 11 0 (nI (a + 1))) := by
    unfold F_X1_stepOn
    rw [if_pos g0, d1, gd_t i40, gd_t i40, gd_t i40, ca, hch, Option.bind_some]
    dsimp only
    rw [d1', nI_1]
  unfold F_X11_redo
  rw [e, Option.bind_some]
  dsimp only
  rw [if_neg (by decide)]
  show some (S'.1 11 1 - nI (a + 1), _) = _
  rw [k1', pk_sub (by omega)]
theorem redo2_eq {S S' : St} {a u : Nat} (ha : a < 40) (hu : u < 40) (d2 : S.1 63 12 = nI a) (u2 : S.1 63 13 = nI (u + 1)) (hly : F_X12_lays (S.2.1 72 a) (S.2.1 73 a) (S.2.1 75 a) S = some S') (d2' : S'.1 63 12 = nI a) (u2' : S'.1 63 13 = nI (u + 1)) : F_X12_redo S = some (nI u, fset (fset S' 63 12 (nI (a + 1))) 63 13 (nI u)) := by
  have i40 : inb (nI a) 40 = true := inb_nI ha (by decide)
  have ca : Int32.toNatClampNeg (nI a) = a := nI_clamp (by omega)
  have z0 : ¬ S.1 63 13 = 0 := by rw [u2]; exact nI_ne0 (by omega) (by omega)
  have e2 : (fset S' 63 12 (nI (a + 1))).1 63 13 - 1 = nI u := by
    show S'.1 63 13 - 1 = _
    rw [u2', nI_pred]
  unfold F_X12_redo
  rw [if_neg z0, d2, gd_t i40, gd_t i40, gd_t i40, ca, hly, Option.bind_some]
  dsimp only
  rw [d2', nI_1, e2]
  rfl
/-- redo -/
theorem st_redo {S : St} (h : Inv S) : Both F_X11_redo F_X12_redo S := by
  obtain ⟨V, kd, hP, hT, hB, hTr, hSh, ⟨a, u, hau, d1, k1, d2, u2, hc⟩, hI, hN, hL⟩ := id h
  obtain ⟨h20, n1, n2⟩ := hP.1
  by_cases hu : u = 0
  · subst hu
    refine both_ro h (r := -5) ?_ ?_
    · unfold F_X11_redo F_X1_stepOn
      rw [d1, k1, if_neg (nI_nlt (by omega) (by omega)), Option.bind_some]
      rfl
    · unfold F_X12_redo
      rw [u2, if_pos (by decide)]
  · obtain ⟨u, rfl⟩ : ∃ m, u = m + 1 := ⟨u - 1, by omega⟩
    obtain ⟨e1, e2, e3, e4, k, x, y, f1, f2, f3, hkx⟩ := hc a (by omega)
    have hk1 : S.1 11 1 = nI (a + 1 + u) := by rw [k1]; congr 1; omega
    have hcc : ∀ i, i < a + 1 + u → _ := fun i hi => hc i (by omega)
    have hsub : a + (u + 1) - (a + 1) = u := by omega
    rcases hkx with ⟨w0, hk, hx, hy⟩ | ⟨w0, hk, hx, hy⟩
    · have hch : F_X8_change (S.2.1 51 a) (S.2.1 52 a) (S.2.1 54 a) S = some (aset S 27 (upd (S.2.1 27) k (nI y))) := by
        rw [w0, f1, f3]; exact F_change0 n1 h20 hk (nI y)
      have r1 := redo1_eq (by omega) hau d1 k1 hch d1 k1
      rw [hsub] at r1
      let S1 : St := fset (aset S 27 (upd (S.2.1 27) k (nI y))) 11 0 (nI (a + 1))
      have hly : F_X12_lays (S1.2.1 72 a) (S1.2.1 73 a) (S1.2.1 75 a) S1 = some (aset S1 70 (upd (S.2.1 70) k (nI y))) := by
        have q1 : S1.2.1 72 a = 0 := e1.symm.trans w0
        have q2 : S1.2.1 73 a = nI k := e2.symm.trans f1
        have q3 : S1.2.1 75 a = nI y := e4.symm.trans f3
        rw [q1, q2, q3]; exact F_lays0 (S := S1) (by omega) (nI y)
      have r2 := redo2_eq (S := S1) (u := u) (by omega) (by omega) d2 u2 hly d2 u2
      exact ⟨nI u, S1, _, r1, r2, setV V 6 k y, kd, hP.held hy, hT, hB, hTr, hSh, ⟨a + 1, u, by omega, rfl, hk1, rfl, rfl, hcc⟩, hI, hN, hL⟩
    · have hch : F_X8_change (S.2.1 51 a) (S.2.1 52 a) (S.2.1 54 a) S = some (aset S 28 (upd (S.2.1 28) k (nI y))) := by
        rw [w0, f1, f3]; exact F_change1 hk (nI y)
      have r1 := redo1_eq (by omega) hau d1 k1 hch d1 k1
      rw [hsub] at r1
      let S1 : St := fset (aset S 28 (upd (S.2.1 28) k (nI y))) 11 0 (nI (a + 1))
      have hly : F_X12_lays (S1.2.1 72 a) (S1.2.1 73 a) (S1.2.1 75 a) S1 = some (aset S1 71 (upd (S.2.1 71) k (nI y))) := by
        have q1 : S1.2.1 72 a = 1 := e1.symm.trans w0
        have q2 : S1.2.1 73 a = nI k := e2.symm.trans f1
        have q3 : S1.2.1 75 a = nI y := e4.symm.trans f3
        rw [q1, q2, q3]; exact F_lays1 (S := S1) hk (nI y)
      have r2 := redo2_eq (S := S1) (u := u) (by omega) (by omega) d2 u2 hly d2 u2
      exact ⟨nI u, S1, _, r1, r2, setV V 7 k y, kd, hP.pause hy, hT, hB, hTr, hSh, ⟨a + 1, u, by omega, rfl, hk1, rfl, rfl, hcc⟩, hI, hN, hL⟩
