section
variable {tx : Nat → Nat} {len : Nat}
theorem fig_ok (hl : len ≤ 120) (htx : ∀ i, i < len → tx i < 256) {N : Nat} (hN : 130 ≤ N) {p op : Nat} {TS : List (Nat × Nat)} {S : St} (h : PR tx len S p op TS) (hc : p < len → ¬ isNm (tx p) = true ∧ ¬ tx p = 33 ∧ ¬ tx p = 45 ∧ ¬ tx p = 40) : RES tx len 6 p op TS S ((F_X12_figure N S).bind (fun r_151 => some r_151)) := by
  have hpl := h.2.2.1
  have hTp := h.2.2.2
  have lk := look_eq hl h.1 hpl
  have hin := in_dg htx (p := p) S
  rw [Option.bind_fun_some]
  obtain ⟨n, hn⟩ : ∃ n, N = n + 1 := ⟨N - 1, by omega⟩
  unfold F_X12_figure
  rw [hn]
  show RES tx len 6 p op TS S (if (4 : Int32) ≤ 0 then (F_X12_figure_52 0 0 S) else ((F_X12_look S).bind (fun r_10 => (F_X12_in r_10.1 (48 : Int32) (57 : Int32) r_10.2).bind (fun r_17 => if r_17.1 = 0 then (F_X12_figure_52 0 0 r_17.2) else ((F_X12_look r_17.2).bind (fun r_28 => let S46 := fset r_28.2 63 20 ((r_28.2.1 63 20) + 1); (F_X12_figure_4 n) (((10 * 0) + r_28.1) - 48) (0 + 1) S46))))))
  rw [if_neg (by decide)]
  simp only [lk, Option.bind_some, hin]
  by_cases c : p < len ∧ isDg (tx p) = true
  · have hv := dg_val _ (htx _ c.1) c.2
    have e1 : ((10 * 0) + lkV tx len p) - 48 = nI (tx p - 48) := by
      rw [lkV_in c.1 hv.1]
      have := ten_step (x := 0) hv.2.2
      rw [show 10 * 0 + (tx p - 48) = tx p - 48 by omega] at this
      exact this
    rw [if_pos c, if_neg (by decide), e1]
    refine fig_go hl htx hTp n 1 _ _ (by decide) (by decide) (by omega) (h.here c.1) (here_ag S _) (fun W O ak => ?_) (by omega)
    rw [crun_step c.1]
    have e : cstep (tx p) (W, O, op, bB W, 0, true, ak) = some (W, nI (tx p - 48) :: O, op, bB W, 1, false, ak) := by
      unfold cstep
      rw [if_pos (show (W, O, op, bB W, 0, true, ak).2.2.2.2.2.1 = true from rfl), if_pos c.2]
    rw [e]
  · rw [if_neg c, if_pos rfl]
    unfold F_X12_figure_52
    rw [if_pos rfl, faulty_eq h.1]
    simp only [Option.bind_some]
    have hb : PB tx len (fset S 63 21 (nI p)) p (nI p) (nI op) TS.length := ⟨h.1.1, h.1.2.1, rfl, h.1.2.2.2.1, h.1.2.2.2.2.1, h.1.2.2.2.2.2⟩
    rw [lay_eq hb (by omega) (x1 := 1) (x2 := 0) (t := (0, 0)) rfl rfl]
    refine ⟨_, rfl, (AgU.rfl.fs _ (by decide)).trans (lay_ag _ _ _), Or.inr ⟨p, p, TS.length + 1, ?_, hpl, hpl, by omega, by omega, fun W O ak hW hu hcd => ?_⟩⟩
    · have h2 := hb.lay (0, 0)
      exact ⟨h2.1, h2.2.1, h2.2.2.1, rfl, h2.2.2.2.2.1, h2.2.2.2.2.2⟩
    · by_cases d : p < len
      · obtain ⟨n1, n2, n3, n4⟩ := hc d
        have e : cstep (tx p) (W, O, op, bB W, 0, true, ak) = none := by
          unfold cstep
          rw [if_pos (show (W, O, op, bB W, 0, true, ak).2.2.2.2.2.1 = true from rfl), if_neg (fun z => c ⟨d, z⟩), if_neg n1, if_neg (by omega)]
        rw [crun_step d, e]
      · have e : len - p = 0 := by omega
        have e2 : p = len := by omega
        rw [e, e2]
        rfl
theorem operand_ok (hl : len ≤ 120) (htx : ∀ i, i < len → tx i < 256) {N : Nat} (hN : 130 ≤ N) : ∀ (n op : Nat), op ≤ 6 → 7 ≤ n + op → ∀ p TS S, PR tx len S p op TS → RES tx len 6 p op TS S (rec_X12_operand N n S)
  | 0, op, h6, h7, _, _, _, _ => absurd h7 (by omega)
  | n + 1, op, h6, h7, p, TS, S, h => by
    have ih : op < 6 → ∀ p TS S, PR tx len S p (op + 1) TS → RES tx len 6 p (op + 1) TS S (rec_X12_operand N n S) := fun z => operand_ok hl htx hN n (op + 1) (by omega) (by omega)
    show RES tx len 6 p op TS S (F_X12_operand (rec_X12_operand N n) N S)
    generalize rec_X12_operand N n = r at ih ⊢
    have hpl := h.2.2.1
    have hTp := h.2.2.2
    have lk := look_eq hl h.1 hpl
    unfold F_X12_operand
    simp only [lk, Option.bind_some, nameOf_g]
    by_cases c : p < len
    · have ek := nm_key (tx p) (htx p c)
      have ev : lkV tx len p = (nI (tx p)).toInt8.toInt32 := if_pos c
      by_cases c1 : isNm (tx p) = true
      · obtain ⟨k1, k2, k3, k4⟩ := ek.1 c1
        rw [ev, k1, if_neg (nI_pos (by omega)), lay_eq h.1 (by omega) (x1 := 2) (x2 := nI (nmJ (tx p))) (t := (1, nmJ (tx p))) rfl rfl]
        have pr : PR tx len (fset (lay S TS.length (1, nmJ (tx p))) 63 20 ((S.1 63 20) + 1)) (p + 1) op (TS ++ [(1, nmJ (tx p))]) := by
          refine ⟨?_, (h.2.1.lay _).same rfl rfl, c, ?_⟩
          · rw [List.length_append]
            exact (h.1.lay _).here
          · rw [List.length_append]
            show TS.length + 1 ≤ p + 1
            omega
        refine res_tok ((lay_ag S _ _).trans (here_ag _ _)) (1, nmJ (tx p)) pr (by omega) (Or.inr (Or.inl ⟨rfl, k2⟩)) (Nat.le_refl 1) (dg := 0) (Or.inl rfl) (fun W O ak => ?_)
        rw [crun_step c]
        have e : cstep (tx p) (W, O, op, bB W, 0, true, ak) = some (W, tkC (1, nmJ (tx p)) :: O, op, bB W, 0, false, ak) := by
          unfold cstep
          rw [if_pos (show (W, O, op, bB W, 0, true, ak).2.2.2.2.2.1 = true from rfl), if_neg (by rw [k4]; decide), if_pos c1]
          show some (W, (- nI (tx p)) :: O, op, bB W, 0, false, ak) = some (W, (- nI (nmC (nmJ (tx p)))) :: O, op, bB W, 0, false, ak)
          rw [k3]
        rw [e]
      · have k1 := ek.2 c1
        rw [ev, k1, if_pos (by decide), ← ev]
        by_cases c2 : tx p = 33
        · have e : lkV tx len p = nI 33 := (lkV_eq htx (by decide)).mpr ⟨c, c2⟩
          rw [if_pos (show lkV tx len p = 33 from e), e]
          exact un_ok hl h h6 c c2 ih (Or.inl ⟨rfl, rfl, rfl⟩)
        · rw [if_neg (show ¬ lkV tx len p = 33 from lkV_ne htx (k := 33) (by decide) (fun _ => c2))]
          by_cases c3 : tx p = 45
          · have e : lkV tx len p = nI 45 := (lkV_eq htx (by decide)).mpr ⟨c, c3⟩
            rw [if_pos (show lkV tx len p = 45 from e), e]
            exact un_ok hl h h6 c c3 ih (Or.inr ⟨rfl, rfl, rfl⟩)
          · rw [if_neg (show ¬ lkV tx len p = 45 from lkV_ne htx (k := 45) (by decide) (fun _ => c3))]
            by_cases c4 : tx p = 40
            · rw [if_pos (show lkV tx len p = 40 from (lkV_eq (k := 40) htx (by decide)).mpr ⟨c, c4⟩)]
              exact par_ok hl htx hN h h6 c c4 ih
            · rw [if_neg (show ¬ lkV tx len p = 40 from lkV_ne htx (k := 40) (by decide) (fun _ => c4))]
              exact fig_ok hl htx hN h (fun _ => ⟨c1, c2, c3, c4⟩)
    · have ev : lkV tx len p = -1 := if_neg c
      rw [ev, if_pos (by decide), if_neg (by decide), if_neg (by decide), if_neg (by decide)]
      exact fig_ok hl htx hN h (fun z => absurd z c)
end
