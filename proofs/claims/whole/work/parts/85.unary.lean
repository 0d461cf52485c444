section
variable {tx : Nat → Nat} {len : Nat}
def nmG (v : Int32) : Int32 := if v = 99 then 5 else if v = 104 then 0 else if v = 105 then 3 else if v = 108 then 4 else if v = 110 then 1 else if v = 112 then 2 else -1
def nmJ (c : Nat) : Nat := if c = 99 then 5 else if c = 104 then 0 else if c = 105 then 3 else if c = 108 then 4 else if c = 110 then 1 else if c = 112 then 2 else 0
theorem nameOf_g (v : Int32) (S : St) : F_X12_nameOf v S = some (nmG v, S) := by
  unfold F_X12_nameOf nmG
  by_cases h99 : v = 99
  · rw [if_pos h99, if_pos h99]
  rw [if_neg h99, if_neg h99]
  by_cases h104 : v = 104
  · rw [if_pos h104, if_pos h104]
  rw [if_neg h104, if_neg h104]
  by_cases h105 : v = 105
  · rw [if_pos h105, if_pos h105]
  rw [if_neg h105, if_neg h105]
  by_cases h108 : v = 108
  · rw [if_pos h108, if_pos h108]
  rw [if_neg h108, if_neg h108]
  by_cases h110 : v = 110
  · rw [if_pos h110, if_pos h110]
  rw [if_neg h110, if_neg h110]
  by_cases h112 : v = 112
  · rw [if_pos h112, if_pos h112]
  rw [if_neg h112, if_neg h112]
theorem nm_key : ∀ c, c < 256 → (isNm c = true → nmG ((nI c).toInt8.toInt32) = nI (nmJ c) ∧ nmJ c < 6 ∧ nmC (nmJ c) = c ∧ isDg c = false) ∧ (¬ isNm c = true → nmG ((nI c).toInt8.toInt32) = -1) := by decide +kernel
theorem res_stop {p op : Nat} {TS : List (Nat × Nat)} {S : St} (h : PR tx len S p op TS) (hc : ∀ W O ak, OkW W → uB W = op → crun tx len (len - p) (W, O, op, bB W, 0, true, ak) = .inl p) : RES tx len 6 p op TS S (some (fset S 63 21 (nI p))) := by
  refine ⟨_, rfl, AgU.rfl.fs _ (by decide), Or.inr ⟨p, p, TS.length, ⟨h.1.1, h.1.2.1, rfl, rfl, h.1.2.2.2.2.1, h.1.2.2.2.2.2⟩, h.2.2.1, h.2.2.1, by omega, by omega, fun W O ak hW hu _ => hc W O ak hW hu⟩⟩
def opn (S : St) (op : Nat) : St := fset (fset S 63 22 (nI (op + 1))) 63 20 ((S.1 63 20) + 1)
theorem opens_6 {p op : Nat} {TS : List (Nat × Nat)} {S : St} (h : PR tx len S p op TS) (h6 : op = 6) : F_X12_opens S = some (0, fset S 63 21 (nI p)) := by
  unfold F_X12_opens
  rw [if_pos (by rw [h.1.2.2.2.1, h6]; rfl), faulty_eq h.1]
  rfl
theorem opens_lt {p op : Nat} {TS : List (Nat × Nat)} {S : St} (h : PR tx len S p op TS) (h6 : op < 6) : F_X12_opens S = some (1, opn S op) := by
  unfold F_X12_opens
  rw [if_neg (by rw [h.1.2.2.2.1]; exact fun z => by have := nI_inj (a := op) (b := 6) (by omega) (by decide) z; omega)]
  show some ((1 : Int32), fset (fset S 63 22 ((S.1 63 22) + 1)) 63 20 ((S.1 63 20) + 1)) = _
  rw [h.1.2.2.2.1, nI_1]
  rfl
theorem PR.opn {p op : Nat} {TS : List (Nat × Nat)} {S : St} (h : PR tx len S p op TS) (hp : p < len) : PR tx len (opn S op) (p + 1) (op + 1) TS := by
  refine ⟨⟨h.1.1, ?_, h.1.2.2.1, rfl, h.1.2.2.2.2.1, h.1.2.2.2.2.2⟩, h.2.1.same rfl rfl, hp, by have := h.2.2.2; omega⟩
  show S.1 63 20 + 1 = _
  rw [h.1.2.1, nI_1]
theorem opn_ag (S : St) (op : Nat) : AgU S (opn S op) := (AgU.rfl.fs _ (by decide)).fs _ (by decide)
/-- a sign before one -/
theorem un_ok (hl : len ≤ 120) {p op c s j : Nat} {TS : List (Nat × Nat)} {S : St} {r : St → Option St} (h : PR tx len S p op TS) (h6 : op ≤ 6) (hp : p < len) (hc : tx p = c) (ih : op < 6 → ∀ p TS S, PR tx len S p (op + 1) TS → RES tx len 6 p (op + 1) TS S (r S)) (hs : (c = 33 ∧ s = 33 ∧ j = 2) ∨ (c = 45 ∧ s = 126 ∧ j = 3)) : RES tx len 6 p op TS S (F_X12_operand_46 r (nI c) S) := by
  have hs1 : sgS s = 6 ∧ s < 256 ∧ ¬ s = 40 ∧ tkC (j, 0) = - nI s ∧ okT (j, 0) ∧ ¬ j ≤ 1 ∧ j ≤ 3 ∧ (∀ ak W O dg br o, cstep c (W, O, o, br, dg, true, ak) = if o < 6 then some (s :: W, O, o + 1, br, dg, true, ak) else none) := by
    rcases hs with ⟨a, b, d⟩ | ⟨a, b, d⟩
    · rw [a, b, d]; exact ⟨by decide, by decide, by decide, rfl, Or.inr (Or.inr (Or.inl rfl)), by decide, by decide, fun ak W O dg br o => rfl⟩
    · rw [a, b, d]; exact ⟨by decide, by decide, by decide, rfl, Or.inr (Or.inr (Or.inr (Or.inl rfl))), by decide, by decide, fun ak W O dg br o => rfl⟩
  obtain ⟨s1, s2, s3, s4, s5, s6, s7, s8⟩ := hs1
  unfold F_X12_operand_46
  by_cases q : op = 6
  · rw [opens_6 h q]
    show RES tx len 6 p op TS S (some (fset S 63 21 (nI p)))
    refine res_stop h (fun W O ak hW hu => ?_)
    rw [crun_step hp, hc, s8, if_neg (by omega)]
  · have q' : op < 6 := by omega
    have hTp := h.2.2.2
    rw [opens_lt h q']
    obtain ⟨S1, e1, g1, h1⟩ := ih q' (p + 1) TS (opn S op) (h.opn hp)
    show RES tx len 6 p op TS S ((r (opn S op)).bind (fun r_55 => let S65 := fset r_55 63 22 ((r_55.1 63 22) - 1); if nI c = 33 then ((F_X12_addStep (3 : Int32) (0 : Int32) S65).bind (fun r_81 => some r_81)) else ((F_X12_addStep (4 : Int32) (0 : Int32) S65).bind (fun r_81 => some r_81))))
    rw [e1]
    have X : ∀ (la : Nat) (p1 : Nat) (fl o : Int32), la < 130 → PB tx len S1 p1 fl o la → (if nI c = 33 then ((F_X12_addStep (3 : Int32) (0 : Int32) (fset S1 63 22 ((S1.1 63 22) - 1))).bind (fun r_81 => some r_81)) else ((F_X12_addStep (4 : Int32) (0 : Int32) (fset S1 63 22 ((S1.1 63 22) - 1))).bind (fun r_81 => some r_81))) = some (lay (fset S1 63 22 ((S1.1 63 22) - 1)) la (j, 0)) := by
      intro la p1 fl o hla hb
      have hb' : PB tx len (fset S1 63 22 ((S1.1 63 22) - 1)) p1 fl ((S1.1 63 22) - 1) la := ⟨hb.1, hb.2.1, hb.2.2.1, rfl, hb.2.2.2.2.1, hb.2.2.2.2.2⟩
      rcases hs with ⟨a, b, d⟩ | ⟨a, b, d⟩
      · rw [a, d, if_pos (show nI 33 = 33 from rfl), lay_eq hb' hla (x1 := 3) (x2 := 0) (t := (2, 0)) rfl rfl]; rfl
      · rw [a, d, if_neg (show ¬ nI 45 = 33 by decide), lay_eq hb' hla (x1 := 4) (x2 := 0) (t := (3, 0)) rfl rfl]; rfl
    show RES tx len 6 p op TS S (if nI c = 33 then ((F_X12_addStep (3 : Int32) (0 : Int32) (fset S1 63 22 ((S1.1 63 22) - 1))).bind (fun r_81 => some r_81)) else ((F_X12_addStep (4 : Int32) (0 : Int32) (fset S1 63 22 ((S1.1 63 22) - 1))).bind (fun r_81 => some r_81)))
    have hst : ∀ W O ak, uB W = op → crun tx len (len - p) (W, O, op, bB W, 0, true, ak) = crun tx len (len - (p + 1)) (s :: W, O, op + 1, bB (s :: W), 0, true, ak) := by
      intro W O ak hu
      rw [crun_step hp, hc, s8, if_pos q', bB_cons, if_neg s3]
      rfl
    have hWs : ∀ W, OkW W → OkW (s :: W) := fun W hW z hz => by
      rcases List.mem_cons.mp hz with e | e
      · rw [e]; exact ⟨s2, Or.inr (by omega)⟩
      · exact hW z e
    have hus : ∀ W, uB W = op → uB (s :: W) = op + 1 := fun W hu => by rw [uB_cons, if_pos (Or.inr s1), hu]
    rcases h1 with ⟨p1, ts, b1, b2, b3, b4, b5, b6, b7⟩ | ⟨f, p1, la, b1, b2, b3, b4, b5, b6⟩
    · have hp1 := b1.2.2.1
      have hT2 : (TS ++ ts).length = TS.length + ts.length := List.length_append
      rw [X _ _ _ _ (by omega) b1.1]
      have pr0 : PR tx len (fset S1 63 22 ((S1.1 63 22) - 1)) p1 op (TS ++ ts) := by
        refine ⟨⟨b1.1.1, b1.1.2.1, b1.1.2.2.1, ?_, b1.1.2.2.2.2.1, b1.1.2.2.2.2.2⟩, b1.2.1.same rfl rfl, hp1, by omega⟩
        show (S1.1 63 22) - 1 = _
        rw [b1.1.2.2.2.1, nI_pred]
      have pr := pr0.lay (j, 0) (by omega)
      rw [List.append_assoc] at pr
      have hl4 : (ts ++ [(j, 0)]).length = ts.length + 1 := by rw [List.length_append]; rfl
      have hG : GoodP tx len 6 p op p1 (ts ++ [(j, 0)]) := by
        intro W O ak hW hu hcd
        obtain ⟨P, m, dg, a1, a2, a3, a4, a5⟩ := b6 (s :: W) O ak (hWs W hW) (hus W hu) (fun z => absurd z (by decide))
        have eapp : (P ++ [s]) ++ W = P ++ (s :: W) := by rw [List.append_assoc]; rfl
        refine ⟨P ++ [s], m, dg, fun z hz => ?_, ?_, ?_, a4, fun z => absurd z (by decide)⟩
        · rcases List.mem_append.mp hz with e | e
          · exact a1 z e
          · rcases List.mem_cons.mp e with e | e
            · rw [e]; exact ⟨by omega, s2⟩
            · cases e
        · rw [hst W O ak hu, a2, eapp, bB_cons, if_neg s3]
          rfl
        · rw [List.reverse_append, List.map_append, List.reverse_append, List.map_append, List.append_assoc, List.append_assoc, a3]
          show (- nI s) :: _ = tkC (j, 0) :: _
          rw [s4]
          rfl
      refine ⟨_, rfl, (opn_ag S op).trans (g1.trans ((AgU.rfl.fs _ (by decide)).trans (lay_ag _ _ _))), Or.inl ⟨p1, ts ++ [(j, 0)], pr, by omega, by omega, fun t ht => ?_, fun h => ?_, hG, NX6⟩⟩
      · rcases List.mem_append.mp ht with e | e
        · exact b4 t e
        · rcases List.mem_cons.mp e with e | e
          · rw [e]; exact s5
          · cases e
      · rw [bal_app, b5]
        show (if j ≤ 1 then some (h + 1 + 1) else if j ≤ 3 then (if 1 ≤ h + 1 then some (h + 1) else none) else _) = _
        rw [if_neg s6, if_pos s7, if_pos (by omega)]
    · rw [X _ _ _ _ (by omega) b1]
      refine ⟨_, rfl, (opn_ag S op).trans (g1.trans ((AgU.rfl.fs _ (by decide)).trans (lay_ag _ _ _))), Or.inr ⟨f, p1, la + 1, ⟨b1.1, b1.2.1, b1.2.2.1, rfl, rfl, b1.2.2.2.2.2⟩, b2, b3, by omega, by omega, fun W O ak hW hu hcd => ?_⟩⟩
      rw [hst W O ak hu]
      exact b6 (s :: W) O ak (hWs W hW) (hus W hu) (fun z => absurd z (by decide))
end
