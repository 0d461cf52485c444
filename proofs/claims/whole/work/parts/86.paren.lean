section
variable {tx : Nat → Nat} {len : Nat}
theorem par_ok (hl : len ≤ 120) (htx : ∀ i, i < len → tx i < 256) {N : Nat} (hN : 130 ≤ N) {p op : Nat} {TS : List (Nat × Nat)} {S : St} {r : St → Option St} (h : PR tx len S p op TS) (h6 : op ≤ 6) (hp : p < len) (hc : tx p = 40) (ih : op < 6 → ∀ p TS S, PR tx len S p (op + 1) TS → RES tx len 6 p (op + 1) TS S (r S)) : RES tx len 6 p op TS S ((F_X12_opens S).bind (fun r_94 => if r_94.1 = 0 then (some r_94.2) else ((F_X12_either r N r_94.2).bind (fun r_102 => if (r_102.1 63 21) < 0 then ((F_X12_look r_102).bind (fun r_114 => if r_114.1 = 41 then (let S134 := fset r_114.2 63 20 ((r_114.2.1 63 20) + 1); let S144 := fset S134 63 22 ((S134.1 63 22) - 1); some S144) else ((F_X12_faulty r_114.2).bind (fun r_123 => some r_123)))) else (some r_102))))) := by
  have s8 : ∀ ak W O dg br o, cstep 40 (W, O, o, br, dg, true, ak) = if o < 6 then some (40 :: W, O, o + 1, br + 1, dg, true, ak) else none := fun ak W O dg br o => rfl
  by_cases q : op = 6
  · rw [opens_6 h q]
    show RES tx len 6 p op TS S (some (fset S 63 21 (nI p)))
    refine res_stop h (fun W O ak hW hu => ?_)
    rw [crun_step hp, hc, s8, if_neg (by omega)]
  · have q' : op < 6 := by omega
    have hTp := h.2.2.2
    rw [opens_lt h q']
    obtain ⟨S1, e1, g1, h1⟩ := either_ok hl htx hN (ih q') (p + 1) TS (opn S op) (h.opn hp)
    show RES tx len 6 p op TS S ((F_X12_either r N (opn S op)).bind (fun r_102 => if (r_102.1 63 21) < 0 then ((F_X12_look r_102).bind (fun r_114 => if r_114.1 = 41 then (let S134 := fset r_114.2 63 20 ((r_114.2.1 63 20) + 1); let S144 := fset S134 63 22 ((S134.1 63 22) - 1); some S144) else ((F_X12_faulty r_114.2).bind (fun r_123 => some r_123)))) else (some r_102)))
    rw [e1]
    have hst : ∀ W O ak, uB W = op → crun tx len (len - p) (W, O, op, bB W, 0, true, ak) = crun tx len (len - (p + 1)) (40 :: W, O, op + 1, bB (40 :: W), 0, true, ak) := by
      intro W O ak hu
      rw [crun_step hp, hc, s8, if_pos q', bB_cons, if_pos rfl]
    have hWs : ∀ W, OkW W → OkW (40 :: W) := fun W hW z hz => by
      rcases List.mem_cons.mp hz with e | e
      · rw [e]; exact ⟨by decide, Or.inl rfl⟩
      · exact hW z e
    have hus : ∀ W, uB W = op → uB (40 :: W) = op + 1 := fun W hu => by rw [uB_cons, if_pos (Or.inl rfl), hu]
    have hbs : ∀ W, bB (40 :: W) = bB W + 1 := fun W => by rw [bB_cons, if_pos rfl]
    have hcn : ∀ W : List Nat, cnd 1 (40 :: W) := fun W _ => by show sgS 40 < 1; decide
    rcases h1 with ⟨p1, ts, b1, b2, b3, b4, b5, b6, b7⟩ | ⟨f, p1, la, b1, b2, b3, b4, b5, b6⟩
    · have hp1 := b1.2.2.1
      have lk := look_eq hl b1.1 hp1
      simp only [Option.bind_some]
      rw [if_pos (show S1.1 63 21 < 0 by rw [b1.1.2.2.1]; decide)]
      simp only [lk, Option.bind_some]
      by_cases c : p1 < len ∧ tx p1 = 41
      · rw [if_pos (show lkV tx len p1 = 41 from (lkV_eq (k := 41) htx (by decide)).mpr c)]
        have hT2 : (TS ++ ts).length = TS.length + ts.length := List.length_append
        have pr : PR tx len (fset (fset S1 63 20 ((S1.1 63 20) + 1)) 63 22 ((S1.1 63 22) - 1)) (p1 + 1) op (TS ++ ts) := by
          refine ⟨⟨b1.1.1, ?_, b1.1.2.2.1, ?_, b1.1.2.2.2.2.1, b1.1.2.2.2.2.2⟩, b1.2.1.same rfl rfl, c.1, by omega⟩
          · show (S1.1 63 20) + 1 = _
            rw [b1.1.2.1, nI_1]
          · show (S1.1 63 22) - 1 = _
            rw [b1.1.2.2.2.1, nI_pred]
        have hG : GoodP tx len 6 p op (p1 + 1) ts := by
          intro W O ak hW hu hcd
          obtain ⟨P, m, dg, a1, a2, a3, a4, a5⟩ := b6 (40 :: W) O ak (hWs W hW) (hus W hu) (hcn W)
          refine ⟨[], (ts.reverse.map tkC) ++ O, 0, ?_, ?_, rfl, Or.inl rfl, ?_⟩
          · intro z hz; cases hz
          rotate_left
          · intro z; exact absurd z (by decide)
          rw [hst W O ak hu, a2, crun_step c.1, c.2]
          have e : cstep 41 (P ++ 40 :: W, m, uB (P ++ 40 :: W), bB (40 :: W), dg, false, ak) = some (W, (ts.reverse.map tkC) ++ O, uB W, bB W, 0, false, ak) := by
            show (if bB (40 :: W) = 0 then none else some ((stl 1 (P ++ 40 :: W) m (uB (P ++ 40 :: W))).1.tail, (stl 1 (P ++ 40 :: W) m (uB (P ++ 40 :: W))).2.1, (stl 1 (P ++ 40 :: W) m (uB (P ++ 40 :: W))).2.2 - 1, bB (40 :: W) - 1, 0, false, ak)) = _
            rw [if_neg (by rw [hbs]; omega), stl_all (W := 40 :: W) (P := P) (k := 1) (by decide) (by show sgS 40 < 1; decide) (fun s hs => (a1 s hs).1) m, a3]
            show some (W, _, uB (40 :: W) - 1, bB (40 :: W) - 1, 0, false, ak) = _
            rw [hus W hu, hbs, hu]
            rfl
          rw [e]
          rfl
        exact ⟨_, rfl, (opn_ag S op).trans (g1.trans ((AgU.rfl.fs _ (by decide)).fs _ (by decide))), Or.inl ⟨p1 + 1, ts, pr, by omega, by omega, b4, b5, hG, NX6⟩⟩
      · rw [if_neg (show ¬ lkV tx len p1 = 41 from fun z => c ((lkV_eq (k := 41) htx (by decide)).mp z)), faulty_eq b1.1]
        refine ⟨_, rfl, (opn_ag S op).trans (g1.trans (AgU.rfl.fs _ (by decide))), Or.inr ⟨p1, p1, (TS ++ ts).length, ⟨b1.1.1, b1.1.2.1, rfl, rfl, b1.1.2.2.2.2.1, b1.1.2.2.2.2.2⟩, hp1, hp1, by rw [List.length_append]; omega, by omega, fun W O ak hW hu hcd => ?_⟩⟩
        obtain ⟨P, m, dg, a1, a2, a3, a4, a5⟩ := b6 (40 :: W) O ak (hWs W hW) (hus W hu) (hcn W)
        rw [hst W O ak hu, a2]
        have hb0 : ¬ bB (40 :: W) = 0 := by rw [hbs]; omega
        by_cases d : p1 < len
        · rw [crun_step d, step_none d a4 b7 (a5 (by decide)) (fun z => absurd ⟨d, z⟩ c) (fun _ z => hb0 z.1) (fun _ => hb0)]
        · have e : len - p1 = 0 := by omega
          have e2 : p1 = len := by omega
          rw [e, e2]
          show (match cEndL (P ++ 40 :: W, m, uB (P ++ 40 :: W), bB (40 :: W), dg, false, ak) with | none => (Sum.inl len : Nat ⊕ List Int32) | some τ => .inr τ.2.1.reverse) = _
          have e3 : cEndL (P ++ 40 :: W, m, uB (P ++ 40 :: W), bB (40 :: W), dg, false, ak) = none := if_neg hb0
          rw [e3]
    · simp only [Option.bind_some]
      rw [if_neg (show ¬ S1.1 63 21 < 0 by rw [b1.2.2.1]; exact nI_pos (by omega))]
      refine ⟨_, rfl, (opn_ag S op).trans g1, Or.inr ⟨f, p1, la, b1, b2, b3, by omega, by omega, fun W O ak hW hu hcd => ?_⟩⟩
      rw [hst W O ak hu]
      exact b6 (40 :: W) O ak (hWs W hW) (hus W hu) (hcn W)
end
