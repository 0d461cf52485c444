section
variable {tx : Nat → Nat} {len : Nat}
theorem q63 {P : List Nat} {m : List Int32} {dg : Nat} (hP : ∀ s ∈ P, 1 ≤ sgS s) : cstep 63 (P ++ [], m, uB (P ++ []), bB [], dg, false, false) = some ([], (-63) :: ((P.reverse.map (fun s => - nI s)) ++ m), 0, 0, 0, true, true) := by
  unfold cstep
  rw [if_neg (show ¬ (P ++ [], m, uB (P ++ []), bB [], dg, false, false).2.2.2.2.2.1 = true from fun z => by cases z), if_neg (show ¬ isDg 63 = true by decide), if_neg (by decide), if_pos rfl, if_pos ⟨rfl, rfl⟩]
  show some ((stl 1 (P ++ []) m (uB (P ++ []))).1, (-63) :: (stl 1 (P ++ []) m (uB (P ++ []))).2.1, (stl 1 (P ++ []) m (uB (P ++ []))).2.2, 0, 0, true, true) = _
  rw [stl_all (W := []) (P := P) (k := 1) (by decide) (by decide) hP]
  rfl
theorem okW0 : OkW [] := fun z hz => by cases hz
theorem l66_pb {S : St} {p la : Nat} {fl op : Int32} (h : PB tx len S p fl op la) (k : Nat) : PB tx len (l66 S k) p fl op la := h.same rfl rfl
theorem l66_pr {S : St} {p op : Nat} {TS : List (Nat × Nat)} (h : PR tx len S p op TS) (k : Nat) : PR tx len (l66 S k) p op TS := h.same rfl rfl rfl rfl
theorem u80_pr {S : St} {p op : Nat} {TS : List (Nat × Nat)} (h : PR tx len S p op TS) (g : Nat → Int32) : PR tx len (aset S 80 g) p op TS := h.same rfl rfl rfl rfl
/-- one line -/
theorem line_ok (hl : len ≤ 120) (htx : ∀ i, i < len → tx i < 256) {N : Nat} (hN : 130 ≤ N) {p : Nat} {Pl : Lns} {S : St} (h : PR tx len S p 0 (toks Pl)) (hL : LnR S Pl) (hk : Pl.length ≤ 60) : LINE tx len p Pl S (F_X12_oneLine N S) := by
  have h79 : S.2.1 79 2 = nI Pl.length := hL.1
  have e122 : (122 : Int32) + nI Pl.length = nI (122 + Pl.length) := nI_add 122 Pl.length
  have hla : S.1 63 23 = nI (toks Pl).length := h.1.2.2.2.2.1
  have hlc : (toks Pl).length < 130 := by have := h.2.2.1; have := h.2.2.2; omega
  let S20 : St := aset S 80 (upd (S.2.1 80) (122 + Pl.length) (nI (toks Pl).length))
  have a20 : AgL S S20 := AgL.rfl.u80 (by omega) _
  have p20 : PR tx len S20 p 0 (toks Pl) := u80_pr h _
  have stp : F_X12_oneLine N S = (FF_X12_either N S20).bind (fun r_22 => if 0 ≤ (r_22.1 63 21) then (F_X12_oneLine_66 (nI (122 + Pl.length)) r_22) else ((F_X12_look r_22).bind (fun r_33 => if r_33.1 = 63 then (let S48 := fset r_33.2 63 20 ((r_33.2.1 63 20) + 1); gd (inb (nI (122 + Pl.length)) 183) (let S61 := aset S48 80 (upd (S48.2.1 80) (Int32.toNatClampNeg (nI (122 + Pl.length))) (vp_nar .short ((Int32.toInt16 (S48.1 63 23)).toInt32))); (FF_X12_either N S61).bind (fun r_63 => F_X12_oneLine_66 (nI (122 + Pl.length)) r_63))) else (F_X12_oneLine_66 (nI (122 + Pl.length)) r_33.2)))) := by
    unfold F_X12_oneLine
    have e2 : S.2.1 79 (Int32.toNatClampNeg (2 : Int32)) = nI Pl.length := h79
    rw [e2, e122, gd_t (by decide), gd_t (inb_nI (by omega) (by decide)), nI_clamp (by omega), hla, sh_n _ hlc]
  have eS : ∀ T : St, F_X12_oneLine_66 (nI (122 + Pl.length)) T = some (l66 T Pl.length) := fun T => l66_eq hk T
  obtain ⟨S1, r1, a1, c1⟩ := either0 hl htx hN p (toks Pl) S20 p20
  have a1' : AgL S S1 := a20.trans a1.L
  rw [stp, r1, Option.bind_some]
  have e79 : S1.2.1 79 2 = nI Pl.length := by rw [a1.1.2.1 79 (by decide)]; exact h79
  have eO : ∀ k, k < Pl.length → S1.2.1 80 (122 + k) = nI (offL Pl k + (Pl.getD k ([], [])).1.length) ∧ S1.2.1 81 (122 + k) = nI (offL Pl (k + 1)) := fun k hk' => by
    rw [a1.1.2.1 80 (by decide), a1.1.2.1 81 (by decide)]
    refine ⟨?_, (hL.2 k hk').2⟩
    show upd (S.2.1 80) (122 + Pl.length) (nI (toks Pl).length) (122 + k) = _
    rw [pk_un (by omega)]
    exact (hL.2 k hk').1
  have e80 : S1.2.1 80 (122 + Pl.length) = nI (toks Pl).length := by
    rw [a1.1.2.1 80 (by decide)]
    exact pk_us
  rcases c1 with ⟨p1, ts, q1, q2, q3, q4, q5, q6, q7⟩ | ⟨f, p1, la, q1, q2, q3, q4, q5, q6⟩
  · have hp1 : p1 ≤ len := q1.2.2.1
    rw [if_neg (by rw [q1.1.2.2.1]; decide), look_eq hl q1.1 hp1, Option.bind_some]
    by_cases c : atC tx len p1 63
    · let S48 : St := fset S1 63 20 ((S1.1 63 20) + 1)
      have p48 : PR tx len S48 (p1 + 1) 0 (toks Pl ++ ts) := q1.here c.1
      have hla2 : S48.1 63 23 = nI (toks Pl ++ ts).length := p48.1.2.2.2.2.1
      have hlc2 : (toks Pl ++ ts).length < 130 := by have := p48.2.2.1; have := p48.2.2.2; omega
      let S61 : St := aset S48 80 (upd (S48.2.1 80) (122 + Pl.length) (nI (toks Pl ++ ts).length))
      have p61 : PR tx len S61 (p1 + 1) 0 (toks Pl ++ ts) := u80_pr p48 _
      have a61 : AgL S S61 := (a1'.trans (here_ag S1 _).L).u80 (by omega) _
      obtain ⟨S2, r2, a2, c2⟩ := either0 hl htx hN (p1 + 1) (toks Pl ++ ts) S61 p61
      have stp2 : (if (lkV tx len p1, S1).1 = 63 then (let S48 := fset (lkV tx len p1, S1).2 63 20 (((lkV tx len p1, S1).2.1 63 20) + 1); gd (inb (nI (122 + Pl.length)) 183) (let S61 := aset S48 80 (upd (S48.2.1 80) (Int32.toNatClampNeg (nI (122 + Pl.length))) (vp_nar .short ((Int32.toInt16 (S48.1 63 23)).toInt32))); (FF_X12_either N S61).bind (fun r_63 => F_X12_oneLine_66 (nI (122 + Pl.length)) r_63))) else (F_X12_oneLine_66 (nI (122 + Pl.length)) (lkV tx len p1, S1).2)) = some (l66 S2 Pl.length) := by
        rw [if_pos (show (lkV tx len p1, S1).1 = 63 from (lkV_eq (k := 63) htx (by decide)).mpr c), gd_t (inb_nI (by omega) (by decide)), nI_clamp (by omega)]
        show (FF_X12_either N (aset S48 80 (upd (S48.2.1 80) (122 + Pl.length) (vp_nar .short ((Int32.toInt16 (S48.1 63 23)).toInt32))))).bind (fun r_63 => F_X12_oneLine_66 (nI (122 + Pl.length)) r_63) = _
        rw [hla2, sh_n _ hlc2]
        show (FF_X12_either N S61).bind (fun r_63 => F_X12_oneLine_66 (nI (122 + Pl.length)) r_63) = _
        rw [r2, Option.bind_some, eS]
      refine ⟨l66 S2 Pl.length, stp2, l66_ag (a61.trans a2.L) _, ?_⟩
      have hts : ts ≠ [] := fun z => by
        have := q5 0
        rw [z] at this
        exact absurd this (by decide)
      rcases c2 with ⟨p2, ts2, w1, w2, w3, w4, w5, w6, w7⟩ | ⟨f, p2, la, w1, w2, w3, w4, w5, w6⟩
      · have et : toks (Pl ++ [(ts, ts2)]) = (toks Pl ++ ts) ++ ts2 := by rw [toks_app, List.append_assoc]
        have w1' : PR tx len S2 p2 0 (toks (Pl ++ [(ts, ts2)])) := by rw [et]; exact w1
        have f79 : S2.2.1 79 2 = nI Pl.length := by rw [a2.1.2.1 79 (by decide)]; exact e79
        have f80 : S2.2.1 80 (122 + Pl.length) = nI ((toks Pl).length + ts.length) := by
          rw [a2.1.2.1 80 (by decide), ← List.length_append]
          exact pk_us
        have fO : ∀ k, k < Pl.length → S2.2.1 80 (122 + k) = nI (offL Pl k + (Pl.getD k ([], [])).1.length) ∧ S2.2.1 81 (122 + k) = nI (offL Pl (k + 1)) := fun k hk' => by
          rw [a2.1.2.1 80 (by decide), a2.1.2.1 81 (by decide)]
          refine ⟨?_, (eO k hk').2⟩
          show upd (S1.2.1 80) (122 + Pl.length) (nI (toks Pl ++ ts).length) (122 + k) = _
          rw [pk_un (by omega)]
          exact (eO k hk').1
        refine Or.inl ⟨p2, (ts, ts2), l66_pr w1' _, l66_ln hl w1' f79 fO f80, by omega, ⟨fun t ht => ?_, Or.inr (q5 0), w5 0⟩, w7, fun O => ?_⟩
        · rcases List.mem_append.mp ht with e | e
          · exact q4 t e
          · exact w4 t e
        · obtain ⟨P, m, dg, g1, g2, g3, g4, g5⟩ := q6 [] O false okW0 rfl (fun _ => by decide)
          obtain ⟨P2, m2, dg2, k1, k2, k3, k4, k5⟩ := w6 [] ((-63) :: (ts.reverse.map tkC ++ O)) true okW0 rfl (fun _ => by decide)
          refine ⟨(P2, m2, uB P2, 0, dg2, false, true), ?_, P2, m2, dg2, true, rfl, k1, ?_, k4, ?_, fun _ _ => rfl⟩
          · have g2' : crun tx len (len - p) ([], O, 0, 0, 0, true, false) = _ := g2
            rw [g2', crun_step c.1, c.2, q63 (fun s hs => (g1 s hs).1), g3]
            rw [List.append_nil] at k2
            exact k2
          · rw [k3]
            show _ = (ts2.reverse.map tkC ++ ((if ts = [] then [] else [-63]) ++ ts.reverse.map tkC)) ++ O
            rw [if_neg hts, List.append_assoc]
            rfl
          · rw [List.append_nil] at k5
            exact k5 (by decide)
      · refine Or.inr ⟨f, p2, la, l66_pb w1 _, w3, fun O => ?_⟩
        obtain ⟨P, m, dg, g1, g2, g3, g4, g5⟩ := q6 [] O false okW0 rfl (fun _ => by decide)
        have g2' : crun tx len (len - p) ([], O, 0, 0, 0, true, false) = _ := g2
        rw [g2', crun_step c.1, c.2, q63 (fun s hs => (g1 s hs).1), g3]
        exact w6 [] ((-63) :: (ts.reverse.map tkC ++ O)) true okW0 rfl (fun _ => by decide)
    · have stp2 : (if (lkV tx len p1, S1).1 = 63 then (let S48 := fset (lkV tx len p1, S1).2 63 20 (((lkV tx len p1, S1).2.1 63 20) + 1); gd (inb (nI (122 + Pl.length)) 183) (let S61 := aset S48 80 (upd (S48.2.1 80) (Int32.toNatClampNeg (nI (122 + Pl.length))) (vp_nar .short ((Int32.toInt16 (S48.1 63 23)).toInt32))); (FF_X12_either N S61).bind (fun r_63 => F_X12_oneLine_66 (nI (122 + Pl.length)) r_63))) else (F_X12_oneLine_66 (nI (122 + Pl.length)) (lkV tx len p1, S1).2)) = some (l66 S1 Pl.length) := by
        rw [if_neg (show ¬ (lkV tx len p1, S1).1 = 63 from fun z => c ((lkV_eq (k := 63) htx (by decide)).mp z))]
        exact eS S1
      refine ⟨l66 S1 Pl.length, stp2, l66_ag a1' _, ?_⟩
      have et : toks (Pl ++ [([], ts)]) = toks Pl ++ ts := by rw [toks_app]; rfl
      have w1' : PR tx len S1 p1 0 (toks (Pl ++ [([], ts)])) := by rw [et]; exact q1
      refine Or.inl ⟨p1, ([], ts), l66_pr w1' _, l66_ln hl w1' e79 eO e80, q2, ⟨q4, Or.inl rfl, q5 0⟩, q7, fun O => ?_⟩
      obtain ⟨P, m, dg, g1, g2, g3, g4, g5⟩ := q6 [] O false okW0 rfl (fun _ => by decide)
      rw [List.append_nil] at g2 g5
      refine ⟨(P, m, uB P, 0, dg, false, false), g2, P, m, dg, false, rfl, g1, ?_, g4, g5 (by decide), fun z1 z2 => absurd ⟨z1, z2⟩ c⟩
      rw [g3]
      show _ = (ts.reverse.map tkC ++ ((if ([] : List (Nat × Nat)) = [] then [] else [-63]) ++ [])) ++ O
      rw [if_pos rfl]
      show _ = (ts.reverse.map tkC ++ []) ++ O
      rw [List.append_nil]
  · rw [if_pos (by rw [q1.2.2.1]; exact le0 (by omega)), eS]
    exact ⟨_, rfl, l66_ag a1' _, Or.inr ⟨f, p1, la, l66_pb q1 _, q3, fun O => q6 [] O false okW0 rfl (fun _ => by decide)⟩⟩
end
