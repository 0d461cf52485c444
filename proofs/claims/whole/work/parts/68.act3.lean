def fZ (c s : Nat) : Bool := fX c s && fAc c s && fAr c s
def aZ (k : Nat) : Bool := aX k && aAc k && aAr k
theorem ShB.agreeZ {S S' : St} {kd : List Nat} {b : Nat} (hb : b < 6) (h : ShB S kd b) (ha : AgO fZ aZ lX S S') : ShB S' kd b := by
  have q0 : fZ (14 + b) 0 = true := (by decide : ∀ b, b < 6 → fZ (14 + b) 0 = true) b hb
  have q1 : fZ (14 + b) 1 = true := (by decide : ∀ b, b < 6 → fZ (14 + b) 1 = true) b hb
  have q2 : fZ (14 + b) 2 = true := (by decide : ∀ b, b < 6 → fZ (14 + b) 2 = true) b hb
  have q3 : fZ (14 + b) 3 = true := (by decide : ∀ b, b < 6 → fZ (14 + b) 3 = true) b hb
  have q4 : lX (57 + b) = true := (by decide : ∀ b, b < 6 → lX (57 + b) = true) b hb
  unfold ShB
  rw [ha.1 _ _ q0, ha.1 _ _ q1, ha.1 _ _ q2, ha.1 _ _ q3, ha.2.2 _ q4, ha.2.1 100 (by decide), ha.2.1 101 (by decide), ha.2.2 102 (by decide)]
  exact h
theorem LwB.agreeZ {S S' : St} {w : Nat} (hw : w < 2) (h : LwB S w) (ha : AgO fZ aZ lX S S') : LwB S' w := by
  have q0 : fZ (2 + w) 1 = true := (by decide : ∀ b, b < 2 → fZ (2 + b) 1 = true) w hw
  have q1 : aZ (30 + w) = true := (by decide : ∀ b, b < 2 → aZ (30 + b) = true) w hw
  unfold LwB
  rw [ha.1 _ _ q0, ha.2.1 _ q1, ha.2.1 84 (by decide), ha.2.1 79 (by decide), ha.2.1 77 (by decide), ha.2.1 78 (by decide), ha.2.1 80 (by decide), ha.2.1 81 (by decide)]
  exact h
theorem fZ_c {c s : Nat} (h : fZ c s = true) : fAc c s = true := by
  unfold fZ at h
  rw [Bool.and_eq_true, Bool.and_eq_true] at h
  exact h.1.2
theorem fZ_d {c s : Nat} (h : fZ c s = true) : fAr c s = true := by
  unfold fZ at h
  rw [Bool.and_eq_true] at h
  exact h.2
theorem aZ_c {k : Nat} (h : aZ k = true) : aAc k = true := by
  unfold aZ at h
  rw [Bool.and_eq_true, Bool.and_eq_true] at h
  exact h.1.2
theorem aZ_d {k : Nat} (h : aZ k = true) : aAr k = true := by
  unfold aZ at h
  rw [Bool.and_eq_true] at h
  exact h.2
/-- another trace, all else as it was -/
theorem InvV.trace {S S' : St} {V : Nat → Nat → Nat} {kd : List Nat} (h : InvV S V kd) (ha : AgO fZ aZ lX S S') (hP : PlayB S' V) (hTr : ITrace (S'.1 12 1) (S'.1 63 57) (S'.2.1 56) (S'.2.1 99)) : InvV S' V kd := by
  obtain ⟨_, hT, hB, _, hSh, hC, hI, hN, hL⟩ := h
  refine ⟨hP, ?_, ?_, hTr, ⟨hSh.1.agreeZ (by decide) ha, hSh.2.1.agreeZ (by decide) ha, hSh.2.2.1.agreeZ (by decide) ha, hSh.2.2.2.1.agreeZ (by decide) ha, hSh.2.2.2.2.1.agreeZ (by decide) ha, hSh.2.2.2.2.2.agreeZ (by decide) ha⟩, ?_, ?_, ?_, ⟨hL.1.agreeZ (by decide) ha, hL.2.agreeZ (by decide) ha⟩⟩
  · rw [ha.1 0 2 (by decide), ha.1 63 19 (by decide), ha.2.1 20 (by decide), ha.2.1 76 (by decide)]
    exact hT
  · rw [ha.1 12 0 (by decide), ha.1 63 55 (by decide), ha.2.1 55 (by decide), ha.2.1 98 (by decide)]
    exact hB
  · rw [ha.1 11 0 (by decide), ha.1 11 1 (by decide), ha.1 63 12 (by decide), ha.1 63 13 (by decide), ha.2.1 51 (by decide), ha.2.1 52 (by decide), ha.2.1 53 (by decide), ha.2.1 54 (by decide), ha.2.1 72 (by decide), ha.2.1 73 (by decide), ha.2.1 74 (by decide), ha.2.1 75 (by decide)]
    exact hC
  · rw [ha.1 10 0 (by decide), ha.1 10 2 (by decide), ha.1 10 3 (by decide), ha.1 63 50 (by decide), ha.1 63 51 (by decide), ha.1 63 53 (by decide), ha.1 63 54 (by decide), ha.2.1 50 (by decide), ha.2.1 97 (by decide)]
    exact hI
  · rw [ha.1 5 0 (by decide), ha.1 5 4 (by decide), ha.1 5 5 (by decide), ha.1 5 6 (by decide), ha.1 5 7 (by decide), ha.1 63 33 (by decide), ha.1 63 40 (by decide), ha.2.1 36 (by decide), ha.2.1 38 (by decide), ha.2.1 40 (by decide), ha.2.1 90 (by decide), ha.2.1 91 (by decide), ha.2.1 92 (by decide), ha.2.1 93 (by decide)]
    exact hN
def acV (b : Int32) (k a : Nat) (x : Int32) : Int32 × List Int32 := if a = 0 then acCue b k x else if a = 1 then acHol b k x else if a = 2 then acJum b k x else acPro b k x
theorem acV_len {b : Int32} {k a : Nat} (hk : k < 8) (ha : a < 4) (x : Int32) : (acV b k a x).2.length ≤ 900 := by
  rcases lt8 hk with rfl | rfl | rfl | rfl | rfl | rfl | rfl | rfl <;> rcases (show a = 0 ∨ a = 1 ∨ a = 2 ∨ a = 3 by omega) with rfl | rfl | rfl | rfl <;> exact Nat.le_of_ble_eq_true rfl
theorem ow_any {N q k : Nat} (hN : 130 ≤ N) (hq : q < 50) (hk : k < 8) {a : Nat} (ha : a < 4) (x : Int32) : Sp q k (F_X0_own (rec_X0_from N 14) (nI a) x (nI 0)) (acV (nI q) k a x).1 (acV (nI q) k a x).2 := by
  rcases (show a = 0 ∨ a = 1 ∨ a = 2 ∨ a = 3 by omega) with rfl | rfl | rfl | rfl
  · exact ow_cue hN hq hk 11 0 (by decide) x
  · exact ow_hol hN hq hk 8 0 (by decide) x
  · exact ow_jum hN hq hk 10 0 (by decide) x
  · exact ow_pro hN hq hk 6 0 (by decide) x
/-- act -/
theorem st_act {N : Nat} (hN : 130 ≤ N) {S : St} (h : Inv S) (x1 x2 x3 : Int32) : Both (F_X11_act N x1 x2 x3) (F_X12_act x1 x2 x3) S := by
  obtain ⟨V, kd, hI⟩ := id h
  obtain ⟨ok, hc, hr⟩ := play_iff.mp hI.1
  obtain ⟨hl, b1, b2, hkd⟩ := hI.2.2.1
  have n10 : ¬ (1 : Int32) = 0 := by decide
  let S1 : St := fset S 12 1 0
  let S2 : St := fset S1 63 57 0
  have z12 : AgO fZ aZ lX S S2 := AgO.fset (AgO.fset AgO.rfl _ (by decide)) _ (by decide)
  have p12 : AgO fCl aCl lNo S S2 ∧ AgO fRl aRl lNo S S2 := ⟨AgO.fset (AgO.fset AgO.rfl _ (by decide)) _ (by decide), AgO.fset (AgO.fset AgO.rfl _ (by decide)) _ (by decide)⟩
  have inv0 : InvV S2 V kd := hI.trace z12 (play_iff.mpr ⟨ok, hc.agree p12.1, hr.agree p12.2⟩) ⟨0, by decide, rfl, rfl, fun i hi => absurd hi (Nat.not_lt_zero i)⟩
  have zero : F_X11_act N x1 x2 x3 S = some (0, S1) → F_X12_act x1 x2 x3 S1 = some (0, S2) → Both (F_X11_act N x1 x2 x3) (F_X12_act x1 x2 x3) S := fun e1 e2 => ⟨0, S1, S2, e1, e2, V, kd, inv0⟩
  rcases Classical.em (∃ q : Nat, q < kd.length ∧ x1 = nI q) with ⟨q, hq, rfl⟩ | hx
  · have t1 : F_X0_has (nI q) S1 = some (1, S1) := F_has0_t hq hl b1
    have t2 : ∀ T : St, T.1 63 55 = nI kd.length → F_X12_isBody (nI q) T = some (1, T) := fun T hT => F_isBody_t hq hl hT
    rcases (rng x2 3 (by decide)).symm with hy | ⟨a, ha, rfl⟩
    · refine zero ?_ ?_
      · unfold F_X11_act F_X0_perform
        show ((F_X0_has (nI q) S1).bind (fun r_7 => if r_7.1 = 0 then (some (0, r_7.2)) else (if x2 < 0 then (some (0, r_7.2)) else (if x2 < 4 then ((FF_X0_own N x2 x3 (0 : Int32) (fset r_7.2 12 4 (nI q))).bind (fun r_33 => some (r_33.1, r_33.2))) else (some (0, r_7.2)))))).bind (fun r => some (r.1, r.2)) = _
        rw [t1, Option.bind_some]
        show ((if (1 : Int32) = 0 then _ else (if x2 < 0 then (some (0, S1)) else (if x2 < 4 then _ else (some (0, S1)))) : Option (Int32 × St)).bind (fun r => some (r.1, r.2))) = _
        rw [if_neg n10]
        rcases hy with z | z
        · rw [if_pos z]; rfl
        · by_cases c : x2 < 0
          · rw [if_pos c]; rfl
          · rw [if_neg c, if_neg (show ¬ x2 < 4 from fun w => by
              have w1 : nI 3 < x2 := z
              have := Int32.lt_iff_toInt_lt.mp w1
              have := Int32.lt_iff_toInt_lt.mp w
              have e3 : (nI 3 : Int32).toInt = 3 := by decide
              have e4 : (4 : Int32).toInt = 4 := by decide
              omega)]; rfl
      · unfold F_X12_act
        show ((F_X12_isBody (nI q) S2).bind _) = _
        rw [t2 S2 b2, Option.bind_some]
        show (if (1 : Int32) = 0 then _ else ((F_X12_in x2 (0 : Int32) (3 : Int32) S2).bind _)) = _
        have e : F_X12_in x2 (0 : Int32) (3 : Int32) S2 = some (0, S2) := in_f (N := 3) hy S2
        rw [if_neg n10, e, Option.bind_some]
        rfl
    · have hk := (hkd q hq).2.2
      generalize hK : kd.getD q 0 = k at hk
      have e55 : S.2.1 55 q = nI k := by rw [← hK]; exact (hkd q hq).1
      have e98 : S.2.1 98 q = nI k := by rw [← hK]; exact (hkd q hq).2.1
      let S3 : St := fset S1 12 4 (nI q)
      have hlen := acV_len (b := nI q) hk (show a < 4 by omega) x3
      obtain ⟨S4, s1, s2, s3⟩ := ow_any hN (show q < 50 by omega) hk (show a < 4 by omega) x3 S3 [] rfl e55 ⟨rfl, fun i hi => absurd hi (Nat.not_lt_zero i)⟩ (by show 0 + _ ≤ 900; omega)
      rw [List.nil_append] at s2
      let S5 : St := fset S4 63 57 0
      have e98' : S5.2.1 98 q = nI k := by
        show S4.2.1 98 q = nI k
        rw [s3.2.1 98 (by decide)]
        exact e98
      have hb5 : S5.1 63 55 = nI kd.length := (s3.1 63 55 (by decide)).trans b2
      have refr : ∃ S6, F_X12_act (nI q) (nI a) x3 S4 = some ((acV (nI q) k a x3).1, S6) ∧ TR S6 ([] ++ (acV (nI q) k a x3).2) ∧ AgD S5 S6 := by
        have e : F_X12_in (nI a) (0 : Int32) (3 : Int32) S5 = some (1, S5) := in_t ha (by decide) S5
        have stp : F_X12_act (nI q) (nI a) x3 S4 = (if nI a = 0 then ((F_X12_cueing (nI q) x3 S5).bind (fun r_31 => some (r_31.1, r_31.2))) else (if nI a = 1 then ((F_X12_holding (nI q) x3 S5).bind (fun r_45 => some (r_45.1, r_45.2))) else (if nI a = 2 then ((F_X12_jumping (nI q) x3 S5).bind (fun r_59 => some (r_59.1, r_59.2))) else ((F_X12_prompting (nI q) x3 S5).bind (fun r_68 => some (r_68.1, r_68.2)))))) := by
          unfold F_X12_act
          show ((F_X12_isBody (nI q) S5).bind _) = _
          rw [t2 S5 hb5, Option.bind_some]
          show (if (1 : Int32) = 0 then _ else ((F_X12_in (nI a) (0 : Int32) (3 : Int32) S5).bind _)) = _
          rw [if_neg n10, e, Option.bind_some]
          rfl
        have hT5 : TR S5 [] := ⟨rfl, fun i hi => absurd hi (Nat.not_lt_zero i)⟩
        have hq50 : q < 50 := by omega
        rw [stp]
        rcases (show a = 0 ∨ a = 1 ∨ a = 2 ∨ a = 3 by omega) with rfl | rfl | rfl | rfl
        · rw [if_pos (by decide)]
          exact (ref_cue hq50 hk x3).id S5 [] e98' hT5 (by show 0 + _ ≤ 900; exact Nat.le_trans (Nat.le_of_eq (Nat.zero_add _)) hlen)
        · rw [if_neg (by decide), if_pos (by decide)]
          exact (ref_hol hq50 hk x3).id S5 [] e98' hT5 (by show 0 + _ ≤ 900; exact Nat.le_trans (Nat.le_of_eq (Nat.zero_add _)) hlen)
        · rw [if_neg (by decide), if_neg (by decide), if_pos (by decide)]
          exact (ref_jum hq50 hk x3).id S5 [] e98' hT5 (by show 0 + _ ≤ 900; exact Nat.le_trans (Nat.le_of_eq (Nat.zero_add _)) hlen)
        · rw [if_neg (by decide), if_neg (by decide), if_neg (by decide)]
          exact (ref_pro hq50 hk x3).id S5 [] e98' hT5 (by show 0 + _ ≤ 900; exact Nat.le_trans (Nat.le_of_eq (Nat.zero_add _)) hlen)
      obtain ⟨S6, r1, r2, r3⟩ := refr
      rw [List.nil_append] at r2
      have zC : AgO fZ aZ lX S3 S4 := AgO.weak s3 (fun c s w => fZ_c w) (fun k w => aZ_c w) (fun _ _ => rfl)
      have zD : AgO fZ aZ lX S5 S6 := AgO.weak r3 (fun c s w => fZ_d w) (fun k w => aZ_d w) (fun _ _ => rfl)
      have zAll : AgO fZ aZ lX S S6 := AgO.trans (AgO.trans (AgO.fset (AgO.fset AgO.rfl _ (by decide)) _ (by decide)) zC) (AgO.trans (AgO.fset AgO.rfl _ (by decide)) zD)
      have clAll : AgO fCl aCl lNo S S6 := AgO.trans (AgO.trans (AgO.fset (AgO.fset (k := 12) (i := 1) AgO.rfl 0 (by decide)) _ (by decide)) (AgO.weak s3 (fun c s w => by have := fCl_mem w; refine not_t (fun z => ?_); have := of_decide_eq_true z; omega) (fun k w => by have := aCl_mem w; refine not_t (fun z => ?_); have := of_decide_eq_true z; omega) (fun k w => by cases w))) (AgO.trans (AgO.fset AgO.rfl _ (by decide)) (AgO.weak r3 (fun c s w => by have := fCl_mem w; refine not_t (fun z => ?_); have := of_decide_eq_true z; omega) (fun k w => by have := aCl_mem w; refine not_t (fun z => ?_); have := of_decide_eq_true z; omega) (fun k w => by cases w)))
      have rlAll : AgO fRl aRl lNo S S6 := AgO.trans (AgO.trans (AgO.fset (AgO.fset (k := 12) (i := 1) AgO.rfl 0 (by decide)) _ (by decide)) (AgO.weak s3 (fun c s w => by have := fRl_mem w; refine not_t (fun z => ?_); have := of_decide_eq_true z; omega) (fun k w => by have := aRl_mem w; refine not_t (fun z => ?_); have := of_decide_eq_true z; omega) (fun k w => by cases w))) (AgO.trans (AgO.fset AgO.rfl _ (by decide)) (AgO.weak r3 (fun c s w => by have := fRl_mem w; refine not_t (fun z => ?_); have := of_decide_eq_true z; omega) (fun k w => by have := aRl_mem w; refine not_t (fun z => ?_); have := of_decide_eq_true z; omega) (fun k w => by cases w)))
      have c121 : S6.1 12 1 = nI (acV (nI q) k a x3).2.length := (r3.1 12 1 (by decide)).trans s2.1
      have c56 : S6.2.1 56 = S4.2.1 56 := r3.2.1 56 (by decide)
      refine ⟨(acV (nI q) k a x3).1, S4, S6, ?_, r1, V, kd, hI.trace zAll (play_iff.mpr ⟨ok, hc.agree clAll, hr.agree rlAll⟩) ⟨(acV (nI q) k a x3).2.length, by omega, c121, r2.1, fun i hi hi2 => ?_⟩⟩
      · unfold F_X11_act F_X0_perform
        show ((F_X0_has (nI q) S1).bind (fun r_7 => if r_7.1 = 0 then (some (0, r_7.2)) else (if nI a < 0 then (some (0, r_7.2)) else (if nI a < 4 then ((FF_X0_own N (nI a) x3 (0 : Int32) (fset r_7.2 12 4 (nI q))).bind (fun r_33 => some (r_33.1, r_33.2))) else (some (0, r_7.2)))))).bind (fun r => some (r.1, r.2)) = _
        rw [t1, Option.bind_some]
        show ((if (1 : Int32) = 0 then _ else (if nI a < 0 then (some (0, S1)) else (if nI a < 4 then ((FF_X0_own N (nI a) x3 (0 : Int32) S3).bind (fun r_33 => some (r_33.1, r_33.2))) else (some (0, S1)))) : Option (Int32 × St)).bind (fun r => some (r.1, r.2))) = _
        have s1' : FF_X0_own N (nI a) x3 (0 : Int32) S3 = some ((acV (nI q) k a x3).1, S4) := s1
        rw [if_neg n10, if_neg (nI_pos (by omega)), if_pos (show nI a < 4 from nI_lt (b := 4) (by omega) (by decide)), s1']
        rfl
      · rw [c56, s2.2 i hi hi2, r2.2 i hi hi2]
  · refine zero ?_ ?_
    · unfold F_X11_act F_X0_perform
      have t1 : F_X0_has x1 S1 = some (0, S1) := F_has0_f hl b1 hx
      show ((F_X0_has x1 S1).bind _).bind _ = _
      rw [t1, Option.bind_some]
      rfl
    · unfold F_X12_act
      have t2 : F_X12_isBody x1 S2 = some (0, S2) := F_isBody_f hl b2 hx
      show ((F_X12_isBody x1 S2).bind _) = _
      rw [t2, Option.bind_some]
      rfl
