/-! the night that is kept -/
def fY (c s : Nat) : Bool := fX c s && !decide (c = 5) && !decide (c = 63 ∧ (s = 33 ∨ s = 40))
def aY (k : Nat) : Bool := aX k && !decide (k ∈ ([36, 38, 40, 90, 91, 92, 93] : List Nat))
theorem ShB.agreeY {S S' : St} {kd : List Nat} {b : Nat} (hb : b < 6) (h : ShB S kd b) (ha : AgO fY aY lX S S') : ShB S' kd b := by
  have q0 : fY (14 + b) 0 = true := (by decide : ∀ b, b < 6 → fY (14 + b) 0 = true) b hb
  have q1 : fY (14 + b) 1 = true := (by decide : ∀ b, b < 6 → fY (14 + b) 1 = true) b hb
  have q2 : fY (14 + b) 2 = true := (by decide : ∀ b, b < 6 → fY (14 + b) 2 = true) b hb
  have q3 : fY (14 + b) 3 = true := (by decide : ∀ b, b < 6 → fY (14 + b) 3 = true) b hb
  have q4 : lX (57 + b) = true := (by decide : ∀ b, b < 6 → lX (57 + b) = true) b hb
  unfold ShB
  rw [ha.1 _ _ q0, ha.1 _ _ q1, ha.1 _ _ q2, ha.1 _ _ q3, ha.2.2 _ q4, ha.2.1 100 (by decide), ha.2.1 101 (by decide), ha.2.2 102 (by decide)]
  exact h
theorem LwB.agreeY {S S' : St} {w : Nat} (hw : w < 2) (h : LwB S w) (ha : AgO fY aY lX S S') : LwB S' w := by
  have q0 : fY (2 + w) 1 = true := (by decide : ∀ b, b < 2 → fY (2 + b) 1 = true) w hw
  have q1 : aY (30 + w) = true := (by decide : ∀ b, b < 2 → aY (30 + b) = true) w hw
  unfold LwB
  rw [ha.1 _ _ q0, ha.2.1 _ q1, ha.2.1 84 (by decide), ha.2.1 79 (by decide), ha.2.1 77 (by decide), ha.2.1 78 (by decide), ha.2.1 80 (by decide), ha.2.1 81 (by decide)]
  exact h
/-- another night, all else as it was -/
theorem InvV.night {S S' : St} {V : Nat → Nat → Nat} {kd : List Nat} (h : InvV S V kd) (ha : AgO fY aY lX S S') (hP : PlayB S' V) (hN : INight (S'.1 5 0) (S'.1 5 4) (S'.1 5 5) (S'.1 5 6) (S'.1 5 7) (S'.1 63 33) (S'.1 63 40) (S'.2.1 36) (S'.2.1 38) (S'.2.1 40) (S'.2.1 90) (S'.2.1 91) (S'.2.1 92) (S'.2.1 93)) : InvV S' V kd := by
  obtain ⟨_, hT, hB, hTr, hSh, hC, hI, _, hL⟩ := h
  refine ⟨hP, ?_, ?_, ?_, ⟨hSh.1.agreeY (by decide) ha, hSh.2.1.agreeY (by decide) ha, hSh.2.2.1.agreeY (by decide) ha, hSh.2.2.2.1.agreeY (by decide) ha, hSh.2.2.2.2.1.agreeY (by decide) ha, hSh.2.2.2.2.2.agreeY (by decide) ha⟩, ?_, ?_, hN, ⟨hL.1.agreeY (by decide) ha, hL.2.agreeY (by decide) ha⟩⟩
  · rw [ha.1 0 2 (by decide), ha.1 63 19 (by decide), ha.2.1 20 (by decide), ha.2.1 76 (by decide)]
    exact hT
  · rw [ha.1 12 0 (by decide), ha.1 63 55 (by decide), ha.2.1 55 (by decide), ha.2.1 98 (by decide)]
    exact hB
  · rw [ha.1 12 1 (by decide), ha.1 63 57 (by decide), ha.2.1 56 (by decide), ha.2.1 99 (by decide)]
    exact hTr
  · rw [ha.1 11 0 (by decide), ha.1 11 1 (by decide), ha.1 63 12 (by decide), ha.1 63 13 (by decide), ha.2.1 51 (by decide), ha.2.1 52 (by decide), ha.2.1 53 (by decide), ha.2.1 54 (by decide), ha.2.1 72 (by decide), ha.2.1 73 (by decide), ha.2.1 74 (by decide), ha.2.1 75 (by decide)]
    exact hC
  · rw [ha.1 10 0 (by decide), ha.1 10 2 (by decide), ha.1 10 3 (by decide), ha.1 63 50 (by decide), ha.1 63 51 (by decide), ha.1 63 53 (by decide), ha.1 63 54 (by decide), ha.2.1 50 (by decide), ha.2.1 97 (by decide)]
    exact hI
def aK (k : Nat) : Bool := !decide (k ∈ ([90, 91, 92, 93] : List Nat))
def fT (_ _ : Nat) : Bool := true
theorem keep_62 : ∀ (m i n : Nat) (S : St), i + m = 5 → m < n → (∀ j, j < i → S.2.1 93 j = S.2.1 89 j) → ∃ S', F_X12_keepNight_62 n (nI i) S = some S' ∧ (∀ j, j < 5 → S'.2.1 93 j = S.2.1 89 j) ∧ ∃ g, S' = aset S 93 g
  | m, i, 0, S, _, hn, _ => absurd hn (Nat.not_lt_zero m)
  | 0, i, n + 1, S, hi, _, hz => by
    have e : i = 5 := hi
    refine ⟨S, ?_, by rw [← e]; exact hz, S.2.1 93, (aset_self S 93).symm⟩
    show (if 5 ≤ nI i then (some S) else _) = _
    rw [if_pos (show (5 : Int32) ≤ nI i by rw [e]; decide)]
  | m + 1, i, n + 1, S, hi, hn, hz => by
    obtain ⟨S', u1, u2, g, u3⟩ := keep_62 m (i + 1) n (aset S 93 (upd (S.2.1 93) i (S.2.1 89 i))) (by omega) (by omega) (fun j hj => by
      rw [aset_get]
      show upd (S.2.1 93) i (S.2.1 89 i) j = S.2.1 89 j
      by_cases c : j = i
      · rw [c, pk_us]
      · rw [pk_un c]; exact hz j (by omega))
    refine ⟨S', ?_, u2, g, by rw [u3, aset_aset]⟩
    rw [← u1]
    have gi : inb (nI i) 5 = true := inb_nI (by omega) (by decide)
    show (if 5 ≤ nI i then _ else (gd (inb (nI i) 5) (gd (inb (nI i) 5) (F_X12_keepNight_62 n (nI i + 1) (aset S 93 (upd (S.2.1 93) (Int32.toNatClampNeg (nI i)) (S.2.1 89 (Int32.toNatClampNeg (nI i))))))))) = _
    rw [if_neg (show ¬ (5 : Int32) ≤ nI i from nI_ge (b := 5) (by omega) (by decide)), gd_t gi, gd_t gi, nI_clamp (by omega), nI_1]
theorem keep_10 {N K : Nat} (hK : K ≤ 60) : ∀ (m i n : Nat) (S : St), S.1 63 34 = nI K → i + m = K → m < n → (∀ j, j < i → S.2.1 90 j = S.2.1 86 j ∧ S.2.1 91 j = S.2.1 87 j ∧ S.2.1 92 j = S.2.1 88 j) → ∃ S', F_X12_keepNight_10 N n (nI i) S = F_X12_keepNight_62 N 0 S' ∧ (∀ j, j < K → S'.2.1 90 j = S.2.1 86 j ∧ S'.2.1 91 j = S.2.1 87 j ∧ S'.2.1 92 j = S.2.1 88 j) ∧ AgO fT aK lAll S S'
  | m, i, 0, S, _, _, hn, _ => absurd hn (Nat.not_lt_zero m)
  | 0, i, n + 1, S, h34, hi, _, hz => by
    have e : i = K := hi
    refine ⟨S, ?_, by rw [← e]; exact hz, AgO.rfl⟩
    show (if (S.1 63 34) ≤ nI i then (F_X12_keepNight_62 N 0 S) else _) = _
    rw [if_pos (by rw [h34, e]; exact Int32.le_refl _)]
  | m + 1, i, n + 1, S, h34, hi, hn, hz => by
    let S1 : St := aset (aset (aset S 90 (upd (S.2.1 90) i (S.2.1 86 i))) 91 (upd (S.2.1 91) i (S.2.1 87 i))) 92 (upd (S.2.1 92) i (S.2.1 88 i))
    have a1 : AgO fT aK lAll S S1 := AgO.aset (AgO.aset (AgO.aset AgO.rfl _ (by decide)) _ (by decide)) _ (by decide)
    obtain ⟨S', u1, u2, u3⟩ := keep_10 (N := N) hK m (i + 1) n S1 h34 (by omega) (by omega) (fun j hj => by
      show upd (S.2.1 90) i (S.2.1 86 i) j = S.2.1 86 j ∧ upd (S.2.1 91) i (S.2.1 87 i) j = S.2.1 87 j ∧ upd (S.2.1 92) i (S.2.1 88 i) j = S.2.1 88 j
      by_cases c : j = i
      · rw [c, pk_us, pk_us, pk_us]; exact ⟨rfl, rfl, rfl⟩
      · rw [pk_un c, pk_un c, pk_un c]; exact hz j (by omega))
    refine ⟨S', ?_, u2, a1.trans u3⟩
    rw [← u1]
    have gi : inb (nI i) 60 = true := inb_nI (by omega) (by decide)
    show (if (S.1 63 34) ≤ nI i then _ else (gd (inb (nI i) 60) (gd (inb (nI i) 60) (gd (inb (nI i) 60) (gd (inb (nI i) 60) (gd (inb (nI i) 60) (gd (inb (nI i) 60) (F_X12_keepNight_10 N n (nI i + 1) (aset (aset (aset S 90 (upd (S.2.1 90) (Int32.toNatClampNeg (nI i)) (S.2.1 86 (Int32.toNatClampNeg (nI i))))) 91 (upd (S.2.1 91) (Int32.toNatClampNeg (nI i)) (S.2.1 87 (Int32.toNatClampNeg (nI i))))) 92 (upd (S.2.1 92) (Int32.toNatClampNeg (nI i)) (S.2.1 88 (Int32.toNatClampNeg (nI i))))))))))))) = _
    rw [if_neg (by rw [h34]; exact nI_ge (by omega) (by omega)), gd_t gi, gd_t gi, gd_t gi, gd_t gi, gd_t gi, gd_t gi, nI_clamp (by omega), nI_1]
theorem AgN.ag0 {S S' : St} (h : AgN 0 S S') : AgO (fun c s => fY c s || fP c s) (fun k => aY k || aP k) lX S S' := AgO.weak h (fun c s q => fN_of (fun z => by
    subst z
    have q2 : fY 5 s = true ∨ fP 5 s = true := by rw [Bool.or_eq_true] at q; exact q
    rcases q2 with q2 | q2
    · unfold fY at q2
      simp at q2
    · have := of_decide_eq_true q2
      simp only [List.mem_cons, List.not_mem_nil, or_false, Prod.mk.injEq] at this
      omega)) (fun k q => aN_of (by
    refine ⟨?_, ?_, ?_⟩ <;> (intro z; subst z; exact absurd q (by decide)))) (fun _ _ => rfl)
theorem fY_fX {c s : Nat} (h : fY c s = true) : fX c s = true := by
  unfold fY at h
  rw [Bool.and_eq_true, Bool.and_eq_true] at h
  exact h.1.1
theorem aY_aX {k : Nat} (h : aY k = true) : aX k = true := by
  unfold aY at h
  rw [Bool.and_eq_true] at h
  exact h.1
def AgY (S S' : St) : Prop := AgO (fun c s => fY c s || fP c s) (fun k => aY k || aP k) lX S S'
theorem Ag.y {S S' : St} (h : Ag S S') : AgY S S' := AgO.weak h (fun c s q => by
    have q' : fY c s = true ∨ fP c s = true := by rw [Bool.or_eq_true] at q; exact q
    show (fX c s || fP c s) = true
    rw [Bool.or_eq_true]; exact q'.imp fY_fX id) (fun k q => by
    have q' : aY k = true ∨ aP k = true := by rw [Bool.or_eq_true] at q; exact q
    show (aX k || aP k) = true
    rw [Bool.or_eq_true]; exact q'.imp aY_aX id) (fun _ q => q)
theorem AgY.y {S S' : St} (h : AgY S S') : AgO fY aY lX S S' := AgO.weak h (fun c s q => by show (fY c s || fP c s) = true; rw [q]; rfl) (fun k q => by show (aY k || aP k) = true; rw [q]; rfl) (fun _ q => q)
theorem AgY.cl {S S' : St} (h : AgY S S') : AgO fCl aCl lNo S S' := AgO.weak h (fun c s q => by show (fY c s || fP c s) = true; rw [fCl_fP q, Bool.or_true]) (fun k q => by show (aY k || aP k) = true; rw [aCl_aP q, Bool.or_true]) (fun k q => by cases q)
theorem AgY.rl {S S' : St} (h : AgY S S') : AgO fRl aRl lNo S S' := AgO.weak h (fun c s q => by show (fY c s || fP c s) = true; rw [fRl_fP q, Bool.or_true]) (fun k q => by show (aY k || aP k) = true; rw [aRl_aP q, Bool.or_true]) (fun k q => by cases q)
theorem AgY.rlq {S S' : St} {V : Nat → Nat → Nat} {L0 L1 : LawT} (h : AgY S S') (hr : RlQ S V L0 L1) : RlQ S' V L0 L1 := ⟨hr.1.agree h.rl, hr.2.1.agree (h.2.1 _ (by decide)) (h.2.1 _ (by decide)) (h.2.1 _ (by decide)) (h.2.1 _ (by decide)) (h.2.1 _ (by decide)) (h.2.1 _ (by decide)), hr.2.2.agree (h.2.1 _ (by decide)) (h.2.1 _ (by decide)) (h.2.1 _ (by decide)) (h.2.1 _ (by decide)) (h.2.1 _ (by decide)) (h.2.1 _ (by decide))⟩
/-- night -/
theorem st_night {N : Nat} (hN : 130 ≤ N) {S : St} (h : Inv S) (x : Int32) : Both (F_X11_night N x) (F_X12_night N x) S := by
  obtain ⟨V, kd, hI⟩ := id h
  obtain ⟨ok, L0, L1, w0, w1, hc, hr⟩ := hI.ready
  have h20 := ok.1
  by_cases hn0 : V 8 0 = 0
  · refine both_ro h (r := -5) ?_ ?_
    · unfold F_X11_night
      rw [if_pos (show S.1 1 0 = 0 by rw [hc.1.1, hn0]; rfl)]
    · unfold F_X12_night
      rw [if_pos (show S.1 63 1 = 0 by rw [hr.1.1, hn0]; rfl)]
  have hn1 : 1 ≤ V 8 0 := by omega
  obtain ⟨S1, s1, s2, s3⟩ := cl_learn (b := 0) hN (by decide) ok w0 (V 8 0) 0 N S hc (fun j hj => absurd hj (Nat.not_lt_zero j)) (by omega) (by omega)
  have a1 : Ag S S1 := learn_ag (by decide) s3
  obtain ⟨S2, u1, u2, u3⟩ := cl_perform hN (b := 0) (by decide) ok hn1 (a1.clq hc).1 s2 x
  have a2 : AgY S S2 := AgO.trans a1.y u2.ag0
  generalize hK : nEnd L0 V x 60 0 = K at u1 u3
  have hKle : K ≤ 60 := by have := (nEnd_le L0 V x 60 0).2; omega
  have hK1 : 1 ≤ K := by
    have e : nEnd L0 V x 60 0 = nEnd L0 V x 59 1 := nEnd_go L0 V x (m := 59) (k := 0) (show ¬ V 8 0 ≤ 0 by omega)
    have := (nEnd_le L0 V x 59 1).1
    omega
  let S3 : St := fset S2 63 39 x
  have a3 : Ag S2 S3 := AgO.fset AgO.rfl _ (by decide)
  have hr3 : RlQ S3 V L0 L1 := a3.rlq (a2.rlq hr)
  obtain ⟨S4, t1, t2, t3, t4⟩ := rl_night hN ok w0 hn1 hr3 x rfl
  rw [hK] at t3 t4
  let S5 : St := fset (fset S4 63 33 1) 63 40 (S4.1 63 34)
  have hS5 : S5.1 63 34 = nI K := t3.1
  obtain ⟨S6, v1, v2, v3⟩ := keep_10 (N := N) hKle K 0 N S5 hS5 (by omega) (by omega) (fun j hj => absurd hj (Nat.not_lt_zero j))
  obtain ⟨S7, x1, x2, g, x3⟩ := keep_62 5 0 N S6 (by omega) (by omega) (fun j hj => absurd hj (Nat.not_lt_zero j))
  have a5 : AgO (fun c s => !decide (c = 63 ∧ (s = 33 ∨ s = 40))) (fun _ => true) lAll S4 S5 := AgO.fset (AgO.fset AgO.rfl _ (by decide)) _ (by decide)
  have a7 : AgO fT aK lAll S5 S7 := by rw [x3]; exact AgO.aset v3 _ (by decide)
  have a57 : AgY S4 S7 := by
    refine AgO.trans (AgO.weak a5 (fun c s q => ?_) (fun _ _ => rfl) (fun _ _ => rfl)) (AgO.weak a7 (fun _ _ _ => rfl) (fun k q => ?_) (fun _ _ => rfl))
    · have q' : fY c s = true ∨ fP c s = true := by rw [Bool.or_eq_true] at q; exact q
      rcases q' with q' | q'
      · unfold fY at q'
        rw [Bool.and_eq_true] at q'
        exact q'.2
      · refine not_t (fun z => ?_)
        have z' := of_decide_eq_true z
        have := of_decide_eq_true q'
        simp only [List.mem_cons, List.not_mem_nil, or_false, Prod.mk.injEq] at this
        omega
    · have q' : aY k = true ∨ aP k = true := by rw [Bool.or_eq_true] at q; exact q
      refine not_t (fun z => ?_)
      have z' := of_decide_eq_true z
      simp only [List.mem_cons, List.not_mem_nil, or_false] at z'
      rcases z' with rfl | rfl | rfl | rfl <;> exact absurd q (by decide)
  have aAll : AgY S S7 := AgO.trans a2 (AgO.trans a3.y (AgO.trans t2.ag.y a57))
  -- from the class's night on, its cells stay
  have b34 : AgO (fun c _ => decide (c = 5)) (fun k => decide (k ∈ ([36, 38, 40] : List Nat))) lNo S2 S7 := by
    refine AgO.trans (AgO.trans (AgO.fset (k := 63) (i := 39) AgO.rfl x (by decide)) (AgO.weak t2 (fun c s q => ?_) (fun k q => ?_) (fun k q => by cases q))) (AgO.trans (AgO.weak a5 (fun c s q => ?_) (fun _ _ => rfl) (fun _ _ => rfl)) (AgO.weak a7 (fun _ _ _ => rfl) (fun k q => ?_) (fun _ _ => rfl)))
    · have := of_decide_eq_true q
      exact fG_of (by omega)
    · have := of_decide_eq_true q
      simp only [List.mem_cons, List.not_mem_nil, or_false] at this
      exact aG_of (by omega)
    · have := of_decide_eq_true q
      simp only [Bool.not_eq_true', decide_eq_false_iff_not]
      omega
    · have := of_decide_eq_true q
      simp only [List.mem_cons, List.not_mem_nil, or_false] at this
      rcases this with rfl | rfl | rfl <;> decide
  have f33 : S7.1 63 33 = 1 := a7.1 63 33 rfl
  have f40 : S7.1 63 40 = nI K := (a7.1 63 40 rfl).trans t3.1
  have f34 : S7.1 63 34 = nI K := (a7.1 63 34 rfl).trans hS5
  have hplay : PlayB S7 V := play_iff.mpr ⟨ok, hc.1.agree aAll.cl, hr.1.agree aAll.rl⟩
  obtain ⟨c0, c4, c5, c6, c7, c8⟩ := u3
  obtain ⟨r0, r1, r2, r3, r4, r5, r6⟩ := t3
  have e89 : S6.2.1 89 = S4.2.1 89 := v3.2.1 89 (by decide)
  have n93 : ∀ j, j < 5 → S7.2.1 93 j = S4.2.1 89 j := fun j hj => by rw [x2 j hj, e89]
  have n90 : S7.2.1 90 = S6.2.1 90 := by rw [x3]; rfl
  have n91 : S7.2.1 91 = S6.2.1 91 := by rw [x3]; rfl
  have n92 : S7.2.1 92 = S6.2.1 92 := by rw [x3]; rfl
  have hnight : INight (S7.1 5 0) (S7.1 5 4) (S7.1 5 5) (S7.1 5 6) (S7.1 5 7) (S7.1 63 33) (S7.1 63 40) (S7.2.1 36) (S7.2.1 38) (S7.2.1 40) (S7.2.1 90) (S7.2.1 91) (S7.2.1 92) (S7.2.1 93) := by
    rw [b34.1 5 0 (by decide), b34.1 5 4 (by decide), b34.1 5 5 (by decide), b34.1 5 6 (by decide), b34.1 5 7 (by decide), b34.2.1 36 (by decide), b34.2.1 38 (by decide), b34.2.1 40 (by decide)]
    refine Or.inr ⟨f33, K, hK1, hKle, c0, f40, (n93 0 (by decide)).trans t4, ((n93 1 (by decide)).trans r2).trans c4.symm, ((n93 2 (by decide)).trans r3).trans c5.symm, ((n93 3 (by decide)).trans r4).trans c6.symm, ((n93 4 (by decide)).trans r5).trans c7.symm, fun i hi => ?_⟩
    obtain ⟨p1, p2, p3⟩ := c8 i hi
    obtain ⟨q1, q2, q3⟩ := r6 i hi
    obtain ⟨z1, z2, z3⟩ := v2 i hi
    rw [n90, n91, n92, z1, z2, z3]
    exact ⟨p1.trans q1.symm, p2.trans q2.symm, p3.trans q3.symm⟩
  refine ⟨nI K, S2, S7, ?_, ?_, V, kd, hI.night aAll.y hplay hnight⟩
  · unfold F_X11_night
    have s1' : F_X7_learn N 0 S = some S1 := s1
    rw [if_neg (show ¬ S.1 1 0 = 0 by rw [hc.1.1]; exact nI_ne0 (by omega) (by omega)), s1', Option.bind_some, u1, Option.bind_some]
    exact congrArg (fun z => some (z, S2)) c0
  · unfold F_X12_night
    rw [if_neg (show ¬ S2.1 63 1 = 0 by rw [(a2.rlq hr).1.1]; exact nI_ne0 (by omega) (by omega))]
    show ((F_X12_goNight N S3).bind (fun r_16 => (F_X12_keepNight N (fset r_16 63 33 1)).bind (fun r_25 => some (r_25.1 63 34, r_25)))) = _
    rw [t1, Option.bind_some]
    have kk : F_X12_keepNight N (fset S4 63 33 1) = some S7 := by
      unfold F_X12_keepNight
      have v1' : F_X12_keepNight_10 N N 0 S5 = F_X12_keepNight_62 N 0 S6 := v1
      have x1' : F_X12_keepNight_62 N 0 S6 = some S7 := x1
      exact v1'.trans x1'
    rw [kk, Option.bind_some, f34]
