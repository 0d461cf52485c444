theorem OKV.held {V : Nat → Nat → Nat} (ok : OKV V) {k x : Nat} (hx : x ≤ 100) : OKV (setV V 6 k x) := by
  refine ⟨ok.1, ok.2.1, ok.2.2.1, fun i hi => ?_, ok.2.2.2.2⟩
  obtain ⟨q0, q1, q2, q3, q4, q5, q6, q7⟩ := ok.2.2.2.1 i hi
  refine ⟨q0, q1, q2, q3, q4, q5, q6, ?_⟩
  show (if i = k then x else V 6 i) < 101
  by_cases c : i = k
  · rw [if_pos c]; omega
  · rw [if_neg c]; exact q7
theorem ClP.held {S : St} {V : Nat → Nat → Nat} (h : ClP S V) (k x : Nat) : ClP (aset S 27 (upd (S.2.1 27) k (nI x))) (setV V 6 k x) := by
  refine ⟨h.1, h.2.1, h.2.2.1, fun i hi => ?_, h.2.2.2.2.1, h.2.2.2.2.2⟩
  obtain ⟨q0, q1, q2, q3, q4, q5, q6⟩ := h.2.2.2.1 i hi
  refine ⟨q0, q1, q2, q3, q4, q5, ?_⟩
  show upd (S.2.1 27) k (nI x) i = nI (if i = k then x else V 6 i)
  by_cases c : i = k
  · rw [if_pos c, c, pk_us]
  · rw [if_neg c, pk_un c]; exact q6
theorem RlP.held {S : St} {V : Nat → Nat → Nat} (h : RlP S V) (k x : Nat) : RlP (aset S 70 (upd (S.2.1 70) k (nI x))) (setV V 6 k x) := by
  refine ⟨h.1, h.2.1, h.2.2.1, fun i hi => ?_, h.2.2.2.2⟩
  obtain ⟨q0, q1, q2, q3, q4, q5, q6⟩ := h.2.2.2.1 i hi
  refine ⟨q0, q1, q2, q3, q4, q5, ?_⟩
  show upd (S.2.1 70) k (nI x) i = nI (if i = k then x else V 6 i)
  by_cases c : i = k
  · rw [if_pos c, c, pk_us]
  · rw [if_neg c, pk_un c]; exact q6
theorem min100 {a : Nat} (h : a < 2 ^ 31) : (if nI a < (100 : Int32) then nI a else 100) = nI (if a ≤ 100 then a else 100) := by
  by_cases c : a < 100
  · rw [if_pos (h_lt c), if_pos (by omega)]
  · rw [if_neg (h_nlt (by omega) h)]
    by_cases d : a ≤ 100
    · rw [if_pos d, show a = 100 by omega]; rfl
    · rw [if_neg d]; rfl
theorem rl_heldThen {N : Nat} (hN : 130 ≤ N) {S : St} {V : Nat → Nat → Nat} (ok : OKV V) (hr : RlP S V) {L : LawT} (hL : WfL L) (hR : RlL S 1 L) {k : Nat} (hk : k < V 8 0) : ∃ S', F_X12_heldThen N (nI k) S = some (nI (if V 6 k + gnW L V k (V 6 k) ≤ 100 then V 6 k + gnW L V k (V 6 k) else 100), S') ∧ AgW S S' := by
  have h20 := ok.1
  have e27 := (hr.2.2.2.1 k hk).2.2.2.2.2.2
  have b6 : V 6 k < 101 := (ok.2.2.2.1 k hk).2.2.2.2.2.2.2
  have bg := gnW_le L V k (V 6 k)
  obtain ⟨S', s1, s2⟩ := rl_gains hN ok hr hL hR hk
  refine ⟨S', ?_, s2⟩
  unfold F_X12_heldThen
  rw [gd_t (inb_nI (by omega) (by decide)), nI_clamp (by omega), s1, Option.bind_some, e27, nI_add, held_eq, clN_nI (by omega)]
  rfl
/-- rehearse -/
theorem st_rehearse {N : Nat} (hN : 130 ≤ N) {S : St} (h : Inv S) (x : Int32) : Both (F_X11_rehearse N x) (F_X12_rehearse N x) S := by
  obtain ⟨V, kd, hI⟩ := id h
  obtain ⟨ok, hc, hr, L0, L1, w0, w1, c0, c1, r0, r1⟩ := hI.parts
  have h20 := ok.1
  have n10 : ¬ (1 : Int32) = 0 := by decide
  rcases line_or x (V 8 0) with ⟨k, hk, rfl⟩ | hx
  · have b6 : V 6 k < 101 := (ok.2.2.2.1 k hk).2.2.2.2.2.2.2
    have bg := gnW_le L1 V k (V 6 k)
    have hik : inb (nI k) 20 = true := inb_nI (by omega) (by decide)
    have hck : Int32.toNatClampNeg (nI k) = k := nI_clamp (by omega)
    have a27 := (hc.2.2.2.1 k hk).2.2.2.2.2.2
    obtain ⟨S1, s1, s2⟩ := cl_gains (h := V 6 k) hN ok hc w1 c1 hk (by omega)
    let v : Nat := if V 6 k + gnW L1 V k (V 6 k) ≤ 100 then V 6 k + gnW L1 V k (V 6 k) else 100
    have hv : v ≤ 100 := by show (if _ then _ else _) ≤ 100; split <;> omega
    let S2 : St := aset S1 27 (upd (S1.2.1 27) k (nI v))
    have q1 : AgO fRl aRl lNo S1 S2 := AgO.aset AgO.rfl _ (by decide)
    have hr2 : RlP S2 V := (s2.rl hr).agree q1
    have rr2 : RlL S2 1 L1 := (s2.rll r1)
    obtain ⟨S3, s3, s4⟩ := rl_heldThen hN ok hr2 w1 rr2 hk
    let S4 : St := aset S3 70 (upd (S3.2.1 70) k (nI v))
    have hcl : ClP S4 (setV V 6 k v) := (s4.cl ((s2.cl hc).held k v)).agree (AgO.aset AgO.rfl _ (by decide))
    have hrl : RlP S4 (setV V 6 k v) := (s4.rl hr2).held k v
    have hag : AgO fX aX lX S S4 := AgO.aset ((AgO.aset s2.ag.x _ (by decide)).trans s4.ag.x) _ (by decide)
    refine ⟨nI v, S2, S4, ?_, ?_, setV V 6 k v, kd, hI.play hag (play_iff.mpr ⟨ok.held hv, hcl, hrl⟩) (Nat.le_refl _)⟩
    · unfold F_X11_rehearse
      rw [F_has8_t hc.1 h20 hk, Option.bind_some]
      show (if (1 : Int32) = 0 then _ else gd (inb (nI k) 20) ((F_X8_gains N (nI k) (S.2.1 27 (Int32.toNatClampNeg (nI k))) S).bind (fun r => gd (inb (nI k) 20) (gd (inb (nI k) 20) (some ((aset r.2 27 (upd (r.2.2.1 27) (Int32.toNatClampNeg (nI k)) (if ((S.2.1 27 (Int32.toNatClampNeg (nI k))) + r.1) < (100 : Int32) then (S.2.1 27 (Int32.toNatClampNeg (nI k))) + r.1 else 100))).2.1 27 (Int32.toNatClampNeg (nI k)), aset r.2 27 (upd (r.2.2.1 27) (Int32.toNatClampNeg (nI k)) (if ((S.2.1 27 (Int32.toNatClampNeg (nI k))) + r.1) < (100 : Int32) then (S.2.1 27 (Int32.toNatClampNeg (nI k))) + r.1 else 100)))))))) = _
      rw [if_neg n10, gd_t hik, hck, a27, s1, Option.bind_some, gd_t hik, gd_t hik]
      show some ((aset S1 27 (upd (S1.2.1 27) k (if (nI (V 6 k) + nI (gnW L1 V k (V 6 k))) < (100 : Int32) then nI (V 6 k) + nI (gnW L1 V k (V 6 k)) else 100))).2.1 27 k, aset S1 27 (upd (S1.2.1 27) k (if (nI (V 6 k) + nI (gnW L1 V k (V 6 k))) < (100 : Int32) then nI (V 6 k) + nI (gnW L1 V k (V 6 k)) else 100))) = _
      rw [nI_add, min100 (by omega), aset_get, pk_us]
    · unfold F_X12_rehearse
      rw [F_isLine_t hk h20 hr2.1, Option.bind_some]
      show (if (1 : Int32) = 0 then _ else ((F_X12_heldThen N (nI k) S2).bind (fun r => gd (inb (nI k) 20) (gd (inb (nI k) 20) (some ((aset r.2 70 (upd (r.2.2.1 70) (Int32.toNatClampNeg (nI k)) r.1)).2.1 70 (Int32.toNatClampNeg (nI k)), aset r.2 70 (upd (r.2.2.1 70) (Int32.toNatClampNeg (nI k)) r.1))))))) = _
      rw [if_neg n10, s3, Option.bind_some, gd_t hik, gd_t hik, hck, aset_get, pk_us]
  · refine both_ro h (r := -1) ?_ ?_
    · unfold F_X11_rehearse
      simp only [F_has8_f h20 hc.1 hx, Option.bind_some, if_true]
    · unfold F_X12_rehearse
      simp only [F_isLine_f h20 hr.1 hx, Option.bind_some, if_true]
