theorem Ag.rlq {S S' : St} {V : Nat → Nat → Nat} {L0 L1 : LawT} (h : Ag S S') (hr : RlQ S V L0 L1) : RlQ S' V L0 L1 := ⟨hr.1.agree h.rl, hr.2.1.agree (h.2.1 _ (by decide)) (h.2.1 _ (by decide)) (h.2.1 _ (by decide)) (h.2.1 _ (by decide)) (h.2.1 _ (by decide)) (h.2.1 _ (by decide)), hr.2.2.agree (h.2.1 _ (by decide)) (h.2.1 _ (by decide)) (h.2.1 _ (by decide)) (h.2.1 _ (by decide)) (h.2.1 _ (by decide)) (h.2.1 _ (by decide))⟩
theorem Ag.clq {S S' : St} {V : Nat → Nat → Nat} {L0 L1 : LawT} (h : Ag S S') (hc : ClQ S V L0 L1) : ClQ S' V L0 L1 := ⟨hc.1.agree h.cl, hc.2.1.agree (h.1 _ _ (by decide)) (h.2.1 _ (by decide)), hc.2.2.agree (h.1 _ _ (by decide)) (h.2.1 _ (by decide))⟩
theorem AgG.ag {S S' : St} (h : AgG S S') : Ag S S' := AgO.weak h (fun c s q => fG_of ⟨fXP_s q, fun z => by
  rcases z with ⟨rfl, rfl | rfl⟩ <;> exact absurd q (by decide)⟩) (fun k q => aG_of (fun z => by
  rcases z with rfl | rfl | rfl | rfl | rfl | rfl | rfl | rfl <;> exact absurd q (by decide))) (fun _ _ => rfl)
theorem AgN.ag1 {S S' : St} (h : AgN 1 S S') : Ag S S' := AgO.weak h (fun c s q => fN_of (fun z => by
    subst z
    have q' : (fX 6 s || fP 6 s) = true := q
    have q2 : fX 6 s = true ∨ fP 6 s = true := by rw [Bool.or_eq_true] at q'; exact q'
    rcases q2 with q2 | q2
    · have := of_decide_eq_true q2
      simp only [List.mem_cons, List.not_mem_nil, or_false, Prod.mk.injEq] at this
      omega
    · have := of_decide_eq_true q2
      simp only [List.mem_cons, List.not_mem_nil, or_false, Prod.mk.injEq] at this
      omega)) (fun k q => aN_of (by
    refine ⟨?_, ?_, ?_⟩ <;> (intro z; subst z; exact absurd q (by decide)))) (fun _ _ => rfl)
theorem learn_ag {b : Nat} (hb : b < 2) {S S' : St} (h : AgO fW (fun k => aW k && !decide (k = 42 + b)) lAll S S') : Ag S S' := AgO.weak h (fun c s q => fW_of (fXP_s q)) (fun k q => by
    rw [Bool.and_eq_true]
    refine ⟨aW_of (aXP_s q), ?_⟩
    have hk : ¬ k = 42 + b := by
      intro z
      rcases (show b = 0 ∨ b = 1 by omega) with rfl | rfl <;> (subst z; exact absurd q (by decide))
    simp [hk]) (fun _ _ => rfl)
/-! means -/
def fgW (L : LawT) (V : Nat → Nat → Nat) (w : Nat) (sd : Int32) : Int32 := if w = 0 then nI (nEnd L V sd 60 0) else if w = 1 then nsec L V sd (nEnd L V sd 60 0) else if w = 2 then njp L V sd (nEnd L V sd 60 0) else if w = 3 then nlc L V sd (nEnd L V sd 60 0) else ndr L V sd (nEnd L V sd 60 0)
def mSd (L : LawT) (V : Nat → Nat → Nat) (sd : Int32) : Nat → Int32
  | 0 => sd
  | k + 1 => nz (mSd L V sd k) (nEnd L V (mSd L V sd k) 60 0)
def mSum (L : LawT) (V : Nat → Nat → Nat) (w : Nat) (sd : Int32) : Nat → Int32
  | 0 => 0
  | k + 1 => mSum L V w sd k + fgW L V w (mSd L V sd k)
theorem lt5 {k : Nat} (h : k < 5) : k = 0 ∨ k = 1 ∨ k = 2 ∨ k = 3 ∨ k = 4 := by omega
section
variable {N : Nat} {V : Nat → Nat → Nat} {L L1 : LawT} {sd : Int32}
theorem fig_eq {S : St} {w : Nat} (hw : w < 5) {s : Int32} (h : NC S 1 L V s (nEnd L V s 60 0)) : F_X7_figure 1 (nI w) S = some (fgW L V w s, S) := by
  obtain ⟨n0, n4, n5, n6, n7, -⟩ := h
  unfold F_X7_figure
  rcases lt5 hw with rfl | rfl | rfl | rfl | rfl
  · rw [if_pos (by decide), n0]; rfl
  · rw [if_neg (by decide), if_pos (by decide), n4]; rfl
  · rw [if_neg (by decide), if_neg (by decide), if_pos (by decide), n5]; rfl
  · rw [if_neg (by decide), if_neg (by decide), if_neg (by decide), if_pos (by decide), n6]; rfl
  · rw [if_neg (by decide), if_neg (by decide), if_neg (by decide), if_neg (by decide), n7]; rfl
theorem cl_mean (hN : 130 ≤ N) (ok : OKV V) (hn1 : 1 ≤ V 8 0) {c w : Nat} (hc1 : 1 ≤ c) (hc20 : c ≤ 20) (hw : w < 5) : ∀ (m k n : Nat) (S : St), ClP S V → (∀ i, i < V 8 0 → S.2.1 (42 + 1) i = nI (knW L V i)) → k + m = c → m < n → ∃ S', F_X11_mean_53 N n (nI c) (nI w) (mSd L V sd k) (mSum L V w sd k) (nI k) S = some (mSum L V w sd c / nI c, S') ∧ AgN 1 S S'
  | m, k, 0, S, _, _, _, hn => absurd hn (Nat.not_lt_zero m)
  | 0, k, n + 1, S, hc, hkn, hk, _ => by
    have e : k = c := hk
    refine ⟨S, ?_, AgO.rfl⟩
    show (if nI c ≤ nI k then (gd (decide (¬ nI c = 0)) (some (mSum L V w sd k / nI c, S))) else _) = _
    rw [if_pos (by rw [e]; exact Int32.le_refl _), gd_t (decide_eq_true (nI_ne0 (by omega) (by omega))), e]
  | m + 1, k, n + 1, S, hc, hkn, hk, hn => by
    obtain ⟨S1, s1, s2, s3⟩ := cl_perform hN (b := 1) (by decide) ok hn1 hc hkn (mSd L V sd k)
    obtain ⟨S2, u1, u2⟩ := cl_mean hN ok hn1 hc1 hc20 hw m (k + 1) n S1 (s2.cl (by decide) hc) (fun i hi => by rw [s2.2.1 _ (aN_of (by omega))]; exact hkn i hi) (by omega) (by omega)
    refine ⟨S2, ?_, s2.trans u2⟩
    rw [← u1]
    show (if nI c ≤ nI k then _ else ((F_X7_perform N 1 (mSd L V sd k) S).bind (fun r_69 => (F_X7_figure 1 (nI w) r_69.2).bind (fun r_81 => F_X11_mean_53 N n (nI c) (nI w) r_69.1 (mSum L V w sd k + r_81.1) (nI k + 1) r_81.2)))) = _
    rw [if_neg (nI_ge (by omega) (by omega)), s1, Option.bind_some, nI_1]
    show ((F_X7_figure 1 (nI w) S1).bind (fun r_81 => F_X11_mean_53 N n (nI c) (nI w) (nz (mSd L V sd k) (nEnd L V (mSd L V sd k) 60 0)) (mSum L V w sd k + r_81.1) (nI (k + 1)) r_81.2)) = _
    rw [fig_eq hw s3, Option.bind_some]
    rfl
theorem fig_rl {S : St} {w : Nat} (hw : w < 5) {s : Int32} (h : NR S L V s (nEnd L V s 60 0)) (h0 : S.2.1 89 0 = nI (nEnd L V s 60 0)) : S.2.1 89 w = fgW L V w s := by
  obtain ⟨-, -, n1, n2, n3, n4, -⟩ := h
  rcases lt5 hw with rfl | rfl | rfl | rfl | rfl
  · exact h0
  · exact n1
  · exact n2
  · exact n3
  · exact n4
theorem rl_mean (hN : 130 ≤ N) (ok : OKV V) (w0 : WfL L) (hn1 : 1 ≤ V 8 0) {c w : Nat} (hc1 : 1 ≤ c) (hc20 : c ≤ 20) (hw : w < 5) : ∀ (m k n : Nat) (S : St), RlQ S V L L1 → S.1 63 39 = mSd L V sd k → k + m = c → m < n → ∃ S', F_X12_mean_42 N n (nI c) (nI w) (mSum L V w sd k) (nI k) S = some (mSum L V w sd c / nI c, S') ∧ AgG S S'
  | m, k, 0, S, _, _, _, hn => absurd hn (Nat.not_lt_zero m)
  | 0, k, n + 1, S, hr, hsd, hk, _ => by
    have e : k = c := hk
    refine ⟨S, ?_, AgO.rfl⟩
    show (if nI c ≤ nI k then (gd (decide (¬ nI c = 0)) (some (mSum L V w sd k / nI c, S))) else _) = _
    rw [if_pos (by rw [e]; exact Int32.le_refl _), gd_t (decide_eq_true (nI_ne0 (by omega) (by omega))), e]
  | m + 1, k, n + 1, S, hr, hsd, hk, hn => by
    obtain ⟨S1, s1, s2, s3, s4⟩ := rl_night hN ok w0 hn1 hr (mSd L V sd k) hsd
    obtain ⟨S2, u1, u2⟩ := rl_mean hN ok w0 hn1 hc1 hc20 hw m (k + 1) n S1 (s2.rlq hr) s3.2.1 (by omega) (by omega)
    refine ⟨S2, ?_, s2.trans u2⟩
    rw [← u1]
    show (if nI c ≤ nI k then _ else ((F_X12_goNight N S).bind (fun r_49 => gd (inb (nI w) 5) (F_X12_mean_42 N n (nI c) (nI w) (mSum L V w sd k + (r_49.2.1 89 (Int32.toNatClampNeg (nI w)))) (nI k + 1) r_49)))) = _
    rw [if_neg (nI_ge (by omega) (by omega)), s1, Option.bind_some, gd_t (inb_nI hw (by decide)), nI_clamp (by omega), fig_rl hw s3 s4, nI_1]
    rfl
end
theorem F_noFig_t {j : Nat} (hj : j ≤ 4) (S : St) : F_X11_isNoFigure (nI j) S = some (0, S) := by
  rw [F_noFig, bI_f (by rw [decide_eq_true ⟨nI_pos (by omega), nI_le (b := 4) hj (by decide)⟩]; rfl)]
theorem F_noFig_f {x : Int32} (hx : x < 0 ∨ nI 4 < x) (S : St) : F_X11_isNoFigure x S = some (1, S) := by
  rw [F_noFig, bI_t (by rw [decide_eq_false (fun q => hx.elim q.1 (fun z => Int32.not_le.mpr z q.2))]; rfl)]
/-- mean -/
theorem st_mean {N : Nat} (hN : 130 ≤ N) {S : St} (h : Inv S) (x y w : Int32) : Both (F_X11_mean N x y w) (F_X12_mean N x y w) S := by
  obtain ⟨V, kd, hI⟩ := id h
  obtain ⟨ok, L0, L1, w0, w1, hc, hr⟩ := hI.ready
  have h20 := ok.1
  have n10 : ¬ (1 : Int32) = 0 := by decide
  by_cases y1 : y < 1
  · refine both_ro h (r := -1) ?_ ?_
    · unfold F_X11_mean
      rw [if_pos y1]
    · unfold F_X12_mean
      rw [F_in, bI_f (decide_eq_false (fun q => q.1 y1))]
      rfl
  by_cases y2 : 20 < y
  · refine both_ro h (r := -1) ?_ ?_
    · unfold F_X11_mean
      rw [if_neg y1, if_pos y2]
    · unfold F_X12_mean
      rw [F_in, bI_f (decide_eq_false (fun q => q.2 y2))]
      rfl
  have hin : ∀ T : St, F_X12_in y (1 : Int32) (20 : Int32) T = some (1, T) := fun T => by
    rw [F_in, bI_t (decide_eq_true ⟨y1, y2⟩)]
  rcases (rng w 4 (by decide)).symm with hw | ⟨j, hj, rfl⟩
  · refine both_ro h (r := -1) ?_ ?_
    · unfold F_X11_mean
      rw [if_neg y1, if_neg y2]
      simp only [F_noFig_f hw, Option.bind_some, if_neg n10]
    · unfold F_X12_mean
      have e : F_X12_in w (0 : Int32) (4 : Int32) S = some (0, S) := in_f (N := 4) hw S
      simp only [hin, Option.bind_some, if_neg n10, e, if_true]
  have e : ∀ T : St, F_X12_in (nI j) (0 : Int32) (4 : Int32) T = some (1, T) := fun T => in_t hj (by decide) T
  by_cases hn0 : V 8 0 = 0
  · refine both_ro h (r := -5) ?_ ?_
    · unfold F_X11_mean
      rw [if_neg y1, if_neg y2]
      simp only [F_noFig_t hj, Option.bind_some, if_true, if_pos (show S.1 1 0 = 0 by rw [hc.1.1, hn0]; rfl)]
    · unfold F_X12_mean
      simp only [hin, Option.bind_some, if_neg n10, e, if_pos (show S.1 63 1 = 0 by rw [hr.1.1, hn0]; rfl)]
  have h0y : ¬ y < 0 := fun q => y1 (Int32.lt_trans q (by decide))
  obtain ⟨c, hc20, rfl⟩ := nI_of2 (M := 20) (n := 20) (by decide) h0y (Int32.not_lt.mp y2)
  have hc1 : 1 ≤ c := by
    rcases Nat.eq_zero_or_pos c with q | q
    · exact absurd (by rw [q]; decide) y1
    · exact q
  obtain ⟨S1, s1, s2, s3⟩ := cl_learn (b := 1) hN (by decide) ok w0 (V 8 0) 0 N S hc (fun j hj => absurd hj (Nat.not_lt_zero j)) (by omega) (by omega)
  have a1 : Ag S S1 := learn_ag (by decide) s3
  obtain ⟨S2, u1, u2⟩ := cl_mean (sd := x) hN ok (by omega) hc1 hc20 (show j < 5 by omega) c 0 N S1 (a1.clq hc).1 s2 (by omega) (by omega)
  have a2 : Ag S S2 := a1.trans u2.ag1
  let S3 : St := fset S2 63 39 x
  have a3 : Ag S2 S3 := AgO.fset AgO.rfl _ (by decide)
  obtain ⟨S4, t1, t2⟩ := rl_mean (sd := x) hN ok w0 (by omega) hc1 hc20 (show j < 5 by omega) c 0 N S3 (Ag.rlq (show Ag S S3 from a2.trans a3) hr) rfl (by omega) (by omega)
  refine both_ag h (S1 := S2) (S2 := S4) (r := mSum L0 V j x c / nI c) ?_ a2 ?_ (a3.trans t2.ag)
  · unfold F_X11_mean
    rw [if_neg y1, if_neg y2]
    simp only [F_noFig_t hj, Option.bind_some, if_true, if_neg (show ¬ S.1 1 0 = 0 by rw [hc.1.1]; exact nI_ne0 (by omega) (by omega))]
    have s1' : F_X7_learn N 1 S = some S1 := s1
    rw [s1', Option.bind_some]
    exact u1
  · unfold F_X12_mean
    simp only [hin, Option.bind_some, if_neg n10, e, if_neg (show ¬ S2.1 63 1 = 0 by rw [(a2.rlq hr).1.1]; exact nI_ne0 (by omega) (by omega))]
    exact t1
