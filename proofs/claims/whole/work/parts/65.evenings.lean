/-- the play with other held -/
def VH (V : Nat → Nat → Nat) (H : Nat → Nat) : Nat → Nat → Nat := fun a i => if a = 6 then H i else V a i
theorem VH_self (V : Nat → Nat → Nat) : VH V (V 6) = V := by
  funext a i
  unfold VH
  by_cases c : a = 6
  · rw [if_pos c, c]
  · rw [if_neg c]
theorem VH_set (V : Nat → Nat → Nat) (H : Nat → Nat) (b x : Nat) : setV (VH V H) 6 b x = VH V (fun i => if i = b then x else H i) := by
  funext a i
  show (if a = 6 then (if i = b then x else (if a = 6 then H i else V a i)) else (if a = 6 then H i else V a i)) = (if a = 6 then (if i = b then x else H i) else V a i)
  by_cases c : a = 6
  · rw [if_pos c, if_pos c, if_pos c]
  · rw [if_neg c, if_neg c, if_neg c]
theorem OKV.vh {V : Nat → Nat → Nat} (ok : OKV V) {H : Nat → Nat} (h : ∀ i, i < V 8 0 → H i ≤ 100) : OKV (VH V H) := by
  refine ⟨ok.1, ok.2.1, ok.2.2.1, fun i hi => ?_, ok.2.2.2.2⟩
  obtain ⟨q0, q1, q2, q3, q4, q5, q6, q7⟩ := ok.2.2.2.1 i hi
  have := h i hi
  exact ⟨q0, q1, q2, q3, q4, q5, q6, by show H i < 101; omega⟩
theorem gnW_vh (L : LawT) (V : Nat → Nat → Nat) (H : Nat → Nat) (i h : Nat) : gnW L (VH V H) i h = gnW L V i h := by
  cases L <;> rfl
theorem evH_fun (L : LawT) (V : Nat → Nat → Nat) (e : Nat) : evH L V (e + 1) = fun i => if i = evB L V e then evH L V e (evB L V e) + evG L V (evH L V e) (evB L V e) else evH L V e i := by
  funext i
  rw [evH_succ]
  by_cases c : i = evB L V e
  · rw [if_pos c, if_pos c, c]
  · rw [if_neg c, if_neg c]
/-- all cells but those of the reference's evenings -/
def aF (k : Nat) : Bool := !decide (k ∈ ([32, 33, 82, 83, 70, 94, 95, 96] : List Nat))
def AgF (S S' : St) : Prop := AgO fW aF lAll S S'
theorem aF_aW {k : Nat} (h : aF k = true) : aW k = true := by
  refine aW_of ?_
  rintro (rfl | rfl | rfl | rfl) <;> exact absurd h (by decide)
theorem AgW.f {S S' : St} (h : AgW S S') : AgF S S' := AgO.weak h (fun _ _ q => q) (fun _ q => aF_aW q) (fun _ q => q)
theorem AgF.rll {S S' : St} {w : Nat} {L : LawT} (h : AgF S S') (hr : RlL S w L) : RlL S' w L := hr.agree (h.2.1 _ (by decide)) (h.2.1 _ (by decide)) (h.2.1 _ (by decide)) (h.2.1 _ (by decide)) (h.2.1 _ (by decide)) (h.2.1 _ (by decide))
section
variable {N : Nat} {V : Nat → Nat → Nat} {L1 : LawT}
/-- the reference's evenings e spent -/
def ER (S : St) (L : LawT) (V : Nat → Nat → Nat) (e : Nat) : Prop := RlP S (VH V (evH L V e)) ∧ RlL S 1 L ∧ ∀ i, i < V 8 0 → S.2.1 94 i = nI (V 6 i) ∧ S.2.1 95 i = nI (evTm L V e i) ∧ S.2.1 96 i = nI (evW V i)
theorem ER.agree {S S' : St} {e : Nat} (h : AgW S S') (hE : ER S L1 V e) : ER S' L1 V e := by
  refine ⟨h.rl hE.1, h.rll hE.2.1, ?_⟩
  rw [h.2.1 94 (by decide), h.2.1 95 (by decide), h.2.1 96 (by decide)]
  exact hE.2.2
theorem rl_ev37 (hN : 130 ≤ N) (ok : OKV V) (x1 x2 : Int32) : ∀ (m i n : Nat) (S : St), RlP S V → RlL S 1 L1 → (∀ j, j < i → S.2.1 94 j = nI (V 6 j) ∧ S.2.1 95 j = 0 ∧ S.2.1 96 j = nI (evW V j)) → i + m = V 8 0 → m < n → ∃ S', F_X12_evenings_37 N n x1 x2 (nI i) S = F_X12_evenings_100 N N x1 x2 0 S' ∧ AgF S S' ∧ ER S' L1 V 0
  | m, i, 0, S, _, _, _, _, hn => absurd hn (Nat.not_lt_zero m)
  | 0, i, n + 1, S, hr, hl, hj, hi, _ => by
    have e : i = V 8 0 := hi
    refine ⟨S, ?_, AgO.rfl, ?_, hl, ?_⟩
    · show (if (S.1 63 1) ≤ nI i then (F_X12_evenings_100 N N x1 x2 0 S) else _) = _
      rw [if_pos (by rw [hr.1, e]; exact Int32.le_refl _)]
    · show RlP S (VH V (V 6))
      rw [VH_self]; exact hr
    · rw [← e]; exact hj
  | m + 1, i, n + 1, S, hr, hl, hj, hi, hn => by
    have h20 := ok.1
    have hii : i < V 8 0 := by omega
    have gi : inb (nI i) 20 = true := inb_nI (by omega) (by decide)
    have ci : Int32.toNatClampNeg (nI i) = i := nI_clamp (by omega)
    have e67 := (hr.2.2.2.1 i hii).2.2.2.1
    have e70 := (hr.2.2.2.1 i hii).2.2.2.2.2.2
    let S1 : St := aset (aset S 94 (upd (S.2.1 94) i (nI (V 6 i)))) 95 (upd (S.2.1 95) i 0)
    have b1 : AgO fRl aRl lNo S S1 := AgO.aset (AgO.aset AgO.rfl _ (by decide)) _ (by decide)
    have hr1 : RlP S1 V := hr.agree b1
    let S2 : St := aset S1 96 (upd (S.2.1 96) i (nI (evW V i)))
    have a2 : AgF S S2 := AgO.aset (AgO.aset (AgO.aset AgO.rfl _ (by decide)) _ (by decide)) _ (by decide)
    have hr2 : RlP S2 V := hr1.agree (AgO.aset AgO.rfl _ (by decide))
    obtain ⟨S3, u1, u2, u3⟩ := rl_ev37 hN ok x1 x2 m (i + 1) n S2 hr2 (a2.rll hl) (fun j hj2 => by
      show upd (S.2.1 94) i (nI (V 6 i)) j = _ ∧ upd (S.2.1 95) i 0 j = _ ∧ upd (S.2.1 96) i (nI (evW V i)) j = _
      by_cases c : j = i
      · subst c
        exact ⟨pk_us, pk_us, pk_us⟩
      · rw [pk_un c, pk_un c, pk_un c]
        exact hj j (by omega)) (by omega) (by omega)
    refine ⟨S3, ?_, a2.trans u2, u3⟩
    rw [← u1]
    have stp : F_X12_evenings_37 N (n + 1) x1 x2 (nI i) S = (if nI i = 0 then (gd (inb (nI i) 20) (F_X12_evenings_37 N n x1 x2 (nI (i + 1)) (aset S1 96 (upd (S.2.1 96) i (nI (V 3 i) + 0))))) else ((F_X12_jumpsFrom N (nI i - 1) S1).bind (fun r_87 => gd (inb (nI i) 20) (F_X12_evenings_37 N n x1 x2 (nI (i + 1)) (aset r_87.2 96 (upd (r_87.2.2.1 96) i (nI (V 3 i) + r_87.1))))))) := by
      show (if (S.1 63 1) ≤ nI i then _ else (gd (inb (nI i) 20) (gd (inb (nI i) 20) (gd (inb (nI i) 20) (gd (inb (nI i) 20) (if nI i = 0 then (gd (inb (nI i) 20) (F_X12_evenings_37 N n x1 x2 (nI i + 1) (aset (aset (aset S 94 (upd (S.2.1 94) (Int32.toNatClampNeg (nI i)) (S.2.1 70 (Int32.toNatClampNeg (nI i))))) 95 (upd (S.2.1 95) (Int32.toNatClampNeg (nI i)) (0 : Int32))) 96 (upd (S.2.1 96) (Int32.toNatClampNeg (nI i)) ((S.2.1 67 (Int32.toNatClampNeg (nI i))) + 0))))) else ((F_X12_jumpsFrom N (nI i - 1) (aset (aset S 94 (upd (S.2.1 94) (Int32.toNatClampNeg (nI i)) (S.2.1 70 (Int32.toNatClampNeg (nI i))))) 95 (upd (S.2.1 95) (Int32.toNatClampNeg (nI i)) (0 : Int32)))).bind (fun r_87 => gd (inb (nI i) 20) (F_X12_evenings_37 N n x1 x2 (nI i + 1) (aset r_87.2 96 (upd (r_87.2.2.1 96) (Int32.toNatClampNeg (nI i)) ((S.2.1 67 (Int32.toNatClampNeg (nI i))) + r_87.1)))))))))))) = _
      rw [if_neg (by rw [hr.1]; exact nI_ge hii (by omega)), gd_t gi, gd_t gi, gd_t gi, gd_t gi, ci, e67, e70, nI_1]
    rw [stp]
    by_cases c : i = 0
    · rw [if_pos (show nI i = 0 by rw [c]; rfl), gd_t gi]
      have ew : nI (V 3 i) + 0 = nI (evW V i) := by unfold evW; rw [if_pos c]; exact nI_add (V 3 i) 0
      rw [ew]
    · rw [if_neg (nI_ne0 (by omega) (by omega)), pred_nI (by omega), rl_jf hN ok hr1 (show i - 1 < V 8 0 by omega), Option.bind_some, gd_t gi]
      have ew : nI (V 3 i) + nI (cnt (jpB V (i - 1)) (V 8 0)) = nI (evW V i) := by unfold evW; rw [if_neg c]; exact nI_add _ _
      rw [ew]
      rfl
/-- what rehearsing a line would add, and its worth -/
theorem rl_ev114 (hN : 130 ≤ N) (ok : OKV V) (w1 : WfL L1) (hn1 : 1 ≤ V 8 0) {e : Nat} (k100 : Int32 → Int32 → Int32 → St → Option (Int32 × St)) (x1 x2 : Int32) : ∀ (m i n : Nat) (S : St), ER S L1 V e → i + m = V 8 0 → m < n → ∃ S', F_X12_evenings_114 N k100 n x1 x2 (nI e) (if i = 0 then -1 else nI (bmx (fun j => evG L1 V (evH L1 V e) j * evW V j) i)) (if i = 0 then 0 else nI (evG L1 V (evH L1 V e) (bmx (fun j => evG L1 V (evH L1 V e) j * evW V j) i) * evW V (bmx (fun j => evG L1 V (evH L1 V e) j * evW V j) i))) (nI i) S = k100 x1 x2 (nI (e + 1)) S' ∧ AgF S S' ∧ ER S' L1 V (e + 1)
  | m, i, 0, S, _, _, hn => absurd hn (Nat.not_lt_zero m)
  | 0, i, n + 1, S, hE, hi, _ => by
    have h20 := ok.1
    have e0 : i = V 8 0 := hi
    have okH : OKV (VH V (evH L1 V e)) := ok.vh (fun i hi => evH_le L1 ok e i hi)
    have hb := evB_lt L1 hn1 e
    have hbe : bmx (fun j => evG L1 V (evH L1 V e) j * evW V j) i = evB L1 V e := by rw [e0]; rfl
    rw [hbe, if_neg (show ¬ i = 0 by omega)]
    generalize hB : evB L1 V e = B at hb hbe
    have gi : inb (nI B) 20 = true := inb_nI (by omega) (by decide)
    have ci : Int32.toNatClampNeg (nI B) = B := nI_clamp (by omega)
    obtain ⟨S1, s1, s2⟩ := rl_heldThen hN okH hE.1 w1 hE.2.1 (k := B) hb
    have hH := evH_le L1 ok e B hb
    have ev : (if VH V (evH L1 V e) 6 B + gnW L1 (VH V (evH L1 V e)) B (VH V (evH L1 V e) 6 B) ≤ 100 then VH V (evH L1 V e) 6 B + gnW L1 (VH V (evH L1 V e)) B (VH V (evH L1 V e) 6 B) else 100) = evH L1 V e B + evG L1 V (evH L1 V e) B := by
      rw [gnW_vh]
      show (if evH L1 V e B + gnW L1 V B (evH L1 V e B) ≤ 100 then evH L1 V e B + gnW L1 V B (evH L1 V e B) else 100) = _
      unfold evG
      split <;> split <;> omega
    rw [ev] at s1
    have hE1 := ER.agree s2 hE
    have r95 := (hE1.2.2 B hb).2.1
    let S2 : St := aset S1 70 (upd (S1.2.1 70) B (nI (evH L1 V e B + evG L1 V (evH L1 V e) B)))
    let S3 : St := aset S2 95 (upd (S1.2.1 95) B (nI (evTm L1 V e B + 1)))
    have a3 : AgF S1 S3 := AgO.aset (AgO.aset AgO.rfl _ (by decide)) _ (by decide)
    have hrl2 : RlP S2 (VH V (evH L1 V (e + 1))) := by
      have := hE1.1.held B (evH L1 V e B + evG L1 V (evH L1 V e) B)
      rw [VH_set] at this
      rw [evH_fun, hB]
      exact this
    refine ⟨S3, ?_, s2.f.trans a3, hrl2.agree (AgO.aset AgO.rfl _ (by decide)), a3.rll hE1.2.1, fun j hj => ?_⟩
    · show (if (S.1 63 1) ≤ nI i then ((F_X12_heldThen N (nI B) S).bind (fun r_185 => gd (inb (nI B) 20) (gd (inb (nI B) 20) (gd (inb (nI B) 20) (k100 x1 x2 (nI e + 1) (aset (aset r_185.2 70 (upd (r_185.2.2.1 70) (Int32.toNatClampNeg (nI B)) r_185.1)) 95 (upd (r_185.2.2.1 95) (Int32.toNatClampNeg (nI B)) ((r_185.2.2.1 95 (Int32.toNatClampNeg (nI B))) + 1)))))))) else _) = _
      rw [if_pos (by rw [hE.1.1, e0]; exact Int32.le_refl _), s1, Option.bind_some, gd_t gi, gd_t gi, gd_t gi, ci, nI_1]
      show k100 x1 x2 (nI (e + 1)) (aset (aset S1 70 (upd (S1.2.1 70) B (nI (evH L1 V e B + evG L1 V (evH L1 V e) B)))) 95 (upd (S1.2.1 95) B (S1.2.1 95 B + 1))) = _
      rw [r95, nI_1]
    · obtain ⟨q94, q95, q96⟩ := hE1.2.2 j hj
      show S1.2.1 94 j = _ ∧ upd (S1.2.1 95) B (nI (evTm L1 V e B + 1)) j = _ ∧ S1.2.1 96 j = _
      have eT : evTm L1 V (e + 1) j = evTm L1 V e j + (if j = B then 1 else 0) := by
        show evTm L1 V e j + (if j = evB L1 V e then 1 else 0) = _
        rw [hB]
      refine ⟨q94, ?_, q96⟩
      by_cases c : j = B
      · subst c
        rw [pk_us, eT, if_pos rfl]
      · rw [pk_un c, eT, if_neg c]; exact q95
  | m + 1, i, n + 1, S, hE, hi, hn => by
    have h20 := ok.1
    have hii : i < V 8 0 := by omega
    have okH : OKV (VH V (evH L1 V e)) := ok.vh (fun i hi => evH_le L1 ok e i hi)
    have gi : inb (nI i) 20 = true := inb_nI (by omega) (by decide)
    have ci : Int32.toNatClampNeg (nI i) = i := nI_clamp (by omega)
    obtain ⟨S1, s1, s2⟩ := rl_heldThen hN okH hE.1 w1 hE.2.1 (k := i) hii
    have hH := evH_le L1 ok e i hii
    have ev : (if VH V (evH L1 V e) 6 i + gnW L1 (VH V (evH L1 V e)) i (VH V (evH L1 V e) 6 i) ≤ 100 then VH V (evH L1 V e) 6 i + gnW L1 (VH V (evH L1 V e)) i (VH V (evH L1 V e) 6 i) else 100) = evH L1 V e i + evG L1 V (evH L1 V e) i := by
      rw [gnW_vh]
      show (if evH L1 V e i + gnW L1 V i (evH L1 V e i) ≤ 100 then evH L1 V e i + gnW L1 V i (evH L1 V e i) else 100) = _
      unfold evG
      split <;> split <;> omega
    rw [ev] at s1
    have hE1 := ER.agree s2 hE
    have r70 : S1.2.1 70 i = nI (evH L1 V e i) := (hE1.1.2.2.2.1 i hii).2.2.2.2.2.2
    have r96 := (hE1.2.2 i hii).2.2
    obtain ⟨S2, u1, u2, u3⟩ := rl_ev114 hN ok w1 hn1 k100 x1 x2 m (i + 1) n S1 hE1 (by omega) (by omega)
    refine ⟨S2, ?_, s2.f.trans u2, u3⟩
    rw [← u1]
    have bs := bmx_succ (fun j => evG L1 V (evH L1 V e) j * evW V j) i
    generalize hX4 : (if i = 0 then (-1 : Int32) else nI (bmx (fun j => evG L1 V (evH L1 V e) j * evW V j) i)) = x4
    generalize hX5 : (if i = 0 then (0 : Int32) else nI (evG L1 V (evH L1 V e) (bmx (fun j => evG L1 V (evH L1 V e) j * evW V j) i) * evW V (bmx (fun j => evG L1 V (evH L1 V e) j * evW V j) i))) = x5
    have stp : F_X12_evenings_114 N k100 (n + 1) x1 x2 (nI e) x4 x5 (nI i) S = (if x4 < 0 then (F_X12_evenings_114 N k100 n x1 x2 (nI e) (nI i) (nI (evG L1 V (evH L1 V e) i * evW V i)) (nI (i + 1)) S1) else (if x5 < nI (evG L1 V (evH L1 V e) i * evW V i) then (F_X12_evenings_114 N k100 n x1 x2 (nI e) (nI i) (nI (evG L1 V (evH L1 V e) i * evW V i)) (nI (i + 1)) S1) else (F_X12_evenings_114 N k100 n x1 x2 (nI e) x4 x5 (nI (i + 1)) S1))) := by
      show (if (S.1 63 1) ≤ nI i then _ else ((F_X12_heldThen N (nI i) S).bind (fun r_126 => gd (inb (nI i) 20) (gd (inb (nI i) 20) (if x4 < 0 then (F_X12_evenings_114 N k100 n x1 x2 (nI e) (nI i) ((r_126.1 - (r_126.2.2.1 70 (Int32.toNatClampNeg (nI i)))) * (r_126.2.2.1 96 (Int32.toNatClampNeg (nI i)))) (nI i + 1) r_126.2) else (if x5 < ((r_126.1 - (r_126.2.2.1 70 (Int32.toNatClampNeg (nI i)))) * (r_126.2.2.1 96 (Int32.toNatClampNeg (nI i)))) then (F_X12_evenings_114 N k100 n x1 x2 (nI e) (nI i) ((r_126.1 - (r_126.2.2.1 70 (Int32.toNatClampNeg (nI i)))) * (r_126.2.2.1 96 (Int32.toNatClampNeg (nI i)))) (nI i + 1) r_126.2) else (F_X12_evenings_114 N k100 n x1 x2 (nI e) x4 x5 (nI i + 1) r_126.2))))))) = _
      rw [if_neg (by rw [show S.1 63 1 = nI (V 8 0) from hE.1.1]; exact nI_ge hii (by omega)), s1, Option.bind_some, gd_t gi, gd_t gi, ci, nI_1]
      show (if x4 < 0 then (F_X12_evenings_114 N k100 n x1 x2 (nI e) (nI i) ((nI (evH L1 V e i + evG L1 V (evH L1 V e) i) - S1.2.1 70 i) * S1.2.1 96 i) (nI (i + 1)) S1) else (if x5 < ((nI (evH L1 V e i + evG L1 V (evH L1 V e) i) - S1.2.1 70 i) * S1.2.1 96 i) then (F_X12_evenings_114 N k100 n x1 x2 (nI e) (nI i) ((nI (evH L1 V e i + evG L1 V (evH L1 V e) i) - S1.2.1 70 i) * S1.2.1 96 i) (nI (i + 1)) S1) else (F_X12_evenings_114 N k100 n x1 x2 (nI e) x4 x5 (nI (i + 1)) S1))) = _
      rw [r70, r96, pk_sub (Nat.le_add_right _ _), Nat.add_sub_cancel_left, pk_mul]
    rw [stp, if_neg (show ¬ i + 1 = 0 by omega), if_neg (show ¬ i + 1 = 0 by omega), bs]
    have bd : ∀ j, j < V 8 0 → evG L1 V (evH L1 V e) j * evW V j ≤ 5000 := fun j hj => by
      have h1 := evW_le ok hj
      have h2 := evG_le L1 V (evH L1 V e) j
      have : evG L1 V (evH L1 V e) j * evW V j ≤ 100 * 50 := Nat.mul_le_mul (by omega) h1
      exact this
    by_cases c : i = 0
    · rw [if_pos c] at hX4
      rw [if_pos (show x4 < 0 by rw [← hX4]; decide), if_pos c, c]
    · rw [if_neg c] at hX4 hX5
      have hbl := bmx_lt (fun j => evG L1 V (evH L1 V e) j * evW V j) (i - 1)
      rw [show i - 1 + 1 = i by omega] at hbl
      rw [if_neg (show ¬ x4 < 0 by rw [← hX4]; exact nI_pos (by omega)), if_neg c]
      have bB := bd _ (show bmx (fun j => evG L1 V (evH L1 V e) j * evW V j) i < V 8 0 by omega)
      have bi := bd i hii
      by_cases d : evG L1 V (evH L1 V e) (bmx (fun j => evG L1 V (evH L1 V e) j * evW V j) i) * evW V (bmx (fun j => evG L1 V (evH L1 V e) j * evW V j) i) < evG L1 V (evH L1 V e) i * evW V i
      · rw [if_pos (show x5 < _ by rw [← hX5]; exact nI_lt d (by omega)), if_pos d]
      · rw [if_neg (show ¬ x5 < _ by rw [← hX5]; exact nI_nlt (by omega) (by omega)), if_neg d, hX4, hX5]
theorem rl_harm (ok : OKV V) {S : St} {e : Nat} (hE : ER S L1 V e) : ∀ (m i n : Nat), i + m = V 8 0 → m < n → F_X12_harm_4 n (nI (smN (fun i => (100 - evH L1 V e i) * evW V i) i)) (nI i) S = some (nI (evHm L1 V e), S)
  | m, i, 0, _, hn => absurd hn (Nat.not_lt_zero m)
  | 0, i, n + 1, hi, _ => by
    have e0 : i = V 8 0 := hi
    show (if (S.1 63 1) ≤ nI i then (some (_, S)) else _) = _
    rw [if_pos (by rw [hE.1.1, e0]; exact Int32.le_refl _), e0]
    rfl
  | m + 1, i, n + 1, hi, hn => by
    have h20 := ok.1
    have hii : i < V 8 0 := by omega
    have gi : inb (nI i) 20 = true := inb_nI (by omega) (by decide)
    have ih := rl_harm ok hE m (i + 1) n (by omega) (by omega)
    have r70 : S.2.1 70 i = nI (evH L1 V e i) := (hE.1.2.2.2.1 i hii).2.2.2.2.2.2
    have r96 := (hE.2.2 i hii).2.2
    have hH := evH_le L1 ok e i hii
    rw [← ih]
    show (if (S.1 63 1) ≤ nI i then _ else (gd (inb (nI i) 20) (gd (inb (nI i) 20) (F_X12_harm_4 n (nI _ + ((nI 100 - (S.2.1 70 (Int32.toNatClampNeg (nI i)))) * (S.2.1 96 (Int32.toNatClampNeg (nI i))))) (nI i + 1) S)))) = _
    rw [if_neg (by rw [show S.1 63 1 = nI (V 8 0) from hE.1.1]; exact nI_ge hii (by omega)), gd_t gi, gd_t gi, nI_clamp (by omega), r70, r96, pk_sub hH, pk_mul, nI_add, nI_1]
    rfl
/-- held put back -/
theorem rl_ev227 (ok : OKV V) (x3 : Int32) : ∀ (m i n : Nat) (S : St) (H : Nat → Nat), RlP S (VH V H) → (∀ j, j < V 8 0 → S.2.1 94 j = nI (V 6 j)) → (∀ j, j < i → H j = V 6 j) → i + m = V 8 0 → m < n → ∃ S', F_X12_evenings_227 n x3 (nI i) S = some (x3, S') ∧ AgF S S' ∧ RlP S' V
  | m, i, 0, S, H, _, _, _, _, hn => absurd hn (Nat.not_lt_zero m)
  | 0, i, n + 1, S, H, hr, h94, hH, hi, _ => by
    have e0 : i = V 8 0 := hi
    refine ⟨S, ?_, AgO.rfl, hr.1, hr.2.1, hr.2.2.1, fun j hj => ?_, hr.2.2.2.2⟩
    · show (if (S.1 63 1) ≤ nI i then (some (x3, S)) else _) = _
      rw [if_pos (by rw [hr.1, e0]; exact Int32.le_refl _)]
    · obtain ⟨q0, q1, q2, q3, q4, q5, q6⟩ := hr.2.2.2.1 j hj
      refine ⟨q0, q1, q2, q3, q4, q5, ?_⟩
      rw [← hH j (by omega)]
      exact q6
  | m + 1, i, n + 1, S, H, hr, h94, hH, hi, hn => by
    have h20 := ok.1
    have hii : i < V 8 0 := by omega
    have gi : inb (nI i) 20 = true := inb_nI (by omega) (by decide)
    have hr2 := hr.held i (V 6 i)
    rw [VH_set] at hr2
    obtain ⟨S', u1, u2, u3⟩ := rl_ev227 ok x3 m (i + 1) n (aset S 70 (upd (S.2.1 70) i (nI (V 6 i)))) (fun j => if j = i then V 6 i else H j) hr2 h94 (fun j hj => by
      show (if j = i then V 6 i else H j) = V 6 j
      by_cases c : j = i
      · rw [if_pos c, c]
      · rw [if_neg c]; exact hH j (by omega)) (by omega) (by omega)
    refine ⟨S', ?_, AgO.trans (AgO.aset AgO.rfl _ (by decide)) u2, u3⟩
    rw [← u1]
    show (if (S.1 63 1) ≤ nI i then _ else (gd (inb (nI i) 20) (gd (inb (nI i) 20) (F_X12_evenings_227 n x3 (nI i + 1) (aset S 70 (upd (S.2.1 70) (Int32.toNatClampNeg (nI i)) (S.2.1 94 (Int32.toNatClampNeg (nI i))))))))) = _
    rw [if_neg (by rw [show S.1 63 1 = nI (V 8 0) from hr.1]; exact nI_ge hii (by omega)), gd_t gi, gd_t gi, nI_clamp (by omega), h94 i hii, nI_1]
theorem rl_ev100 (hN : 130 ≤ N) (ok : OKV V) (w1 : WfL L1) (hn1 : 1 ≤ V 8 0) {c : Nat} (hc30 : c ≤ 30) {x2 : Int32} (hx : x2 = -1 ∨ ∃ l, l < V 8 0 ∧ x2 = nI l) {R : Int32} (hR : R = if x2 = -1 then nI (evHm L1 V c) else nI (evTm L1 V c x2.toNatClampNeg)) : ∀ (m e n : Nat) (S : St), ER S L1 V e → e + m = c → m < n → ∃ S', F_X12_evenings_100 N n (nI c) x2 (nI e) S = some (R, S') ∧ AgF S S' ∧ RlP S' V
  | m, e, 0, S, _, _, hn => absurd hn (Nat.not_lt_zero m)
  | 0, e, n + 1, S, hE, he, _ => by
    have h20 := ok.1
    have e0 : e = c := he
    obtain ⟨S', u1, u2, u3⟩ := rl_ev227 ok R (V 8 0) 0 N S (evH L1 V e) hE.1 (fun j hj => (hE.2.2 j hj).1) (fun j hj => absurd hj (Nat.not_lt_zero j)) (by omega) (by omega)
    refine ⟨S', ?_, u2, u3⟩
    show (if nI c ≤ nI e then (if 0 ≤ x2 then (gd (inb x2 20) (F_X12_evenings_227 N (S.2.1 95 (Int32.toNatClampNeg x2)) 0 S)) else ((F_X12_harm N S).bind (fun r_211 => F_X12_evenings_227 N r_211.1 0 r_211.2))) else _) = _
    rw [if_pos (by rw [e0]; exact Int32.le_refl _)]
    rcases hx with hx | ⟨l, hl, hx⟩
    · have hh : F_X12_harm N S = some (nI (evHm L1 V e), S) := rl_harm ok hE (V 8 0) 0 N (by omega) (by omega)
      rw [if_neg (show ¬ (0 : Int32) ≤ x2 by rw [hx]; decide), hh, Option.bind_some]
      rw [if_pos hx] at hR
      rw [e0, ← hR]
      exact u1
    · have hne : ¬ x2 = -1 := fun z => nI_pos (n := l) (by omega) (by rw [← hx, z]; decide)
      rw [if_neg hne] at hR
      rw [if_pos (show (0 : Int32) ≤ x2 by rw [hx]; exact nI_pos' (by omega)), gd_t (by rw [hx]; exact inb_nI (by omega) (by decide))]
      have e95 : S.2.1 95 (Int32.toNatClampNeg x2) = R := by
        rw [hR, hx, nI_clamp (by omega), ← e0]
        exact (hE.2.2 l hl).2.1
      rw [e95]
      exact u1
  | m + 1, e, n + 1, S, hE, he, hn => by
    have h20 := ok.1
    obtain ⟨S1, s1, s2, s3⟩ := rl_ev114 hN ok w1 hn1 (F_X12_evenings_100 N n) (nI c) x2 (V 8 0) 0 N S hE (by omega) (by omega)
    obtain ⟨S2, u1, u2, u3⟩ := rl_ev100 hN ok w1 hn1 hc30 hx hR m (e + 1) n S1 s3 (by omega) (by omega)
    refine ⟨S2, ?_, s2.trans u2, u3⟩
    rw [← u1]
    show (if nI c ≤ nI e then _ else (F_X12_evenings_114 N (F_X12_evenings_100 N n) N (nI c) x2 (nI e) (-1) 0 0 S)) = _
    rw [if_neg (nI_ge (by omega) (by omega))]
    exact s1
end
theorem AgF.x {S S' : St} (h : AgF S S') : AgO fX aX lX S S' := AgO.weak h (fun c s q => fW_of (fXP_s (by show (fX c s || fP c s) = true; rw [q]; rfl))) (fun k q => by
    refine not_t (fun z => ?_)
    have := of_decide_eq_true z
    simp only [List.mem_cons, List.not_mem_nil, or_false] at this
    rcases this with rfl | rfl | rfl | rfl | rfl | rfl | rfl | rfl <;> exact absurd q (by decide)) (fun _ _ => rfl)
theorem AgF.cl {S S' : St} (h : AgF S S') : AgO fCl aCl lNo S S' := AgO.weak h (fun c s q => fW_of (fXP_s (by show (fX c s || fP c s) = true; rw [fCl_fP q, Bool.or_true]))) (fun k q => by
    refine not_t (fun z => ?_)
    have := of_decide_eq_true z
    simp only [List.mem_cons, List.not_mem_nil, or_false] at this
    have := aCl_mem q
    omega) (fun k q => by cases q)
/-- evenings -/
theorem st_evenings {N : Nat} (hN : 130 ≤ N) {S : St} (h : Inv S) (x y : Int32) : Both (F_X11_evenings N x y) (F_X12_evenings N x y) S := by
  obtain ⟨V, kd, hI⟩ := id h
  obtain ⟨ok, L0, L1, w0, w1, hc, hr⟩ := hI.ready
  have h20 := ok.1
  have n10 : ¬ (1 : Int32) = 0 := by decide
  rcases (rng x 30 (by decide)).symm with hx | ⟨c, hc30, rfl⟩
  · refine both_ro h (r := -1) ?_ ?_
    · unfold F_X11_evenings
      rcases hx with q | q
      · rw [if_pos q]
      · by_cases z : x < 0
        · rw [if_pos z]
        · rw [if_neg z, if_pos (show 30 < x from q)]
    · unfold F_X12_evenings
      have e : F_X12_in x (0 : Int32) (30 : Int32) S = some (0, S) := in_f (N := 30) hx S
      simp only [e, Option.bind_some, if_true]
  have hin : ∀ T : St, F_X12_in (nI c) (0 : Int32) (30 : Int32) T = some (1, T) := fun T => in_t hc30 (by decide) T
  have a1 : ¬ nI c < 0 := nI_pos (by omega)
  have a2 : ¬ (30 : Int32) < nI c := nI_nlt (a := 30) hc30 (by decide)
  by_cases hy : y = -1 ∨ ∃ l, l < V 8 0 ∧ y = nI l
  · -- both go on
    have f1 : F_X11_evenings N (nI c) y S = F_X11_evenings_28 N (nI c) y S := by
      unfold F_X11_evenings
      rw [if_neg a1, if_neg a2]
      by_cases q : y = -1
      · rw [if_pos q]
      · obtain ⟨l, hl, rfl⟩ := hy.resolve_left q
        rw [if_neg q]
        simp only [F_has8_t hc.1.1 h20 hl, Option.bind_some, if_neg n10]
    have f2 : ∀ T : St, T.1 63 1 = nI (V 8 0) → F_X12_evenings N (nI c) y T = if T.1 63 1 = 0 then some (-5, T) else F_X12_evenings_37 N N (nI c) y 0 T := by
      intro T hT
      unfold F_X12_evenings
      simp only [hin, Option.bind_some, if_neg n10]
      by_cases q : y = -1
      · rw [if_pos q]
      · obtain ⟨l, hl, rfl⟩ := hy.resolve_left q
        rw [if_neg q]
        simp only [F_isLine_t hl h20 hT, Option.bind_some, if_neg n10]
    by_cases hn0 : V 8 0 = 0
    · refine both_ro h (r := -5) ?_ ?_
      · rw [f1]
        unfold F_X11_evenings_28
        rw [if_pos (show S.1 1 0 = 0 by rw [hc.1.1, hn0]; rfl)]
      · rw [f2 S hr.1.1, if_pos (show S.1 63 1 = 0 by rw [hr.1.1, hn0]; rfl)]
    have hn1 : 1 ≤ V 8 0 := by omega
    let S1 : St := fset S 8 0 0
    have b1 : AgE S S1 := AgO.fset AgO.rfl _ (by decide)
    obtain ⟨S2, s1, s2, s3, s4⟩ := cl_begin hN ok w1 (V 8 0) 0 N S1 (b1.clq hc) (fun i hi => absurd hi (Nat.not_lt_zero i)) rfl (by omega) (by omega)
    obtain ⟨S3, t1, t2, t3, t4⟩ := cl_spend hN ok w1 hn1 hc30 c 0 N S2 (s2.clq (b1.clq hc)) s3 s4 (by omega) (by omega)
    have aE3 : AgE S S3 := b1.trans (s2.trans t2)
    have hr3 : RlQ S3 V L0 L1 := aE3.ag.rlq hr
    obtain ⟨S4, u1, u2, u3⟩ := rl_ev37 (L1 := L1) hN ok (nI c) y (V 8 0) 0 N S3 hr3.1 hr3.2.2 (fun j hj => absurd hj (Nat.not_lt_zero j)) (by omega) (by omega)
    obtain ⟨S5, v1, v2, v3⟩ := rl_ev100 hN ok w1 hn1 hc30 hy (R := if y = -1 then nI (evHm L1 V c) else nI (evTm L1 V c y.toNatClampNeg)) rfl c 0 N S4 u3 (by omega) (by omega)
    have aF5 : AgF S3 S5 := u2.trans v2
    have hcl : ClP S5 V := (aE3.clq hc).1.agree aF5.cl
    refine ⟨if y = -1 then nI (evHm L1 V c) else nI (evTm L1 V c y.toNatClampNeg), S3, S5, ?_, ?_, V, kd, hI.play (AgO.trans aE3.ag.x aF5.x) (play_iff.mpr ⟨ok, hcl, v3⟩) (Nat.le_refl _)⟩
    · rw [f1]
      unfold F_X11_evenings_28 F_X3_begin F_X3_spend
      have s1' : F_X3_begin_7 N N 0 (fset S 8 0 0) = some S2 := s1
      have t1' : F_X3_spend_2 N N (nI c) 0 S2 = some S3 := t1
      rw [if_neg (show ¬ S.1 1 0 = 0 by rw [hc.1.1]; exact nI_ne0 (by omega) (by omega))]
      show ((F_X3_begin_7 N N 0 (fset S 8 0 0)).bind (fun r_49 => (F_X3_spend_2 N N (nI c) 0 r_49).bind (fun r_61 => if y = (-1) then (some (r_61.1 8 0, r_61)) else (gd (inb y 20) (some (r_61.2.1 46 (Int32.toNatClampNeg y), r_61)))))) = _
      rw [s1', Option.bind_some, t1', Option.bind_some]
      by_cases q : y = -1
      · rw [if_pos q, if_pos q, t4]
      · obtain ⟨l, hl, rfl⟩ := hy.resolve_left q
        rw [if_neg q, if_neg q, gd_t (inb_nI (by omega) (by decide)), nI_clamp (by omega), (t3 l hl).1]
    · rw [f2 S3 hr3.1.1, if_neg (show ¬ S3.1 63 1 = 0 by rw [hr3.1.1]; exact nI_ne0 (by omega) (by omega))]
      exact (show F_X12_evenings_37 N N (nI c) y 0 S3 = _ from u1).trans v1
  · have q1 : ¬ y = -1 := fun z => hy (Or.inl z)
    have q2 : ¬ ∃ l, l < V 8 0 ∧ y = nI l := fun z => hy (Or.inr z)
    refine both_ro h (r := -1) ?_ ?_
    · unfold F_X11_evenings
      rw [if_neg a1, if_neg a2, if_neg q1]
      simp only [F_has8_f h20 hc.1.1 q2, Option.bind_some, if_true]
    · unfold F_X12_evenings
      simp only [hin, Option.bind_some, if_neg n10, if_neg q1, F_isLine_f h20 hr.1.1 q2, if_true]
