def ClQ (S : St) (V : Nat → Nat → Nat) (L0 L1 : LawT) : Prop := ClP S V ∧ ClL S 0 L0 ∧ ClL S 1 L1
def RlQ (S : St) (V : Nat → Nat → Nat) (L0 L1 : LawT) : Prop := RlP S V ∧ RlL S 0 L0 ∧ RlL S 1 L1
theorem AgW.clq {S S' : St} {V : Nat → Nat → Nat} {L0 L1 : LawT} (h : AgW S S') (hc : ClQ S V L0 L1) : ClQ S' V L0 L1 := ⟨h.cl hc.1, h.cll (by decide) hc.2.1, h.cll (by decide) hc.2.2⟩
theorem AgW.rlq {S S' : St} {V : Nat → Nat → Nat} {L0 L1 : LawT} (h : AgW S S') (hc : RlQ S V L0 L1) : RlQ S' V L0 L1 := ⟨h.rl hc.1, h.rll hc.2.1, h.rll hc.2.2⟩
/-- all that the operations on a play need -/
theorem InvV.ready {S : St} {V : Nat → Nat → Nat} {kd : List Nat} (h : InvV S V kd) : OKV V ∧ ∃ L0 L1 : LawT, WfL L0 ∧ WfL L1 ∧ ClQ S V L0 L1 ∧ RlQ S V L0 L1 := by
  obtain ⟨ok, hc, hr, L0, L1, w0, w1, c0, c1, r0, r1⟩ := h.parts
  exact ⟨ok, L0, L1, w0, w1, ⟨hc, c0, c1⟩, ⟨hr, r0, r1⟩⟩
def sumIf (p : Nat → Bool) (f : Nat → Nat) : Nat → Nat
  | 0 => 0
  | n + 1 => sumIf p f n + (if p n = true then f n else 0)
theorem sumIf_succ (p : Nat → Bool) (f : Nat → Nat) (n : Nat) : sumIf p f (n + 1) = sumIf p f n + (if p n = true then f n else 0) := rfl
/-- the sums of prompting: wait w, pause z -/
def pmS (z c k w : Nat) : Nat := (100 * c - k) * w + (if z ≤ w then 0 else 5 * k)
theorem sum_pm (p : Nat → Bool) {f : Nat → Nat} (hf : ∀ i, f i ≤ 100) (z w : Nat) : ∀ n, sumIf p f n ≤ 100 * cnt p n ∧ sumIf p (fun o => (100 - f o) * w + (if z ≤ w then 0 else 5 * f o)) n = pmS z (cnt p n) (sumIf p f n) w
  | 0 => by
    refine ⟨Nat.le_refl _, ?_⟩
    show 0 = (100 * 0 - 0) * w + (if z ≤ w then 0 else 5 * 0)
    rw [Nat.zero_mul]
    split <;> rfl
  | n + 1 => by
    obtain ⟨h1, h2⟩ := sum_pm p hf z w n
    rw [sumIf_succ, sumIf_succ, cnt_succ, h2]
    by_cases c : p n = true
    · rw [if_pos c, if_pos c, if_pos c]
      have hfn := hf n
      refine ⟨by omega, ?_⟩
      unfold pmS
      have e : 100 * (cnt p n + 1) - (sumIf p f n + f n) = (100 * cnt p n - sumIf p f n) + (100 - f n) := by omega
      rw [e, Nat.add_mul]
      generalize (100 * cnt p n - sumIf p f n) * w = u1
      generalize (100 - f n) * w = u2
      by_cases d : z ≤ w
      · rw [if_pos d, if_pos d, if_pos d]; omega
      · rw [if_neg d, if_neg d, if_neg d]; omega
    · rw [if_neg c, if_neg c, if_neg c]
      exact ⟨h1, rfl⟩
theorem pmS_lt {z c k w : Nat} (hc : c ≤ 20) (hk : k ≤ 100 * c) (hw : w ≤ 9) : pmS z c k w < 2 ^ 30 := by
  unfold pmS
  have h1 : (100 * c - k) * w ≤ 2000 * 9 := Nat.mul_le_mul (by omega) hw
  generalize (100 * c - k) * w = u at *
  split <;> omega
def bst (sm : Nat → Nat) : Nat → Nat × Nat
  | 0 => (0, 0)
  | w + 1 => if w = 0 ∨ sm w < (bst sm w).2 then (w, sm w) else bst sm w
theorem bst_lt {sm : Nat → Nat} (h : ∀ w, w ≤ 9 → sm w < 2 ^ 30) : ∀ w, w ≤ 10 → (bst sm w).1 ≤ 9 ∧ (bst sm w).2 < 2 ^ 30
  | 0, _ => ⟨Nat.zero_le _, by show (0 : Nat) < 2 ^ 30; decide⟩
  | w + 1, hw => by
    show (if w = 0 ∨ sm w < (bst sm w).2 then (w, sm w) else bst sm w).1 ≤ 9 ∧ (if w = 0 ∨ sm w < (bst sm w).2 then (w, sm w) else bst sm w).2 < 2 ^ 30
    split
    · exact ⟨by show w ≤ 9; omega, h w (by omega)⟩
    · exact bst_lt h w (by omega)
section
variable {N q : Nat} {V : Nat → Nat → Nat} {L0 L1 : LawT}
theorem pm_cl1 (hN : 130 ≤ N) (ok : OKV V) (w0 : WfL L0) (hq : q < 6) (x2 : Int32) : ∀ (m i n : Nat) (S : St), ClQ S V L0 L1 → i + m = V 8 0 → m < n → ∃ S', F_X11_prompt_26 N n (nI q) x2 (nI (sumIf (fun o => decide (V 0 o = q)) (knW L0 V) i)) (nI (cnt (fun o => decide (V 0 o = q)) i)) (nI i) S = F_X11_prompt_82 N (nI q) x2 (nI (sumIf (fun o => decide (V 0 o = q)) (knW L0 V) (V 8 0))) (nI (cnt (fun o => decide (V 0 o = q)) (V 8 0))) 0 0 0 S' ∧ AgW S S'
  | m, i, 0, S, _, _, hn => absurd hn (Nat.not_lt_zero m)
  | 0, i, n + 1, S, hc, hi, hn => by
    have e : i = V 8 0 := hi
    refine ⟨S, ?_, AgO.rfl⟩
    show (if (S.1 1 0) ≤ nI i then _ else _) = _
    rw [if_pos (by rw [hc.1.1, e]; exact Int32.le_refl _), e]
  | m + 1, i, n + 1, S, hc, hi, hn => by
    have h20 := ok.1
    have hii : i < V 8 0 := by omega
    have e1 := (hc.1.2.2.2.1 i hii).1
    have b1 := (ok.2.2.2.1 i hii).1
    have hge : ¬ S.1 1 0 ≤ nI i := by rw [hc.1.1]; exact nI_ge hii (by omega)
    have stp : F_X11_prompt_26 N (n + 1) (nI q) x2 (nI (sumIf (fun o => decide (V 0 o = q)) (knW L0 V) i)) (nI (cnt (fun o => decide (V 0 o = q)) i)) (nI i) S = if nI (V 0 i) = nI q then ((F_X8_knows N (nI i) S).bind (fun r => F_X11_prompt_26 N n (nI q) x2 (nI (sumIf (fun o => decide (V 0 o = q)) (knW L0 V) i) + r.1) (nI (cnt (fun o => decide (V 0 o = q)) i + 1)) (nI (i + 1)) r.2)) else (F_X11_prompt_26 N n (nI q) x2 (nI (sumIf (fun o => decide (V 0 o = q)) (knW L0 V) i)) (nI (cnt (fun o => decide (V 0 o = q)) i)) (nI (i + 1)) S) := by
      show (if (S.1 1 0) ≤ nI i then _ else (gd (inb (nI i) 20) (if (S.2.1 21 (Int32.toNatClampNeg (nI i))) = nI q then ((F_X8_knows N (nI i) S).bind (fun r => F_X11_prompt_26 N n (nI q) x2 (nI _ + r.1) (nI _ + 1) (nI i + 1) r.2)) else (F_X11_prompt_26 N n (nI q) x2 (nI _) (nI _) (nI i + 1) S)))) = _
      rw [if_neg hge, gd_t (inb_nI (by omega) (by decide)), nI_clamp (by omega), e1, nI_1, nI_1]
    rw [stp]
    by_cases c : V 0 i = q
    · obtain ⟨S1, s1, s2⟩ := cl_knows hN ok hc.1 w0 hc.2.1 hii
      obtain ⟨S2, u1, u2⟩ := pm_cl1 hN ok w0 hq x2 m (i + 1) n S1 (s2.clq hc) (by omega) (by omega)
      refine ⟨S2, ?_, s2.tr u2⟩
      rw [if_pos (by rw [c]), s1, Option.bind_some, ← u1, sumIf_succ, cnt_succ, if_pos (by simp [c]), if_pos (by simp [c]), nI_add]
    · obtain ⟨S2, u1, u2⟩ := pm_cl1 hN ok w0 hq x2 m (i + 1) n S hc (by omega) (by omega)
      refine ⟨S2, ?_, u2⟩
      rw [if_neg (fun z => c (nI_inj (by omega) (by omega) z)), ← u1, sumIf_succ, cnt_succ, if_neg (by simp [c]), if_neg (by simp [c])]; rfl
theorem pm_cl2 {K C z : Nat} {S : St} (hq : q < 6) (hz : S.2.1 28 q = nI z) (hz9 : z < 10) (hC : C ≤ 20) (hK : K ≤ 100 * C) (x2 : Int32) : ∀ (m w n : Nat), w + m = 10 → m < n → F_X11_prompt_82 n (nI q) x2 (nI K) (nI C) (nI (bst (pmS z C K) w).1) (nI (bst (pmS z C K) w).2) (nI w) S = some (if x2 = 0 then nI (bst (pmS z C K) 10).1 else nI (bst (pmS z C K) 10).2, S)
  | m, w, 0, _, hn => absurd hn (Nat.not_lt_zero m)
  | 0, w, n + 1, hw, hn => by
    have e : w = 10 := hw
    show (if 9 < nI w then (if x2 = 0 then (some (nI (bst (pmS z C K) w).1, S)) else (some (nI (bst (pmS z C K) w).2, S))) else _) = _
    rw [if_pos (show (9 : Int32) < nI w by rw [e]; decide), e]
    by_cases c : x2 = 0
    · rw [if_pos c, if_pos c]
    · rw [if_neg c, if_neg c]
  | m + 1, w, n + 1, hw, hn => by
    have ih := pm_cl2 hq hz hz9 hC hK x2 m (w + 1) n (by omega) (by omega)
    have hsm : ∀ w, w ≤ 9 → pmS z C K w < 2 ^ 30 := fun w hw => pmS_lt hC hK hw
    have hb := bst_lt hsm w (by omega)
    have h9 : ¬ (9 : Int32) < nI w := nI_nlt (a := 9) (b := w) (by omega) (by decide)
    have ey : ((100 * nI C) - nI K) * nI w = nI ((100 * C - K) * w) := by
      show (nI 100 * nI C - nI K) * nI w = _
      rw [pk_mul, pk_sub hK, pk_mul]
    have e5 : (5 * nI K : Int32) = nI (5 * K) := by show nI 5 * nI K = _; rw [pk_mul]
    have key : ∀ y1 : Int32, nI ((100 * C - K) * w) + y1 = nI (pmS z C K w) → F_X11_prompt_120 (F_X11_prompt_82 n) (nI q) x2 (nI K) (nI C) (nI (bst (pmS z C K) w).1) (nI (bst (pmS z C K) w).2) (nI w) (nI ((100 * C - K) * w)) y1 S = some (if x2 = 0 then nI (bst (pmS z C K) 10).1 else nI (bst (pmS z C K) 10).2, S) := by
      intro y1 hy
      unfold F_X11_prompt_120
      rw [hy, nI_1]
      have hs : bst (pmS z C K) (w + 1) = if w = 0 ∨ pmS z C K w < (bst (pmS z C K) w).2 then (w, pmS z C K w) else bst (pmS z C K) w := rfl
      by_cases c0 : w = 0
      · rw [if_pos (show nI w = 0 by rw [c0]; rfl)]
        rw [hs, if_pos (Or.inl c0)] at ih
        exact ih
      · rw [if_neg (show ¬ nI w = 0 from fun q => c0 (nI_inj (b := 0) (by omega) (by decide) q))]
        by_cases c1 : pmS z C K w < (bst (pmS z C K) w).2
        · rw [if_neg (nI_ge c1 (by omega))]
          rw [hs, if_pos (Or.inr c1)] at ih
          exact ih
        · rw [if_pos (nI_le (by omega) (by have := hsm w (by omega); omega))]
          rw [hs, if_neg (fun q => q.elim c0 c1)] at ih
          exact ih
    show (if 9 < nI w then _ else (gd (inb (nI q) 6) (if (S.2.1 28 (Int32.toNatClampNeg (nI q))) ≤ nI w then (F_X11_prompt_120 (F_X11_prompt_82 n) (nI q) x2 (nI K) (nI C) _ _ (nI w) (((100 * nI C) - nI K) * nI w) 0 S) else (F_X11_prompt_120 (F_X11_prompt_82 n) (nI q) x2 (nI K) (nI C) _ _ (nI w) (((100 * nI C) - nI K) * nI w) (5 * nI K) S)))) = _
    rw [if_neg h9, gd_t (inb_nI hq (by decide)), nI_clamp (by omega), hz, ey, e5]
    by_cases d : z ≤ w
    · rw [if_pos (nI_le d (by omega))]
      refine key 0 ?_
      show nI _ + nI 0 = _
      unfold pmS
      rw [if_pos d, nI_add]
    · rw [if_neg (nI_ge (by omega) (by omega))]
      refine key _ ?_
      unfold pmS
      rw [if_neg d, nI_add]
theorem pm_rl1 (hN : 130 ≤ N) (ok : OKV V) (w0 : WfL L0) (hq : q < 6) (x2 x3 x4 : Int32) {w : Nat} (hw : w ≤ 9) (k26 : Int32 → Int32 → Int32 → Int32 → Int32 → St → Option (Int32 × St)) : ∀ (m i n : Nat) (S : St), RlQ S V L0 L1 → i + m = V 8 0 → m < n → ∃ S', F_X12_prompt_39 N k26 n (nI q) x2 x3 x4 (nI w) (nI (sumIf (fun o => decide (V 0 o = q)) (fun o => (100 - knW L0 V o) * w + (if V 7 q ≤ w then 0 else 5 * knW L0 V o)) i)) (nI i) S = (if x3 < 0 then k26 (nI q) x2 (nI w) (nI (sumIf (fun o => decide (V 0 o = q)) (fun o => (100 - knW L0 V o) * w + (if V 7 q ≤ w then 0 else 5 * knW L0 V o)) (V 8 0))) (nI (w + 1)) S' else if nI (sumIf (fun o => decide (V 0 o = q)) (fun o => (100 - knW L0 V o) * w + (if V 7 q ≤ w then 0 else 5 * knW L0 V o)) (V 8 0)) < x4 then k26 (nI q) x2 (nI w) (nI (sumIf (fun o => decide (V 0 o = q)) (fun o => (100 - knW L0 V o) * w + (if V 7 q ≤ w then 0 else 5 * knW L0 V o)) (V 8 0))) (nI (w + 1)) S' else k26 (nI q) x2 x3 x4 (nI (w + 1)) S') ∧ AgW S S'
  | m, i, 0, S, _, _, hn => absurd hn (Nat.not_lt_zero m)
  | 0, i, n + 1, S, hr, hi, hn => by
    have e : i = V 8 0 := hi
    refine ⟨S, ?_, AgO.rfl⟩
    show (if (S.1 63 1) ≤ nI i then (if x3 < 0 then (k26 (nI q) x2 (nI w) (nI _) (nI w + 1) S) else (if nI _ < x4 then (k26 (nI q) x2 (nI w) (nI _) (nI w + 1) S) else (k26 (nI q) x2 x3 x4 (nI w + 1) S))) else _) = _
    rw [if_pos (by rw [hr.1.1, e]; exact Int32.le_refl _), e, nI_1]
  | m + 1, i, n + 1, S, hr, hi, hn => by
    have h20 := ok.1
    have hii : i < V 8 0 := by omega
    have e1 := (hr.1.2.2.2.1 i hii).1
    have b1 := (ok.2.2.2.1 i hii).1
    have b7 := ok.2.2.2.2 q hq
    have hge : ¬ S.1 63 1 ≤ nI i := by rw [hr.1.1]; exact nI_ge hii (by omega)
    generalize hg : (fun o => (100 - knW L0 V o) * w + (if V 7 q ≤ w then 0 else 5 * knW L0 V o)) = g
    have hgi : g i = (100 - knW L0 V i) * w + (if V 7 q ≤ w then 0 else 5 * knW L0 V i) := by rw [← hg]
    by_cases c : V 0 i = q
    · obtain ⟨S1, s1, s2⟩ := rl_knows hN ok hr.1 w0 hr.2.1 hii
      obtain ⟨S2, u1, u2⟩ := pm_rl1 hN ok w0 hq x2 x3 x4 hw k26 m (i + 1) n S1 (s2.rlq hr) (by omega) (by omega)
      rw [hg, sumIf_succ, if_pos (by simp [c]), hgi] at u1
      refine ⟨S2, ?_, s2.tr u2⟩
      rw [← u1]
      have e71 : S1.2.1 71 q = nI (V 7 q) := (s2.rl hr.1).2.2.2.2 q hq
      have hk := knW_le L0 V i
      show (if (S.1 63 1) ≤ nI i then _ else (gd (inb (nI i) 20) (if (S.2.1 64 (Int32.toNatClampNeg (nI i))) = nI q then ((F_X12_knows N (nI i) S).bind (fun r => gd (inb (nI q) 6) (if (r.2.2.1 71 (Int32.toNatClampNeg (nI q))) ≤ nI w then (F_X12_prompt_39 N k26 n (nI q) x2 x3 x4 (nI w) (nI _ + (((100 - r.1) * nI w) + 0)) (nI i + 1) r.2) else (F_X12_prompt_39 N k26 n (nI q) x2 x3 x4 (nI w) (nI _ + (((100 - r.1) * nI w) + (5 * r.1))) (nI i + 1) r.2)))) else _))) = _
      rw [if_neg hge, gd_t (inb_nI (by omega) (by decide)), nI_clamp (n := i) (by omega), e1, if_pos (by rw [c]), s1, Option.bind_some, gd_t (inb_nI hq (by decide)), nI_clamp (n := q) (by omega)]
      show (if S1.2.1 71 q ≤ nI w then (F_X12_prompt_39 N k26 n (nI q) x2 x3 x4 (nI w) (nI _ + (((nI 100 - nI (knW L0 V i)) * nI w) + nI 0)) (nI i + 1) S1) else (F_X12_prompt_39 N k26 n (nI q) x2 x3 x4 (nI w) (nI _ + (((nI 100 - nI (knW L0 V i)) * nI w) + (nI 5 * nI (knW L0 V i)))) (nI i + 1) S1)) = _
      rw [e71, pk_sub hk, pk_mul, pk_mul, nI_add, nI_add, nI_add, nI_add, nI_1]
      by_cases d : V 7 q ≤ w
      · rw [if_pos (nI_le d (by omega)), if_pos d]
      · rw [if_neg (nI_ge (by omega) (by omega)), if_neg d]
    · obtain ⟨S2, u1, u2⟩ := pm_rl1 hN ok w0 hq x2 x3 x4 hw k26 m (i + 1) n S hr (by omega) (by omega)
      rw [hg, sumIf_succ, if_neg (by simp [c])] at u1
      refine ⟨S2, ?_, u2⟩
      rw [← u1]
      show (if (S.1 63 1) ≤ nI i then _ else (gd (inb (nI i) 20) (if (S.2.1 64 (Int32.toNatClampNeg (nI i))) = nI q then _ else (F_X12_prompt_39 N k26 n (nI q) x2 x3 x4 (nI w) (nI _) (nI i + 1) S)))) = _
      rw [if_neg hge, gd_t (inb_nI (by omega) (by decide)), nI_clamp (n := i) (by omega), e1, if_neg (fun z => c (nI_inj (by omega) (by omega) z)), nI_1]; rfl
theorem pm_rl2 (hN : 130 ≤ N) (ok : OKV V) (w0 : WfL L0) (hq : q < 6) (x2 : Int32) {sm : Nat → Nat} (hsm : ∀ w, w ≤ 9 → sm w = sumIf (fun o => decide (V 0 o = q)) (fun o => (100 - knW L0 V o) * w + (if V 7 q ≤ w then 0 else 5 * knW L0 V o)) (V 8 0)) (hlt : ∀ w, w ≤ 9 → sm w < 2 ^ 30) : ∀ (m w n : Nat) (S : St), RlQ S V L0 L1 → w + m = 10 → m < n → ∃ S', F_X12_prompt_26 N n (nI q) x2 (if w = 0 then -1 else nI (bst sm w).1) (nI (bst sm w).2) (nI w) S = some (if x2 = 0 then nI (bst sm 10).1 else nI (bst sm 10).2, S') ∧ AgW S S'
  | m, w, 0, S, _, _, hn => absurd hn (Nat.not_lt_zero m)
  | 0, w, n + 1, S, hr, hw, hn => by
    have e : w = 10 := hw
    refine ⟨S, ?_, AgO.rfl⟩
    show (if 9 < nI w then (if x2 = 0 then (some ((if w = 0 then -1 else nI (bst sm w).1), S)) else (some (nI (bst sm w).2, S))) else _) = _
    rw [if_pos (show (9 : Int32) < nI w by rw [e]; decide), if_neg (show ¬ w = 0 by omega), e]
    by_cases c : x2 = 0
    · rw [if_pos c, if_pos c]
    · rw [if_neg c, if_neg c]
  | m + 1, w, n + 1, S, hr, hw, hn => by
    have h20 := ok.1
    have hb := bst_lt hlt w (by omega)
    have h9 : ¬ (9 : Int32) < nI w := nI_nlt (a := 9) (b := w) (by omega) (by decide)
    obtain ⟨S1, s1, s2⟩ := pm_rl1 hN ok w0 hq x2 (if w = 0 then -1 else nI (bst sm w).1) (nI (bst sm w).2) (show w ≤ 9 by omega) (F_X12_prompt_26 N n) (V 8 0) 0 N S hr (by omega) (by omega)
    obtain ⟨S2, u1, u2⟩ := pm_rl2 hN ok w0 hq x2 hsm hlt m (w + 1) n S1 (s2.rlq hr) (by omega) (by omega)
    refine ⟨S2, ?_, s2.tr u2⟩
    rw [← u1]
    show (if 9 < nI w then _ else (F_X12_prompt_39 N (F_X12_prompt_26 N n) N (nI q) x2 (if w = 0 then -1 else nI (bst sm w).1) (nI (bst sm w).2) (nI w) 0 0 S)) = _
    rw [if_neg h9]
    have s1' : F_X12_prompt_39 N (F_X12_prompt_26 N n) N (nI q) x2 (if w = 0 then -1 else nI (bst sm w).1) (nI (bst sm w).2) (nI w) 0 0 S = _ := s1
    rw [s1', ← hsm w (by omega), if_neg (show ¬ w + 1 = 0 by omega)]
    have hs : bst sm (w + 1) = if w = 0 ∨ sm w < (bst sm w).2 then (w, sm w) else bst sm w := rfl
    rw [hs]
    by_cases c0 : w = 0
    · rw [if_pos (Or.inl c0), if_pos (by rw [if_pos c0]; decide)]
    · rw [if_neg (show ¬ (if w = 0 then (-1 : Int32) else nI (bst sm w).1) < 0 by rw [if_neg c0]; exact nI_pos (by omega))]
      by_cases c1 : sm w < (bst sm w).2
      · rw [if_pos (nI_lt c1 (by omega)), if_pos (Or.inr c1)]
      · rw [if_neg (nI_nlt (by omega) (by have := hlt w (by omega); omega)), if_neg c0, if_neg (show ¬ (w = 0 ∨ sm w < (bst sm w).2) from fun q => q.elim c0 c1)]
end
/-- prompt -/
theorem st_prompt {N : Nat} (hN : 130 ≤ N) {S : St} (h : Inv S) (x y : Int32) : Both (F_X11_prompt N x y) (F_X12_prompt N x y) S := by
  obtain ⟨V, kd, hI⟩ := id h
  obtain ⟨ok, L0, L1, w0, w1, hc, hr⟩ := hI.ready
  have h20 := ok.1
  have n10 : ¬ (1 : Int32) = 0 := by decide
  rcases line_or x 6 with ⟨q, hq, rfl⟩ | hx
  · rcases (rng y 1 (by decide)).symm with hy | ⟨j, hj, rfl⟩
    · refine both_ro h (r := -1) ?_ ?_
      · unfold F_X11_prompt
        simp only [F_part_t hq, Option.bind_some, if_neg n10]
        rcases hy with q | q
        · rw [if_pos q]
        · by_cases c : y < 0
          · rw [if_pos c]
          · rw [if_neg c, if_neg (show ¬ y ≤ 1 from Int32.not_le.mpr q)]
      · unfold F_X12_prompt
        have := in_f (N := 1) hy S
        have e : F_X12_in y (0 : Int32) (1 : Int32) S = some (0, S) := this
        simp only [F_part12_t hq, Option.bind_some, if_neg n10, e, if_true]
    · have hkn : ∀ i, knW L0 V i ≤ 100 := fun i => knW_le L0 V i
      let C := cnt (fun o => decide (V 0 o = q)) (V 8 0)
      let K := sumIf (fun o => decide (V 0 o = q)) (knW L0 V) (V 8 0)
      have hC : C ≤ 20 := Nat.le_trans (cnt_le _ _) h20
      have hK : K ≤ 100 * C := (sum_pm (fun o => decide (V 0 o = q)) hkn (V 7 q) 0 (V 8 0)).1
      have b7 := ok.2.2.2.2 q hq
      obtain ⟨S1, s1, s2⟩ := pm_cl1 hN ok w0 hq (nI j) (V 8 0) 0 N S hc (by omega) (by omega)
      have s3 := pm_cl2 (S := S1) hq ((s2.cl hc.1).2.2.2.2.1 q hq) b7 hC hK (nI j) 10 0 N (by omega) (by omega)
      obtain ⟨S2, u1, u2⟩ := pm_rl2 hN ok w0 hq (nI j) (sm := pmS (V 7 q) C K) (fun w hw => (sum_pm (fun o => decide (V 0 o = q)) hkn (V 7 q) w (V 8 0)).2.symm) (fun w hw => pmS_lt hC hK hw) 10 0 N S1 (s2.rlq hr) (by omega) (by omega)
      refine both_ag h (S1 := S1) (S2 := S2) (r := if nI j = 0 then nI (bst (pmS (V 7 q) C K) 10).1 else nI (bst (pmS (V 7 q) C K) 10).2) ?_ s2.ag ?_ u2.ag
      · unfold F_X11_prompt
        simp only [F_part_t hq, Option.bind_some, if_neg n10]
        rw [if_neg (nI_pos (by omega)), if_pos (show nI j ≤ 1 from nI_le (b := 1) hj (by decide))]
        exact (show F_X11_prompt_26 N N (nI q) (nI j) 0 0 0 S = _ from s1).trans s3
      · unfold F_X12_prompt
        have e : F_X12_in (nI j) (0 : Int32) (1 : Int32) S1 = some (1, S1) := in_t hj (by decide) S1
        simp only [F_part12_t hq, Option.bind_some, if_neg n10, e]
        exact u1
  · refine both_ro h (r := -1) ?_ ?_
    · unfold F_X11_prompt
      simp only [F_part_f hx, Option.bind_some, if_true]
    · unfold F_X12_prompt
      simp only [F_part12_f hx, Option.bind_some, if_true]
