theorem tst_bit1 {m j : Nat} (hm : m < 2 ^ 31) (hj : j < 31) : ((nI m >>> (nI j &&& 31)) &&& 1) = 1 ↔ m.testBit j = true := by
  rw [pk_shrN hm (nI j &&& 31) j (s_l j (by omega))]
  show nI (m / 2 ^ j) &&& nI 1 = nI 1 ↔ _
  rw [nx_and, Nat.and_one_is_mod, nI_eq (by omega) (by omega), Nat.testBit_eq_decide_div_mod_eq, decide_eq_true_iff]
theorem pred_nI {f : Nat} (h : 0 < f) : nI f - 1 = nI (f - 1) := pk_sub (a := f) (b := 1) h
/-- the dearest line: 0 none, else its number and 1; and what it costs -/
def dr (p : Nat → Bool) (rk : Nat → Nat) : Nat → Nat × Nat
  | 0 => (0, 0)
  | i + 1 => if p i = true ∧ (dr p rk i).2 < rk i then (i + 1, rk i) else dr p rk i
theorem dr_succ (p : Nat → Bool) (rk : Nat → Nat) (i : Nat) : dr p rk (i + 1) = if p i = true ∧ (dr p rk i).2 < rk i then (i + 1, rk i) else dr p rk i := rfl
theorem dr_ok (p : Nat → Bool) (rk : Nat → Nat) : ∀ n, (dr p rk n).1 ≤ n ∧ ((dr p rk n).1 = 0 → (dr p rk n).2 = 0) ∧ (0 < (dr p rk n).1 → (dr p rk n).2 = rk ((dr p rk n).1 - 1))
  | 0 => ⟨Nat.le_refl _, fun _ => rfl, fun h => absurd h (Nat.lt_irrefl 0)⟩
  | i + 1 => by
    obtain ⟨h1, h2, h3⟩ := dr_ok p rk i
    rw [dr_succ]
    by_cases c : p i = true ∧ (dr p rk i).2 < rk i
    · rw [if_pos c]
      exact ⟨Nat.le_refl _, fun h => absurd h (Nat.succ_ne_zero i), fun _ => rfl⟩
    · rw [if_neg c]
      exact ⟨by omega, h2, h3⟩
def rkW (L : LawT) (V : Nat → Nat → Nat) (i : Nat) : Nat := (100 - knW L V i) * V 3 i
theorem rkW_lt {L : LawT} {V : Nat → Nat → Nat} (ok : OKV V) {i : Nat} (hi : i < V 8 0) : rkW L V i ≤ 3000 := by
  have h := (ok.2.2.2.1 i hi).2.2.2.1
  have h1 : (100 - knW L V i) * V 3 i ≤ 100 * 30 := Nat.mul_le_mul (by omega) (by omega)
  exact h1
theorem dr_lt {L : LawT} {V : Nat → Nat → Nat} (ok : OKV V) (p : Nat → Bool) {n : Nat} (hn : n ≤ V 8 0) : (dr p (rkW L V) n).2 ≤ 3000 := by
  obtain ⟨h1, h2, h3⟩ := dr_ok p (rkW L V) n
  by_cases c : (dr p (rkW L V) n).1 = 0
  · rw [h2 c]; omega
  · rw [h3 (by omega)]; exact rkW_lt ok (by omega)
def npP (V : Nat → Nat → Nat) (q bits i : Nat) : Bool := decide (V 0 i = q) && !bits.testBit i
def npF (L : LawT) (V : Nat → Nat → Nat) (q : Nat) : Nat → Nat × Nat
  | 0 => (0, 0)
  | k + 1 => if (dr (npP V q (npF L V q k).1) (rkW L V) (V 8 0)).1 = 0 then npF L V q k else ((npF L V q k).1 ||| 2 ^ ((dr (npP V q (npF L V q k).1) (rkW L V) (V 8 0)).1 - 1), (npF L V q k).2 + (dr (npP V q (npF L V q k).1) (rkW L V) (V 8 0)).2)
theorem npF_succ (L : LawT) (V : Nat → Nat → Nat) (q k : Nat) : npF L V q (k + 1) = if (dr (npP V q (npF L V q k).1) (rkW L V) (V 8 0)).1 = 0 then npF L V q k else ((npF L V q k).1 ||| 2 ^ ((dr (npP V q (npF L V q k).1) (rkW L V) (V 8 0)).1 - 1), (npF L V q k).2 + (dr (npP V q (npF L V q k).1) (rkW L V) (V 8 0)).2) := rfl
theorem npF_lt {L : LawT} {V : Nat → Nat → Nat} (ok : OKV V) (q : Nat) : ∀ k, (npF L V q k).1 < 2 ^ 20
  | 0 => by show (0 : Nat) < 2 ^ 20; decide
  | k + 1 => by
    have ih := npF_lt (L := L) ok q k
    rw [npF_succ]
    split
    · exact ih
    · have h1 := (dr_ok (npP V q (npF L V q k).1) (rkW L V) (V 8 0)).1
      have h20 := ok.1
      exact Nat.or_lt_two_pow ih (Nat.pow_lt_pow_right (by decide) (by omega))
section
variable {N q : Nat} {V : Nat → Nat → Nat} {L0 L1 : LawT}
theorem cl_risk (hN : 130 ≤ N) (ok : OKV V) (w0 : WfL L0) {S : St} (hc : ClQ S V L0 L1) {i : Nat} (hi : i < V 8 0) : ∃ S', F_X8_risk N (nI i) S = some (nI (rkW L0 V i), S') ∧ AgW S S' := by
  have h20 := ok.1
  obtain ⟨S1, s1, s2⟩ := cl_knows hN ok hc.1 w0 hc.2.1 hi
  have e := ((s2.cl hc.1).2.2.2.1 i hi).2.2.2.1
  have hk := knW_le L0 V i
  refine ⟨S1, ?_, s2⟩
  unfold F_X8_risk
  rw [s1, Option.bind_some, gd_t (inb_nI (by omega) (by decide)), nI_clamp (by omega)]
  show some ((nI 100 - nI (knW L0 V i)) * S1.2.1 24 i, S1) = _
  rw [e, pk_sub hk, pk_mul]
  rfl
theorem cl_dear (hN : 130 ≤ N) (ok : OKV V) (w0 : WfL L0) (hq : q < 6) {bits : Nat} (hb : bits < 2 ^ 20) : ∀ (m i n : Nat) (S : St), ClQ S V L0 L1 → i + m = V 8 0 → m < n → ∃ S', F_X11_dearestLine_8 N n (nI q) (nI bits) (nI (dr (npP V q bits) (rkW L0 V) i).1 - 1) (nI (dr (npP V q bits) (rkW L0 V) i).2) (nI i) S = some (nI (dr (npP V q bits) (rkW L0 V) (V 8 0)).1 - 1, S') ∧ AgW S S'
  | m, i, 0, S, _, _, hn => absurd hn (Nat.not_lt_zero m)
  | 0, i, n + 1, S, hc, hi, hn => by
    have e : i = V 8 0 := hi
    refine ⟨S, ?_, AgO.rfl⟩
    show (if (S.1 1 0) ≤ nI i then some (_, S) else _) = _
    rw [if_pos (by rw [hc.1.1, e]; exact Int32.le_refl _), e]
  | m + 1, i, n + 1, S, hc, hi, hn => by
    have h20 := ok.1
    have hii : i < V 8 0 := by omega
    have e1 := (hc.1.2.2.2.1 i hii).1
    have b1 := (ok.2.2.2.1 i hii).1
    have hge : ¬ S.1 1 0 ≤ nI i := by rw [hc.1.1]; exact nI_ge hii (by omega)
    have hds := dr_succ (npP V q bits) (rkW L0 V) i
    have hdl := dr_lt (L := L0) ok (npP V q bits) (n := i) (by omega)
    have hrl := rkW_lt (L := L0) ok hii
    have stp : ∀ x3 x4 : Int32, F_X11_dearestLine_8 N (n + 1) (nI q) (nI bits) x3 x4 (nI i) S = (if nI (V 0 i) = nI q then (if ((nI bits >>> (nI i &&& 31)) &&& 1) = 0 then ((F_X8_risk N (nI i) S).bind (fun r => if r.1 ≤ x4 then (F_X11_dearestLine_8 N n (nI q) (nI bits) x3 x4 (nI (i + 1)) r.2) else (F_X11_dearestLine_8 N n (nI q) (nI bits) (nI i) r.1 (nI (i + 1)) r.2))) else (F_X11_dearestLine_8 N n (nI q) (nI bits) x3 x4 (nI (i + 1)) S)) else (F_X11_dearestLine_8 N n (nI q) (nI bits) x3 x4 (nI (i + 1)) S)) := by
      intro x3 x4
      show (if (S.1 1 0) ≤ nI i then _ else (gd (inb (nI i) 20) (if (S.2.1 21 (Int32.toNatClampNeg (nI i))) = nI q then (if ((nI bits >>> (nI i &&& 31)) &&& 1) = 0 then ((F_X8_risk N (nI i) S).bind (fun r => if r.1 ≤ x4 then (F_X11_dearestLine_8 N n (nI q) (nI bits) x3 x4 (nI i + 1) r.2) else (F_X11_dearestLine_8 N n (nI q) (nI bits) (nI i) r.1 (nI i + 1) r.2))) else (F_X11_dearestLine_8 N n (nI q) (nI bits) x3 x4 (nI i + 1) S)) else (F_X11_dearestLine_8 N n (nI q) (nI bits) x3 x4 (nI i + 1) S)))) = _
      rw [if_neg hge, gd_t (inb_nI (by omega) (by decide)), nI_clamp (by omega), e1, nI_1]
    rw [stp]
    by_cases c : npP V q bits i = true
    · obtain ⟨c1, c2⟩ : V 0 i = q ∧ bits.testBit i = false := by
        unfold npP at c
        simp only [Bool.and_eq_true, decide_eq_true_eq, Bool.not_eq_true'] at c
        exact c
      obtain ⟨S1, s1, s2⟩ := cl_risk hN ok w0 hc hii
      obtain ⟨S2, u1, u2⟩ := cl_dear hN ok w0 hq hb m (i + 1) n S1 (s2.clq hc) (by omega) (by omega)
      refine ⟨S2, ?_, s2.tr u2⟩
      rw [if_pos (by rw [c1]), if_pos ((tst_bit (by omega) (by omega)).mpr c2), s1, Option.bind_some, ← u1, hds]
      by_cases d : (dr (npP V q bits) (rkW L0 V) i).2 < rkW L0 V i
      · rw [if_neg (nI_ge d (by omega)), if_pos ⟨c, d⟩]
        show _ = F_X11_dearestLine_8 N n (nI q) (nI bits) (nI (i + 1) - 1) _ _ _
        rw [nI_pred]
      · rw [if_pos (nI_le (by omega) (by omega)), if_neg (fun z => d z.2)]
    · obtain ⟨S2, u1, u2⟩ := cl_dear hN ok w0 hq hb m (i + 1) n S hc (by omega) (by omega)
      refine ⟨S2, ?_, u2⟩
      rw [← u1, hds, if_neg (show ¬ (npP V q bits i = true ∧ (dr (npP V q bits) (rkW L0 V) i).2 < rkW L0 V i) from fun z => c z.1)]
      by_cases c1 : V 0 i = q
      · have c2 : ¬ bits.testBit i = false := fun z => c (by unfold npP; simp [c1, z])
        rw [if_pos (by rw [c1]), if_neg (fun z => c2 ((tst_bit (by omega) (by omega)).mp z))]
      · rw [if_neg (fun z => c1 (nI_inj (by omega) (by omega) z))]
theorem np_cl (hN : 130 ≤ N) (ok : OKV V) (w0 : WfL L0) {pn r : Nat} (hq : q < 6) (x2 : Int32) (e10 : (nI pn / 10 : Int32) = nI q) (er : (nI pn - nI pn / 10 * 10 : Int32) = nI r) (hr5 : r ≤ 5) : ∀ (m k n : Nat) (S : St), ClQ S V L0 L1 → k + m = r → m < n → ∃ S', F_X11_newspaper_41 N n (nI pn) x2 (nI (npF L0 V q k).1) (nI (npF L0 V q k).2) (nI k) S = some (if x2 = 0 then nI (npF L0 V q r).1 else nI (npF L0 V q r).2, S') ∧ AgW S S'
  | m, k, 0, S, _, _, hn => absurd hn (Nat.not_lt_zero m)
  | 0, k, n + 1, S, hc, hk, hn => by
    have e : k = r := hk
    refine ⟨S, ?_, AgO.rfl⟩
    show (if (nI pn - nI pn / 10 * 10 : Int32) ≤ nI k then (if x2 = 0 then some (nI (npF L0 V q k).1, S) else some (nI (npF L0 V q k).2, S)) else _) = _
    rw [if_pos (by rw [er, e]; exact Int32.le_refl _), e]
    by_cases c : x2 = 0
    · rw [if_pos c, if_pos c]
    · rw [if_neg c, if_neg c]
  | m + 1, k, n + 1, S, hc, hk, hn => by
    have h20 := ok.1
    have hnl := npF_lt (L := L0) ok q k
    obtain ⟨S1, s1, s2⟩ := cl_dear hN ok w0 hq hnl (V 8 0) 0 N S hc (by omega) (by omega)
    have hdk := dr_ok (npP V q (npF L0 V q k).1) (rkW L0 V) (V 8 0)
    have hns := npF_succ L0 V q k
    have hge : ¬ (nI pn - nI pn / 10 * 10 : Int32) ≤ nI k := by rw [er]; exact nI_ge (by omega) (by omega)
    have s1' : F_X11_dearestLine N (nI q) (nI (npF L0 V q k).1) S = _ := s1
    have stp : F_X11_newspaper_41 N (n + 1) (nI pn) x2 (nI (npF L0 V q k).1) (nI (npF L0 V q k).2) (nI k) S = (if nI (dr (npP V q (npF L0 V q k).1) (rkW L0 V) (V 8 0)).1 - 1 = (-1) then (F_X11_newspaper_41 N n (nI pn) x2 (nI (npF L0 V q k).1) (nI (npF L0 V q k).2) (nI (k + 1)) S1) else ((F_X8_risk N (nI (dr (npP V q (npF L0 V q k).1) (rkW L0 V) (V 8 0)).1 - 1) S1).bind (fun z => F_X11_newspaper_41 N n (nI pn) x2 (nI (npF L0 V q k).1 ||| (1 <<< ((nI (dr (npP V q (npF L0 V q k).1) (rkW L0 V) (V 8 0)).1 - 1) &&& 31))) (nI (npF L0 V q k).2 + z.1) (nI (k + 1)) z.2))) := by
      show (if (nI pn - nI pn / 10 * 10 : Int32) ≤ nI k then _ else ((F_X11_dearestLine N (nI pn / 10) (nI (npF L0 V q k).1) S).bind (fun r_56 => if r_56.1 = (-1) then (F_X11_newspaper_41 N n (nI pn) x2 (nI (npF L0 V q k).1) (nI (npF L0 V q k).2) (nI k + 1) r_56.2) else ((F_X8_risk N r_56.1 r_56.2).bind (fun r_82 => F_X11_newspaper_41 N n (nI pn) x2 (nI (npF L0 V q k).1 ||| (1 <<< (r_56.1 &&& 31))) (nI (npF L0 V q k).2 + r_82.1) (nI k + 1) r_82.2))))) = _
      rw [if_neg hge, e10, s1', Option.bind_some, nI_1]
    rw [stp]
    generalize dr (npP V q (npF L0 V q k).1) (rkW L0 V) (V 8 0) = d at hdk hns ⊢
    by_cases c : d.1 = 0
    · obtain ⟨S2, u1, u2⟩ := np_cl hN ok w0 hq x2 e10 er hr5 m (k + 1) n S1 (s2.clq hc) (by omega) (by omega)
      refine ⟨S2, ?_, s2.tr u2⟩
      rw [if_pos (by rw [c]; decide), ← u1, hns, if_pos c]
    · have hlt : d.1 - 1 < V 8 0 := by omega
      obtain ⟨S2, t1, t2⟩ := cl_risk hN ok w0 (s2.clq hc) hlt
      obtain ⟨S3, u1, u2⟩ := np_cl hN ok w0 hq x2 e10 er hr5 m (k + 1) n S2 ((s2.tr t2).clq hc) (by omega) (by omega)
      refine ⟨S3, ?_, (s2.tr t2).tr u2⟩
      rw [pred_nI (by omega), if_neg (fun z => nI_pos (n := d.1 - 1) (by omega) (by rw [z]; decide)), t1, Option.bind_some, bit_n _ (by omega), nI_or, nI_add, ← u1, hns, if_neg c, hdk.2.2 (by omega)]
theorem np_rl1 (hN : 130 ≤ N) (ok : OKV V) (w0 : WfL L0) {pn bits sm k : Nat} (hq : q < 6) (x2 : Int32) (e10 : (nI pn / 10 : Int32) = nI q) (hb : bits < 2 ^ 20) (k41 : Int32 → Int32 → Int32 → Int32 → Int32 → St → Option (Int32 × St)) : ∀ (m i n : Nat) (S : St), RlQ S V L0 L1 → i + m = V 8 0 → m < n → ∃ S', F_X12_newspaper_59 N k41 n (nI pn) x2 (nI bits) (nI sm) (nI k) (nI (dr (npP V q bits) (rkW L0 V) i).1 - 1) (nI (dr (npP V q bits) (rkW L0 V) i).2) (nI i) S = (if 0 ≤ nI (dr (npP V q bits) (rkW L0 V) (V 8 0)).1 - 1 then (k41 (nI pn) x2 (nI bits ||| (1 <<< ((nI (dr (npP V q bits) (rkW L0 V) (V 8 0)).1 - 1) &&& 31))) (nI sm + nI (dr (npP V q bits) (rkW L0 V) (V 8 0)).2) (nI (k + 1)) S') else (k41 (nI pn) x2 (nI bits) (nI sm) (nI (k + 1)) S')) ∧ AgW S S'
  | m, i, 0, S, _, _, hn => absurd hn (Nat.not_lt_zero m)
  | 0, i, n + 1, S, hr, hi, hn => by
    have e : i = V 8 0 := hi
    refine ⟨S, ?_, AgO.rfl⟩
    show (if (S.1 63 1) ≤ nI i then (if 0 ≤ nI (dr (npP V q bits) (rkW L0 V) i).1 - 1 then (k41 (nI pn) x2 (nI bits ||| (1 <<< ((nI (dr (npP V q bits) (rkW L0 V) i).1 - 1) &&& 31))) (nI sm + nI (dr (npP V q bits) (rkW L0 V) i).2) (nI k + 1) S) else (k41 (nI pn) x2 (nI bits) (nI sm) (nI k + 1) S)) else _) = _
    rw [if_pos (by rw [hr.1.1, e]; exact Int32.le_refl _), e, nI_1]
  | m + 1, i, n + 1, S, hr, hi, hn => by
    have h20 := ok.1
    have hii : i < V 8 0 := by omega
    have b1 := (ok.2.2.2.1 i hii).1
    have hge : ¬ S.1 63 1 ≤ nI i := by rw [hr.1.1]; exact nI_ge hii (by omega)
    obtain ⟨S1, s1, s2⟩ := rl_knows hN ok hr.1 w0 hr.2.1 hii
    obtain ⟨S2, u1, u2⟩ := np_rl1 (sm := sm) (k := k) hN ok w0 hq x2 e10 hb k41 m (i + 1) n S1 (s2.rlq hr) (by omega) (by omega)
    have hk := knW_le L0 V i
    have e1 := ((s2.rl hr.1).2.2.2.1 i hii).1
    have e3 := ((s2.rl hr.1).2.2.2.1 i hii).2.2.2.1
    have hds := dr_succ (npP V q bits) (rkW L0 V) i
    have hdl := dr_lt (L := L0) ok (npP V q bits) (n := i) (by omega)
    have hrl := rkW_lt (L := L0) ok hii
    refine ⟨S2, ?_, s2.tr u2⟩
    rw [← u1, hds]
    have stp : ∀ x6 x7 : Int32, F_X12_newspaper_59 N k41 (n + 1) (nI pn) x2 (nI bits) (nI sm) (nI k) x6 x7 (nI i) S = (if nI (V 0 i) = nI q then (if ((nI bits >>> (nI i &&& 31)) &&& 1) = 1 then (F_X12_newspaper_59 N k41 n (nI pn) x2 (nI bits) (nI sm) (nI k) x6 x7 (nI (i + 1)) S1) else (if x7 < nI (rkW L0 V i) then (F_X12_newspaper_59 N k41 n (nI pn) x2 (nI bits) (nI sm) (nI k) (nI i) (nI (rkW L0 V i)) (nI (i + 1)) S1) else (F_X12_newspaper_59 N k41 n (nI pn) x2 (nI bits) (nI sm) (nI k) x6 x7 (nI (i + 1)) S1))) else (F_X12_newspaper_59 N k41 n (nI pn) x2 (nI bits) (nI sm) (nI k) x6 x7 (nI (i + 1)) S1)) := by
      intro x6 x7
      have ek : ((100 : Int32) - nI (knW L0 V i)) * nI (V 3 i) = nI (rkW L0 V i) := by
        show (nI 100 - nI (knW L0 V i)) * nI (V 3 i) = _
        rw [pk_sub hk, pk_mul]; rfl
      show (if (S.1 63 1) ≤ nI i then _ else ((F_X12_knows N (nI i) S).bind (fun r_73 => gd (inb (nI i) 20) (gd (inb (nI i) 20) (if (r_73.2.2.1 64 (Int32.toNatClampNeg (nI i))) = (nI pn / 10) then (if ((nI bits >>> (nI i &&& 31)) &&& 1) = 1 then (F_X12_newspaper_59 N k41 n (nI pn) x2 (nI bits) (nI sm) (nI k) x6 x7 (nI i + 1) r_73.2) else (if x7 < ((100 - r_73.1) * (r_73.2.2.1 67 (Int32.toNatClampNeg (nI i)))) then (F_X12_newspaper_59 N k41 n (nI pn) x2 (nI bits) (nI sm) (nI k) (nI i) ((100 - r_73.1) * (r_73.2.2.1 67 (Int32.toNatClampNeg (nI i)))) (nI i + 1) r_73.2) else (F_X12_newspaper_59 N k41 n (nI pn) x2 (nI bits) (nI sm) (nI k) x6 x7 (nI i + 1) r_73.2))) else (F_X12_newspaper_59 N k41 n (nI pn) x2 (nI bits) (nI sm) (nI k) x6 x7 (nI i + 1) r_73.2)))))) = _
      rw [if_neg hge, s1, Option.bind_some, gd_t (inb_nI (by omega) (by decide)), gd_t (inb_nI (by omega) (by decide)), nI_clamp (by omega), nI_1, e10]
      show (if S1.2.1 64 i = nI q then (if ((nI bits >>> (nI i &&& 31)) &&& 1) = 1 then _ else (if x7 < ((100 - nI (knW L0 V i)) * (S1.2.1 67 i)) then (F_X12_newspaper_59 N k41 n (nI pn) x2 (nI bits) (nI sm) (nI k) (nI i) ((100 - nI (knW L0 V i)) * (S1.2.1 67 i)) (nI (i + 1)) S1) else _)) else _) = _
      rw [e1, e3, ek]
    rw [stp]
    by_cases c : npP V q bits i = true
    · obtain ⟨c1, c2⟩ : V 0 i = q ∧ bits.testBit i = false := by
        unfold npP at c
        simp only [Bool.and_eq_true, decide_eq_true_eq, Bool.not_eq_true'] at c
        exact c
      rw [if_pos (by rw [c1]), if_neg (fun z => by rw [(tst_bit1 (by omega) (by omega)).mp z] at c2; cases c2)]
      by_cases d : (dr (npP V q bits) (rkW L0 V) i).2 < rkW L0 V i
      · rw [if_pos (nI_lt d (by omega)), if_pos ⟨c, d⟩]
        show _ = F_X12_newspaper_59 N k41 n (nI pn) x2 (nI bits) (nI sm) (nI k) (nI (i + 1) - 1) _ _ _
        rw [nI_pred]
      · rw [if_neg (nI_nlt (by omega) (by omega)), if_neg (fun z => d z.2)]
    · rw [if_neg (show ¬ (npP V q bits i = true ∧ (dr (npP V q bits) (rkW L0 V) i).2 < rkW L0 V i) from fun z => c z.1)]
      by_cases c1 : V 0 i = q
      · have c2 : bits.testBit i = true := by
          cases hz : bits.testBit i with
          | true => rfl
          | false => exact absurd (by unfold npP; simp [c1, hz]) c
        rw [if_pos (by rw [c1]), if_pos ((tst_bit1 (by omega) (by omega)).mpr c2)]
      · rw [if_neg (fun z => c1 (nI_inj (by omega) (by omega) z))]
theorem np_rl (hN : 130 ≤ N) (ok : OKV V) (w0 : WfL L0) {pn r : Nat} (hq : q < 6) (x2 : Int32) (e10 : (nI pn / 10 : Int32) = nI q) (er : (nI pn - nI pn / 10 * 10 : Int32) = nI r) (hr5 : r ≤ 5) : ∀ (m k n : Nat) (S : St), RlQ S V L0 L1 → k + m = r → m < n → ∃ S', F_X12_newspaper_41 N n (nI pn) x2 (nI (npF L0 V q k).1) (nI (npF L0 V q k).2) (nI k) S = some (if x2 = 0 then nI (npF L0 V q r).1 else nI (npF L0 V q r).2, S') ∧ AgW S S'
  | m, k, 0, S, _, _, hn => absurd hn (Nat.not_lt_zero m)
  | 0, k, n + 1, S, hc, hk, hn => by
    have e : k = r := hk
    refine ⟨S, ?_, AgO.rfl⟩
    show (if (nI pn - nI pn / 10 * 10 : Int32) ≤ nI k then (if x2 = 0 then some (nI (npF L0 V q k).1, S) else some (nI (npF L0 V q k).2, S)) else _) = _
    rw [if_pos (by rw [er, e]; exact Int32.le_refl _), e]
    by_cases c : x2 = 0
    · rw [if_pos c, if_pos c]
    · rw [if_neg c, if_neg c]
  | m + 1, k, n + 1, S, hc, hk, hn => by
    have h20 := ok.1
    have hnl := npF_lt (L := L0) ok q k
    have hge : ¬ (nI pn - nI pn / 10 * 10 : Int32) ≤ nI k := by rw [er]; exact nI_ge (by omega) (by omega)
    obtain ⟨S1, s1, s2⟩ := np_rl1 (sm := (npF L0 V q k).2) (k := k) hN ok w0 hq x2 e10 hnl (F_X12_newspaper_41 N n) (V 8 0) 0 N S hc (by omega) (by omega)
    obtain ⟨S2, u1, u2⟩ := np_rl hN ok w0 hq x2 e10 er hr5 m (k + 1) n S1 (s2.rlq hc) (by omega) (by omega)
    refine ⟨S2, ?_, s2.tr u2⟩
    have hdk := dr_ok (npP V q (npF L0 V q k).1) (rkW L0 V) (V 8 0)
    have hns := npF_succ L0 V q k
    show (if (nI pn - nI pn / 10 * 10 : Int32) ≤ nI k then _ else (F_X12_newspaper_59 N (F_X12_newspaper_41 N n) N (nI pn) x2 (nI (npF L0 V q k).1) (nI (npF L0 V q k).2) (nI k) (-1) 0 0 S)) = _
    rw [if_neg hge]
    have s1' : F_X12_newspaper_59 N (F_X12_newspaper_41 N n) N (nI pn) x2 (nI (npF L0 V q k).1) (nI (npF L0 V q k).2) (nI k) (-1) 0 0 S = _ := s1
    rw [s1', ← u1, hns]
    generalize dr (npP V q (npF L0 V q k).1) (rkW L0 V) (V 8 0) = d at hdk ⊢
    by_cases c : d.1 = 0
    · rw [if_neg (show ¬ (0 : Int32) ≤ nI d.1 - 1 by rw [c]; decide), if_pos c]
    · rw [pred_nI (by omega), if_pos (nI_pos' (by omega)), bit_n _ (by omega), nI_or, nI_add, if_neg c]
end
/-- newspaper -/
theorem st_newspaper {N : Nat} (hN : 130 ≤ N) {S : St} (h : Inv S) (x y : Int32) : Both (F_X11_newspaper N x y) (F_X12_newspaper N x y) S := by
  obtain ⟨V, kd, hI⟩ := id h
  obtain ⟨ok, L0, L1, w0, w1, hc, hr⟩ := hI.ready
  have h20 := ok.1
  have n10 : ¬ (1 : Int32) = 0 := by decide
  by_cases hx0 : x < 0
  · refine both_ro h (r := -1) ?_ ?_
    · unfold F_X11_newspaper
      rw [if_pos hx0]
    · unfold F_X12_newspaper
      rw [if_pos hx0]
  obtain ⟨pn, hpn, rfl⟩ := nI_of hx0
  have e10 : (nI pn / 10 : Int32) = nI (pn / 10) := pk_div (d := 10) hpn (by decide) (by decide)
  have er : (nI pn - nI pn / 10 * 10 : Int32) = nI (pn % 10) := pk_rem (d := 10) hpn (by decide) (by decide)
  rcases line_or (nI pn / 10) 6 with ⟨q, hq, eq⟩ | hx
  · by_cases h5 : pn % 10 ≤ 5
    · have hr5 : ¬ (5 : Int32) < (nI pn - nI pn / 10 * 10 : Int32) := by rw [er]; exact nI_nlt (a := 5) h5 (by decide)
      rcases (rng y 1 (by decide)).symm with hy | ⟨j, hj, rfl⟩
      · refine both_ro h (r := -1) ?_ ?_
        · unfold F_X11_newspaper
          rw [if_neg hx0, eq]
          simp only [F_part_t hq, Option.bind_some, if_neg n10]
          rw [← eq, if_neg hr5]
          rcases hy with q | q
          · rw [if_pos q]
          · by_cases c : y < 0
            · rw [if_pos c]
            · rw [if_neg c, if_neg (show ¬ y ≤ 1 from Int32.not_le.mpr q)]
        · unfold F_X12_newspaper
          have e : F_X12_in y (0 : Int32) (1 : Int32) S = some (0, S) := in_f (N := 1) hy S
          rw [if_neg hx0, eq]
          simp only [F_part12_t hq, Option.bind_some, if_neg n10, e, if_true]
          rw [← eq, if_neg hr5]
      · obtain ⟨S1, s1, s2⟩ := np_cl hN ok w0 hq (nI j) eq er (by omega) (pn % 10) 0 N S hc (by omega) (by omega)
        obtain ⟨S2, u1, u2⟩ := np_rl hN ok w0 hq (nI j) eq er (by omega) (pn % 10) 0 N S1 (s2.rlq hr) (by omega) (by omega)
        refine both_ag h (S1 := S1) (S2 := S2) (r := if nI j = 0 then nI (npF L0 V q (pn % 10)).1 else nI (npF L0 V q (pn % 10)).2) ?_ s2.ag ?_ u2.ag
        · unfold F_X11_newspaper
          rw [if_neg hx0, eq]
          simp only [F_part_t hq, Option.bind_some, if_neg n10]
          rw [← eq, if_neg hr5, if_neg (nI_pos (by omega)), if_pos (show nI j ≤ 1 from nI_le (b := 1) hj (by decide))]
          exact s1
        · unfold F_X12_newspaper
          have e : F_X12_in (nI j) (0 : Int32) (1 : Int32) S1 = some (1, S1) := in_t hj (by decide) S1
          rw [if_neg hx0, eq]
          simp only [F_part12_t hq, Option.bind_some, if_neg n10, e]
          rw [← eq, if_neg hr5]
          exact u1
    · have hr5 : (5 : Int32) < (nI pn - nI pn / 10 * 10 : Int32) := by rw [er]; exact nI_lt (a := 5) (by omega) (by omega)
      refine both_ro h (r := -1) ?_ ?_
      · unfold F_X11_newspaper
        rw [if_neg hx0, eq]
        simp only [F_part_t hq, Option.bind_some, if_neg n10]
        rw [← eq, if_pos hr5]
      · unfold F_X12_newspaper
        rw [if_neg hx0, eq]
        simp only [F_part12_t hq, Option.bind_some, if_neg n10]
        rw [← eq, if_pos hr5]
  · refine both_ro h (r := -1) ?_ ?_
    · unfold F_X11_newspaper
      simp only [if_neg hx0, F_part_f hx, Option.bind_some, if_true]
    · unfold F_X12_newspaper
      simp only [if_neg hx0, F_part12_f hx, Option.bind_some, if_true]
