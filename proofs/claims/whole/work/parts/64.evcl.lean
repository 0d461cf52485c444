/-! evenings, by numbers -/
def evW (V : Nat → Nat → Nat) (i : Nat) : Nat := V 3 i + (if i = 0 then 0 else cnt (jpB V (i - 1)) (V 8 0))
def evG (L : LawT) (V : Nat → Nat → Nat) (H : Nat → Nat) (i : Nat) : Nat := if gnW L V i (H i) < 100 - H i then gnW L V i (H i) else 100 - H i
def bmx (b : Nat → Nat) : Nat → Nat
  | 0 => 0
  | i + 1 => if i = 0 then 0 else if b (bmx b i) < b i then i else bmx b i
theorem bmx_succ (b : Nat → Nat) (i : Nat) : bmx b (i + 1) = if i = 0 then 0 else if b (bmx b i) < b i then i else bmx b i := rfl
theorem bmx_lt (b : Nat → Nat) : ∀ i, bmx b (i + 1) ≤ i
  | 0 => Nat.le_refl _
  | i + 1 => by
    have := bmx_lt b i
    rw [bmx_succ b (i + 1)]
    split
    · omega
    · split <;> omega
def evH (L : LawT) (V : Nat → Nat → Nat) : Nat → Nat → Nat
  | 0 => V 6
  | e + 1 => fun i => if i = bmx (fun j => evG L V (evH L V e) j * evW V j) (V 8 0) then evH L V e i + evG L V (evH L V e) i else evH L V e i
def evB (L : LawT) (V : Nat → Nat → Nat) (e : Nat) : Nat := bmx (fun j => evG L V (evH L V e) j * evW V j) (V 8 0)
def evTm (L : LawT) (V : Nat → Nat → Nat) : Nat → Nat → Nat
  | 0 => fun _ => 0
  | e + 1 => fun i => evTm L V e i + (if i = evB L V e then 1 else 0)
def smN (f : Nat → Nat) : Nat → Nat
  | 0 => 0
  | n + 1 => smN f n + f n
theorem smN_upd {f g : Nat → Nat} {b d : Nat} (ho : ∀ i, i ≠ b → g i = f i) (hb : g b + d = f b) : ∀ n, (n ≤ b → smN g n = smN f n) ∧ (b < n → smN g n + d = smN f n)
  | 0 => ⟨fun _ => rfl, fun h => absurd h (Nat.not_lt_zero b)⟩
  | n + 1 => by
    obtain ⟨h1, h2⟩ := smN_upd ho hb n
    have e1 : smN g (n + 1) = smN g n + g n := rfl
    have e2 : smN f (n + 1) = smN f n + f n := rfl
    rw [e1, e2]
    by_cases c : n = b
    · subst c
      have := h1 (Nat.le_refl _)
      exact ⟨fun q => by omega, fun _ => by omega⟩
    · have := ho n c
      exact ⟨fun q => by have := h1 (by omega); omega, fun q => by have := h2 (by omega); omega⟩
theorem smN_le {f : Nat → Nat} {c : Nat} : ∀ n, (∀ i, i < n → f i ≤ c) → smN f n ≤ n * c
  | 0, _ => by show 0 ≤ 0 * c; omega
  | n + 1, h => by
    have h1 := smN_le n (fun i hi => h i (by omega))
    have h2 := h n (by omega)
    show smN f n + f n ≤ (n + 1) * c
    rw [Nat.add_mul]
    omega
def evHm (L : LawT) (V : Nat → Nat → Nat) (e : Nat) : Nat := smN (fun i => (100 - evH L V e i) * evW V i) (V 8 0)
theorem evW_le {V : Nat → Nat → Nat} (ok : OKV V) {i : Nat} (hi : i < V 8 0) : evW V i ≤ 50 := by
  have h1 := (ok.2.2.2.1 i hi).2.2.2.1
  have h2 := cnt_le (jpB V (i - 1)) (V 8 0)
  have h20 := ok.1
  unfold evW
  split <;> omega
theorem evG_le (L : LawT) (V : Nat → Nat → Nat) (H : Nat → Nat) (i : Nat) : evG L V H i ≤ 100 - H i := by
  unfold evG
  split <;> omega
theorem evH_le (L : LawT) {V : Nat → Nat → Nat} (ok : OKV V) : ∀ e i, i < V 8 0 → evH L V e i ≤ 100
  | 0, i, hi => by
    have := (ok.2.2.2.1 i hi).2.2.2.2.2.2.2
    show V 6 i ≤ 100
    omega
  | e + 1, i, hi => by
    have h1 := evH_le L ok e i hi
    have h2 := evG_le L V (evH L V e) i
    show (if i = _ then _ else _) ≤ 100
    split <;> omega
theorem evB_lt (L : LawT) {V : Nat → Nat → Nat} (hn : 1 ≤ V 8 0) (e : Nat) : evB L V e < V 8 0 := by
  have := bmx_lt (fun j => evG L V (evH L V e) j * evW V j) (V 8 0 - 1)
  rw [show V 8 0 - 1 + 1 = V 8 0 by omega] at this
  unfold evB
  omega
theorem evH_succ (L : LawT) (V : Nat → Nat → Nat) (e i : Nat) : evH L V (e + 1) i = if i = evB L V e then evH L V e i + evG L V (evH L V e) i else evH L V e i := rfl
theorem evHm_succ (L : LawT) {V : Nat → Nat → Nat} (ok : OKV V) (hn : 1 ≤ V 8 0) (e : Nat) : evHm L V (e + 1) + evG L V (evH L V e) (evB L V e) * evW V (evB L V e) = evHm L V e := by
  have hb := evB_lt L hn e
  have h1 := evH_le L ok e _ hb
  have h2 := evG_le L V (evH L V e) (evB L V e)
  refine (smN_upd (b := evB L V e) ?_ ?_ (V 8 0)).2 hb
  · intro i hi
    show (100 - evH L V (e + 1) i) * evW V i = (100 - evH L V e i) * evW V i
    rw [evH_succ, if_neg hi]
  · show (100 - evH L V (e + 1) (evB L V e)) * evW V (evB L V e) + _ = (100 - evH L V e (evB L V e)) * evW V (evB L V e)
    rw [evH_succ, if_pos rfl, ← Nat.add_mul]
    congr 1
    omega
theorem evHm_lt (L : LawT) {V : Nat → Nat → Nat} (ok : OKV V) (e : Nat) : evHm L V e ≤ 100000 := by
  have h20 := ok.1
  have h := smN_le (f := fun i => (100 - evH L V e i) * evW V i) (c := 5000) (V 8 0) (fun i hi => by
    have h1 := evW_le ok hi
    have : (100 - evH L V e i) * evW V i ≤ 100 * 50 := Nat.mul_le_mul (by omega) h1
    exact this)
  have h2 : V 8 0 * 5000 ≤ 20 * 5000 := Nat.mul_le_mul_right _ h20
  unfold evHm
  omega
/-! the class -/
def fE (c s : Nat) : Bool := fW c s && !decide (c = 8)
def aE (k : Nat) : Bool := aW k && !decide (k ∈ ([46, 47, 48, 49] : List Nat))
def AgE (S S' : St) : Prop := AgO fE aE lAll S S'
theorem AgE.ag {S S' : St} (h : AgE S S') : Ag S S' := AgO.weak h (fun c s q => by
    have hc : ¬ c = 8 := by
      intro z; subst z
      have q2 : fX 8 s = true ∨ fP 8 s = true := by rw [Bool.or_eq_true] at q; exact q
      rcases q2 with q2 | q2
      · have := of_decide_eq_true q2
        simp only [List.mem_cons, List.not_mem_nil, or_false, Prod.mk.injEq] at this
        omega
      · have := of_decide_eq_true q2
        simp only [List.mem_cons, List.not_mem_nil, or_false, Prod.mk.injEq] at this
        omega
    unfold fE
    rw [fW_of (fXP_s q)]
    simp [hc]) (fun k q => by
    unfold aE
    rw [aW_of (aXP_s q), Bool.true_and]
    refine not_t (fun z => ?_)
    have := of_decide_eq_true z
    simp only [List.mem_cons, List.not_mem_nil, or_false] at this
    rcases this with rfl | rfl | rfl | rfl <;> exact absurd q (by decide)) (fun _ _ => rfl)
theorem fE_fW {c s : Nat} (h : fE c s = true) : fW c s = true := by
  unfold fE at h
  rw [Bool.and_eq_true] at h
  exact h.1
theorem aE_aW {k : Nat} (h : aE k = true) : aW k = true := by
  unfold aE at h
  rw [Bool.and_eq_true] at h
  exact h.1
theorem AgW.e {S S' : St} (h : AgW S S') : AgE S S' := AgO.weak h (fun _ _ q => fE_fW q) (fun _ q => aE_aW q) (fun _ q => q)
theorem AgE.clq {S S' : St} {V : Nat → Nat → Nat} {L0 L1 : LawT} (h : AgE S S') (hc : ClQ S V L0 L1) : ClQ S' V L0 L1 := h.ag.clq hc
theorem min_nI {a b : Nat} (ha : a < 2 ^ 31) (hb : b < 2 ^ 31) : (if nI a < nI b then nI a else nI b) = nI (if a < b then a else b) := by
  by_cases c : a < b
  · rw [if_pos (nI_lt c hb), if_pos c]
  · rw [if_neg (nI_nlt (by omega) ha), if_neg c]
section
variable {N : Nat} {V : Nat → Nat → Nat} {L0 L1 : LawT}
theorem cl_foresee (hN : 130 ≤ N) (ok : OKV V) (w1 : WfL L1) {S : St} (hc : ClQ S V L0 L1) {i : Nat} (hi : i < V 8 0) {H : Nat → Nat} (hH : H i ≤ 100) (h47 : S.2.1 47 i = nI (H i)) : ∃ S', F_X3_foresee N (nI i) S = some (aset S' 49 (upd (S.2.1 49) i (nI (evG L1 V H i)))) ∧ AgW S S' := by
  have h20 := ok.1
  have hg := gnW_le L1 V i (H i)
  obtain ⟨S1, s1, s2⟩ := cl_gains hN ok hc.1 w1 hc.2.2 hi hH
  refine ⟨S1, ?_, s2⟩
  unfold F_X3_foresee
  have gi : inb (nI i) 20 = true := inb_nI (by omega) (by decide)
  rw [gd_t gi, gd_t gi, nI_clamp (by omega), h47, s1, Option.bind_some, gd_t gi]
  have e100 : (100 : Int32) - nI (H i) = nI (100 - H i) := pk_sub (a := 100) hH
  show some (aset S1 49 (upd (S1.2.1 49) i (if nI (gnW L1 V i (H i)) < (100 : Int32) - nI (H i) then nI (gnW L1 V i (H i)) else (100 : Int32) - nI (H i)))) = _
  rw [e100, min_nI (by omega) (by omega), s2.2.1 49 (by decide)]
  rfl
/-- the class's evenings e spent (or, with i lines begun, at e = 0) -/
def EC (S : St) (L : LawT) (V : Nat → Nat → Nat) (e n : Nat) : Prop := ∀ i, i < n → S.2.1 46 i = nI (evTm L V e i) ∧ S.2.1 47 i = nI (evH L V e i) ∧ S.2.1 48 i = nI (evW V i) ∧ S.2.1 49 i = nI (evG L V (evH L V e) i)
theorem cl_beg52 (hN : 130 ≤ N) (ok : OKV V) (w1 : WfL L1) {S : St} (hc : ClQ S V L0 L1) {i y h0 : Nat} (hi : i < V 8 0) (h47 : S.2.1 47 i = nI (V 6 i)) (h8 : S.1 8 0 = nI h0) (hy : evW V i = V 3 i + y) (k7 : Int32 → St → Option (St)) : ∃ S', F_X3_begin_52 N k7 (nI i) (nI y) S = k7 (nI (i + 1)) S' ∧ AgE S S' ∧ S'.1 8 0 = nI (h0 + (100 - V 6 i) * evW V i) ∧ S'.2.1 46 = S.2.1 46 ∧ S'.2.1 47 = S.2.1 47 ∧ S'.2.1 48 = upd (S.2.1 48) i (nI (evW V i)) ∧ S'.2.1 49 = upd (S.2.1 49) i (nI (evG L1 V (V 6) i)) := by
  have h20 := ok.1
  have gi : inb (nI i) 20 = true := inb_nI (by omega) (by decide)
  have ci : Int32.toNatClampNeg (nI i) = i := nI_clamp (by omega)
  have e24 := (hc.1.2.2.2.1 i hi).2.2.2.1
  have b6 := (ok.2.2.2.1 i hi).2.2.2.2.2.2.2
  let S1 : St := fset (aset S 48 (upd (S.2.1 48) i (nI (evW V i)))) 8 0 (nI (h0 + (100 - V 6 i) * evW V i))
  have a1 : AgE S S1 := AgO.fset (AgO.aset AgO.rfl _ (by decide)) _ (by decide)
  obtain ⟨S2, s1, s2⟩ := cl_foresee hN ok w1 (a1.clq hc) hi (H := V 6) (by omega) h47
  refine ⟨aset S2 49 (upd (S.2.1 49) i (nI (evG L1 V (V 6) i))), ?_, AgO.aset (a1.trans s2.e) _ (by decide), s2.1 8 0 (by decide), s2.2.1 46 (by decide), s2.2.1 47 (by decide), s2.2.1 48 (by decide), aset_get _ _ _⟩
  unfold F_X3_begin_52
  rw [gd_t gi, gd_t gi, ci, e24, nI_add, ← hy, gd_t gi, gd_t gi]
  show ((F_X3_foresee N (nI i) (fset (aset S 48 (upd (S.2.1 48) i (nI (evW V i)))) 8 0 (S.1 8 0 + ((nI 100 - S.2.1 47 i) * (upd (S.2.1 48) i (nI (evW V i)) i))))).bind (fun r_95 => k7 (nI i + 1) r_95)) = _
  rw [h47, h8, pk_us, pk_sub (by omega), pk_mul, nI_add]
  have s1' : F_X3_foresee N (nI i) (fset (aset S 48 (upd (S.2.1 48) i (nI (evW V i)))) 8 0 (nI (h0 + (100 - V 6 i) * evW V i))) = _ := s1
  rw [s1', Option.bind_some, nI_1]
  rfl
theorem cl_begin (hN : 130 ≤ N) (ok : OKV V) (w1 : WfL L1) : ∀ (m i n : Nat) (S : St), ClQ S V L0 L1 → EC S L1 V 0 i → S.1 8 0 = nI (smN (fun i => (100 - V 6 i) * evW V i) i) → i + m = V 8 0 → m < n → ∃ S', F_X3_begin_7 N n (nI i) S = some S' ∧ AgE S S' ∧ EC S' L1 V 0 (V 8 0) ∧ S'.1 8 0 = nI (evHm L1 V 0)
  | m, i, 0, S, _, _, _, _, hn => absurd hn (Nat.not_lt_zero m)
  | 0, i, n + 1, S, hc, hE, h8, hi, _ => by
    have e : i = V 8 0 := hi
    refine ⟨S, ?_, AgO.rfl, by rw [← e]; exact hE, by rw [h8, e]; rfl⟩
    show (if (S.1 1 0) ≤ nI i then (some S) else _) = _
    rw [if_pos (by rw [hc.1.1, e]; exact Int32.le_refl _)]
  | m + 1, i, n + 1, S, hc, hE, h8, hi, hn => by
    have h20 := ok.1
    have hii : i < V 8 0 := by omega
    have gi : inb (nI i) 20 = true := inb_nI (by omega) (by decide)
    have ci : Int32.toNatClampNeg (nI i) = i := nI_clamp (by omega)
    have e27 := (hc.1.2.2.2.1 i hii).2.2.2.2.2.2
    let S1 : St := aset (aset S 46 (upd (S.2.1 46) i 0)) 47 (upd (S.2.1 47) i (nI (V 6 i)))
    have a1 : AgE S S1 := AgO.aset (AgO.aset AgO.rfl _ (by decide)) _ (by decide)
    have hc1 := a1.clq hc
    have h47 : S1.2.1 47 i = nI (V 6 i) := pk_us
    have key : ∀ y, evW V i = V 3 i + y → ∃ S', F_X3_begin_52 N (F_X3_begin_7 N n) (nI i) (nI y) S1 = some S' ∧ AgE S S' ∧ EC S' L1 V 0 (V 8 0) ∧ S'.1 8 0 = nI (evHm L1 V 0) := by
      intro y hy
      obtain ⟨S2, t1, t2, t3, t4, t5, t6, t7⟩ := cl_beg52 hN ok w1 hc1 hii h47 h8 hy (F_X3_begin_7 N n)
      have a2 : AgE S S2 := a1.trans t2
      have hE2 : EC S2 L1 V 0 (i + 1) := by
        intro j hj
        rw [t4, t5, t6, t7]
        show upd (S.2.1 46) i 0 j = nI 0 ∧ upd (S.2.1 47) i (nI (V 6 i)) j = nI (V 6 j) ∧ upd (S.2.1 48) i (nI (evW V i)) j = nI (evW V j) ∧ upd (S.2.1 49) i (nI (evG L1 V (V 6) i)) j = nI (evG L1 V (V 6) j)
        by_cases c : j = i
        · subst c
          exact ⟨pk_us, pk_us, pk_us, pk_us⟩
        · rw [pk_un c, pk_un c, pk_un c, pk_un c]
          exact hE j (by omega)
      obtain ⟨S3, u1, u2, u3, u4⟩ := cl_begin hN ok w1 m (i + 1) n S2 (a2.clq hc) hE2 t3 (by omega) (by omega)
      exact ⟨S3, t1.trans u1, a2.trans u2, u3, u4⟩
    have stp : F_X3_begin_7 N (n + 1) (nI i) S = (if nI i = 0 then (F_X3_begin_52 N (F_X3_begin_7 N n) (nI i) 0 S1) else ((F_X8_jumpsFrom (nI i - 1) S1).bind (fun r_46 => (F_J6_bitCount_0f7a4 r_46.1 r_46.2).bind (fun r_49 => F_X3_begin_52 N (F_X3_begin_7 N n) (nI i) r_49.1 r_49.2)))) := by
      show (if (S.1 1 0) ≤ nI i then _ else (gd (inb (nI i) 20) (gd (inb (nI i) 20) (gd (inb (nI i) 20) (if nI i = 0 then (F_X3_begin_52 N (F_X3_begin_7 N n) (nI i) 0 (aset (aset S 46 (upd (S.2.1 46) (Int32.toNatClampNeg (nI i)) (0 : Int32))) 47 (upd (S.2.1 47) (Int32.toNatClampNeg (nI i)) (S.2.1 27 (Int32.toNatClampNeg (nI i)))))) else ((F_X8_jumpsFrom (nI i - 1) (aset (aset S 46 (upd (S.2.1 46) (Int32.toNatClampNeg (nI i)) (0 : Int32))) 47 (upd (S.2.1 47) (Int32.toNatClampNeg (nI i)) (S.2.1 27 (Int32.toNatClampNeg (nI i)))))).bind (fun r_46 => (F_J6_bitCount_0f7a4 r_46.1 r_46.2).bind (fun r_49 => F_X3_begin_52 N (F_X3_begin_7 N n) (nI i) r_49.1 r_49.2)))))))) = _
      rw [if_neg (by rw [hc.1.1]; exact nI_ge hii (by omega)), gd_t gi, gd_t gi, gd_t gi, ci, e27]
    rw [stp]
    by_cases c : i = 0
    · rw [if_pos (show nI i = 0 by rw [c]; rfl)]
      exact key 0 (by unfold evW; rw [if_pos c])
    · rw [if_neg (nI_ne0 (by omega) (by omega)), pred_nI (by omega), jf_eq ok hc1.1 (show i - 1 < V 8 0 by omega), Option.bind_some]
      have hb : F_J6_bitCount_0f7a4 (nI (jm V (i - 1))) S1 = some (nI (cnt (jpB V (i - 1)) (V 8 0)), S1) := bc_mask _ h20 S1
      show ∃ S', ((F_J6_bitCount_0f7a4 (nI (jm V (i - 1))) S1).bind (fun r_49 => F_X3_begin_52 N (F_X3_begin_7 N n) (nI i) r_49.1 r_49.2)) = some S' ∧ _
      rw [hb, Option.bind_some]
      exact key _ (by unfold evW; rw [if_neg c])
theorem cl_sp13 (hN : 130 ≤ N) (ok : OKV V) (w1 : WfL L1) (hn1 : 1 ≤ V 8 0) {e : Nat} {S : St} (hc : ClQ S V L0 L1) (hE : EC S L1 V e (V 8 0)) (h8 : S.1 8 0 = nI (evHm L1 V e)) (k2 : Int32 → Int32 → St → Option (St)) (x2 : Int32) : ∀ (m i n : Nat), 1 ≤ i → i + m = V 8 0 → m < n → ∃ S', F_X3_spend_13 N k2 n x2 (nI e) (nI (bmx (fun j => evG L1 V (evH L1 V e) j * evW V j) i)) (nI i) S = k2 x2 (nI (e + 1)) S' ∧ AgE S S' ∧ EC S' L1 V (e + 1) (V 8 0) ∧ S'.1 8 0 = nI (evHm L1 V (e + 1))
  | m, i, 0, _, _, hn => absurd hn (Nat.not_lt_zero m)
  | 0, i, n + 1, hi1, hi, _ => by
    have h20 := ok.1
    have e0 : i = V 8 0 := hi
    subst e0
    have hb := evB_lt L1 hn1 e
    have hbe : bmx (fun j => evG L1 V (evH L1 V e) j * evW V j) (V 8 0) = evB L1 V e := rfl
    rw [hbe]
    generalize hB : evB L1 V e = B at hb hbe
    have gi : inb (nI B) 20 = true := inb_nI (by omega) (by decide)
    have ci : Int32.toNatClampNeg (nI B) = B := nI_clamp (by omega)
    obtain ⟨p46, p47, p48, p49⟩ := hE B hb
    have hH := evH_le L1 ok e B hb
    have hG := evG_le L1 V (evH L1 V e) B
    have hm := evHm_succ L1 ok hn1 e
    rw [hB] at hm
    let S1 : St := aset (aset (fset S 8 0 (nI (evHm L1 V (e + 1)))) 46 (upd (S.2.1 46) B (nI (evTm L1 V e B + 1)))) 47 (upd (S.2.1 47) B (nI (evH L1 V (e + 1) B)))
    have eH : evH L1 V (e + 1) B = evH L1 V e B + evG L1 V (evH L1 V e) B := by rw [evH_succ, if_pos hB.symm]
    have a1 : AgE S S1 := AgO.aset (AgO.aset (AgO.fset AgO.rfl _ (by decide)) _ (by decide)) _ (by decide)
    obtain ⟨S2, s1, s2⟩ := cl_foresee hN ok w1 (a1.clq hc) hb (H := evH L1 V (e + 1)) (by rw [eH]; omega) (show S1.2.1 47 B = _ from pk_us)
    have m46 : S2.2.1 46 = upd (S.2.1 46) B (nI (evTm L1 V e B + 1)) := s2.2.1 46 (by decide)
    have m47 : S2.2.1 47 = upd (S.2.1 47) B (nI (evH L1 V (e + 1) B)) := s2.2.1 47 (by decide)
    have m48 : S2.2.1 48 = S.2.1 48 := s2.2.1 48 (by decide)
    refine ⟨aset S2 49 (upd (S.2.1 49) B (nI (evG L1 V (evH L1 V (e + 1)) B))), ?_, AgO.aset (a1.trans s2.e) _ (by decide), ?_, s2.1 8 0 (by decide)⟩
    · show (if (S.1 1 0) ≤ nI (V 8 0) then (gd (inb (nI B) 20) (gd (inb (nI B) 20) (gd (inb (nI B) 20) (gd (inb (nI B) 20) (gd (inb (nI B) 20) (gd (inb (nI B) 20) (gd (inb (nI B) 20) ((F_X3_foresee N (nI B) (aset (aset (fset S 8 0 ((S.1 8 0) - ((S.2.1 49 (Int32.toNatClampNeg (nI B))) * (S.2.1 48 (Int32.toNatClampNeg (nI B)))))) 46 (upd (S.2.1 46) (Int32.toNatClampNeg (nI B)) ((S.2.1 46 (Int32.toNatClampNeg (nI B))) + 1))) 47 (upd (S.2.1 47) (Int32.toNatClampNeg (nI B)) ((S.2.1 47 (Int32.toNatClampNeg (nI B))) + (S.2.1 49 (Int32.toNatClampNeg (nI B))))))).bind (fun r_121 => k2 x2 (nI e + 1) r_121))))))))) else _) = _
      rw [if_pos (by rw [hc.1.1]; exact Int32.le_refl _), gd_t gi, gd_t gi, gd_t gi, gd_t gi, gd_t gi, gd_t gi, gd_t gi, ci, h8, p46, p47, p48, p49, pk_mul, pk_sub (by omega), nI_1, nI_1, nI_add, ← eH, show evHm L1 V e - evG L1 V (evH L1 V e) B * evW V B = evHm L1 V (e + 1) by omega]
      have s1' : F_X3_foresee N (nI B) (aset (aset (fset S 8 0 (nI (evHm L1 V (e + 1)))) 46 (upd (S.2.1 46) B (nI (evTm L1 V e B + 1)))) 47 (upd (S.2.1 47) B (nI (evH L1 V (e + 1) B)))) = _ := s1
      rw [s1', Option.bind_some]
      rfl
    · intro j hj
      obtain ⟨q46, q47, q48, q49⟩ := hE j hj
      show S2.2.1 46 j = _ ∧ S2.2.1 47 j = _ ∧ S2.2.1 48 j = _ ∧ upd (S.2.1 49) B (nI (evG L1 V (evH L1 V (e + 1)) B)) j = _
      rw [m46, m47, m48]
      have eT : evTm L1 V (e + 1) j = evTm L1 V e j + (if j = B then 1 else 0) := by
        show evTm L1 V e j + (if j = evB L1 V e then 1 else 0) = _
        rw [hB]
      by_cases c : j = B
      · subst c
        refine ⟨?_, pk_us, q48, pk_us⟩
        rw [pk_us, eT, if_pos rfl]
      · have eHj : evH L1 V (e + 1) j = evH L1 V e j := by rw [evH_succ, hB, if_neg c]
        have eGj : evG L1 V (evH L1 V (e + 1)) j = evG L1 V (evH L1 V e) j := by unfold evG; rw [eHj]
        rw [pk_un c, pk_un c, pk_un c, eT, if_neg c, eHj, eGj]
        exact ⟨q46, q47, q48, q49⟩
  | m + 1, i, n + 1, hi1, hi, hn => by
    have h20 := ok.1
    have hii : i < V 8 0 := by omega
    have gi : inb (nI i) 20 = true := inb_nI (by omega) (by decide)
    have ci : Int32.toNatClampNeg (nI i) = i := nI_clamp (by omega)
    obtain ⟨S', u1, u2⟩ := cl_sp13 hN ok w1 hn1 hc hE h8 k2 x2 m (i + 1) n (by omega) (by omega) (by omega)
    refine ⟨S', ?_, u2⟩
    rw [← u1]
    have hbl := bmx_lt (fun j => evG L1 V (evH L1 V e) j * evW V j) (i - 1)
    rw [show i - 1 + 1 = i by omega] at hbl
    have bs := bmx_succ (fun j => evG L1 V (evH L1 V e) j * evW V j) i
    rw [if_neg (show ¬ i = 0 by omega)] at bs
    rw [bs]
    generalize hB : bmx (fun j => evG L1 V (evH L1 V e) j * evW V j) i = B at hbl
    have gB : inb (nI B) 20 = true := inb_nI (by omega) (by decide)
    have cB : Int32.toNatClampNeg (nI B) = B := nI_clamp (by omega)
    obtain ⟨-, -, p48, p49⟩ := hE B (by omega)
    obtain ⟨-, -, q48, q49⟩ := hE i hii
    have bd : ∀ j, j < V 8 0 → evG L1 V (evH L1 V e) j * evW V j ≤ 5000 := fun j hj => by
      have h1 := evW_le ok hj
      have h2 := evG_le L1 V (evH L1 V e) j
      have : evG L1 V (evH L1 V e) j * evW V j ≤ 100 * 50 := Nat.mul_le_mul (by omega) h1
      exact this
    have bB := bd B (by omega)
    have bi := bd i hii
    show (if (S.1 1 0) ≤ nI i then _ else (gd (inb (nI i) 20) (gd (inb (nI i) 20) (gd (inb (nI B) 20) (gd (inb (nI B) 20) (if ((S.2.1 49 (Int32.toNatClampNeg (nI i))) * (S.2.1 48 (Int32.toNatClampNeg (nI i)))) ≤ ((S.2.1 49 (Int32.toNatClampNeg (nI B))) * (S.2.1 48 (Int32.toNatClampNeg (nI B)))) then (F_X3_spend_13 N k2 n x2 (nI e) (nI B) (nI i + 1) S) else (F_X3_spend_13 N k2 n x2 (nI e) (nI i) (nI i + 1) S))))))) = _
    rw [if_neg (by rw [hc.1.1]; exact nI_ge hii (by omega)), gd_t gi, gd_t gi, gd_t gB, gd_t gB, ci, cB, p48, p49, q48, q49, pk_mul, pk_mul, nI_1]
    by_cases c : evG L1 V (evH L1 V e) B * evW V B < evG L1 V (evH L1 V e) i * evW V i
    · rw [if_neg (nI_ge c (by omega)), if_pos c]
    · rw [if_pos (nI_le (by omega) (by omega)), if_neg c]
theorem cl_spend (hN : 130 ≤ N) (ok : OKV V) (w1 : WfL L1) (hn1 : 1 ≤ V 8 0) {c : Nat} (hc30 : c ≤ 30) : ∀ (m e n : Nat) (S : St), ClQ S V L0 L1 → EC S L1 V e (V 8 0) → S.1 8 0 = nI (evHm L1 V e) → e + m = c → m < n → ∃ S', F_X3_spend_2 N n (nI c) (nI e) S = some S' ∧ AgE S S' ∧ EC S' L1 V c (V 8 0) ∧ S'.1 8 0 = nI (evHm L1 V c)
  | m, e, 0, S, _, _, _, _, hn => absurd hn (Nat.not_lt_zero m)
  | 0, e, n + 1, S, hc, hE, h8, he, _ => by
    have e0 : e = c := he
    subst e0
    refine ⟨S, ?_, AgO.rfl, hE, h8⟩
    show (if nI e ≤ nI e then (some S) else _) = _
    rw [if_pos (Int32.le_refl _)]
  | m + 1, e, n + 1, S, hc, hE, h8, he, hn => by
    have h20 := ok.1
    obtain ⟨S1, s1, s2, s3, s4⟩ := cl_sp13 hN ok w1 hn1 hc hE h8 (F_X3_spend_2 N n) (nI c) (V 8 0 - 1) 1 N (Nat.le_refl _) (by omega) (by omega)
    obtain ⟨S2, u1, u2, u3, u4⟩ := cl_spend hN ok w1 hn1 hc30 m (e + 1) n S1 (s2.clq hc) s3 s4 (by omega) (by omega)
    refine ⟨S2, ?_, s2.trans u2, u3, u4⟩
    rw [← u1]
    show (if nI c ≤ nI e then _ else (F_X3_spend_13 N (F_X3_spend_2 N n) N (nI c) (nI e) 0 1 S)) = _
    rw [if_neg (nI_ge (by omega) (by omega))]
    exact s1
end
