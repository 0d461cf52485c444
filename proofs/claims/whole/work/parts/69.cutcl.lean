/-! cutting, by numbers: m is the set of lines that are cut -/
def tkF (V : Nat → Nat → Nat) (m : Nat) : Nat → Option Int32
  | 0 => some 0
  | i + 1 => match tkF V m i with
    | none => none
    | some t => if m.testBit i = true then some t else if (nI (V 5 i) &&& (t ^^^ (-1))) = 0 then some (t ||| nI (V 4 i)) else none
def vld (V : Nat → Nat → Nat) (m : Nat) : Bool := (tkF V m (V 8 0)).isSome
theorem tkF_none {V : Nat → Nat → Nat} {m i : Nat} (h : tkF V m i = none) : ∀ k, tkF V m (i + k) = none
  | 0 => h
  | k + 1 => by
    have := tkF_none h k
    show (match tkF V m (i + k) with | none => none | some t => _) = none
    rw [this]
theorem tkF_succ {V : Nat → Nat → Nat} {m i : Nat} {t : Int32} (h : tkF V m i = some t) : tkF V m (i + 1) = if m.testBit i = true then some t else if (nI (V 5 i) &&& (t ^^^ (-1))) = 0 then some (t ||| nI (V 4 i)) else none := by
  show (match tkF V m i with | none => none | some t => _) = _
  rw [h]
def rgs (V : Nat → Nat → Nat) (m : Nat) : Nat := sumIf (fun i => !m.testBit i) (fun i => cnt (fun j => rgB V i j && !m.testBit j) (V 8 0)) (V 8 0)
def scs (V : Nat → Nat → Nat) (m : Nat) : Nat := sumIf (fun i => m.testBit i) (V 3) (V 8 0)
theorem sumIf_le {p : Nat → Bool} {f : Nat → Nat} {c : Nat} : ∀ n, (∀ i, i < n → f i ≤ c) → sumIf p f n ≤ n * c
  | 0, _ => by show 0 ≤ 0 * c; omega
  | n + 1, h => by
    have h1 := sumIf_le (p := p) n (fun i hi => h i (by omega))
    have h2 := h n (by omega)
    show sumIf p f n + (if p n = true then f n else 0) ≤ (n + 1) * c
    rw [Nat.add_mul]
    split <;> omega
theorem rgs_le {V : Nat → Nat → Nat} (ok : OKV V) (m : Nat) : rgs V m ≤ 400 := by
  have h20 := ok.1
  have h := sumIf_le (p := fun i => !m.testBit i) (f := fun i => cnt (fun j => rgB V i j && !m.testBit j) (V 8 0)) (c := 20) (V 8 0) (fun i _ => Nat.le_trans (cnt_le _ _) h20)
  have h2 : V 8 0 * 20 ≤ 20 * 20 := Nat.mul_le_mul_right _ h20
  unfold rgs
  omega
theorem scs_le {V : Nat → Nat → Nat} (ok : OKV V) (m : Nat) : scs V m ≤ 600 := by
  have h20 := ok.1
  have h := sumIf_le (p := fun i => m.testBit i) (f := V 3) (c := 30) (V 8 0) (fun i hi => by have := (ok.2.2.2.1 i hi).2.2.2.1; omega)
  have h2 : V 8 0 * 30 ≤ 20 * 30 := Nat.mul_le_mul_right _ h20
  unfold scs
  omega
/-- a is better than, or the same as, b -/
def btr (V : Nat → Nat → Nat) (a b : Nat) : Prop := rgs V a < rgs V b ∨ (rgs V a = rgs V b ∧ (scs V b < scs V a ∨ (scs V b = scs V a ∧ a ≤ b)))
/-- the best of the valid sets in D -/
def Bst (V : Nat → Nat → Nat) (o : Option Nat) (D : Nat → Prop) : Prop := match o with
  | none => ∀ m, D m → vld V m = false
  | some b => D b ∧ vld V b = true ∧ ∀ m, D m → vld V m = true → btr V b m
theorem Bst.uniq {V : Nat → Nat → Nat} {o o' : Option Nat} {D D' : Nat → Prop} (hD : ∀ m, D m ↔ D' m) (h : Bst V o D) (h' : Bst V o' D') : o = o' := by
  cases o with
  | none =>
    cases o' with
    | none => rfl
    | some b =>
      have := h b ((hD b).mpr h'.1)
      rw [h'.2.1] at this
      cases this
  | some a =>
    cases o' with
    | none =>
      have := h' a ((hD a).mp h.1)
      rw [h.2.1] at this
      cases this
    | some b =>
      have h1 := h.2.2 b ((hD b).mpr h'.1) h'.2.1
      have h2 := h'.2.2 a ((hD a).mp h.1) h.2.1
      unfold btr at h1 h2
      congr 1
      omega
theorem Bst.congr {V : Nat → Nat → Nat} {o : Option Nat} {D D' : Nat → Prop} (h : Bst V o D) (hD : ∀ m, D m ↔ D' m) : Bst V o D' := by
  cases o with
  | none => exact fun m hm => h m ((hD m).mpr hm)
  | some b => exact ⟨(hD b).mp h.1, h.2.1, fun m hm => h.2.2 m ((hD m).mpr hm)⟩
/-- what both do with a further set -/
def pkC (V : Nat → Nat → Nat) (o : Option Nat) (x : Nat) : Option Nat := match o with
  | none => some x
  | some m => if rgs V x < rgs V m ∨ (rgs V x = rgs V m ∧ scs V m < scs V x) then some x else some m
def upC (V : Nat → Nat → Nat) (o : Option Nat) (x : Nat) : Option Nat := if vld V x = true then pkC V o x else o
def pkR (V : Nat → Nat → Nat) (o : Option Nat) (x : Nat) : Option Nat := match o with
  | none => some x
  | some m => if rgs V x < rgs V m ∨ (rgs V x = rgs V m ∧ (scs V m < scs V x ∨ (scs V m = scs V x ∧ x ≤ m))) then some x else some m
def upR (V : Nat → Nat → Nat) (o : Option Nat) (x : Nat) : Option Nat := if vld V x = true then pkR V o x else o
theorem Bst.addC {V : Nat → Nat → Nat} {o : Option Nat} {D : Nat → Prop} {x : Nat} (h : Bst V o D) (hx : ∀ m, D m → m < x) : Bst V (upC V o x) (fun m => D m ∨ m = x) := by
  unfold upC
  by_cases v : vld V x = true
  · rw [if_pos v]
    cases o with
    | none => exact ⟨Or.inr rfl, v, fun m hm hv => by
        rcases hm with hm | hm
        · rw [h m hm] at hv; cases hv
        · subst hm; unfold btr; omega⟩
    | some b =>
      show Bst V (if _ then some x else some b) _
      by_cases c : rgs V x < rgs V b ∨ (rgs V x = rgs V b ∧ scs V b < scs V x)
      · rw [if_pos c]
        refine ⟨Or.inr rfl, v, fun m hm hv => ?_⟩
        rcases hm with hm | hm
        · have := h.2.2 m hm hv
          unfold btr at this ⊢
          omega
        · subst hm; unfold btr; omega
      · rw [if_neg c]
        refine ⟨Or.inl h.1, h.2.1, fun m hm hv => ?_⟩
        rcases hm with hm | hm
        · exact h.2.2 m hm hv
        · subst hm
          have := hx b h.1
          unfold btr
          omega
  · rw [if_neg v]
    cases o with
    | none => exact fun m hm => hm.elim (h m) (fun e => by rw [e]; exact Bool.eq_false_iff.mpr v)
    | some b => exact ⟨Or.inl h.1, h.2.1, fun m hm hv => hm.elim (fun z => h.2.2 m z hv) (fun e => absurd (e ▸ hv) v)⟩
theorem Bst.addR {V : Nat → Nat → Nat} {o : Option Nat} {D : Nat → Prop} {x : Nat} (h : Bst V o D) : Bst V (upR V o x) (fun m => D m ∨ m = x) := by
  unfold upR
  by_cases v : vld V x = true
  · rw [if_pos v]
    cases o with
    | none => exact ⟨Or.inr rfl, v, fun m hm hv => by
        rcases hm with hm | hm
        · rw [h m hm] at hv; cases hv
        · subst hm; unfold btr; omega⟩
    | some b =>
      show Bst V (if _ then some x else some b) _
      by_cases c : rgs V x < rgs V b ∨ (rgs V x = rgs V b ∧ (scs V b < scs V x ∨ (scs V b = scs V x ∧ x ≤ b)))
      · rw [if_pos c]
        refine ⟨Or.inr rfl, v, fun m hm hv => ?_⟩
        rcases hm with hm | hm
        · have := h.2.2 m hm hv
          unfold btr at this ⊢
          omega
        · subst hm; unfold btr; omega
      · rw [if_neg c]
        refine ⟨Or.inl h.1, h.2.1, fun m hm hv => ?_⟩
        rcases hm with hm | hm
        · exact h.2.2 m hm hv
        · subst hm
          unfold btr
          omega
  · rw [if_neg v]
    cases o with
    | none => exact fun m hm => hm.elim (h m) (fun e => by rw [e]; exact Bool.eq_false_iff.mpr v)
    | some b => exact ⟨Or.inl h.1, h.2.1, fun m hm hv => hm.elim (fun z => h.2.2 m z hv) (fun e => absurd (e ▸ hv) v)⟩
/-! the class -/
section
variable {N : Nat} {V : Nat → Nat → Nat} {S : St}
theorem cl_told (ok : OKV V) (hc : ClP S V) {m : Nat} (hm : m < 2 ^ 30) : ∀ (k i n : Nat) (t : Int32), i + k = V 8 0 → k < n → tkF V m i = some t → F_X2_leavesNeedsTold_4 n (nI m) t (nI i) S = some (bI (vld V m), S)
  | k, i, 0, _, _, hn, _ => absurd hn (Nat.not_lt_zero k)
  | 0, i, n + 1, t, hi, _, ht => by
    have e : i = V 8 0 := hi
    show (if (S.1 1 0) ≤ nI i then (some (1, S)) else _) = _
    rw [if_pos (by rw [hc.1, e]; exact Int32.le_refl _)]
    rw [e] at ht
    rw [bI_t (by unfold vld; rw [ht]; rfl)]
  | k + 1, i, n + 1, t, hi, hn, ht => by
    have h20 := ok.1
    have hii : i < V 8 0 := by omega
    have gi : inb (nI i) 20 = true := inb_nI (by omega) (by decide)
    obtain ⟨-, -, -, -, e4, e5, -⟩ := hc.2.2.2.1 i hii
    have hs := tkF_succ ht
    show (if (S.1 1 0) ≤ nI i then _ else (if ((nI m >>> (nI i &&& 31)) &&& 1) = 0 then (gd (inb (nI i) 20) (if ((S.2.1 26 (Int32.toNatClampNeg (nI i))) &&& (t ^^^ (-1))) = 0 then (gd (inb (nI i) 20) (F_X2_leavesNeedsTold_4 n (nI m) (t ||| (S.2.1 25 (Int32.toNatClampNeg (nI i)))) (nI i + 1) S)) else (some (0, S)))) else (F_X2_leavesNeedsTold_4 n (nI m) t (nI i + 1) S))) = _
    rw [if_neg (by rw [hc.1]; exact nI_ge hii (by omega)), gd_t gi, gd_t gi, nI_clamp (by omega), e4, e5, nI_1]
    by_cases c : m.testBit i = true
    · rw [if_neg (fun z => by rw [(tst_bit (by omega) (by omega)).mp z] at c; cases c)]
      rw [if_pos c] at hs
      exact cl_told ok hc hm k (i + 1) n t (by omega) (by omega) hs
    · rw [if_pos ((tst_bit (by omega) (by omega)).mpr (Bool.eq_false_iff.mpr c))]
      rw [if_neg c] at hs
      by_cases d : (nI (V 5 i) &&& (t ^^^ (-1))) = 0
      · rw [if_pos d]
        rw [if_pos d] at hs
        exact cl_told ok hc hm k (i + 1) n _ (by omega) (by omega) hs
      · rw [if_neg d]
        rw [if_neg d] at hs
        have := tkF_none hs k
        rw [show i + 1 + k = V 8 0 by omega] at this
        rw [bI_f (by unfold vld; rw [this]; rfl)]
theorem cl_ringsOf (ok : OKV V) (hc : ClP S V) {m i : Nat} (hi : i < V 8 0) : ((F_X8_ringsFrom (nI i) S).bind (fun r => F_J6_bitCount_0f7a4 (r.1 &&& (nI m ^^^ (-1))) r.2)) = some (nI (cnt (fun j => rgB V i j && !m.testBit j) (V 8 0)), S) := by
  have h20 := ok.1
  have e : nI (rgm V i) &&& (nI m ^^^ (-1)) = nI (maskOf (fun j => rgB V i j && !m.testBit j) (V 8 0)) := by
    refine b_ext (fun b hb => ?_)
    rw [b_and, b_xor, b_m1 b hb, bt_nI _ hb, bt_nI _ hb, bt_nI _ hb]
    unfold rgm
    rw [maskOf_bit, maskOf_bit, Bool.xor_true, Bool.and_assoc]
  rw [rf_eq ok hc hi, Option.bind_some]
  show F_J6_bitCount_0f7a4 (nI (rgm V i) &&& (nI m ^^^ (-1))) S = _
  rw [e, bc_mask _ h20]
/-- the best so far, as the class holds it -/
def CtB (S : St) (V : Nat → Nat → Nat) (x3 : Int32) : Option Nat → Prop
  | none => x3 = 0
  | some m => x3 = 1 ∧ S.1 9 0 = nI m ∧ S.1 9 1 = nI (rgs V m) ∧ S.1 9 2 = nI (scs V m)
def fK (c _s : Nat) : Bool := !decide (c = 9)
def AgK (S S' : St) : Prop := AgO fK (fun _ => true) lAll S S'
theorem AgK.cl {S S' : St} (h : AgK S S') (hc : ClP S V) : ClP S' V := hc.agree (AgO.weak h (fun c s q => by have := fCl_mem q; refine not_t (fun z => ?_); have := of_decide_eq_true z; omega) (fun _ _ => rfl) (fun k q => by cases q))
def setB (S : St) (a b c : Int32) : St := fset (fset (fset S 9 0 a) 9 1 b) 9 2 c
theorem cl_weigh (ok : OKV V) (hc : ClP S V) {m : Nat} (hm : m < 2 ^ 30) {o : Option Nat} {x3 fl : Int32} (hCB : CtB S V x3 o) (hfl : fl = if x3 = 0 then 1 else 0) : ∀ (k i n : Nat), i + k = V 8 0 → k < n → ∃ S', F_X2_weigh_9 n (nI m) fl (nI (sumIf (fun i => !m.testBit i) (fun i => cnt (fun j => rgB V i j && !m.testBit j) (V 8 0)) i)) (nI (sumIf (fun i => m.testBit i) (V 3) i)) (nI i) S = some S' ∧ AgK S S' ∧ CtB S' V 1 (pkC V o m)
  | k, i, 0, _, hn => absurd hn (Nat.not_lt_zero k)
  | 0, i, n + 1, hi, _ => by
    have e : i = V 8 0 := hi
    subst e
    have aS : AgK S (setB S (nI m) (nI (rgs V m)) (nI (scs V m))) := AgO.fset (AgO.fset (AgO.fset AgO.rfl _ (by decide)) _ (by decide)) _ (by decide)
    have cS : CtB (setB S (nI m) (nI (rgs V m)) (nI (scs V m))) V 1 (some m) := ⟨rfl, rfl, rfl, rfl⟩
    have stp : F_X2_weigh_9 (n + 1) (nI m) fl (nI (rgs V m)) (nI (scs V m)) (nI (V 8 0)) S = (if fl = 0 then (if nI (rgs V m) < (S.1 9 1) then some (setB S (nI m) (nI (rgs V m)) (nI (scs V m))) else (if nI (rgs V m) = (S.1 9 1) then (if nI (scs V m) ≤ (S.1 9 2) then (some S) else some (setB S (nI m) (nI (rgs V m)) (nI (scs V m)))) else (some S))) else some (setB S (nI m) (nI (rgs V m)) (nI (scs V m)))) := by
      show (if (S.1 1 0) ≤ nI (V 8 0) then (if fl = 0 then (if nI (rgs V m) < (S.1 9 1) then some (setB S (nI m) (nI (rgs V m)) (nI (scs V m))) else (if nI (rgs V m) = (S.1 9 1) then (if nI (scs V m) ≤ (S.1 9 2) then (some S) else some (setB S (nI m) (nI (rgs V m)) (nI (scs V m)))) else (some S))) else some (setB S (nI m) (nI (rgs V m)) (nI (scs V m)))) else _) = _
      rw [if_pos (by rw [hc.1]; exact Int32.le_refl _)]
    show ∃ S', F_X2_weigh_9 (n + 1) (nI m) fl (nI (rgs V m)) (nI (scs V m)) (nI (V 8 0)) S = some S' ∧ _
    rw [stp]
    cases o with
    | none =>
      have hx : x3 = 0 := hCB
      rw [if_pos hx] at hfl
      rw [if_neg (by rw [hfl]; decide)]
      exact ⟨_, rfl, aS, cS⟩
    | some b =>
      obtain ⟨hx, q0, q1, q2⟩ := hCB
      rw [if_neg (by rw [hx]; decide)] at hfl
      have r1 := rgs_le ok m
      have r2 := rgs_le ok b
      have s1 := scs_le ok m
      have s2 := scs_le ok b
      rw [if_pos hfl, q1, q2]
      show ∃ S', _ ∧ AgK S S' ∧ CtB S' V 1 (if rgs V m < rgs V b ∨ (rgs V m = rgs V b ∧ scs V b < scs V m) then some m else some b)
      by_cases c1 : rgs V m < rgs V b
      · rw [if_pos (nI_lt c1 (by omega)), if_pos (Or.inl c1)]
        exact ⟨_, rfl, aS, cS⟩
      · rw [if_neg (nI_nlt (by omega) (by omega))]
        by_cases c2 : rgs V m = rgs V b
        · rw [if_pos (by rw [c2])]
          by_cases c3 : scs V b < scs V m
          · rw [if_neg (nI_ge c3 (by omega)), if_pos (Or.inr ⟨c2, c3⟩)]
            exact ⟨_, rfl, aS, cS⟩
          · rw [if_pos (nI_le (by omega) (by omega)), if_neg (by omega)]
            exact ⟨_, rfl, AgO.rfl, rfl, q0, q1, q2⟩
        · rw [if_neg (fun z => c2 (nI_inj (by omega) (by omega) z)), if_neg (by omega)]
          exact ⟨_, rfl, AgO.rfl, rfl, q0, q1, q2⟩
  | k + 1, i, n + 1, hi, hn => by
    have h20 := ok.1
    have hii : i < V 8 0 := by omega
    have gi : inb (nI i) 20 = true := inb_nI (by omega) (by decide)
    have e24 := (hc.2.2.2.1 i hii).2.2.2.1
    obtain ⟨S', u1, u2⟩ := cl_weigh ok hc hm hCB hfl k (i + 1) n (by omega) (by omega)
    refine ⟨S', ?_, u2⟩
    rw [← u1, sumIf_succ, sumIf_succ]
    have stp : ∀ x4 x5 : Int32, F_X2_weigh_9 (n + 1) (nI m) fl x4 x5 (nI i) S = (if ((nI m >>> (nI i &&& 31)) &&& 1) = 0 then (((F_X8_ringsFrom (nI i) S).bind (fun r_47 => F_J6_bitCount_0f7a4 (r_47.1 &&& (nI m ^^^ (-1))) r_47.2)).bind (fun r_54 => F_X2_weigh_9 n (nI m) fl (x4 + r_54.1) x5 (nI (i + 1)) r_54.2)) else (F_X2_weigh_9 n (nI m) fl x4 (x5 + nI (V 3 i)) (nI (i + 1)) S)) := by
      intro x4 x5
      show (if (S.1 1 0) ≤ nI i then _ else (if ((nI m >>> (nI i &&& 31)) &&& 1) = 0 then ((F_X8_ringsFrom (nI i) S).bind (fun r_47 => (F_J6_bitCount_0f7a4 (r_47.1 &&& (nI m ^^^ (-1))) r_47.2).bind (fun r_54 => F_X2_weigh_9 n (nI m) fl (x4 + r_54.1) x5 (nI i + 1) r_54.2))) else (gd (inb (nI i) 20) (F_X2_weigh_9 n (nI m) fl x4 (x5 + (S.2.1 24 (Int32.toNatClampNeg (nI i)))) (nI i + 1) S)))) = _
      rw [if_neg (by rw [hc.1]; exact nI_ge hii (by omega)), gd_t gi, nI_clamp (by omega), e24, nI_1, Option.bind_assoc]
    rw [stp, cl_ringsOf ok hc hii, Option.bind_some]
    by_cases c : m.testBit i = true
    · rw [if_neg (fun z => by rw [(tst_bit (by omega) (by omega)).mp z] at c; cases c), if_neg (show ¬ (!m.testBit i) = true by rw [c]; decide), if_pos c, nI_add]
      rfl
    · have c' : m.testBit i = false := Bool.eq_false_iff.mpr c
      rw [if_pos ((tst_bit (by omega) (by omega)).mpr c'), if_pos (show (!m.testBit i) = true by rw [c']; rfl), if_neg c, nI_add]
      rfl
end
theorem bit_le : ∀ n, n < 31 → (1 : Int32) <<< (nI n &&& 31) = nI (2 ^ n) := by decide +kernel
/-- the class: one set -/
theorem cl_set {N : Nat} (hN : 2100 ≤ N) {V : Nat → Nat → Nat} {S : St} (ok : OKV V) (hc : ClP S V) {x k n : Nat} (hx : x < 2 ^ V 8 0) (hx0 : 0 < x) (hk : k < 2000) {x3 : Int32} {o : Option Nat} (hCB : CtB S V x3 o) {y : Int32} (hy : ∀ T : St, F_X2_nextSet (nI x) T = some (y, T)) : ∃ S' x3', F_X2_find_12 N (n + 1) x3 (nI x) (nI k) S = F_X2_find_12 N n x3' y (nI (k + 1)) S' ∧ AgK S S' ∧ CtB S' V x3' (upC V o x) := by
  have h20 := ok.1
  have hx20 : x < 2 ^ 20 := Nat.lt_of_lt_of_le hx (Nat.pow_le_pow_right (by decide) h20)
  have hp20 : 2 ^ V 8 0 ≤ 2 ^ 20 := Nat.pow_le_pow_right (by decide) h20
  have g1 : ¬ (2000 : Int32) ≤ nI k := nI_ge (b := 2000) hk (by decide)
  have g2 : ¬ (1 <<< ((S.1 1 0) &&& 31) : Int32) ≤ nI x := by rw [hc.1, bit_le _ (by omega)]; exact nI_ge hx (by omega)
  have hne : ¬ nI x = 0 := nI_ne0 hx0 (by omega)
  have ht : F_X2_leavesNeedsTold N (nI x) S = some (bI (vld V x), S) := cl_told ok hc (by omega) (V 8 0) 0 N 0 (by omega) (by omega) rfl
  have stp : F_X2_find_12 N (n + 1) x3 (nI x) (nI k) S = (if bI (vld V x) = 0 then ((F_X2_nextSet (nI x) S).bind (fun r_67 => F_X2_find_12 N n x3 r_67.1 (nI (k + 1)) r_67.2)) else (if x3 = 0 then ((F_X2_weigh N (nI x) (1 : Int32) S).bind (fun r_53 => (F_X2_nextSet (nI x) r_53).bind (fun r_67 => F_X2_find_12 N n 1 r_67.1 (nI (k + 1)) r_67.2))) else ((F_X2_weigh N (nI x) (0 : Int32) S).bind (fun r_53 => (F_X2_nextSet (nI x) r_53).bind (fun r_67 => F_X2_find_12 N n 1 r_67.1 (nI (k + 1)) r_67.2))))) := by
    show (if 2000 ≤ nI k then _ else (if (1 <<< ((S.1 1 0) &&& 31)) ≤ nI x then _ else ((F_X2_leavesNeedsTold N (nI x) S).bind (fun r_34 => if r_34.1 = 0 then (if nI x = 0 then _ else ((F_X2_nextSet (nI x) r_34.2).bind (fun r_67 => F_X2_find_12 N n x3 r_67.1 (nI k + 1) r_67.2))) else (if x3 = 0 then ((F_X2_weigh N (nI x) (1 : Int32) r_34.2).bind (fun r_53 => if nI x = 0 then (some (1, r_53)) else ((F_X2_nextSet (nI x) r_53).bind (fun r_67 => F_X2_find_12 N n 1 r_67.1 (nI k + 1) r_67.2)))) else ((F_X2_weigh N (nI x) (0 : Int32) r_34.2).bind (fun r_53 => if nI x = 0 then (some (1, r_53)) else ((F_X2_nextSet (nI x) r_53).bind (fun r_67 => F_X2_find_12 N n 1 r_67.1 (nI k + 1) r_67.2))))))))) = _
    rw [if_neg g1, if_neg g2, ht, Option.bind_some]
    simp only [if_neg hne, nI_1]
  rw [stp]
  unfold upC
  by_cases v : vld V x = true
  · rw [if_neg (bI_ne.mpr v), if_pos v]
    obtain ⟨S1, s1, s2, s3⟩ := cl_weigh ok hc (show x < 2 ^ 30 by omega) hCB rfl (V 8 0) 0 N (by omega) (by omega)
    refine ⟨S1, 1, ?_, s2, s3⟩
    have s1' : F_X2_weigh N (nI x) (if x3 = 0 then 1 else 0) S = some S1 := s1
    by_cases c : x3 = 0
    · rw [if_pos c] at s1'
      rw [if_pos c, s1', Option.bind_some, hy, Option.bind_some]
    · rw [if_neg c] at s1'
      rw [if_neg c, s1', Option.bind_some, hy, Option.bind_some]
  · rw [if_pos (bI_0.mpr (Bool.eq_false_iff.mpr v)), if_neg v, hy, Option.bind_some]
    exact ⟨S, x3, rfl, AgO.rfl, hCB⟩
/-- the class: a row of sets one by one -/
theorem cl_seq {N : Nat} (hN : 2100 ≤ N) {V : Nat → Nat → Nat} (ok : OKV V) {sq : Nat → Nat} {K : Nat} (hK : K < 2000) (h1 : ∀ k, k < K → 0 < sq k ∧ sq k < 2 ^ V 8 0 ∧ sq k < sq (k + 1) ∧ ∀ T : St, F_X2_nextSet (nI (sq k)) T = some (nI (sq (k + 1)), T)) (h2 : 2 ^ V 8 0 ≤ sq K) (h3 : sq K < 2 ^ 30) : ∀ (m k n : Nat) (S : St) (x3 : Int32) (o : Option Nat), ClP S V → CtB S V x3 o → Bst V o (fun y => ∃ j, j < k ∧ y = sq j) → k + m = K → m < n → ∃ S' x3' o', F_X2_find_12 N n x3 (nI (sq k)) (nI k) S = some (x3', S') ∧ AgK S S' ∧ CtB S' V x3' o' ∧ Bst V o' (fun y => ∃ j, j < K ∧ y = sq j)
  | m, k, 0, S, x3, o, _, _, _, _, hn => absurd hn (Nat.not_lt_zero m)
  | 0, k, n + 1, S, x3, o, hc, hCB, hB, hk, _ => by
    have h20 := ok.1
    have hp20 : 2 ^ V 8 0 ≤ 2 ^ 20 := Nat.pow_le_pow_right (by decide) h20
    have e : k = K := hk
    subst e
    refine ⟨S, x3, o, ?_, AgO.rfl, hCB, hB⟩
    have g : (1 <<< ((S.1 1 0) &&& 31) : Int32) ≤ nI (sq k) := by rw [hc.1, bit_le _ (by omega)]; exact nI_le h2 (by omega)
    have hd : gd (decide (x3 = 0 ∨ x3 = 1)) (some (x3, S)) = some (x3, S) := gd_t (decide_eq_true (by
      cases o with
      | none => exact Or.inl hCB
      | some b => exact Or.inr hCB.1))
    show (if 2000 ≤ nI k then (gd (decide (x3 = 0 ∨ x3 = 1)) (some (x3, S))) else (if (1 <<< ((S.1 1 0) &&& 31)) ≤ nI (sq k) then (gd (decide (x3 = 0 ∨ x3 = 1)) (some (x3, S))) else _)) = _
    rw [if_neg (show ¬ (2000 : Int32) ≤ nI k from nI_ge (b := 2000) hK (by decide)), if_pos g, hd]
  | m + 1, k, n + 1, S, x3, o, hc, hCB, hB, hk, hn => by
    obtain ⟨q1, q2, q3, q4⟩ := h1 k (by omega)
    obtain ⟨S1, x3', s1, s2, s3⟩ := cl_set (n := n) hN ok hc q2 q1 (show k < 2000 by omega) hCB q4
    have mono : ∀ d j, j + d ≤ K → sq j ≤ sq (j + d) := by
      intro d
      induction d with
      | zero => intro j _; exact Nat.le_refl _
      | succ d ih =>
        intro j hj
        have a := ih j (by omega)
        have b := (h1 (j + d) (by omega)).2.2.1
        have e : j + (d + 1) = j + d + 1 := by omega
        rw [e]
        omega
    have hB1 : Bst V (upC V o (sq k)) (fun y => ∃ j, j < k + 1 ∧ y = sq j) := by
      refine (hB.addC (x := sq k) ?_).congr ?_
      · rintro y ⟨j, hj, rfl⟩
        have a := (h1 j (by omega)).2.2.1
        have b := mono (k - (j + 1)) (j + 1) (by omega)
        rw [show j + 1 + (k - (j + 1)) = k by omega] at b
        omega
      · intro y
        constructor
        · rintro (⟨j, hj, rfl⟩ | rfl)
          · exact ⟨j, by omega, rfl⟩
          · exact ⟨k, by omega, rfl⟩
        · rintro ⟨j, hj, rfl⟩
          by_cases c : j = k
          · exact Or.inr (by rw [c])
          · exact Or.inl ⟨j, by omega, rfl⟩
    obtain ⟨S2, x3'', o', u1, u2, u3, u4⟩ := cl_seq hN ok hK h1 h2 h3 m (k + 1) n S1 x3' (upC V o (sq k)) (s2.cl hc) s3 hB1 (by omega) (by omega)
    exact ⟨S2, x3'', o', s1.trans u1, s2.trans u2, u3, u4⟩
