/-- what a law's names say: h held, n nerves, p part, i line, l seconds, c lines of the same cue -/
def fcV (V : Nat → Nat → Nat) (k : Nat) (h : Int32) (j : Nat) : Int32 :=
  if j = 0 then h else if j = 1 then nI (V 8 2) else if j = 2 then nI (V 0 k) else if j = 3 then nI k else if j = 4 then nI (V 3 k) else nI (cnt (fun o => decide (V 1 o = V 1 k)) (V 8 0) - 1)
theorem cnt_pos {p : Nat → Bool} {k : Nat} (hp : p k = true) : ∀ n, k < n → 1 ≤ cnt p n
  | 0, h => absurd h (Nat.not_lt_zero k)
  | n + 1, h => by
    show 1 ≤ cnt p n + (if p n = true then 1 else 0)
    by_cases q : k = n
    · subst q; rw [if_pos hp]; omega
    · have := cnt_pos hp n (by omega); omega
theorem lt6 {k : Nat} (h : k < 6) : k = 0 ∨ k = 1 ∨ k = 2 ∨ k = 3 ∨ k = 4 ∨ k = 5 := by omega
theorem isName_t {j : Nat} (hj : j < 6) (S : St) : F_X5_isName (nI (nmC j)) S = some (1, S) := by
  unfold F_X5_isName
  rcases lt6 hj with rfl | rfl | rfl | rfl | rfl | rfl
  · rw [if_pos (by decide)]
  · rw [if_neg (by decide), if_pos (by decide)]
  · rw [if_neg (by decide), if_neg (by decide), if_pos (by decide)]
  · rw [if_neg (by decide), if_neg (by decide), if_neg (by decide), if_pos (by decide)]
  · rw [if_neg (by decide), if_neg (by decide), if_neg (by decide), if_neg (by decide), if_pos (by decide)]
  · rw [if_neg (by decide), if_neg (by decide), if_neg (by decide), if_neg (by decide), if_neg (by decide), if_pos (by decide)]
theorem isName_f {x : Int32} (h : ¬ x = 104 ∧ ¬ x = 110 ∧ ¬ x = 112 ∧ ¬ x = 105 ∧ ¬ x = 108 ∧ ¬ x = 99) (S : St) : F_X5_isName x S = some (0, S) := by
  unfold F_X5_isName
  rw [if_neg h.1, if_neg h.2.1, if_neg h.2.2.1, if_neg h.2.2.2.1, if_neg h.2.2.2.2.1, if_neg h.2.2.2.2.2]
theorem named_eq {S : St} {V : Nat → Nat → Nat} (ok : OKV V) (hc : ClP S V) {k : Nat} (hk : k < V 8 0) (h : Int32) {j : Nat} (hj : j < 6) : F_X5_named (nI (nmC j)) (nI k) h S = some (fcV V k h j, S) := by
  have h20 := ok.1
  have hw : V 1 k < 10 := (ok.2.2.2.1 k hk).2.1
  obtain ⟨e21, e22, e23, e24, -⟩ := hc.2.2.2.1 k hk
  unfold F_X5_named
  rcases lt6 hj with rfl | rfl | rfl | rfl | rfl | rfl
  · rw [if_pos (by decide)]; rfl
  · rw [if_neg (by decide), if_neg (by decide), if_neg (by decide), if_pos (by decide)]
    exact congrArg (fun z => some (z, S)) hc.2.2.1
  · rw [if_neg (by decide), if_neg (by decide), if_neg (by decide), if_neg (by decide), if_pos (by decide), gd_t (inb_nI (by omega) (by decide)), nI_clamp (by omega)]
    exact congrArg (fun z => some (z, S)) e21
  · rw [if_neg (by decide), if_pos (by decide)]; rfl
  · rw [if_neg (by decide), if_neg (by decide), if_pos (by decide), gd_t (inb_nI (by omega) (by decide)), nI_clamp (by omega)]
    exact congrArg (fun z => some (z, S)) e24
  · rw [if_neg (by decide), if_neg (by decide), if_neg (by decide), if_neg (by decide), if_neg (by decide), gd_t (inb_nI (by omega) (by decide)), nI_clamp (by omega), e22, gd_t (inb_nI hw (by decide)), nI_clamp (by omega), hc.2.2.2.2.2 _ hw, bc_mask _ h20, Option.bind_some]
    show some (nI _ - nI 1, S) = _
    rw [pk_sub (cnt_pos (k := k) (by simp) _ hk)]
    rfl
theorem bal_cons {t : Nat × Nat} {ts : List (Nat × Nat)} {h h' : Nat} (q : bal (t :: ts) h = some h') : ∃ h1, bal [t] h = some h1 ∧ bal ts h1 = some h' ∧ h1 ≤ h + 1 := by
  have w1 : bal [t] h = (if t.1 ≤ 1 then some (h + 1) else if t.1 ≤ 3 then (if 1 ≤ h then some h else none) else (if 2 ≤ h then some (h - 1) else none)) := rfl
  have w2 : bal (t :: ts) h = (if t.1 ≤ 1 then bal ts (h + 1) else if t.1 ≤ 3 then (if 1 ≤ h then bal ts h else none) else (if 2 ≤ h then bal ts (h - 1) else none)) := rfl
  rw [w2] at q
  rw [w1]
  by_cases c1 : t.1 ≤ 1
  · rw [if_pos c1] at q ⊢
    exact ⟨h + 1, rfl, q, Nat.le_refl _⟩
  · rw [if_neg c1] at q ⊢
    by_cases c2 : t.1 ≤ 3
    · rw [if_pos c2] at q ⊢
      by_cases c3 : 1 ≤ h
      · rw [if_pos c3] at q ⊢
        exact ⟨h, rfl, q, Nat.le_succ _⟩
      · rw [if_neg c3] at q; cases q
    · rw [if_neg c2] at q ⊢
      by_cases c3 : 2 ≤ h
      · rw [if_pos c3] at q ⊢
        exact ⟨h - 1, rfl, q, by omega⟩
      · rw [if_neg c3] at q; cases q
/-! the class: one step -/
section
variable {S : St} {b p z : Nat} {x : Int32}
theorem wo_push (hS : S.1 (2 + b) 1 = nI z) (hz : z ≤ 121) (hp : p < z) (hr : S.2.1 (30 + b) p = x) (hx : ¬ x < 0) (m : Nat) (x2 x3 x4 : Int32) : F_X5_worth_11 (m + 1) b x2 x3 x4 (nI p) S = (F_X5_push b x S).bind (fun r => F_X5_worth_11 m b x2 x3 x4 (nI (p + 1)) r) := by
  have h1 : ¬ S.1 (2 + b) 1 ≤ nI p := by rw [hS]; exact nI_ge hp (by omega)
  have h2 : S.2.1 (30 + b) (Int32.toNatClampNeg (nI p)) = x := by rw [nI_clamp (by omega)]; exact hr
  show (if (S.1 (2 + b) 1) ≤ nI p then _ else gd (inb (nI p) 121) (if (S.2.1 (30 + b) (Int32.toNatClampNeg (nI p))) < 0 then _ else (F_X5_push b (S.2.1 (30 + b) (Int32.toNatClampNeg (nI p))) S).bind (fun r => F_X5_worth_11 m b x2 x3 x4 (nI p + 1) r))) = _
  rw [if_neg h1, gd_t (inb_nI (by omega) (by decide)), h2, if_neg hx, nI_1]
theorem wo_work (hS : S.1 (2 + b) 1 = nI z) (hz : z ≤ 121) (hp : p < z) (hr : S.2.1 (30 + b) p = x) (hx : x < 0) (hq : ¬ x = -63) (he : ¬ x = -59) (m : Nat) (x2 x3 x4 : Int32) : F_X5_worth_11 (m + 1) b x2 x3 x4 (nI p) S = (F_X5_work b (-x) x2 x3 S).bind (fun r => F_X5_worth_11 m b x2 x3 x4 (nI (p + 1)) r) := by
  have h1 : ¬ S.1 (2 + b) 1 ≤ nI p := by rw [hS]; exact nI_ge hp (by omega)
  have h2 : S.2.1 (30 + b) (Int32.toNatClampNeg (nI p)) = x := by rw [nI_clamp (by omega)]; exact hr
  show (if (S.1 (2 + b) 1) ≤ nI p then _ else gd (inb (nI p) 121) (if (S.2.1 (30 + b) (Int32.toNatClampNeg (nI p))) < 0 then (if (S.2.1 (30 + b) (Int32.toNatClampNeg (nI p))) = (-63) then _ else (if (S.2.1 (30 + b) (Int32.toNatClampNeg (nI p))) = (-59) then _ else (F_X5_work b (-(S.2.1 (30 + b) (Int32.toNatClampNeg (nI p)))) x2 x3 S).bind (fun r => F_X5_worth_11 m b x2 x3 x4 (nI p + 1) r))) else _)) = _
  rw [if_neg h1, gd_t (inb_nI (by omega) (by decide)), h2, if_pos hx, if_neg hq, if_neg he, nI_1]
theorem wo_q (hS : S.1 (2 + b) 1 = nI z) (hz : z ≤ 121) (hp : p < z) (hr : S.2.1 (30 + b) p = -63) (m : Nat) (x2 x3 x4 : Int32) : F_X5_worth_11 (m + 1) b x2 x3 x4 (nI p) S = (F_X5_pop b S).bind (fun r => if r.1 = 0 then F_X5_worth_11 m b x2 x3 0 (nI (p + 1)) r.2 else F_X5_worth_11 m b x2 x3 1 (nI (p + 1)) r.2) := by
  have h1 : ¬ S.1 (2 + b) 1 ≤ nI p := by rw [hS]; exact nI_ge hp (by omega)
  have h2 : S.2.1 (30 + b) (Int32.toNatClampNeg (nI p)) = -63 := by rw [nI_clamp (by omega)]; exact hr
  show (if (S.1 (2 + b) 1) ≤ nI p then _ else gd (inb (nI p) 121) (if (S.2.1 (30 + b) (Int32.toNatClampNeg (nI p))) < 0 then (if (S.2.1 (30 + b) (Int32.toNatClampNeg (nI p))) = (-63) then (F_X5_pop b S).bind (fun r => if r.1 = 0 then F_X5_worth_11 m b x2 x3 0 (nI p + 1) r.2 else F_X5_worth_11 m b x2 x3 1 (nI p + 1) r.2) else _) else _)) = _
  rw [if_neg h1, gd_t (inb_nI (by omega) (by decide)), h2, if_pos (by decide), if_pos rfl, nI_1]
theorem wo_e (hS : S.1 (2 + b) 1 = nI z) (hz : z ≤ 121) (hp : p < z) (hr : S.2.1 (30 + b) p = -59) (m : Nat) (x2 x3 x4 : Int32) : F_X5_worth_11 (m + 1) b x2 x3 x4 (nI p) S = (F_X5_pop b S).bind (fun r => if x4 = 0 then F_X5_worth_11 m b x2 x3 1 (nI (p + 1)) r.2 else some (r.1, r.2)) := by
  have h1 : ¬ S.1 (2 + b) 1 ≤ nI p := by rw [hS]; exact nI_ge hp (by omega)
  have h2 : S.2.1 (30 + b) (Int32.toNatClampNeg (nI p)) = -59 := by rw [nI_clamp (by omega)]; exact hr
  show (if (S.1 (2 + b) 1) ≤ nI p then _ else gd (inb (nI p) 121) (if (S.2.1 (30 + b) (Int32.toNatClampNeg (nI p))) < 0 then (if (S.2.1 (30 + b) (Int32.toNatClampNeg (nI p))) = (-63) then _ else (if (S.2.1 (30 + b) (Int32.toNatClampNeg (nI p))) = (-59) then (F_X5_pop b S).bind (fun r => if x4 = 0 then F_X5_worth_11 m b x2 x3 1 (nI p + 1) r.2 else some (r.1, r.2)) else _)) else _)) = _
  rw [if_neg h1, gd_t (inb_nI (by omega) (by decide)), h2, if_pos (by decide), if_neg (by decide), if_pos rfl, nI_1]
end
theorem work_name {S : St} {V : Nat → Nat → Nat} (ok : OKV V) (hc : ClP S V) {k : Nat} (hk : k < V 8 0) (h : Int32) {j b : Nat} (hj : j < 6) {st : List Int32} (hs : Stk S b st) (hl : st.length < 121) : F_X5_work b (nI (nmC j)) (nI k) h S = some (pushS S b st.length (fcV V k h j)) := by
  unfold F_X5_work
  simp only [isName_t hj, Option.bind_some, if_neg (show ¬ (1 : Int32) = 0 by decide), named_eq ok hc hk h hj, push_eq hs.1 hl]
theorem work_not {S : St} {b : Nat} {x : Int32} {st : List Int32} (hs : Stk S b (x :: st)) (hl : st.length < 121) (x3 x4 : Int32) : F_X5_work b 33 x3 x4 S = some (pushS (popS S b st.length) b st.length (if x = 0 then 1 else 0)) := by
  have hv : S.2.1 (32 + b) st.length = x := hs.2.1
  unfold F_X5_work
  simp only [isName_f (x := 33) (by decide), Option.bind_some, if_true, pop_eq (n := st.length) hs.1 hl, hv]
  by_cases q : x = 0
  · simp only [if_pos q, truth_1, Option.bind_some, push_eq hs.pop.1 hl]
  · simp only [if_neg q, truth_0, Option.bind_some, push_eq hs.pop.1 hl]
theorem work_neg {S : St} {b : Nat} {x : Int32} {st : List Int32} (hs : Stk S b (x :: st)) (hl : st.length < 121) (x3 x4 : Int32) : F_X5_work b 126 x3 x4 S = some (pushS (popS S b st.length) b st.length (-x)) := by
  have hv : S.2.1 (32 + b) st.length = x := hs.2.1
  unfold F_X5_work
  simp only [isName_f (x := 126) (by decide), Option.bind_some, if_true, pop_eq (n := st.length) hs.1 hl, hv, push_eq hs.pop.1 hl, if_neg (show ¬ (126 : Int32) = 33 by decide)]
theorem sg_not {s : Nat} (h : s ∈ ([124, 38, 60, 61, 62, 43, 45, 42, 47, 37] : List Nat)) : (¬ nI s = 104 ∧ ¬ nI s = 110 ∧ ¬ nI s = 112 ∧ ¬ nI s = 105 ∧ ¬ nI s = 108 ∧ ¬ nI s = 99) ∧ (¬ nI s = 33 ∧ ¬ nI s = 126 ∧ - nI s < 0 ∧ ¬ - nI s = -63 ∧ ¬ - nI s = -59) ∧ (¬ nI s = 1 ∧ ¬ nI s = 2 ∧ ¬ nI s = 3 ∧ ¬ nI s = 4) := by
  rcases sg_cases h with rfl | rfl | rfl | rfl | rfl | rfl | rfl | rfl | rfl | rfl <;> decide
theorem work_two {S : St} {b s : Nat} (h : s ∈ ([124, 38, 60, 61, 62, 43, 45, 42, 47, 37] : List Nat)) {x y : Int32} {st : List Int32} (hs : Stk S b (x :: y :: st)) (hl : st.length + 1 < 121) (x3 x4 : Int32) : F_X5_work b (nI s) x3 x4 S = some (pushS (popS (popS S b (st.length + 1)) b st.length) b st.length (twoW s y x)) := by
  have hv : S.2.1 (32 + b) (st.length + 1) = x := hs.2.1
  have hv2 : (popS S b (st.length + 1)).2.1 (32 + b) st.length = y := hs.2.2.1
  have p1 : F_X5_pop b S = some (x, popS S b (st.length + 1)) := by rw [← hv]; exact pop_eq (n := st.length + 1) hs.1 hl
  have p2 : F_X5_pop b (popS S b (st.length + 1)) = some (y, popS (popS S b (st.length + 1)) b st.length) := by rw [← hv2]; exact pop_eq (n := st.length) hs.pop.1 (by omega)
  have p3 : F_X5_push b (twoW s y x) (popS (popS S b (st.length + 1)) b st.length) = some (pushS (popS (popS S b (st.length + 1)) b st.length) b st.length (twoW s y x)) := push_eq hs.pop.pop.1 (by omega) _
  unfold F_X5_work
  simp only [isName_f (sg_not h).1, Option.bind_some, if_true, if_neg (sg_not h).2.1.1, if_neg (sg_not h).2.1.2.1, p1, p2, joined_eq h, p3]
/-- one step of the class's pile -/
theorem cl_tok {b k : Nat} {V : Nat → Nat → Nat} {h : Int32} (hb : b < 2) (ok : OKV V) (hk : k < V 8 0) {S : St} (hc : ClP S V) {t : Nat × Nat} (ht : okT t) {p z : Nat} (hz : z ≤ 121) (hp : p < z) (hS : S.1 (2 + b) 1 = nI z) (hr : S.2.1 (30 + b) p = tkC t) {st : List Int32} (hs : Stk S b st) (hl : st.length < 121) {h' : Nat} (hbal : bal [t] st.length = some h') : ∃ S', (∀ m x4, F_X5_worth_11 (m + 1) b (nI k) h x4 (nI p) S = F_X5_worth_11 m b (nI k) h x4 (nI (p + 1)) S') ∧ AgW S S' ∧ Stk S' b (ev1 (fcV V k h) t st) ∧ (ev1 (fcV V k h) t st).length = h' := by
  obtain ⟨t1, t2⟩ := t
  rcases ht with ⟨q1, q2⟩ | ⟨q1, q2⟩ | q1 | q1 | ⟨q1, q2⟩
  · subst q1
    have e : tkC (0, t2) = nI t2 := rfl
    rw [e] at hr
    have hb' : some (st.length + 1) = some h' := hbal
    refine ⟨pushS S b st.length (nI t2), fun m x4 => ?_, AgW.push hb _ _, hs.push _, Option.some.inj hb'⟩
    rw [wo_push hS hz hp hr (nI_pos (by have : t2 ≤ 9999 := q2; omega)), push_eq hs.1 hl, Option.bind_some]
  · subst q1
    have q2 : t2 < 6 := q2
    have e : tkC (1, t2) = - nI (nmC t2) := rfl
    rw [e] at hr
    have hb' : some (st.length + 1) = some h' := hbal
    have w := (by decide : ∀ j, j < 6 → - nI (nmC j) < 0 ∧ ¬ - nI (nmC j) = -63 ∧ ¬ - nI (nmC j) = -59) t2 q2
    refine ⟨pushS S b st.length (fcV V k h t2), fun m x4 => ?_, AgW.push hb _ _, hs.push _, Option.some.inj hb'⟩
    rw [wo_work hS hz hp hr w.1 w.2.1 w.2.2, Int32.neg_neg, work_name ok hc hk h q2 hs hl, Option.bind_some]
  · rw [Prod.mk.injEq] at q1
    obtain ⟨rfl, rfl⟩ := q1
    have e : tkC (2, 0) = -33 := rfl
    rw [e] at hr
    cases st with
    | nil => cases hbal
    | cons x st =>
      have hb' : some (st.length + 1) = some h' := hbal
      have hl' : st.length < 121 := by have : st.length + 1 < 121 := hl; omega
      refine ⟨pushS (popS S b st.length) b st.length (if x = 0 then 1 else 0), fun m x4 => ?_, (AgW.pop hb _).tr (AgW.push hb _ _), hs.pop.push _, Option.some.inj hb'⟩
      rw [wo_work hS hz hp hr (by decide) (by decide) (by decide), show -(-33 : Int32) = 33 from rfl, work_not hs hl', Option.bind_some]
  · rw [Prod.mk.injEq] at q1
    obtain ⟨rfl, rfl⟩ := q1
    have e : tkC (3, 0) = -126 := rfl
    rw [e] at hr
    cases st with
    | nil => cases hbal
    | cons x st =>
      have hb' : some (st.length + 1) = some h' := hbal
      have hl' : st.length < 121 := by have : st.length + 1 < 121 := hl; omega
      refine ⟨pushS (popS S b st.length) b st.length (-x), fun m x4 => ?_, (AgW.pop hb _).tr (AgW.push hb _ _), hs.pop.push _, Option.some.inj hb'⟩
      rw [wo_work hS hz hp hr (by decide) (by decide) (by decide), show -(-126 : Int32) = 126 from rfl, work_neg hs hl', Option.bind_some]
  · subst q1
    have e : tkC (4, t2) = - nI t2 := rfl
    rw [e] at hr
    cases st with
    | nil => cases hbal
    | cons x st =>
      cases st with
      | nil => cases hbal
      | cons y st =>
        have hb' : some (st.length + 1) = some h' := hbal
        have hl' : st.length + 1 < 121 := by have : st.length + 1 + 1 < 121 := hl; omega
        have w := sg_not q2
        refine ⟨pushS (popS (popS S b (st.length + 1)) b st.length) b st.length (twoW t2 y x), fun m x4 => ?_, ((AgW.pop hb _).tr (AgW.pop hb _)).tr (AgW.push hb _ _), hs.pop.pop.push _, Option.some.inj hb'⟩
        rw [wo_work hS hz hp hr w.2.1.2.2.1 w.2.1.2.2.2.1 w.2.1.2.2.2.2, Int32.neg_neg, work_two q2 hs hl', Option.bind_some]
/-! rows of numbers at a place -/
def Rd (f : Nat → Int32) : Nat → List Int32 → Prop
  | _, [] => True
  | p, x :: l => f p = x ∧ Rd f (p + 1) l
theorem Rd_of {f : Nat → Int32} : ∀ {l : List Int32} {p : Nat}, (∀ i, i < l.length → f (p + i) = l.getD i 0) → Rd f p l
  | [], _, _ => trivial
  | x :: l, p, h => ⟨h 0 (Nat.succ_pos _), Rd_of (fun i hi => by
      have := h (i + 1) (Nat.succ_lt_succ hi)
      rw [show p + 1 + i = p + (i + 1) by omega]
      exact this)⟩
theorem Rd_app {f : Nat → Int32} : ∀ {l l' : List Int32} {p : Nat}, Rd f p (l ++ l') → Rd f p l ∧ Rd f (p + l.length) l'
  | [], l', p, h => ⟨trivial, h⟩
  | x :: l, l', p, h => by
    obtain ⟨h1, h2⟩ := Rd_app (l := l) h.2
    refine ⟨⟨h.1, h1⟩, ?_⟩
    rw [show p + (x :: l).length = p + 1 + l.length by rw [List.length_cons]; omega]
    exact h2
theorem cl_ev {b k z : Nat} {V : Nat → Nat → Nat} {h : Int32} (hb : b < 2) (ok : OKV V) (hk : k < V 8 0) (hz : z ≤ 121) {h' : Nat} : ∀ (ts : List (Nat × Nat)) (p : Nat) (st : List Int32) (S : St), ClP S V → (∀ t ∈ ts, okT t) → bal ts st.length = some h' → Rd (S.2.1 (30 + b)) p (ts.map tkC) → p + ts.length ≤ z → S.1 (2 + b) 1 = nI z → Stk S b st → st.length + ts.length ≤ 121 → ∃ S', (∀ m x4, F_X5_worth_11 (m + ts.length) b (nI k) h x4 (nI p) S = F_X5_worth_11 m b (nI k) h x4 (nI (p + ts.length)) S') ∧ AgW S S' ∧ Stk S' b (evT (fcV V k h) ts st) ∧ (evT (fcV V k h) ts st).length = h'
  | [], p, st, S, hc, _, hbal, _, _, _, hs, _ => ⟨S, fun m x4 => rfl, AgO.rfl, hs, Option.some.inj hbal⟩
  | t :: ts, p, st, S, hc, hok, hbal, hr, hp, hS, hs, hl => by
    obtain ⟨h1, b1, b2, b3⟩ := bal_cons hbal
    have hp' : p + (ts.length + 1) ≤ z := hp
    have hl2 : st.length + (ts.length + 1) ≤ 121 := hl
    obtain ⟨S1, s1, s2, s3, s4⟩ := cl_tok (h := h) hb ok hk hc (hok t (List.mem_cons_self ..)) hz (show p < z by omega) hS hr.1 hs (by omega) b1
    have e1 : S1.1 (2 + b) 1 = S.1 (2 + b) 1 := s2.1 _ _ (fW_of (by omega))
    have e2 : S1.2.1 (30 + b) = S.2.1 (30 + b) := s2.2.1 _ (aW_of (by omega))
    obtain ⟨S2, u1, u2, u3, u4⟩ := cl_ev hb ok hk hz ts (p + 1) (ev1 (fcV V k h) t st) S1 (s2.cl hc) (fun t' h' => hok t' (List.mem_cons_of_mem _ h')) (by rw [s4]; exact b2) (by rw [e2]; exact hr.2) (by omega) (by rw [e1]; exact hS) s3 (by omega)
    refine ⟨S2, fun m x4 => ?_, s2.tr u2, u3, u4⟩
    show F_X5_worth_11 (m + (ts.length + 1)) b (nI k) h x4 (nI p) S = F_X5_worth_11 m b (nI k) h x4 (nI (p + (ts.length + 1))) S2
    rw [← Nat.add_assoc, s1, u1, show p + 1 + ts.length = p + (ts.length + 1) by omega]
