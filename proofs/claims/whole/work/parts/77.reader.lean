/-! the class's reader of laws as a machine: (w signs that wait, newest first; m steps, newest first; o open; br brackets; dg digits; wt an operand is wanted; ak asked) -/
abbrev CSt := List Nat × List Int32 × Nat × Nat × Nat × Bool × Bool
def sgS (s : Nat) : Nat := if s = 33 then 6 else if s = 37 then 5 else if s = 38 then 2 else if s = 42 then 5 else if s = 43 then 4 else if s = 45 then 4 else if s = 47 then 5 else if s = 60 then 3 else if s = 61 then 3 else if s = 62 then 3 else if s = 124 then 1 else if s = 126 then 6 else 0
/-- signs that bind at least so strongly leave: those that stay, steps, open -/
def stl (k : Nat) : List Nat → List Int32 → Nat → List Nat × List Int32 × Nat
  | [], m, o => ([], m, o)
  | s :: w, m, o => if sgS s < k then (s :: w, m, o) else stl k w ((- nI s) :: m) (if sgS s = 6 then o - 1 else o)
def isDg (c : Nat) : Bool := decide (48 ≤ c ∧ c ≤ 57)
def isNm (c : Nat) : Bool := decide (c = 104 ∨ c = 110 ∨ c = 112 ∨ c = 105 ∨ c = 108 ∨ c = 99)
def cEndL (σ : CSt) : Option CSt := if σ.2.2.2.1 = 0 then (let q := stl 1 σ.1 σ.2.1 σ.2.2.1; some (q.1, (-59) :: q.2.1, q.2.2, 0, σ.2.2.2.2.1, true, false)) else none
def cJoin (c : Nat) (σ : CSt) : Option CSt :=
  if sgS c = 0 ∨ sgS c = 6 then none else (let q := stl (if sgS c = 3 then 4 else sgS c) σ.1 σ.2.1 σ.2.2.1; if sgS c = 3 ∧ sgS (q.1.headD 0) = 3 then none else some (c :: q.1, q.2.1, q.2.2, σ.2.2.2.1, 0, true, σ.2.2.2.2.2.2))
def cstep (c : Nat) (σ : CSt) : Option CSt :=
  if σ.2.2.2.2.2.1 = true then
    (if isDg c = true then some (σ.1, nI (c - 48) :: σ.2.1, σ.2.2.1, σ.2.2.2.1, 1, false, σ.2.2.2.2.2.2)
     else if isNm c = true then some (σ.1, (- nI c) :: σ.2.1, σ.2.2.1, σ.2.2.2.1, σ.2.2.2.2.1, false, σ.2.2.2.2.2.2)
     else if c = 40 ∨ c = 33 ∨ c = 45 then (if σ.2.2.1 < 6 then some ((if c = 45 then 126 else c) :: σ.1, σ.2.1, σ.2.2.1 + 1, (if c = 40 then σ.2.2.2.1 + 1 else σ.2.2.2.1), σ.2.2.2.2.1, true, σ.2.2.2.2.2.2) else none)
     else none)
  else
    (if isDg c = true then (if 1 ≤ σ.2.2.2.2.1 ∧ σ.2.2.2.2.1 < 4 then (match σ.2.1 with | [] => none | x :: m => some (σ.1, (x * 10 + nI (c - 48)) :: m, σ.2.2.1, σ.2.2.2.1, σ.2.2.2.2.1 + 1, false, σ.2.2.2.2.2.2)) else none)
     else if c = 41 then (if σ.2.2.2.1 = 0 then none else (let q := stl 1 σ.1 σ.2.1 σ.2.2.1; some (q.1.tail, q.2.1, q.2.2 - 1, σ.2.2.2.1 - 1, 0, false, σ.2.2.2.2.2.2)))
     else if c = 63 then (if σ.2.2.2.1 = 0 ∧ σ.2.2.2.2.2.2 = false then (let q := stl 1 σ.1 σ.2.1 σ.2.2.1; some (q.1, (-63) :: q.2.1, q.2.2, 0, 0, true, true)) else none)
     else if c = 59 then cEndL (σ.1, σ.2.1, σ.2.2.1, σ.2.2.2.1, 0, false, σ.2.2.2.2.2.2)
     else cJoin c σ)
/-- the machine over the text, r bytes before its end: the byte that does not fit, or the steps -/
def crun (tx : Nat → Nat) (len : Nat) : Nat → CSt → Nat ⊕ List Int32
  | 0, σ => if σ.2.2.2.2.2.1 = true then .inl len else (match cEndL σ with | none => .inl len | some τ => .inr τ.2.1.reverse)
  | r + 1, σ => match cstep (tx (len - (r + 1))) σ with | none => .inl (len - (r + 1)) | some τ => crun tx len r τ
/-! the class's state -/
def ListA (f : Nat → Int32) : List Int32 → Prop
  | [] => True
  | x :: l => f l.length = x ∧ ListA f l
theorem ListA.upd {f : Nat → Int32} {n : Nat} {x : Int32} : ∀ {l : List Int32}, ListA f l → l.length ≤ n → ListA (upd f n x) l
  | [], _, _ => trivial
  | y :: l, h, hl => by
    have hl' : l.length + 1 ≤ n := hl
    exact ⟨(pk_un (by omega)).trans h.1, ListA.upd h.2 (by omega)⟩
def WfS (w : List Nat) : Prop := ∀ s ∈ w, s < 256
/-- the reader's cells hold the machine's state -/
def CR (S : St) (σ : CSt) : Prop := (S.1 4 1 = nI σ.2.1.length ∧ ListA (S.2.1 34) σ.2.1) ∧ (S.1 4 3 = nI σ.1.length ∧ ListA (S.2.1 35) (σ.1.map nI) ∧ WfS σ.1) ∧ S.1 4 4 = nI σ.2.2.1 ∧ S.1 4 5 = nI σ.2.2.2.1 ∧ S.1 4 6 = nI σ.2.2.2.2.1 ∧ S.1 4 7 = bI σ.2.2.2.2.2.1 ∧ S.1 4 8 = bI σ.2.2.2.2.2.2
def CBd (σ : CSt) (b : Nat) : Prop := σ.2.1.length + σ.1.length ≤ b ∧ σ.2.2.1 ≤ 1000 ∧ σ.2.2.2.1 ≤ 1000 ∧ σ.2.2.2.2.1 ≤ 1000
def fR (c _s : Nat) : Bool := !decide (c = 4)
def aR (k : Nat) : Bool := !decide (k = 34 ∨ k = 35)
def AgR (S S' : St) : Prop := AgO fR aR lAll S S'
theorem str_eq {s : Nat} (hs : s < 256) (S : St) : F_X6_strengthOf (nI s) S = some (nI (sgS s), S) := by
  have key : ∀ k : Nat, k < 256 → (nI s = nI k ↔ s = k) := fun k hk => nI_eq (by omega) (by omega)
  unfold F_X6_strengthOf sgS
  simp only [show ((33 : Int32) = nI 33) from rfl, show ((37 : Int32) = nI 37) from rfl, show ((38 : Int32) = nI 38) from rfl, show ((42 : Int32) = nI 42) from rfl, show ((43 : Int32) = nI 43) from rfl, show ((45 : Int32) = nI 45) from rfl, show ((47 : Int32) = nI 47) from rfl, show ((60 : Int32) = nI 60) from rfl, show ((61 : Int32) = nI 61) from rfl, show ((62 : Int32) = nI 62) from rfl, show ((124 : Int32) = nI 124) from rfl, show ((126 : Int32) = nI 126) from rfl, key 33 (by decide), key 37 (by decide), key 38 (by decide), key 42 (by decide), key 43 (by decide), key 45 (by decide), key 47 (by decide), key 60 (by decide), key 61 (by decide), key 62 (by decide), key 124 (by decide), key 126 (by decide)]
  by_cases c0 : s = 33
  · rw [if_pos c0, if_pos c0]; rfl
  rw [if_neg c0, if_neg c0]
  by_cases c1 : s = 37
  · rw [if_pos c1, if_pos c1]; rfl
  rw [if_neg c1, if_neg c1]
  by_cases c2 : s = 38
  · rw [if_pos c2, if_pos c2]; rfl
  rw [if_neg c2, if_neg c2]
  by_cases c3 : s = 42
  · rw [if_pos c3, if_pos c3]; rfl
  rw [if_neg c3, if_neg c3]
  by_cases c4 : s = 43
  · rw [if_pos c4, if_pos c4]; rfl
  rw [if_neg c4, if_neg c4]
  by_cases c5 : s = 45
  · rw [if_pos c5, if_pos c5]; rfl
  rw [if_neg c5, if_neg c5]
  by_cases c6 : s = 47
  · rw [if_pos c6, if_pos c6]; rfl
  rw [if_neg c6, if_neg c6]
  by_cases c7 : s = 60
  · rw [if_pos c7, if_pos c7]; rfl
  rw [if_neg c7, if_neg c7]
  by_cases c8 : s = 61
  · rw [if_pos c8, if_pos c8]; rfl
  rw [if_neg c8, if_neg c8]
  by_cases c9 : s = 62
  · rw [if_pos c9, if_pos c9]; rfl
  rw [if_neg c9, if_neg c9]
  by_cases c10 : s = 124
  · rw [if_pos c10, if_pos c10]; rfl
  rw [if_neg c10, if_neg c10]
  by_cases c11 : s = 126
  · rw [if_pos c11, if_pos c11]; rfl
  rw [if_neg c11, if_neg c11]
  rfl
def addT (S : St) (n : Nat) (x : Int32) : St := fset (aset S 34 (upd (S.2.1 34) n x)) 4 1 (nI (n + 1))
theorem addT_eq {S : St} {n : Nat} (h : S.1 4 1 = nI n) (hn : n < 121) (x : Int32) : F_X6_addStep x S = some (addT S n x) := by
  unfold F_X6_addStep
  rw [if_neg (by rw [h]; exact nI_ge (b := 121) hn (by decide)), gd_t (by rw [h]; exact inb_nI hn (by decide))]
  show some (fset (aset S 34 (upd (S.2.1 34) (Int32.toNatClampNeg (S.1 4 1)) x)) 4 1 (S.1 4 1 + 1)) = _
  rw [h, nI_clamp (by omega), nI_1]
  rfl
def addW (S : St) (n : Nat) (x : Int32) : St := fset (aset S 35 (upd (S.2.1 35) n x)) 4 3 (nI (n + 1))
theorem addW_eq {S : St} {n : Nat} (h : S.1 4 3 = nI n) (hn : n < 120) (x : Int32) : F_X6_addWaiting x S = some (addW S n x) := by
  unfold F_X6_addWaiting
  rw [if_neg (by rw [h]; exact nI_ge (b := 120) hn (by decide)), gd_t (by rw [h]; exact inb_nI hn (by decide))]
  show some (fset (aset S 35 (upd (S.2.1 35) (Int32.toNatClampNeg (S.1 4 3)) x)) 4 3 (S.1 4 3 + 1)) = _
  rw [h, nI_clamp (by omega), nI_1]
  rfl
theorem CR.addT {S : St} {w : List Nat} {m : List Int32} {o br dg : Nat} {wt ak : Bool} (h : CR S (w, m, o, br, dg, wt, ak)) (x : Int32) : CR (addT S m.length x) (w, x :: m, o, br, dg, wt, ak) := ⟨⟨rfl, pk_us, h.1.2.upd (Nat.le_refl _)⟩, h.2⟩
theorem CR.addW {S : St} {w : List Nat} {m : List Int32} {o br dg : Nat} {wt ak : Bool} (h : CR S (w, m, o, br, dg, wt, ak)) {s : Nat} (hs : s < 256) : CR (addW S w.length (nI s)) (s :: w, m, o, br, dg, wt, ak) := by
  refine ⟨h.1, ⟨rfl, ⟨by rw [List.length_map]; exact pk_us, h.2.1.2.1.upd (by rw [List.length_map]; exact Nat.le_refl _)⟩, fun z hz => ?_⟩, h.2.2⟩
  rcases List.mem_cons.mp hz with e | e
  · rw [e]; exact hs
  · exact h.2.1.2.2 z e
theorem addT_ag (S : St) (n : Nat) (x : Int32) : AgR S (addT S n x) := AgO.fset (AgO.aset AgO.rfl _ (by decide)) _ (by decide)
theorem addW_ag (S : St) (n : Nat) (x : Int32) : AgR S (addW S n x) := AgO.fset (AgO.aset AgO.rfl _ (by decide)) _ (by decide)
theorem sgS_le (s : Nat) : sgS s ≤ 6 := by
  unfold sgS
  repeat' split
  all_goals omega
theorem stl_len (k : Nat) : ∀ (w : List Nat) (m : List Int32) (o : Nat), (stl k w m o).1.length + (stl k w m o).2.1.length = w.length + m.length ∧ (stl k w m o).2.2 ≤ o
  | [], m, o => ⟨rfl, Nat.le_refl _⟩
  | s :: w, m, o => by
    unfold stl
    by_cases c : sgS s < k
    · rw [if_pos c]; exact ⟨rfl, Nat.le_refl _⟩
    · rw [if_neg c]
      obtain ⟨h1, h2⟩ := stl_len k w ((- nI s) :: m) (if sgS s = 6 then o - 1 else o)
      rw [List.length_cons] at h1 ⊢
      refine ⟨by omega, ?_⟩
      have : (if sgS s = 6 then o - 1 else o) ≤ o := by split <;> omega
      omega
/-- settle -/
theorem settle_eq {br dg : Nat} {wt ak : Bool} {k : Nat} (hk : k ≤ 6) : ∀ (w : List Nat) (m : List Int32) (o n : Nat) (S : St), CR S (w, m, o, br, dg, wt, ak) → w.length + m.length ≤ 121 → w.length ≤ 120 → o ≤ 1000 → (∀ z, (w.filter (fun s => decide (sgS s = 6))).length ≤ z → z ≤ o → True) → (w.filter (fun s => decide (sgS s = 6))).length ≤ o → w.length < n → ∃ S', F_X6_settle_0 n (nI k) S = some S' ∧ AgR S S' ∧ CR S' ((stl k w m o).1, (stl k w m o).2.1, (stl k w m o).2.2, br, dg, wt, ak)
  | w, m, o, 0, S, _, _, _, _, _, _, hn => absurd hn (Nat.not_lt_zero _)
  | [], m, o, n + 1, S, h, _, _, _, _, _, _ => by
    refine ⟨S, ?_, AgO.rfl, h⟩
    show (if (S.1 4 3) ≤ 0 then (some S) else _) = _
    rw [if_pos (by rw [h.2.1.1]; exact Int32.le_refl _)]
  | s :: w, m, o, n + 1, S, h, hl, hw, ho, hz, hu, hn => by
    have hs : s < 256 := h.2.1.2.2 s (List.mem_cons_self ..)
    have h43 : S.1 4 3 = nI (w.length + 1) := h.2.1.1
    have h35 : S.2.1 35 w.length = nI s := by
      have := h.2.1.2.1.1
      rw [List.length_map] at this
      exact this
    have hw' : w.length + 1 ≤ 120 := hw
    have hl' : w.length + 1 + m.length ≤ 121 := hl
    have sg := sgS_le s
    have stp : F_X6_settle_0 (n + 1) (nI k) S = (if nI (sgS s) < nI k then (some S) else ((F_X6_addStep (-(nI s)) (fset S 4 3 (nI w.length))).bind (fun r_46 => gd (inb (r_46.1 4 3) 120) ((F_X6_strengthOf (r_46.2.1 35 (Int32.toNatClampNeg (r_46.1 4 3))) r_46).bind (fun r_58 => if r_58.1 = 6 then (F_X6_settle_0 n (nI k) (fset r_58.2 4 4 ((r_58.2.1 4 4) - 1))) else (F_X6_settle_0 n (nI k) r_58.2)))))) := by
      show (if (S.1 4 3) ≤ 0 then _ else (gd (inb ((S.1 4 3) - 1) 120) ((F_X6_strengthOf (S.2.1 35 (Int32.toNatClampNeg ((S.1 4 3) - 1))) S).bind (fun r_18 => if r_18.1 < nI k then (some r_18.2) else (gd (inb ((fset r_18.2 4 3 ((r_18.2.1 4 3) - 1)).1 4 3) 120) ((F_X6_addStep (-(r_18.2.2.1 35 (Int32.toNatClampNeg ((fset r_18.2 4 3 ((r_18.2.1 4 3) - 1)).1 4 3)))) (fset r_18.2 4 3 ((r_18.2.1 4 3) - 1))).bind (fun r_46 => gd (inb (r_46.1 4 3) 120) ((F_X6_strengthOf (r_46.2.1 35 (Int32.toNatClampNeg (r_46.1 4 3))) r_46).bind (fun r_58 => if r_58.1 = 6 then (F_X6_settle_0 n (nI k) (fset r_58.2 4 4 ((r_58.2.1 4 4) - 1))) else (F_X6_settle_0 n (nI k) r_58.2)))))))))) = _
      rw [if_neg (by rw [h43]; exact nI_ge (a := 0) (by omega) (by omega)), h43, nI_pred, gd_t (inb_nI (by omega) (by decide)), nI_clamp (by omega), h35, str_eq hs, Option.bind_some]
      show (if nI (sgS s) < nI k then (some S) else (gd (inb ((fset S 4 3 ((S.1 4 3) - 1)).1 4 3) 120) ((F_X6_addStep (-(S.2.1 35 (Int32.toNatClampNeg ((fset S 4 3 ((S.1 4 3) - 1)).1 4 3)))) (fset S 4 3 ((S.1 4 3) - 1))).bind _))) = _
      rw [fset_get, h43, nI_pred, gd_t (inb_nI (by omega) (by decide)), nI_clamp (by omega), h35]
    rw [stp]
    unfold stl
    by_cases c : sgS s < k
    · rw [if_pos c, if_pos (nI_lt c (by omega))]
      exact ⟨S, rfl, AgO.rfl, h⟩
    · rw [if_neg c, if_neg (nI_nlt (by omega) (by omega))]
      let S1 : St := fset S 4 3 (nI w.length)
      have a1 : AgR S S1 := AgO.fset AgO.rfl _ (by decide)
      have h1 : CR S1 (w, m, o, br, dg, wt, ak) := ⟨h.1, ⟨rfl, h.2.1.2.1.2, fun z q => h.2.1.2.2 z (List.mem_cons_of_mem _ q)⟩, h.2.2⟩
      have hadd := addT_eq (S := S1) h1.1.1 (show m.length < 121 by omega) (-(nI s))
      have h2 := h1.addT (-(nI s))
      have e43 : (addT S1 m.length (-(nI s))).1 4 3 = nI w.length := rfl
      have e35 : (addT S1 m.length (-(nI s))).2.1 35 w.length = nI s := h35
      rw [hadd, Option.bind_some, e43, gd_t (inb_nI (by omega) (by decide)), nI_clamp (by omega), e35, str_eq hs, Option.bind_some]
      by_cases d : sgS s = 6
      · have hf : ((s :: w).filter (fun s => decide (sgS s = 6))).length = (w.filter (fun s => decide (sgS s = 6))).length + 1 := by
          rw [List.filter_cons_of_pos (by simp [d])]; rfl
        rw [hf] at hu
        have e44 : (addT S1 m.length (-(nI s))).1 4 4 = nI o := h.2.2.1
        rw [if_pos (show nI (sgS s) = 6 by rw [d]; rfl), if_pos d]
        show ∃ S', F_X6_settle_0 n (nI k) (fset (addT S1 m.length (-(nI s))) 4 4 ((addT S1 m.length (-(nI s))).1 4 4 - 1)) = some S' ∧ _
        rw [e44, pred_nI (by omega)]
        obtain ⟨S', u1, u2, u3⟩ := settle_eq (br := br) (dg := dg) (wt := wt) (ak := ak) hk w ((- nI s) :: m) (o - 1) n (fset (addT S1 m.length (-(nI s))) 4 4 (nI (o - 1))) ⟨h2.1, h2.2.1, rfl, h2.2.2.2⟩ (by rw [List.length_cons]; omega) (by omega) (by omega) (fun _ _ _ => trivial) (by omega) (by have : w.length + 1 < n + 1 := hn; omega)
        exact ⟨S', u1, (a1.trans (addT_ag S1 _ _)).trans (AgO.trans (AgO.fset AgO.rfl _ (by decide)) u2), u3⟩
      · have hf : ((s :: w).filter (fun s => decide (sgS s = 6))).length = (w.filter (fun s => decide (sgS s = 6))).length := by
          rw [List.filter_cons_of_neg (by simp [d])]
        rw [hf] at hu
        rw [if_neg (show ¬ nI (sgS s) = 6 from fun z => d (nI_inj (b := 6) (by omega) (by decide) z)), if_neg d]
        obtain ⟨S', u1, u2, u3⟩ := settle_eq (br := br) (dg := dg) (wt := wt) (ak := ak) hk w ((- nI s) :: m) o n (addT S1 m.length (-(nI s))) h2 (by rw [List.length_cons]; omega) (by omega) ho (fun _ _ _ => trivial) hu (by have : w.length + 1 < n + 1 := hn; omega)
        exact ⟨S', u1, (a1.trans (addT_ag S1 _ _)).trans u2, u3⟩
