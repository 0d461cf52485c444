section
variable {tx : Nat → Nat} {len : Nat}
def PR (tx : Nat → Nat) (len : Nat) (S : St) (p op : Nat) (TS : List (Nat × Nat)) : Prop := PB tx len S p (-1) (nI op) TS.length ∧ TkR S TS ∧ p ≤ len ∧ TS.length ≤ p
def dgAt (tx : Nat → Nat) (len p : Nat) : Prop := p < len ∧ isDg (tx p) = true
def cmpAt (tx : Nat → Nat) (len p : Nat) : Prop := p < len ∧ sgS (tx p) = 3
def cnd (lv : Nat) (W : List Nat) : Prop := lv < 6 → sgS (W.headD 0) < lv
/-- what the machine does from p to p1, where the reference lays ts -/
def GoodP (tx : Nat → Nat) (len lv p op p1 : Nat) (ts : List (Nat × Nat)) : Prop := ∀ (W : List Nat) (O : List Int32) (ak : Bool), OkW W → uB W = op → cnd lv W → ∃ P m dg, (∀ s ∈ P, lv ≤ sgS s ∧ s < 256) ∧ crun tx len (len - p) (W, O, op, bB W, 0, true, ak) = crun tx len (len - p1) (P ++ W, m, uB (P ++ W), bB W, dg, false, ak) ∧ (P.reverse.map (fun s => - nI s)) ++ m = (ts.reverse.map tkC) ++ O ∧ (dg = 0 ∨ ¬ dgAt tx len p1) ∧ (lv ≤ 3 → cmpAt tx len p1 → sgS ((stl 4 (P ++ W) m (uB (P ++ W))).1.headD 0) = 3)
def BadP (tx : Nat → Nat) (len lv p op f : Nat) : Prop := ∀ (W : List Nat) (O : List Int32) (ak : Bool), OkW W → uB W = op → cnd lv W → crun tx len (len - p) (W, O, op, bB W, 0, true, ak) = .inl f
def NX (tx : Nat → Nat) (len lv p : Nat) : Prop := p < len → (lv ≤ 5 → sgS (tx p) ≠ 5) ∧ (lv ≤ 4 → sgS (tx p) ≠ 4) ∧ (lv ≤ 2 → sgS (tx p) ≠ 2) ∧ (lv ≤ 1 → sgS (tx p) ≠ 1)
def RES (tx : Nat → Nat) (len lv p op : Nat) (TS : List (Nat × Nat)) (S : St) (r : Option St) : Prop := ∃ S', r = some S' ∧ AgU S S' ∧
  ((∃ p1 ts, PR tx len S' p1 op (TS ++ ts) ∧ p < p1 ∧ ts.length ≤ p1 - p ∧ (∀ t ∈ ts, okT t) ∧ (∀ h, bal ts h = some (h + 1)) ∧ GoodP tx len lv p op p1 ts ∧ NX tx len lv p1) ∨
   (∃ f p1 la, PB tx len S' p1 (nI f) (S'.1 63 22) la ∧ p1 ≤ len ∧ f ≤ len ∧ la ≤ TS.length + (p1 - p) + 1 ∧ p ≤ p1 ∧ BadP tx len lv p op f))
theorem bal_app : ∀ (a b : List (Nat × Nat)) (h : Nat), bal (a ++ b) h = (bal a h).bind (bal b)
  | [], b, h => rfl
  | t :: a, b, h => by
    show (if t.1 ≤ 1 then bal (a ++ b) (h + 1) else if t.1 ≤ 3 then (if 1 ≤ h then bal (a ++ b) h else none) else (if 2 ≤ h then bal (a ++ b) (h - 1) else none)) = ((if t.1 ≤ 1 then bal a (h + 1) else if t.1 ≤ 3 then (if 1 ≤ h then bal a h else none) else (if 2 ≤ h then bal a (h - 1) else none)) : Option Nat).bind (bal b)
    by_cases c1 : t.1 ≤ 1
    · rw [if_pos c1, if_pos c1]; exact bal_app a b _
    · rw [if_neg c1, if_neg c1]
      by_cases c2 : t.1 ≤ 3
      · rw [if_pos c2, if_pos c2]
        by_cases c3 : 1 ≤ h
        · rw [if_pos c3, if_pos c3]; exact bal_app a b _
        · rw [if_neg c3, if_neg c3]; rfl
      · rw [if_neg c2, if_neg c2]
        by_cases c3 : 2 ≤ h
        · rw [if_pos c3, if_pos c3]; exact bal_app a b _
        · rw [if_neg c3, if_neg c3]; rfl
theorem bB_app : ∀ (P W : List Nat), (∀ s ∈ P, 1 ≤ sgS s) → bB (P ++ W) = bB W
  | [], W, _ => rfl
  | s :: P, W, h => by
    show bB (s :: (P ++ W)) = _
    have hs := h s (List.mem_cons_self ..)
    rw [bB_cons, if_neg (fun z => by rw [z, s40] at hs; omega), bB_app P W (fun z hz => h z (List.mem_cons_of_mem _ hz))]
    rfl
theorem crun_step {p : Nat} (hp : p < len) (σ : CSt) : crun tx len (len - p) σ = (match cstep (tx p) σ with | none => (Sum.inl p : Nat ⊕ List Int32) | some τ => crun tx len (len - (p + 1)) τ) := by
  have e : len - p = (len - (p + 1)) + 1 := by omega
  rw [e]
  show (match cstep (tx (len - (len - (p + 1) + 1))) σ with | none => (Sum.inl (len - (len - (p + 1) + 1)) : Nat ⊕ List Int32) | some τ => crun tx len (len - (p + 1)) τ) = _
  rw [show len - (len - (p + 1) + 1) = p by omega]
/-- a sign between two, behind what binds more strongly -/
theorem step_join {c k : Nat} {W P : List Nat} {m : List Int32} {dg : Nat} {ak : Bool} (hc : 1 ≤ sgS c) (hc6 : sgS c ≤ 5) (hk : k = if sgS c = 3 then 4 else sgS c) (hP : ∀ s ∈ P, k ≤ sgS s) (hW : sgS (W.headD 0) < sgS c) : cstep c (P ++ W, m, uB (P ++ W), bB W, dg, false, ak) = some (c :: W, (P.reverse.map (fun s => - nI s)) ++ m, uB W, bB W, 0, true, ak) := by
  have hk1 : 1 ≤ k := by rw [hk]; split <;> omega
  have hkc : sgS c ≤ k := by rw [hk]; split <;> omega
  have nd : ¬ isDg c = true := fun z => by
    have := of_decide_eq_true z
    have e : sgS c = 0 := by
      unfold sgS
      repeat rw [if_neg (by omega)]
    omega
  have n41 : ¬ c = 41 := fun z => by rw [z] at hc; exact absurd hc (by decide)
  have n63 : ¬ c = 63 := fun z => by rw [z] at hc; exact absurd hc (by decide)
  have n59 : ¬ c = 59 := fun z => by rw [z] at hc; exact absurd hc (by decide)
  unfold cstep
  rw [if_neg (show ¬ (P ++ W, m, uB (P ++ W), bB W, dg, false, ak).2.2.2.2.2.1 = true from fun z => by cases z), if_neg nd, if_neg n41, if_neg n63, if_neg n59]
  unfold cJoin
  rw [if_neg (by omega), ← hk]
  show (if sgS c = 3 ∧ sgS ((stl k (P ++ W) m (uB (P ++ W))).1.headD 0) = 3 then none else some (c :: (stl k (P ++ W) m (uB (P ++ W))).1, (stl k (P ++ W) m (uB (P ++ W))).2.1, (stl k (P ++ W) m (uB (P ++ W))).2.2, bB W, 0, true, ak)) = _
  rw [stl_all hk1 (by omega) hP]
  exact if_neg (fun z => by have h3 : sgS (W.headD 0) = 3 := z.2; have := z.1; omega)
theorem tk4 {c : Nat} : tkC (4, c) = - nI c := rfl
/-- two parts with a sign between them -/
theorem GoodP.join {lv p op p1 p2 c k k1 : Nat} {ts1 ts2 : List (Nat × Nat)} (hk1 : k1 = if lv = 3 then 4 else lv) (h1 : GoodP tx len k1 p op p1 ts1) (h2 : GoodP tx len k (p1 + 1) op p2 ts2) (hp1 : p1 < len) (hc : tx p1 = c) (hcv : sgS c = lv) (hlv : 1 ≤ lv) (hlv5 : lv ≤ 5) (hk : k = if lv = 3 then 4 else lv + 1) (hc256 : c < 256) (hcmp : lv ≤ 2 → k ≤ 3) : GoodP tx len lv p op p2 (ts1 ++ (ts2 ++ [(4, c)])) := by
  intro W O ak hW hu hcd
  have hk' : k = lv + 1 ∨ (lv = 3 ∧ k = 4) := by rw [hk]; split <;> omega
  have hlk : lv < k := by omega
  have hcd' : sgS (W.headD 0) < lv := hcd (by omega)
  have hlk1 : lv ≤ k1 ∧ (if sgS c = 3 then 4 else sgS c) = k1 := by rw [hk1, hcv]; exact ⟨by split <;> omega, rfl⟩
  obtain ⟨P, m, dg, a1, a2, a3, a4, a5⟩ := h1 W O ak hW hu (fun _ => by omega)
  have hcn : ¬ c = 40 := fun z => by rw [z, s40] at hcv; omega
  have hc6 : ¬ sgS c = 6 := by omega
  have huc : uB (c :: W) = op := by rw [uB_cons, if_neg (fun z => z.elim hcn hc6)]; omega
  have hbc : bB (c :: W) = bB W := by rw [bB_cons, if_neg hcn]; rfl
  have hWc : OkW (c :: W) := fun z hz => by
    rcases List.mem_cons.mp hz with e | e
    · rw [e]; exact ⟨hc256, Or.inr (by omega)⟩
    · exact hW z e
  obtain ⟨P2, m2, dg2, b1, b2, b3, b4, b5⟩ := h2 (c :: W) ((ts1.reverse.map tkC) ++ O) ak hWc huc (fun _ => by show sgS c < k; omega)
  have eapp : (P2 ++ [c]) ++ W = P2 ++ (c :: W) := by rw [List.append_assoc]; rfl
  refine ⟨P2 ++ [c], m2, dg2, fun s hs => ?_, ?_, ?_, b4, fun hl3 hcm => ?_⟩
  · rcases List.mem_append.mp hs with e | e
    · have := b1 s e; exact ⟨by omega, this.2⟩
    · rcases List.mem_cons.mp e with e | e
      · rw [e]; exact ⟨by omega, hc256⟩
      · cases e
  · rw [a2, crun_step hp1, hc, step_join (k := if sgS c = 3 then 4 else sgS c) (by omega) (by omega) rfl (fun s hs => by rw [hlk1.2]; exact (a1 s hs).1) (by omega), eapp, a3, hu]
    rw [hbc] at b2
    exact b2
  · rw [List.reverse_append, List.map_append, List.reverse_append, List.reverse_append, List.map_append, List.map_append, List.append_assoc, List.append_assoc]
    show (- nI c) :: ((P2.reverse.map (fun s => - nI s)) ++ m2) = (- nI c) :: ((ts2.reverse.map tkC) ++ ((ts1.reverse.map tkC) ++ O))
    rw [b3]
  · rw [eapp]
    by_cases z : lv = 3
    · have hk4 : k = 4 := by omega
      have e := stl_all (W := c :: W) (P := P2) (k := 4) (by decide) (show sgS c < 4 by omega) (fun s hs => by have := (b1 s hs).1; omega) m2
      rw [e]
      show sgS c = 3
      omega
    · exact b5 (by omega) hcm
theorem BadP.join {lv p op p1 f c k k1 : Nat} {ts1 : List (Nat × Nat)} (hk1 : k1 = if lv = 3 then 4 else lv) (h1 : GoodP tx len k1 p op p1 ts1) (h2 : BadP tx len k (p1 + 1) op f) (hp1 : p1 < len) (hc : tx p1 = c) (hcv : sgS c = lv) (hlv : 1 ≤ lv) (hlv5 : lv ≤ 5) (hk : k = if lv = 3 then 4 else lv + 1) (hc256 : c < 256) : BadP tx len lv p op f := by
  intro W O ak hW hu hcd
  have hlk : lv < k := by rw [hk]; split <;> omega
  have hcd' : sgS (W.headD 0) < lv := hcd (by omega)
  have hlk1 : lv ≤ k1 ∧ (if sgS c = 3 then 4 else sgS c) = k1 := by rw [hk1, hcv]; exact ⟨by split <;> omega, rfl⟩
  obtain ⟨P, m, dg, a1, a2, a3, a4, a5⟩ := h1 W O ak hW hu (fun _ => by omega)
  have hcn : ¬ c = 40 := fun z => by rw [z, s40] at hcv; omega
  have hc6 : ¬ sgS c = 6 := by omega
  have huc : uB (c :: W) = op := by rw [uB_cons, if_neg (fun z => z.elim hcn hc6)]; omega
  have hbc : bB (c :: W) = bB W := by rw [bB_cons, if_neg hcn]; rfl
  have hWc : OkW (c :: W) := fun z hz => by
    rcases List.mem_cons.mp hz with e | e
    · rw [e]; exact ⟨hc256, Or.inr (by omega)⟩
    · exact hW z e
  have b := h2 (c :: W) ((ts1.reverse.map tkC) ++ O) ak hWc huc (fun _ => by show sgS c < k; omega)
  rw [a2, crun_step hp1, hc, step_join (k := if sgS c = 3 then 4 else sgS c) (by omega) (by omega) rfl (fun s hs => by rw [hlk1.2]; exact (a1 s hs).1) (by omega), a3, hu]
  rw [hbc] at b
  exact b
/-- the weaker sign's view -/
theorem GoodP.weak {lv k p op p1 : Nat} {ts : List (Nat × Nat)} (h : GoodP tx len k p op p1 ts) (hl : lv ≤ k) (hl1 : lv < 6) (hc : lv ≤ 3 → cmpAt tx len p1 → k ≤ 3) : GoodP tx len lv p op p1 ts := by
  intro W O ak hW hu hcd
  have := hcd hl1
  obtain ⟨P, m, dg, a1, a2, a3, a4, a5⟩ := h W O ak hW hu (fun _ => by omega)
  exact ⟨P, m, dg, fun s hs => ⟨by have := (a1 s hs).1; omega, (a1 s hs).2⟩, a2, a3, a4, fun l1 l2 => a5 (hc l1 l2) l2⟩
theorem BadP.weak {lv k p op f : Nat} (h : BadP tx len k p op f) (hl : lv ≤ k) (hl1 : lv < 6) : BadP tx len lv p op f := fun W O ak hW hu hcd => h W O ak hW hu (fun _ => by have := hcd hl1; omega)
end
