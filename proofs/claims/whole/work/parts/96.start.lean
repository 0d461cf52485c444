def R_law : String := "WhoPromptsLaw"
def lw_P (b : Addr) (xs : List Int32) (args : Array Value) (s : State) : Prop := args = #[.ref b] ∧ s.IntsAt b xs ∧ xs.length ≤ 384 ∧ (Jvm.Cond.and given_1 narrow_1).before args s = true
def lw_Q (_ : Array Value) (s : State) (o : Outcome) (t : State) : Prop := o = .returned (some (.int 1)) ∧ Framed s o t [] 600000 7302250
def lw_Z (below : List Frame) (a : Array Value) (s : State) : State → Prop := fun t => ∃ o, t.status = .running ∧ Ended t below o ∧ lw_Q a s o t
/-- the law's own end, with 1 on the stack, nothing written that was there before, its room as the claim has it -/
theorem lw_ret {p : Program} {l : Launch} {e : Env} {s : State} {m : MethodId} {below : List Frame} {meth : Method} {c : Code} {b : Nat} (hx : p.tables.exec = Jvm.exec) (hb : c.code = code) (hr : meth.sig.returnType = ret) (hlocks : meth.locks = false) {pc : Nat} {H : Heap} {ls : Array Slot} (hdg : decode code pc = .ok (.ireturn, 1)) : W p l e room_1 s m #[Value.ref b] below meth c H [] 600000 7302250 (lw_Z below #[Value.ref b] s) (F0 m pc ls [.int 1]) := by
  intro T hT X
  obtain ⟨fs, hret, hrun, hended, hW, hframe⟩ := X.leave (v := some (.int 1)) (hlocks := hlocks) (fun h => by rw [hr] at h; cases h)
  have hmeth' : T.vm.method? m = some meth := X.method'
  refine ⟨T.setFrames fs, ?_, .returned (some (.int 1)), hrun, hended, rfl, ⟨_, rfl⟩, hW, hframe⟩
  jvm_step X.here [X.here.top, hx, hb, hdg, hmeth', hr, ret, narrow_b1]
  (try refine ⟨rfl, ?_⟩); (try refine ⟨rfl, ?_⟩)
  first | (intro acts; rw [hret _ acts rfl rfl rfl]) | rw [hret _ _ rfl rfl rfl]
  exact Steps.refl _
/-- what holds at the law's entry: the machine, the code, the tables' words (any of lw_tbl by 'hts w (by decide +kernel)'), the script of L ints xs at the cell b, what the Statement gives of the start (any of its parts by flat_of_before) -/
def lw_At (p : Program) (s : State) (m : MethodId) (meth : Method) (c : Code) (b L : Nat) (xs : Nat → Int32) : Prop :=
  p.tables.exec = Jvm.exec ∧ c.code = code ∧ meth.sig.returnType = ret ∧ c.maxLocals = 4 ∧ s.vm.findClass R_law = some m.cls ∧ (∀ w ∈ lw_tbl, w.before #[Value.ref b] s = true) ∧ va_X b L xs s s.heap ∧ b < s.heap.size ∧ meth.locks = false ∧ (Jvm.Cond.and given_1 narrow_1).before #[Value.ref b] s = true
def adL (base tA tO b : Nat) (k : Nat) : Nat := if k < 104 then base + perm k else if k = 501 then tA else if k = 502 then tO else b
def g1x (D : va_G) (ids : Nat → ClassId) (base : Nat) : GX := (D, (fun k => base + k), ids, base)
def g2x (D : va_G) (ids : Nat → ClassId) (base tA tO b : Nat) : GX := (D, adL base tA tO b, ids, base)
def chk (k : Nat) : Bool := match shp k, cs_38.getD (perm k) (.inr (9, 0, [], [])) with
  | .inl o, .inl p => decide (o.1 = p.1) && (decide (o.2.length = p.2.length) && (List.range o.2.length).all (fun j => match o.2[j]?, p.2[j]? with
    | some (some q), some (.ref a) => decide (q < 104) && decide (a = perm q)
    | some none, some (.int v) => decide (v = S0.1 k j)
    | _, _ => false))
  | .inr a, .inr b => decide (a.1 = b.1) && (decide (a.2 = b.2.1) && (decide (b.2.2.1 = ini k) && decide (a.1 ≤ 4)))
  | _, _ => false
theorem chk_all : ∀ k, k < 104 → k ≠ 13 → chk k = true := by decide +kernel
theorem adL_lt {base tA tO b q : Nat} (h : q < 104) : adL base tA tO b q = base + perm q := by unfold adL; rw [if_pos h]
theorem same_all (D : va_G) (ids : Nat → ClassId) (base tA tO b : Nat) (k : Nat) (hk : k < 104) (h13 : k ≠ 13) : cellE (g2x D ids base tA tO b) S0 k = concB (g1x D ids base) (cs_38.getD (perm k) (.inr (9, 0, [], []))) := by
  have h := chk_all k hk h13
  unfold chk at h
  unfold cellE
  generalize cs_38.getD (perm k) (.inr (9, 0, [], [])) = c at h ⊢
  cases hs : shp k with
  | inl o =>
    rw [hs] at h
    cases c with
    | inr b => cases h
    | inl p =>
      simp only [Bool.and_eq_true, decide_eq_true_eq, List.all_eq_true, List.mem_range] at h
      obtain ⟨h1, h2, h3⟩ := h
      show Sum.inr (o.1, o.2.mapIdx (fun j r => fvl (g2x D ids base tA tO b) S0 k j r)) = Sum.inr (p.1, p.2.map (tr (g1x D ids base)))
      rw [h1]
      congr 2
      apply List.ext_getElem?
      intro j
      rw [List.getElem?_mapIdx, List.getElem?_map]
      by_cases hj : j < o.2.length
      · have h4 := h3 j hj
        rw [List.getElem?_eq_getElem hj, List.getElem?_eq_getElem (show j < p.2.length by omega)] at h4 ⊢
        generalize o.2[j] = r at h4 ⊢
        generalize p.2[j] = v at h4 ⊢
        cases r with
        | none =>
          cases v <;> first | (simp at h4; done) | skip
          simp only [decide_eq_true_eq] at h4
          subst h4
          rfl
        | some q =>
          cases v <;> first | (simp at h4; done) | skip
          simp only [Bool.and_eq_true, decide_eq_true_eq] at h4
          obtain ⟨h5, h6⟩ := h4
          subst h6
          show some (Value.ref (adL base tA tO b q)) = some (Value.ref (base + perm q))
          rw [adL_lt h5]
      · rw [List.getElem?_eq_none (by omega), List.getElem?_eq_none (by omega)]
        rfl
  | inr a =>
    rw [hs] at h
    cases c with
    | inl p => cases h
    | inr b =>
      simp only [Bool.and_eq_true, decide_eq_true_eq] at h
      obtain ⟨h1, h2, h3, h4⟩ := h
      obtain ⟨b1, b2, b3, b4⟩ := b
      obtain ⟨a1, a2⟩ := a
      simp only at h1 h2 h3 h4
      subst h1; subst h2; subst h3
      show (if a1 = 4 then _ else if a1 = 5 then _ else _) = (if a1 = 4 then _ else if a1 = 5 then _ else _)
      by_cases h5 : a1 = 4
      · rw [if_pos h5, if_pos h5]
        rfl
      · rw [if_neg h5, if_neg h5, if_neg (by omega), if_neg (by omega)]
        rfl
theorem perm_lt : ∀ k, k < 104 → perm k < 104 := by decide +kernel
theorem perm_inj : ∀ i, i < 104 → ∀ j, j < 104 → perm i = perm j → i = j := by decide +kernel
theorem nest_in : ∀ q ∈ nestL, Cond.methodLinkNest q.1 q.2.1 q.2.2 "WhoPrompts" ∈ lw_tbl := by decide +kernel
theorem nest_part : Cond.methodLinkNest RX8 59 yX11_isPart "WhoPrompts" ∈ lw_tbl := by decide +kernel
theorem over_in : Cond.arrayOver (.object "WhoPrompts$Shelf") ∈ lw_tbl := by decide +kernel
theorem lays_A : Cond.laysStatic "WhoPrompts$Bodies" "ABOVE" "[I" ∈ lw_tbl := by decide +kernel
theorem lays_O : Cond.laysStatic "WhoPrompts$Bodies" "OWN" "[I" ∈ lw_tbl := by decide +kernel
theorem arr13 (c : ClassId) (f f' : Nat → Option Nat) (h : ∀ i, i < 6 → f i = f' i) : vp_cell c (6, .inr (.inr (.inr (.inr f)))) = vp_cell c (6, .inr (.inr (.inr (.inr f')))) := by
  rw [vp_cell_q, vp_cell_q]
  unfold arrV
  congr 1
  apply Array.ext
  · simp
  · intro i h1 h2
    simp at h1
    simp [h i h1]
theorem world_of {D : va_G} {ids : Nat → ClassId} {base tA tO b : Nat} {H : Heap} (h : va_P D vwCl (WB (g1x D ids base) cs_38) H) : va_P D vwCl (Wd (g2x D ids base tA tO b) S0) H := by
  intro k q hq
  have hl : k < shN := by
    have := (List.getElem?_eq_some_iff.mp hq).1
    rwa [Wd_len] at this
  rw [Wd_at hl] at hq
  cases hq
  have hk : k < 104 := hl
  have hp := perm_lt k hk
  have hc : cs_38[perm k]? = some (cs_38.getD (perm k) (.inr (9, 0, [], []))) := by
    rw [List.getD_eq_getElem?_getD, List.getElem?_eq_getElem (show perm k < cs_38.length from hp)]
    rfl
  have := h (perm k) _ (WB_at hc)
  have had : g_ad (g2x D ids base tA tO b) k = g_ad (g1x D ids base) (perm k) := by
    show adL base tA tO b k = base + perm k
    unfold adL
    rw [if_pos hk]
  by_cases h13 : k = 13
  · subst h13
    show H[g_ad (g2x D ids base tA tO b) 13]? = some (vp_cell _ _)
    have h2 : H[g_ad (g1x D ids base) (perm 13)]? = some (vp_cell (ids 5) (6, .inr (.inr (.inr (.inr (fun i => (([some 51, some 53, some 55, some 57, some 59, some 61] : List (Option Nat)).getD i none).map (fun k => base + k))))))) := this
    rw [had, h2]
    exact congrArg some (arr13 (ids 5) _ _ (by
      intro i hi
      rcases (show i = 0 ∨ i = 1 ∨ i = 2 ∨ i = 3 ∨ i = 4 ∨ i = 5 by omega) with rfl | rfl | rfl | rfl | rfl | rfl <;> rfl))
  · rw [same_all D ids base tA tO b k hk h13, had]
    exact this
theorem apart_of {D : va_G} {ids : Nat → ClassId} {base tA tO b : Nat} : va_D (gA (g2x D ids base tA tO b)) (Wd (g2x D ids base tA tO b) S0) := by
  have key : ∀ (i : Nat) (p : Nat × va_E), (Wd (g2x D ids base tA tO b) S0)[i]? = some p → i < 104 ∧ p.1 = base + perm i := by
    intro i p hp
    have hl : i < shN := by
      have := (List.getElem?_eq_some_iff.mp hp).1
      rwa [Wd_len] at this
    rw [Wd_at hl] at hp
    cases hp
    refine ⟨hl, ?_⟩
    show adL base tA tO b i = base + perm i
    unfold adL
    rw [if_pos (show i < 104 from hl)]
  refine ⟨fun i j p q hi hj e => ?_, fun i p hp => ?_⟩
  · obtain ⟨a1, a2⟩ := key i p hi
    obtain ⟨b1, b2⟩ := key j q hj
    exact perm_inj i a1 j b1 (by omega)
  · obtain ⟨a1, a2⟩ := key i p hp
    show base ≤ p.1
    omega
set_option maxHeartbeats 4000000 in
set_option maxRecDepth 100000 in
theorem tab_ABOVE {s : State} {args : Array Value} {A : Nat → Prop} (hgv : (Jvm.Cond.and given_1 narrow_1).before args s = true) (hA : ∀ a : Nat, a < s.heap.size → ¬ A a) : ∃ t : Nat, (Term.static "WhoPrompts$Bodies" "ABOVE" "[I").eval args s none [] s = some (.ref t) ∧ va_T .int t 8 (fun j => .int (aboveT j)) A s s.heap := by
  have hs := flat_of_before _ hgv
  refine va_Tof (by decide) (hs _ (by decide +kernel : Cond.arrayOf (.static "WhoPrompts$Bodies" "ABOVE" "[I") .int ∈ _)) (va_eqt (hs _ (by decide +kernel : Cond.eq (.length (.static "WhoPrompts$Bodies" "ABOVE" "[I")) (.int 8) ∈ _))) (fun j hj => ?_) hA
  · rcases (show j = 0 ∨ j = 1 ∨ j = 2 ∨ j = 3 ∨ j = 4 ∨ j = 5 ∨ j = 6 ∨ j = 7 by omega) with rfl | rfl | rfl | rfl | rfl | rfl | rfl | rfl
    · exact va_eqt (hs _ (by decide +kernel : Cond.eq (.elem (.static "WhoPrompts$Bodies" "ABOVE" "[I") (.int 0)) (.int (-1)) ∈ _))
    · exact va_eqt (hs _ (by decide +kernel : Cond.eq (.elem (.static "WhoPrompts$Bodies" "ABOVE" "[I") (.int 1)) (.int (0)) ∈ _))
    · exact va_eqt (hs _ (by decide +kernel : Cond.eq (.elem (.static "WhoPrompts$Bodies" "ABOVE" "[I") (.int 2)) (.int (0)) ∈ _))
    · exact va_eqt (hs _ (by decide +kernel : Cond.eq (.elem (.static "WhoPrompts$Bodies" "ABOVE" "[I") (.int 3)) (.int (2)) ∈ _))
    · exact va_eqt (hs _ (by decide +kernel : Cond.eq (.elem (.static "WhoPrompts$Bodies" "ABOVE" "[I") (.int 4)) (.int (1)) ∈ _))
    · exact va_eqt (hs _ (by decide +kernel : Cond.eq (.elem (.static "WhoPrompts$Bodies" "ABOVE" "[I") (.int 5)) (.int (3)) ∈ _))
    · exact va_eqt (hs _ (by decide +kernel : Cond.eq (.elem (.static "WhoPrompts$Bodies" "ABOVE" "[I") (.int 6)) (.int (0)) ∈ _))
    · exact va_eqt (hs _ (by decide +kernel : Cond.eq (.elem (.static "WhoPrompts$Bodies" "ABOVE" "[I") (.int 7)) (.int (6)) ∈ _))
set_option maxHeartbeats 4000000 in
set_option maxRecDepth 100000 in
theorem tab_OWN {s : State} {args : Array Value} {A : Nat → Prop} (hgv : (Jvm.Cond.and given_1 narrow_1).before args s = true) (hA : ∀ a : Nat, a < s.heap.size → ¬ A a) : ∃ t : Nat, (Term.static "WhoPrompts$Bodies" "OWN" "[I").eval args s none [] s = some (.ref t) ∧ va_T .int t 32 (fun j => .int (ownT j)) A s s.heap := by
  have hs := flat_of_before _ hgv
  refine va_Tof (by decide) (hs _ (by decide +kernel : Cond.arrayOf (.static "WhoPrompts$Bodies" "OWN" "[I") .int ∈ _)) (va_eqt (hs _ (by decide +kernel : Cond.eq (.length (.static "WhoPrompts$Bodies" "OWN" "[I")) (.int 32) ∈ _))) (fun j hj => ?_) hA
  · rcases (show j = 0 ∨ j = 1 ∨ j = 2 ∨ j = 3 ∨ j = 4 ∨ j = 5 ∨ j = 6 ∨ j = 7 ∨ j = 8 ∨ j = 9 ∨ j = 10 ∨ j = 11 ∨ j = 12 ∨ j = 13 ∨ j = 14 ∨ j = 15 ∨ j = 16 ∨ j = 17 ∨ j = 18 ∨ j = 19 ∨ j = 20 ∨ j = 21 ∨ j = 22 ∨ j = 23 ∨ j = 24 ∨ j = 25 ∨ j = 26 ∨ j = 27 ∨ j = 28 ∨ j = 29 ∨ j = 30 ∨ j = 31 by omega) with rfl | rfl | rfl | rfl | rfl | rfl | rfl | rfl | rfl | rfl | rfl | rfl | rfl | rfl | rfl | rfl | rfl | rfl | rfl | rfl | rfl | rfl | rfl | rfl | rfl | rfl | rfl | rfl | rfl | rfl | rfl | rfl
    · exact va_eqt (hs _ (by decide +kernel : Cond.eq (.elem (.static "WhoPrompts$Bodies" "OWN" "[I") (.int 0)) (.int (1)) ∈ _))
    · exact va_eqt (hs _ (by decide +kernel : Cond.eq (.elem (.static "WhoPrompts$Bodies" "OWN" "[I") (.int 1)) (.int (10)) ∈ _))
    · exact va_eqt (hs _ (by decide +kernel : Cond.eq (.elem (.static "WhoPrompts$Bodies" "OWN" "[I") (.int 2)) (.int (11)) ∈ _))
    · exact va_eqt (hs _ (by decide +kernel : Cond.eq (.elem (.static "WhoPrompts$Bodies" "OWN" "[I") (.int 3)) (.int (2)) ∈ _))
    · exact va_eqt (hs _ (by decide +kernel : Cond.eq (.elem (.static "WhoPrompts$Bodies" "OWN" "[I") (.int 4)) (.int (20)) ∈ _))
    · exact va_eqt (hs _ (by decide +kernel : Cond.eq (.elem (.static "WhoPrompts$Bodies" "OWN" "[I") (.int 5)) (.int (0)) ∈ _))
    · exact va_eqt (hs _ (by decide +kernel : Cond.eq (.elem (.static "WhoPrompts$Bodies" "OWN" "[I") (.int 6)) (.int (0)) ∈ _))
    · exact va_eqt (hs _ (by decide +kernel : Cond.eq (.elem (.static "WhoPrompts$Bodies" "OWN" "[I") (.int 7)) (.int (0)) ∈ _))
    · exact va_eqt (hs _ (by decide +kernel : Cond.eq (.elem (.static "WhoPrompts$Bodies" "OWN" "[I") (.int 8)) (.int (0)) ∈ _))
    · exact va_eqt (hs _ (by decide +kernel : Cond.eq (.elem (.static "WhoPrompts$Bodies" "OWN" "[I") (.int 9)) (.int (30)) ∈ _))
    · exact va_eqt (hs _ (by decide +kernel : Cond.eq (.elem (.static "WhoPrompts$Bodies" "OWN" "[I") (.int 10)) (.int (0)) ∈ _))
    · exact va_eqt (hs _ (by decide +kernel : Cond.eq (.elem (.static "WhoPrompts$Bodies" "OWN" "[I") (.int 11)) (.int (0)) ∈ _))
    · exact va_eqt (hs _ (by decide +kernel : Cond.eq (.elem (.static "WhoPrompts$Bodies" "OWN" "[I") (.int 12)) (.int (0)) ∈ _))
    · exact va_eqt (hs _ (by decide +kernel : Cond.eq (.elem (.static "WhoPrompts$Bodies" "OWN" "[I") (.int 13)) (.int (41)) ∈ _))
    · exact va_eqt (hs _ (by decide +kernel : Cond.eq (.elem (.static "WhoPrompts$Bodies" "OWN" "[I") (.int 14)) (.int (40)) ∈ _))
    · exact va_eqt (hs _ (by decide +kernel : Cond.eq (.elem (.static "WhoPrompts$Bodies" "OWN" "[I") (.int 15)) (.int (0)) ∈ _))
    · exact va_eqt (hs _ (by decide +kernel : Cond.eq (.elem (.static "WhoPrompts$Bodies" "OWN" "[I") (.int 16)) (.int (0)) ∈ _))
    · exact va_eqt (hs _ (by decide +kernel : Cond.eq (.elem (.static "WhoPrompts$Bodies" "OWN" "[I") (.int 17)) (.int (0)) ∈ _))
    · exact va_eqt (hs _ (by decide +kernel : Cond.eq (.elem (.static "WhoPrompts$Bodies" "OWN" "[I") (.int 18)) (.int (0)) ∈ _))
    · exact va_eqt (hs _ (by decide +kernel : Cond.eq (.elem (.static "WhoPrompts$Bodies" "OWN" "[I") (.int 19)) (.int (50)) ∈ _))
    · exact va_eqt (hs _ (by decide +kernel : Cond.eq (.elem (.static "WhoPrompts$Bodies" "OWN" "[I") (.int 20)) (.int (0)) ∈ _))
    · exact va_eqt (hs _ (by decide +kernel : Cond.eq (.elem (.static "WhoPrompts$Bodies" "OWN" "[I") (.int 21)) (.int (0)) ∈ _))
    · exact va_eqt (hs _ (by decide +kernel : Cond.eq (.elem (.static "WhoPrompts$Bodies" "OWN" "[I") (.int 22)) (.int (60)) ∈ _))
    · exact va_eqt (hs _ (by decide +kernel : Cond.eq (.elem (.static "WhoPrompts$Bodies" "OWN" "[I") (.int 23)) (.int (61)) ∈ _))
    · exact va_eqt (hs _ (by decide +kernel : Cond.eq (.elem (.static "WhoPrompts$Bodies" "OWN" "[I") (.int 24)) (.int (70)) ∈ _))
    · exact va_eqt (hs _ (by decide +kernel : Cond.eq (.elem (.static "WhoPrompts$Bodies" "OWN" "[I") (.int 25)) (.int (0)) ∈ _))
    · exact va_eqt (hs _ (by decide +kernel : Cond.eq (.elem (.static "WhoPrompts$Bodies" "OWN" "[I") (.int 26)) (.int (0)) ∈ _))
    · exact va_eqt (hs _ (by decide +kernel : Cond.eq (.elem (.static "WhoPrompts$Bodies" "OWN" "[I") (.int 27)) (.int (0)) ∈ _))
    · exact va_eqt (hs _ (by decide +kernel : Cond.eq (.elem (.static "WhoPrompts$Bodies" "OWN" "[I") (.int 28)) (.int (81)) ∈ _))
    · exact va_eqt (hs _ (by decide +kernel : Cond.eq (.elem (.static "WhoPrompts$Bodies" "OWN" "[I") (.int 29)) (.int (80)) ∈ _))
    · exact va_eqt (hs _ (by decide +kernel : Cond.eq (.elem (.static "WhoPrompts$Bodies" "OWN" "[I") (.int 30)) (.int (0)) ∈ _))
    · exact va_eqt (hs _ (by decide +kernel : Cond.eq (.elem (.static "WhoPrompts$Bodies" "OWN" "[I") (.int 31)) (.int (0)) ∈ _))
