def nestL : List (String × Nat × MethodName) := [("WhoPrompts", 9, (⟨"WhoPrompts$Play", "<init>", "()V"⟩ : MethodName)), ("WhoPrompts$Play", 51, (⟨"WhoPrompts$Law", "<init>", "()V"⟩ : MethodName)), ("WhoPrompts", 26, (⟨"WhoPrompts$LawReader", "<init>", "()V"⟩ : MethodName)), ("WhoPrompts", 33, (⟨"WhoPrompts$Night", "<init>", "()V"⟩ : MethodName)), ("WhoPrompts", 43, (⟨"WhoPrompts$WayBack", "<init>", "()V"⟩ : MethodName)), ("WhoPrompts", 50, (⟨"WhoPrompts$Evenings", "<init>", "()V"⟩ : MethodName)), ("WhoPrompts", 57, (⟨"WhoPrompts$Cutting", "<init>", "()V"⟩ : MethodName)), ("WhoPrompts", 64, (⟨"WhoPrompts$Image", "<init>", "()V"⟩ : MethodName)), ("WhoPrompts", 71, (⟨"WhoPrompts$Changes", "<init>", "()V"⟩ : MethodName)), ("WhoPrompts", 78, (⟨"WhoPrompts$Bodies", "<init>", "()V"⟩ : MethodName)), ("WhoPrompts", 89, (⟨"WhoPrompts$Shelf", "<init>", "()V"⟩ : MethodName)), ("WhoPrompts$Play", 59, (⟨"WhoPrompts", "isPart", "(I)Z"⟩ : MethodName))]
/-- a cell while the systems are made: an object's class and fields, or a row's kind, length and first elements -/
abbrev CB : Type := (Nat × List Value) ⊕ (Nat × Nat × List Int32 × List (Option Nat))
def concB (g : GX) (c : CB) : va_E := match c with
  | .inl o => .inr (o.1, o.2.map (tr g))
  | .inr a => if a.1 = 4 then .inl (g_id g 4, a.2.1, .inr (.inl (fun _ => 0))) else if a.1 = 5 then .inl (g_id g 5, a.2.1, .inr (.inr (.inr (.inr (fun i => (a.2.2.2.getD i none).map (g_ad g)))))) else .inl (g_id g a.1, a.2.1, .inl (fun i => a.2.2.1.getD i 0))
def WB (g : GX) (cs : List CB) : va_W := cs.mapIdx (fun k c => (g_ad g k, concB g c))
theorem WB_at {g : GX} {cs : List CB} {k : Nat} {c : CB} (h : cs[k]? = some c) : (WB g cs)[k]? = some (g_ad g k, concB g c) := by
  unfold WB
  rw [List.getElem?_mapIdx, h]
  rfl
theorem WB_len {g : GX} {cs : List CB} : (WB g cs).length = cs.length := by simp [WB]
theorem WB_set {g : GX} {cs : List CB} {k : Nat} {c : CB} : (WB g cs).set k (g_ad g k, concB g c) = WB g (cs.set k c) := by
  apply List.ext_getElem?
  intro j
  by_cases hl : k < cs.length
  · by_cases hj : j = k
    · subst hj
      rw [List.getElem?_set_self (by rw [WB_len]; exact hl), WB_at (List.getElem?_set_self hl)]
    · rw [List.getElem?_set_ne (fun h => hj h.symm)]
      unfold WB
      rw [List.getElem?_mapIdx, List.getElem?_mapIdx, List.getElem?_set_ne (fun h => hj h.symm)]
  · rw [List.set_eq_of_length_le (by rw [WB_len]; omega), List.set_eq_of_length_le (by omega)]
theorem WB_push {g : GX} {cs : List CB} {c : CB} : WB g (cs ++ [c]) = WB g cs ++ [(g_ad g cs.length, concB g c)] := by
  unfold WB
  rw [List.mapIdx_append]
  simp
theorem WB_D {g : GX} (ha : ∀ k, g_ad g k = g_base g + k) {cs : List CB} : va_D (gA g) (WB g cs) := by
  have key : ∀ (i : Nat) (p : Nat × va_E), (WB g cs)[i]? = some p → p.1 = g_base g + i := by
    intro i p hp
    unfold WB at hp
    rw [List.getElem?_mapIdx] at hp
    cases hc : cs[i]? with
    | none => rw [hc] at hp; cases hp
    | some c => rw [hc] at hp; cases hp; exact ha i
  refine ⟨fun i j p q hi hj e => ?_, fun i p hp => ?_⟩
  · have h1 := key i p hi
    have h2 := key j q hj
    omega
  · show g_base g ≤ p.1
    have := key i p hp
    omega
def NW (U : State) : Prop := ∀ q ∈ nestL, va_Nw (.methodLinkNest q.1 q.2.1 q.2.2 "WhoPrompts") U
def FxB (p : Program) (R : Room) (s : State) (m : MethodId) (args : Array Value) (meth : Method) (c : Code) (mi : MI) (d mc ms : Nat) (g : GX) : Prop :=
  p.tables.exec = Jvm.exec ∧ c.code = mi.2.2.1 ∧ c.maxLocals = mi.2.2.2.1 ∧ s.vm.findClass mi.1 = some m.cls ∧ (∀ w ∈ gTs, w.before args s = true) ∧ va_K (g_D g) vwCl (gtys g) s ∧ (NW s ∧ va_AO "WhoPrompts$Shelf" s ∧ meth.name = "<init>") ∧ (g_base g ≤ s.heap.size ∧ ∀ k, g_ad g k = g_base g + k) ∧ (d ≤ R.frames ∧ 40 * d ≤ R.locals) ∧ mc ≤ R.cells ∧ ms ≤ R.slots
def RetB (p : Program) (l : Launch) (e : Env) (R : Room) (s : State) (m : MethodId) (args : Array Value) (below : List Frame) (meth : Method) (c : Code) (mc ms : Nat) (Q : State → Prop) (mi : MI) (csF : List CB) (g : GX) : Prop :=
  ∀ (pc : Nat) (lsA : Array Slot) (H : Heap) (locs : List Loc), decode mi.2.2.1 pc = .ok (.return_, 1) → mi.2.2.2.2 = none → va_P (g_D g) vwCl (WB g csF) H → H.size = g_base g + csF.length → va_S (gA g) s.heap H locs → W p l e R s m args below meth c H locs mc ms Q (F0 m pc lsA [])
/-- while a constructor runs: cu cells of su slots are made, csF is what stands at its end -/
def GoB (l : Launch) (d : Nat) (mi : MI) (csF : List CB) (mc ms cu su : Nat) (pc : Nat) (ls : List (Nat × Value)) (st : List Value) (cs : List CB) : Prop :=
  ∀ (p : Program) (e : Env) (R : Room) (s : State) (m : MethodId) (args : Array Value) (below : List Frame) (meth : Method) (c : Code) (Q : State → Prop) (g : GX) (H : Heap) (locs : List Loc) (lsA : Array Slot),
    FxB p R s m args meth c mi d mc ms g → RetB p l e R s m args below meth c mc ms Q mi csF g → va_P (g_D g) vwCl (WB g cs) H → H.size = g_base g + cs.length → va_S (gA g) s.heap H locs → lv_has lsA mi.2.2.2.1 (trL g ls) →
    W p l e R s m args below meth c H locs cu su Q (F0 m pc lsA (st.map (tr g)))
theorem GoB.vret {l : Launch} {d : Nat} {mi : MI} {csF : List CB} {mc ms cu su : Nat} {pc : Nat} {ls : List (Nat × Value)} {cs : List CB} (hd : decode mi.2.2.1 pc = .ok (.return_, 1)) (hr : mi.2.2.2.2 = none) (hc : cu ≤ mc) (hs : su ≤ ms) (he : cs = csF) : GoB l d mi csF mc ms cu su pc ls [] cs := by
  intro p e R s m args below meth c Q g H locs lsA F hR hP hz hS hl
  subst he
  exact W.widen hc hs (hR pc lsA H locs hd hr hP hz hS)
theorem GoB.new {l : Launch} {d : Nat} {mi : MI} {csF : List CB} {mc ms cu su : Nat} {pc : Nat} {ls : List (Nat × Value)} {st : List Value} {cs : List CB} {idx ci N : Nat} {C : String} {T : u_T} (ty : Nat → FieldType) {fs : List Value} (hd : decode mi.2.2.1 pc = .ok (.new idx, 3)) (hin : ∀ w ∈ u_ws C T N, w ∈ gTs) (hty : ∀ k, k < N → parseFieldDescriptor (T k).2.2.1 = some (ty k)) (hcl : Cond.classLink mi.1 idx C ∈ gTs) (hinst : Cond.instantiable C N ∈ gTs) (hini : Cond.initialized C ∈ gTs) (hc : vwCl[ci]? = some (C, T, N))
    (hfs : ∀ j, j < N → defaultValue (ty j) = vp_V fs j) (htr : ∀ g : GX, fs.map (tr g) = fs) (h1 : cu + 1 ≤ mc) (h2 : su + N ≤ ms) (kk : GoB l d mi csF mc ms (cu + 1) (su + N) (pc + 3) ls (.ref cs.length :: st) (cs ++ [.inl (ci, fs)])) : GoB l d mi csF mc ms cu su pc ls st cs := by
  intro p e R s m args below meth c Q g H locs lsA F hR hP hz hS hl
  have hts := F.2.2.2.2.1
  have hK := F.2.2.2.2.2.1
  have hA : ∀ q, s.heap.size ≤ q → gA g q := fun q h => Nat.le_trans F.2.2.2.2.2.2.2.1.1 h
  have hD : va_D (gA g) (WB g cs) := WB_D F.2.2.2.2.2.2.2.1.2
  have hKn := hK.1 ci _ hc
  refine W.newcK F.1 F.2.1 F.2.2.2.1 (hts _ hcl) (hts _ hinst) (hts _ hini) rfl hd (Nat.le_trans h1 F.2.2.2.2.2.2.2.2.2.1) (Nat.le_trans h2 F.2.2.2.2.2.2.2.2.2.2) hKn.2.1 hz fun H1 kC hkC e1 z1 o1 => ?_
  have hk : ∀ (k : Nat) (x : Nat × va_E), (WB g cs)[k]? = some x → H1[x.1]? = H[x.1]? := fun k x hx => o1 x.1 (by have := (hP k x hx).lt; omega)
  have had : g_ad g cs.length = g_base g + cs.length := F.2.2.2.2.2.2.2.1.2 _
  have hP1 : va_P (g_D g) vwCl (WB g (cs ++ [.inl (ci, fs)])) H1 := by
    rw [WB_push]
    refine (hP.kept hk).app (fun k x hx => ?_)
    have hz : k < 1 := (List.getElem?_eq_some_iff.mp hx).1
    rw [show k = 0 by omega] at hx
    cases hx
    refine ⟨_, hc, ?_⟩
    show t_OB (g_ad g cs.length) _ _ _ _ (vp_V (fs.map (tr g)))
    rw [htr g, had]
    exact (u_born ty hts hin hKn hkC e1 hty).to hfs
  have := kk p e R s m args below meth c Q g H1 locs lsA F hR hP1 (by rw [z1, List.length_append]; rfl) ⟨Nat.le_trans hS.1 (by omega), fun x h1 h2 => (o1 x (by have := hS.1; omega)).trans (hS.2.1 x h1 h2), hS.2.2⟩ hl
  rw [← had]
  exact this
theorem GoB.newa {l : Launch} {d : Nat} {mi : MI} {csF : List CB} {mc ms cu su : Nat} {pc : Nat} {ls : List (Nat × Value)} {st : List Value} {cs : List CB} {atype : ArrayType} {n : Int32} {N kd : Nat} (hd : decode mi.2.2.1 pc = .ok (.newarray atype, 2)) (hw : Cond.arrayClass (newarray.typeOf atype) ∈ gTs) (hkd : (kd, atype) = (0, .int) ∨ (kd, atype) = (1, .byte) ∨ (kd, atype) = (2, .short) ∨ (kd, atype) = (3, .boolean) ∨ (kd, atype) = (4, .long)) (hn : ¬ n < 0) (hN : n.toNatClampNeg = N) (hbytes : N * componentBytes (newarray.typeOf atype) ≤ 536870912)
    (h1 : cu + 1 ≤ mc) (h2 : su + N ≤ ms) (kk : GoB l d mi csF mc ms (cu + 1) (su + N) (pc + 2) ls (.ref cs.length :: st) (cs ++ [.inr (kd, N, [], [])])) : GoB l d mi csF mc ms cu su pc ls (.int n :: st) cs := by
  intro p e R s m args below meth c Q g H locs lsA F hR hP hz hS hl
  have hts := F.2.2.2.2.1
  have hK := F.2.2.2.2.2.1
  refine va_newaK F.1 F.2.1 (hts _ hw) rfl hd rfl hn hN hbytes (Nat.le_trans h1 F.2.2.2.2.2.2.2.2.2.1) (Nat.le_trans h2 F.2.2.2.2.2.2.2.2.2.2) hz fun H1 cA e1 z1 o1 hAr hNm => ?_
  have hk : ∀ (k : Nat) (x : Nat × va_E), (WB g cs)[k]? = some x → H1[x.1]? = H[x.1]? := fun k x hx => o1 x.1 (by have := (hP k x hx).lt; omega)
  have had : g_ad g cs.length = g_base g + cs.length := F.2.2.2.2.2.2.2.1.2 _
  have hcA : cA = g_id g kd ∧ ∃ a0 : vp_A, concB g (.inr (kd, N, [], [])) = .inl (g_id g kd, a0) ∧ vp_cell (g_id g kd) a0 = arrV (g_id g kd) N (fun _ => defaultValue (newarray.typeOf atype)) := by
    rcases hkd with h | h | h | h | h <;> cases h
    · exact ⟨Option.some.inj (hNm.symm.trans (hK.2 0 _ rfl).2), _, rfl, rfl⟩
    · exact ⟨Option.some.inj (hNm.symm.trans (hK.2 1 _ rfl).2), _, rfl, rfl⟩
    · exact ⟨Option.some.inj (hNm.symm.trans (hK.2 2 _ rfl).2), _, rfl, rfl⟩
    · exact ⟨Option.some.inj (hNm.symm.trans (hK.2 3 _ rfl).2), _, rfl, rfl⟩
    · exact ⟨Option.some.inj (hNm.symm.trans (hK.2 4 _ rfl).2), _, rfl, rfl⟩
  obtain ⟨rfl, a0, ha0, hv⟩ := hcA
  have hP1 : va_P (g_D g) vwCl (WB g (cs ++ [.inr (kd, N, [], [])])) H1 := by
    rw [WB_push, ha0]
    refine (hP.kept hk).app (fun k x hx => ?_)
    have hz : k < 1 := (List.getElem?_eq_some_iff.mp hx).1
    rw [show k = 0 by omega] at hx
    cases hx
    show H1[g_ad g cs.length]? = some (vp_cell _ _)
    rw [hv, had]
    exact e1
  have := kk p e R s m args below meth c Q g H1 locs lsA F hR hP1 (by rw [z1, List.length_append]; rfl) ⟨Nat.le_trans hS.1 (by omega), fun x h1 h2 => (o1 x (by have := hS.1; omega)).trans (hS.2.1 x h1 h2), hS.2.2⟩ hl
  rw [← had]
  exact this
theorem GoB.anew {l : Launch} {d : Nat} {mi : MI} {csF : List CB} {mc ms cu su : Nat} {pc : Nat} {ls : List (Nat × Value)} {st : List Value} {cs : List CB} {idx : Nat} {n : Int32} {N : Nat} (hd : decode mi.2.2.1 pc = .ok (.anewarray idx, 3)) (hcl : Cond.classLink mi.1 idx "WhoPrompts$Shelf" ∈ gTs) (hn : ¬ n < 0) (hN : n.toNatClampNeg = N) (hbytes : N * 4 ≤ 536870912)
    (h1 : cu + 1 ≤ mc) (h2 : su + N ≤ ms) (kk : GoB l d mi csF mc ms (cu + 1) (su + N) (pc + 3) ls (.ref cs.length :: st) (cs ++ [.inr (5, N, [], [])])) : GoB l d mi csF mc ms cu su pc ls (.int n :: st) cs := by
  intro p e R s m args below meth c Q g H locs lsA F hR hP hz hS hl
  have hts := F.2.2.2.2.1
  have hK := F.2.2.2.2.2.1
  subst hN
  refine W.anew F.1 F.2.1 F.2.2.2.1 (hts _ hcl) (va_AO.use F.2.2.2.2.2.2.1.2.1) rfl hd rfl hn hbytes (Nat.le_trans h1 F.2.2.2.2.2.2.2.2.2.1) (Nat.le_trans h2 F.2.2.2.2.2.2.2.2.2.2) fun cA kA comp f1 f2 f3 f4 => ?_
  generalize hH1 : H.push ({ cls := cA, slots := Array.replicate n.toNatClampNeg .null, vm := .none } : Cell) = H1
  have z1 : H1.size = H.size + 1 := by rw [← hH1, Array.size_push]
  have e1 : H1[H.size]? = some (arrV cA n.toNatClampNeg (fun _ => .null)) := by rw [← hH1, Array.getElem?_push_size, ← arrV_new]
  have o1 : ∀ q : Nat, q < H.size → H1[q]? = H[q]? := fun q hq => by rw [← hH1, Array.getElem?_push, if_neg (Nat.ne_of_lt hq)]
  have hk : ∀ (k : Nat) (x : Nat × va_E), (WB g cs)[k]? = some x → H1[x.1]? = H[x.1]? := fun k x hx => o1 x.1 ((hP k x hx).lt)
  have had : g_ad g cs.length = g_base g + cs.length := F.2.2.2.2.2.2.2.1.2 _
  have hzz : H.size = g_base g + cs.length := hz
  have hcA : cA = g_id g 5 := by
    obtain ⟨_, _, _, _, _, h⟩ := (hK.2 5 _ rfl).2
    exact Option.some.inj (f1.symm.trans h)
  subst hcA
  have hP1 : va_P (g_D g) vwCl (WB g (cs ++ [.inr (5, n.toNatClampNeg, [], [])])) H1 := by
    rw [WB_push]
    refine (hP.kept hk).app (fun k x hx => ?_)
    have hz : k < 1 := (List.getElem?_eq_some_iff.mp hx).1
    rw [show k = 0 by omega] at hx
    cases hx
    show H1[g_ad g cs.length]? = some (vp_cell _ _)
    rw [had, ← hzz]
    exact e1
  have := kk p e R s m args below meth c Q g H1 locs lsA F hR hP1 (by rw [z1, hz, List.length_append]; rfl) ⟨Nat.le_trans hS.1 (by omega), fun x h1 h2 => (o1 x (Nat.lt_of_lt_of_le h1 hS.1)).trans (hS.2.1 x h1 h2), hS.2.2⟩ hl
  rw [hz, ← had]
  exact this
