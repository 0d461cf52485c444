/-- a method: its class, name, code, locals, answer -/
abbrev MI : Type := String × MethodName × ByteArray × Nat × Option FieldType
/-- the pure state: numbers in fields, int rows, long rows, by cell -/
abbrev St : Type := (Nat → Nat → Int32) × (Nat → Nat → Int32) × (Nat → Nat → Int64)
/-- the launch's numbers: classes and slots, addresses of the cells, classes of rows, where the cells begin -/
abbrev GX : Type := va_G × (Nat → Nat) × (Nat → ClassId) × Nat
def g_D (g : GX) : va_G := g.1
def g_ad (g : GX) : Nat → Nat := g.2.1
def g_id (g : GX) : Nat → ClassId := g.2.2.1
def g_base (g : GX) : Nat := g.2.2.2
def gA (g : GX) : Nat → Prop := fun q => g_base g ≤ q
def gtys (g : GX) : List (ClassId × FieldType) := [(g_id g 0, .int), (g_id g 1, .byte), (g_id g 2, .short), (g_id g 3, .boolean), (g_id g 4, .long), (g_id g 5, .object "WhoPrompts$Shelf")]
/-- the tables' words that stay true in a callee -/
def gTs : List Cond := lw_tbl.filter goodWord
/-- a value by cell numbers, as the machine has it -/
def tr (g : GX) (v : Value) : Value := match v with
  | .ref k => .ref (g_ad g k)
  | w => w
def trL (g : GX) (ls : List (Nat × Value)) : List (Nat × Value) := ls.map (fun q => (q.1, tr g q.2))
/-- what a field holds -/
def fvl (g : GX) (S : St) (k j : Nat) (r : Option Nat) : Value := match r with
  | some q => .ref (g_ad g q)
  | none => .int (S.1 k j)
def cellE (g : GX) (S : St) (k : Nat) : va_E := match shp k with
  | .inl o => .inr (o.1, o.2.mapIdx (fun j r => fvl g S k j r))
  | .inr a => if a.1 = 4 then .inl (g_id g 4, a.2, .inr (.inl (S.2.2 k))) else if a.1 = 5 then .inl (g_id g 5, a.2, .inr (.inr (.inr (.inr (fun i => some (g_ad g (14 + i))))))) else .inl (g_id g a.1, a.2, .inl (S.2.1 k))
/-- the world: all cells, with what the state says of them -/
def Wd (g : GX) (S : St) : va_W := (List.range shN).map (fun k => (g_ad g k, cellE g S k))
def fset (S : St) (k j : Nat) (x : Int32) : St := (va_up S.1 k (upd (S.1 k) j x), S.2.1, S.2.2)
def aset (S : St) (k : Nat) (f : Nat → Int32) : St := (S.1, va_up S.2.1 k f, S.2.2)
def lset (S : St) (k : Nat) (f : Nat → Int64) : St := (S.1, S.2.1, va_up S.2.2 k f)
def slR (k j : Nat) : Option (Nat × Option Nat) := match shp k with
  | .inl o => (o.2[j]?).map (fun r => (o.1, r))
  | .inr _ => none
def arK (k : Nat) : Option (Nat × Nat) := match shp k with
  | .inl _ => none
  | .inr a => some a
def clK (k : Nat) : Option Nat := match shp k with
  | .inl o => some o.1
  | .inr _ => none
def aboveT (j : Nat) : Int32 := ([-1, 0, 0, 2, 1, 3, 0, 6] : List Int32).getD j 0
def ownT (j : Nat) : Int32 := ([1, 10, 11, 2, 20, 0, 0, 0, 0, 30, 0, 0, 0, 41, 40, 0, 0, 0, 0, 50, 0, 0, 60, 61, 70, 0, 0, 0, 81, 80, 0, 0] : List Int32).getD j 0
/-- what the launch says of old cells: the two tables of Bodies, and the one link to a nest mate -/
def Stat (g : GX) (U : State) (H : Heap) : Prop :=
  va_Z "WhoPrompts$Bodies" "ABOVE" "[I" (.ref (g_ad g 501)) (gA g) U H ∧ va_T .int (g_ad g 501) 8 (fun j => .int (aboveT j)) (gA g) U H ∧
  va_Z "WhoPrompts$Bodies" "OWN" "[I" (.ref (g_ad g 502)) (gA g) U H ∧ va_T .int (g_ad g 502) 32 (fun j => .int (ownT j)) (gA g) U H ∧
  va_Nw (.methodLinkNest RX8 59 yX11_isPart "WhoPrompts") U
theorem Stat.next {g : GX} {u U : State} {H H1 : Heap} (h : Stat g u H) (hW : u.WarmedH U.vm) (hq : ∀ q : Nat, q < H.size → ¬ gA g q → H1[q]? = H[q]?) : Stat g U H1 :=
  ⟨(h.1.moved hW.alike).kept hq, (h.2.1.moved hW.alike).kept hq, (h.2.2.1.moved hW.alike).kept hq, (h.2.2.2.1.moved hW.alike).kept hq, va_Nw.warmM hW h.2.2.2.2⟩
theorem Stat.calling {g : GX} {U U' : State} {H : Heap} (h : Stat g U H) (hvm : U.vm = U'.vm) : Stat g U' H :=
  ⟨h.1.moved (hvm ▸ Vm.Alike.refl U.vm), h.2.1.moved (hvm ▸ Vm.Alike.refl U.vm), h.2.2.1.moved (hvm ▸ Vm.Alike.refl U.vm), h.2.2.2.1.moved (hvm ▸ Vm.Alike.refl U.vm), va_Nw.same rfl hvm h.2.2.2.2⟩
def Fx (p : Program) (R : Room) (s : State) (m : MethodId) (args : Array Value) (c : Code) (mi : MI) (d cells slots : Nat) (g : GX) : Prop :=
  p.tables.exec = Jvm.exec ∧ c.code = mi.2.2.1 ∧ c.maxLocals = mi.2.2.2.1 ∧ s.vm.findClass mi.1 = some m.cls ∧ (∀ w ∈ gTs, w.before args s = true) ∧ va_K (g_D g) vwCl (gtys g) s ∧ Stat g s s.heap ∧ g_base g ≤ s.heap.size ∧ (d ≤ R.frames ∧ 40 * d ≤ R.locals) ∧ cells ≤ R.cells ∧ slots ≤ R.slots
/-- the ways in which a method ends -/
def retI (mi : MI) (pc : Nat) (v : Option Value) : Prop :=
  (∃ x ty, v = some (.int x) ∧ decode mi.2.2.1 pc = .ok (.ireturn, 1) ∧ mi.2.2.2.2 = some ty ∧ narrow ty (.int x) = .int x) ∨ (∃ x, v = some (.long x) ∧ decode mi.2.2.1 pc = .ok (.lreturn, 1) ∧ mi.2.2.2.2 = some .long) ∨ (v = none ∧ decode mi.2.2.1 pc = .ok (.return_, 1) ∧ mi.2.2.2.2 = none)
def RetOK (p : Program) (l : Launch) (e : Env) (R : Room) (s : State) (m : MethodId) (args : Array Value) (below : List Frame) (meth : Method) (c : Code) (cells slots : Nat) (Q : State → Prop) (mi : MI) (K : Option Value → St → Prop) (g : GX) : Prop :=
  ∀ (pc : Nat) (lsA : Array Slot) (v : Option Value) (S : St) (H : Heap) (locs : List Loc), retI mi pc v → K v S → va_P (g_D g) vwCl (Wd g S) H → va_S (gA g) s.heap H locs → W p l e R s m args below meth c H locs cells slots Q (F0 m pc lsA (v.map (tr g)).toList)
/-- THE JUDGEMENT: at pc of method mi, with locals ls, stack st and the world of S, room for d frames: the method returns, and K holds of answer and state -/
def Go (l : Launch) (d : Nat) (mi : MI) (K : Option Value → St → Prop) (pc : Nat) (ls : List (Nat × Value)) (st : List Value) (S : St) : Prop :=
  ∀ (p : Program) (e : Env) (R : Room) (s : State) (m : MethodId) (args : Array Value) (below : List Frame) (meth : Method) (c : Code) (cells slots : Nat) (Q : State → Prop) (g : GX) (H : Heap) (locs : List Loc) (lsA : Array Slot),
    Fx p R s m args c mi d cells slots g → RetOK p l e R s m args below meth c cells slots Q mi K g → va_P (g_D g) vwCl (Wd g S) H → va_D (gA g) (Wd g S) → va_S (gA g) s.heap H locs → lv_has lsA mi.2.2.2.1 (trL g ls) →
    W p l e R s m args below meth c H locs cells slots Q (F0 m pc lsA (st.map (tr g)))
theorem Wd_at {g : GX} {S : St} {k : Nat} (hk : k < shN) : (Wd g S)[k]? = some (g_ad g k, cellE g S k) := by
  unfold Wd
  rw [List.getElem?_map, List.getElem?_range hk]
  rfl
theorem Wd_len {g : GX} {S : St} : (Wd g S).length = shN := by simp [Wd]
theorem Wd_set {g : GX} {S S' : St} {k : Nat} (hk : k < shN) (ho : ∀ q, q ≠ k → cellE g S' q = cellE g S q) : (Wd g S).set k (g_ad g k, cellE g S' k) = Wd g S' := by
  apply List.ext_getElem?
  intro j
  by_cases hj : j = k
  · subst hj
    rw [List.getElem?_set_self (by rw [Wd_len]; exact hk), Wd_at hk]
  · rw [List.getElem?_set_ne (fun h => hj h.symm)]
    by_cases hl : j < shN
    · rw [Wd_at hl, Wd_at hl, ho j hj]
    · rw [List.getElem?_eq_none (by rw [Wd_len]; omega), List.getElem?_eq_none (by rw [Wd_len]; omega)]
theorem Wd_D {g : GX} {A : Nat → Prop} {S S' : St} (h : va_D A (Wd g S)) : va_D A (Wd g S') := by
  have key : ∀ (i : Nat) (p : Nat × va_E), (Wd g S')[i]? = some p → ∃ q, (Wd g S)[i]? = some q ∧ q.1 = p.1 := by
    intro i p hp
    have hl : i < shN := by
      have := (List.getElem?_eq_some_iff.mp hp).1
      rwa [Wd_len] at this
    rw [Wd_at hl] at hp
    cases hp
    exact ⟨_, Wd_at hl, rfl⟩
  refine ⟨fun i j p q hi hj e => ?_, fun i p hp => ?_⟩
  · obtain ⟨p', h1, h2⟩ := key i p hi
    obtain ⟨q', h3, h4⟩ := key j q hj
    exact h.1 i j p' q' h1 h3 (by rw [h2, h4]; exact e)
  · obtain ⟨p', h1, h2⟩ := key i p hp
    rw [← h2]; exact h.2 i p' h1
theorem cellE_ne {g : GX} {S S' : St} {q : Nat} (h1 : S'.1 q = S.1 q) (h2 : S'.2.1 q = S.2.1 q) (h3 : S'.2.2 q = S.2.2 q) : cellE g S' q = cellE g S q := by
  have h4 : (fun j r => fvl g S' q j r) = (fun j r => fvl g S q j r) := by
    funext j r
    unfold fvl
    rw [h1]
  unfold cellE
  rw [h2, h3, h4]
theorem shp_out {k : Nat} (h : ¬ k < shN) : shp k = .inr (9, 0) := by
  have hl : shpL.length = shN := by decide +kernel
  unfold shp
  rw [List.getD_eq_getElem?_getD, List.getElem?_eq_none (by omega)]
  rfl
theorem slR_lt {k j : Nat} {x : Nat × Option Nat} (h : slR k j = some x) : k < shN := by
  apply Decidable.byContradiction
  intro hn
  rw [slR, shp_out hn] at h
  cases h
theorem clK_lt {k ci : Nat} (h : clK k = some ci) : k < shN := by
  apply Decidable.byContradiction
  intro hn
  rw [clK, shp_out hn] at h
  cases h
theorem arK_lt {k kd n : Nat} (h : arK k = some (kd, n)) (hk : kd ≤ 5) : k < shN := by
  apply Decidable.byContradiction
  intro hn
  rw [arK, shp_out hn] at h
  cases h
  omega
theorem slR_cell {g : GX} {S : St} {k j ci : Nat} {r : Option Nat} (h : slR k j = some (ci, r)) : ∃ fs : List Value, cellE g S k = .inr (ci, fs) ∧ fs[j]? = some (fvl g S k j r) ∧ j < fs.length ∧
    (r = none → ∀ x, cellE g (fset S k j x) k = .inr (ci, fs.set j (.int x))) := by
  unfold slR at h
  cases hs : shp k with
  | inr a => rw [hs] at h; cases h
  | inl o =>
    rw [hs] at h
    simp only [Option.map_eq_some_iff] at h
    obtain ⟨r', h1, h2⟩ := h
    cases h2
    have hl := (List.getElem?_eq_some_iff.mp h1).1
    refine ⟨_, by unfold cellE; rw [hs], by simp only [List.getElem?_mapIdx, h1, Option.map_some], by simpa using hl, fun hr x => ?_⟩
    unfold cellE
    rw [hs]
    simp only
    congr 2
    apply List.ext_getElem?
    intro i
    by_cases hi : i = j
    · subst hi
      rw [List.getElem?_set_self (by simpa using hl), List.getElem?_mapIdx, h1, hr]
      simp [fvl, fset, va_up, upd]
    · rw [List.getElem?_set_ne (fun h => hi h.symm), List.getElem?_mapIdx, List.getElem?_mapIdx]
      cases o.2[i]? with
      | none => rfl
      | some z => cases z <;> simp [fvl, fset, va_up, upd, hi]
theorem fset_ne {g : GX} {S : St} {k j q : Nat} {x : Int32} (h : q ≠ k) : cellE g (fset S k j x) q = cellE g S q := cellE_ne (by simp [fset, va_up, h]) rfl rfl
theorem aset_ne {g : GX} {S : St} {k q : Nat} {f : Nat → Int32} (h : q ≠ k) : cellE g (aset S k f) q = cellE g S q := cellE_ne rfl (by simp [aset, va_up, h]) rfl
theorem lset_ne {g : GX} {S : St} {k q : Nat} {f : Nat → Int64} (h : q ≠ k) : cellE g (lset S k f) q = cellE g S q := cellE_ne rfl rfl (by simp [lset, va_up, h])
theorem arK_int {g : GX} {S : St} {k kd n : Nat} (h : arK k = some (kd, n)) (hk : kd ≤ 3) : cellE g S k = .inl (g_id g kd, n, .inl (S.2.1 k)) := by
  unfold arK at h
  cases hs : shp k with
  | inl o => rw [hs] at h; cases h
  | inr a =>
    rw [hs] at h
    cases h
    unfold cellE
    rw [hs]
    simp only
    rw [if_neg (by omega), if_neg (by omega)]
theorem arK_long {g : GX} {S : St} {k n : Nat} (h : arK k = some (4, n)) : cellE g S k = .inl (g_id g 4, n, .inr (.inl (S.2.2 k))) := by
  unfold arK at h
  cases hs : shp k with
  | inl o => rw [hs] at h; cases h
  | inr a =>
    rw [hs] at h
    cases h
    unfold cellE
    rw [hs]
    rfl
theorem arK_ref {g : GX} {S : St} {k n : Nat} (h : arK k = some (5, n)) : cellE g S k = .inl (g_id g 5, n, .inr (.inr (.inr (.inr (fun i => some (g_ad g (14 + i))))))) := by
  unfold arK at h
  cases hs : shp k with
  | inl o => rw [hs] at h; cases h
  | inr a =>
    rw [hs] at h
    cases h
    unfold cellE
    rw [hs]
    rfl
theorem aset_at {g : GX} {S : St} {k kd n : Nat} {f : Nat → Int32} (h : arK k = some (kd, n)) (hk : kd ≤ 3) : cellE g (aset S k f) k = .inl (g_id g kd, n, .inl f) := by
  rw [arK_int h hk]; simp [aset, va_up]
theorem lset_at {g : GX} {S : St} {k n : Nat} {f : Nat → Int64} (h : arK k = some (4, n)) : cellE g (lset S k f) k = .inl (g_id g 4, n, .inr (.inl f)) := by
  rw [arK_long h]; simp [lset, va_up]
def lgt (ls : List (Nat × Value)) (i : Nat) : Option Value := (ls.find? (fun q => q.1 == i)).map (fun q => q.2)
theorem lgt_at {g : GX} {lsA : Array Slot} {nL i : Nat} {ls : List (Nat × Value)} {v : Value} (hl : lv_has lsA nL (trL g ls)) (h : lgt ls i = some v) : lsA[i]? = some (.val (tr g v)) := by
  unfold lgt at h
  cases hf : ls.find? (fun q => q.1 == i) with
  | none => rw [hf] at h; cases h
  | some q =>
    rw [hf] at h
    cases h
    have hm := List.mem_of_find?_eq_some hf
    have hi : q.1 = i := by simpa using List.find?_some hf
    rw [← hi]
    exact hl.2.2 (q.1, tr g q.2) (List.mem_map.mpr ⟨q, hm, rfl⟩)
theorem tr_cat (g : GX) (v : Value) : (tr g v).category = v.category := by cases v <;> rfl
def sto1 (ls : List (Nat × Value)) (i : Nat) (v : Value) : List (Nat × Value) := (i, v) :: ls.filter (fun q => !(q.1 == i) && !(q.1 + 1 == i && q.2.category == 2))
def sto2 (ls : List (Nat × Value)) (i : Nat) (v : Value) : List (Nat × Value) := (i, v) :: ls.filter (fun q => !(q.1 == i) && (!(q.1 == i + 1) && !(q.1 + 1 == i && q.2.category == 2)))
theorem trL_sto1 (g : GX) (ls : List (Nat × Value)) (i : Nat) (v : Value) : (i, tr g v) :: (trL g ls).filter (fun q => !(q.1 == i) && !(q.1 + 1 == i && q.2.category == 2)) = trL g (sto1 ls i v) := by
  unfold trL sto1
  rw [List.map_cons, List.filter_map]
  congr 2
  apply List.filter_congr
  intro x _
  simp [tr_cat]
theorem trL_sto2 (g : GX) (ls : List (Nat × Value)) (i : Nat) (v : Value) : (i, tr g v) :: (trL g ls).filter (fun q => !(q.1 == i) && (!(q.1 == i + 1) && !(q.1 + 1 == i && q.2.category == 2))) = trL g (sto2 ls i v) := by
  unfold trL sto2
  rw [List.map_cons, List.filter_map]
  congr 2
  apply List.filter_congr
  intro x _
  simp [tr_cat]
theorem trL_args (g : GX) : ∀ (vs : List Value) (n : Nat), lv_args n (vs.map (tr g)) = trL g (lv_args n vs)
  | [], _ => rfl
  | v :: vs, n => by
    show (n, tr g v) :: lv_args _ (vs.map (tr g)) = _
    rw [tr_cat, trL_args g vs]
    rfl
/-- a method's start and end, as contracts of the kit -/
def rmD (d : Nat) : Room := { frames := d, cells := 0, slots := 0, locals := 40 * d }
def wsM (mi : MI) : List Cond := .code mi.2.1 mi.2.2.1 mi.2.2.2.1 mi.2.2.2.2 :: gTs
def PcG (g : GX) (as : List Value) (S : St) : Array Value → State → Prop := va_Pc (as.map (tr g)) (fun U => va_P (g_D g) vwCl (Wd g S) U.heap ∧ va_K (g_D g) vwCl (gtys g) U ∧ va_D (gA g) (Wd g S) ∧ Stat g U U.heap ∧ g_base g ≤ U.heap.size)
def QcG (g : GX) (K : Option Value → St → Prop) : Array Value → State → Outcome → State → Prop := fun _ st oc t => ∃ (v : Option Value) (S : St), oc = .returned (v.map (tr g)) ∧ K v S ∧ va_P (g_D g) vwCl (Wd g S) t.heap ∧ va_F (gA g) st t
/-- what the tables say of a method -/
def MK (mi : MI) (n : Nat) : Prop := (Cond.code mi.2.1 mi.2.2.1 mi.2.2.2.1 mi.2.2.2.2 ∈ gTs ∧ Cond.initialized mi.2.1.cls ∈ gTs) ∧ (mi.2.1.cls ≠ "java/lang/invoke/MethodHandle" ∧ mi.2.1.cls ≠ "java/lang/invoke/VarHandle" ∧ (parseMethodDescriptor mi.2.1.desc).map (fun d => d.parameters.length) = some n) ∧ mi.2.2.2.1 ≤ 20 ∧ plainName mi.2.1.cls = true ∧ mi.1 = mi.2.1.cls
set_option maxHeartbeats 4000000 in
theorem Go.met {l : Launch} {d : Nat} {mi : MI} {K : Option Value → St → Prop} {as : List Value} {S : St} {n : Nat} (g : GX) (hM : MK mi n) (hlen : (lg_sl (as.map (tr g))).length ≤ mi.2.2.2.1) (h : Go l d mi K 0 (lv_args 0 as) [] S) : Met l mi.2.1 (wsM mi) (rmD d) (PcG g as S) (QcG g K) 0 0 (gA g) := by
  refine Met.ofW (cc := mi.2.2.1) (maxL := mi.2.2.2.1) (ret := mi.2.2.2.2) hM.2.2.2.1 rfl ?_
  intro p e s m args below meth c s₁ B hml hv
  obtain ⟨rfl, hP, hK, hD, hSt, hbs⟩ := hv
  have hts := atoms_spec (ws := wsM mi) B.pre
  have hown : s.vm.findClass mi.1 = some m.cls := by rw [hM.2.2.2.2]; exact findClass_of_methodNamed B.named
  have hlocks := B.notSynchronized
  have hl := lv_entry (as.map (tr g)) (n := mi.2.2.2.1) hlen
  rw [lg_entry_eq]
  refine h p e (rmD d) s m _ below meth c 0 0 _ g s.heap [] _ ⟨B.exec, B.bytes, hml, hown, fun w hw => hts w (List.mem_cons_of_mem _ hw), hK, hSt, hbs, ⟨Nat.le_refl _, Nat.le_refl _⟩, Nat.le_refl _, Nat.le_refl _⟩ ?_ hP hD va_S.rf (by rw [trL_args] at hl; exact hl)
  intro pc lsA v S' H' locs' hr hKv hP' hS'
  rcases hr with ⟨x, ty, rfl, hd, hrt, hn⟩ | ⟨x, rfl, hd, hrt⟩ | ⟨rfl, hd, hrt⟩
  · exact W.zret B.exec B.bytes (B.returns.trans hrt) hn (fun t ht _ => ⟨_, S', rfl, hKv, by rw [ht]; exact hP', hS'.F ht⟩) hS'.2.2 hd
  · exact W.lret B.exec B.bytes (B.returns.trans hrt) (fun t ht _ => ⟨_, S', rfl, hKv, by rw [ht]; exact hP', hS'.F ht⟩) hS'.2.2 hd
  · exact W.vret B.exec B.bytes (B.returns.trans hrt) (fun t ht _ => ⟨_, S', rfl, hKv, by rw [ht]; exact hP', hS'.F ht⟩) hS'.2.2 hd
