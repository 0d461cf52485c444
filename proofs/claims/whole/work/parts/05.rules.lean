theorem Go.iconst {l : Launch} {d : Nat} {mi : MI} {K : Option Value → St → Prop} {pc : Nat} {ls : List (Nat × Value)} {st : List Value} {S : St} {n : Int} {v : Int32} (hd : decode mi.2.2.1 pc = .ok (.iconst n, 1)) (hv : Int32.ofInt n = v) (k : Go l d mi K (pc + 1) ls (.int v :: st) S) : Go l d mi K (pc) ls (st) S := by
  intro p e R s m args below meth c cells slots Q g H locs lsA F hr hP hD hS hl
  exact lv_iconst F.1 F.2.1 hd hv (k p e R s m args below meth c cells slots Q g H locs lsA F hr hP hD hS hl)
theorem Go.bipush {l : Launch} {d : Nat} {mi : MI} {K : Option Value → St → Prop} {pc : Nat} {ls : List (Nat × Value)} {st : List Value} {S : St} {n : Int} {v : Int32} (hd : decode mi.2.2.1 pc = .ok (.bipush n, 2)) (hv : (Int8.ofInt n).toInt32 = v) (k : Go l d mi K (pc + 2) ls (.int v :: st) S) : Go l d mi K (pc) ls (st) S := by
  intro p e R s m args below meth c cells slots Q g H locs lsA F hr hP hD hS hl
  exact lv_bipush F.1 F.2.1 hd hv (k p e R s m args below meth c cells slots Q g H locs lsA F hr hP hD hS hl)
theorem Go.sipush {l : Launch} {d : Nat} {mi : MI} {K : Option Value → St → Prop} {pc : Nat} {ls : List (Nat × Value)} {st : List Value} {S : St} {n : Int} {v : Int32} (hd : decode mi.2.2.1 pc = .ok (.sipush n, 3)) (hv : (Int16.ofInt n).toInt32 = v) (k : Go l d mi K (pc + 3) ls (.int v :: st) S) : Go l d mi K (pc) ls (st) S := by
  intro p e R s m args below meth c cells slots Q g H locs lsA F hr hP hD hS hl
  exact lv_sipush F.1 F.2.1 hd hv (k p e R s m args below meth c cells slots Q g H locs lsA F hr hP hD hS hl)
theorem Go.lconst {l : Launch} {d : Nat} {mi : MI} {K : Option Value → St → Prop} {pc : Nat} {ls : List (Nat × Value)} {st : List Value} {S : St} {n : Fin 2} {v : Int64} (hd : decode mi.2.2.1 pc = .ok (.lconst n, 1)) (hv : Int64.ofNat (n : Nat) = v) (k : Go l d mi K (pc + 1) ls (.long v :: st) S) : Go l d mi K (pc) ls (st) S := by
  intro p e R s m args below meth c cells slots Q g H locs lsA F hr hP hD hS hl
  exact lv_lconst F.1 F.2.1 hd hv (k p e R s m args below meth c cells slots Q g H locs lsA F hr hP hD hS hl)
theorem Go.iload_n {l : Launch} {d : Nat} {mi : MI} {K : Option Value → St → Prop} {pc : Nat} {ls : List (Nat × Value)} {st : List Value} {S : St} {k : Fin 4} {x : Int32} (hd : decode mi.2.2.1 pc = .ok (.iload_n k, 1)) (hg : lgt ls k = some (.int x)) (k : Go l d mi K (pc + 1) ls (.int x :: st) S) : Go l d mi K (pc) ls (st) S := by
  intro p e R s m args below meth c cells slots Q g H locs lsA F hr hP hD hS hl
  exact lv_iload_n F.1 F.2.1 hd rfl (lgt_at hl hg) (k p e R s m args below meth c cells slots Q g H locs lsA F hr hP hD hS hl)
theorem Go.iload {l : Launch} {d : Nat} {mi : MI} {K : Option Value → St → Prop} {pc : Nat} {ls : List (Nat × Value)} {st : List Value} {S : St} {i : Nat} {x : Int32} (hd : decode mi.2.2.1 pc = .ok (.iload i, 2)) (hg : lgt ls i = some (.int x)) (k : Go l d mi K (pc + 2) ls (.int x :: st) S) : Go l d mi K (pc) ls (st) S := by
  intro p e R s m args below meth c cells slots Q g H locs lsA F hr hP hD hS hl
  exact lv_iload F.1 F.2.1 hd (lgt_at hl hg) (k p e R s m args below meth c cells slots Q g H locs lsA F hr hP hD hS hl)
theorem Go.lload_n {l : Launch} {d : Nat} {mi : MI} {K : Option Value → St → Prop} {pc : Nat} {ls : List (Nat × Value)} {st : List Value} {S : St} {k : Fin 4} {x : Int64} (hd : decode mi.2.2.1 pc = .ok (.lload_n k, 1)) (hg : lgt ls k = some (.long x)) (k : Go l d mi K (pc + 1) ls (.long x :: st) S) : Go l d mi K (pc) ls (st) S := by
  intro p e R s m args below meth c cells slots Q g H locs lsA F hr hP hD hS hl
  exact lv_lload_n F.1 F.2.1 hd rfl (lgt_at hl hg) (k p e R s m args below meth c cells slots Q g H locs lsA F hr hP hD hS hl)
theorem Go.lload {l : Launch} {d : Nat} {mi : MI} {K : Option Value → St → Prop} {pc : Nat} {ls : List (Nat × Value)} {st : List Value} {S : St} {i : Nat} {x : Int64} (hd : decode mi.2.2.1 pc = .ok (.lload i, 2)) (hg : lgt ls i = some (.long x)) (k : Go l d mi K (pc + 2) ls (.long x :: st) S) : Go l d mi K (pc) ls (st) S := by
  intro p e R s m args below meth c cells slots Q g H locs lsA F hr hP hD hS hl
  exact lv_lload F.1 F.2.1 hd (lgt_at hl hg) (k p e R s m args below meth c cells slots Q g H locs lsA F hr hP hD hS hl)
theorem Go.aload_n {l : Launch} {d : Nat} {mi : MI} {K : Option Value → St → Prop} {pc : Nat} {ls : List (Nat × Value)} {st : List Value} {S : St} {k : Fin 4} {x : Nat} (hd : decode mi.2.2.1 pc = .ok (.aload_n k, 1)) (hg : lgt ls k = some (.ref x)) (k : Go l d mi K (pc + 1) ls (.ref x :: st) S) : Go l d mi K (pc) ls (st) S := by
  intro p e R s m args below meth c cells slots Q g H locs lsA F hr hP hD hS hl
  exact lv_aload_n F.1 F.2.1 hd rfl (lgt_at hl hg) (k p e R s m args below meth c cells slots Q g H locs lsA F hr hP hD hS hl)
theorem Go.aload {l : Launch} {d : Nat} {mi : MI} {K : Option Value → St → Prop} {pc : Nat} {ls : List (Nat × Value)} {st : List Value} {S : St} {i : Nat} {x : Nat} (hd : decode mi.2.2.1 pc = .ok (.aload i, 2)) (hg : lgt ls i = some (.ref x)) (k : Go l d mi K (pc + 2) ls (.ref x :: st) S) : Go l d mi K (pc) ls (st) S := by
  intro p e R s m args below meth c cells slots Q g H locs lsA F hr hP hD hS hl
  exact lv_aload F.1 F.2.1 hd (lgt_at hl hg) (k p e R s m args below meth c cells slots Q g H locs lsA F hr hP hD hS hl)
theorem Go.istore_n {l : Launch} {d : Nat} {mi : MI} {K : Option Value → St → Prop} {pc : Nat} {ls : List (Nat × Value)} {st : List Value} {S : St} {kf : Fin 4} {x : Int32} {ls' : List (Nat × Value)} (hd : decode mi.2.2.1 pc = .ok (.istore_n kf, 1)) (hn : (kf : Nat) < mi.2.2.2.1) (hs : sto1 ls (kf : Nat) (.int x) = ls') (k : Go l d mi K (pc + 1) ls' (st) S) : Go l d mi K (pc) ls (.int x :: st) S := by
  intro p e R s m args below meth c cells slots Q g H locs lsA F hr hP hD hS hl
  subst hs
  exact lv_istore_n F.1 F.2.1 hd rfl hl hn (trL_sto1 g ls (kf : Nat) (.int x)) (fun lsA hl => k p e R s m args below meth c cells slots Q g H locs lsA F hr hP hD hS hl)
theorem Go.istore {l : Launch} {d : Nat} {mi : MI} {K : Option Value → St → Prop} {pc : Nat} {ls : List (Nat × Value)} {st : List Value} {S : St} {i : Nat} {x : Int32} {ls' : List (Nat × Value)} (hd : decode mi.2.2.1 pc = .ok (.istore i, 2)) (hn : i < mi.2.2.2.1) (hs : sto1 ls i (.int x) = ls') (k : Go l d mi K (pc + 2) ls' (st) S) : Go l d mi K (pc) ls (.int x :: st) S := by
  intro p e R s m args below meth c cells slots Q g H locs lsA F hr hP hD hS hl
  subst hs
  exact lv_istore F.1 F.2.1 hd hl hn (trL_sto1 g ls i (.int x)) (fun lsA hl => k p e R s m args below meth c cells slots Q g H locs lsA F hr hP hD hS hl)
theorem Go.astore_n {l : Launch} {d : Nat} {mi : MI} {K : Option Value → St → Prop} {pc : Nat} {ls : List (Nat × Value)} {st : List Value} {S : St} {kf : Fin 4} {x : Nat} {ls' : List (Nat × Value)} (hd : decode mi.2.2.1 pc = .ok (.astore_n kf, 1)) (hn : (kf : Nat) < mi.2.2.2.1) (hs : sto1 ls (kf : Nat) (.ref x) = ls') (k : Go l d mi K (pc + 1) ls' (st) S) : Go l d mi K (pc) ls (.ref x :: st) S := by
  intro p e R s m args below meth c cells slots Q g H locs lsA F hr hP hD hS hl
  subst hs
  exact lv_astore_n F.1 F.2.1 hd rfl hl hn (trL_sto1 g ls (kf : Nat) (.ref x)) (fun lsA hl => k p e R s m args below meth c cells slots Q g H locs lsA F hr hP hD hS hl)
theorem Go.astore {l : Launch} {d : Nat} {mi : MI} {K : Option Value → St → Prop} {pc : Nat} {ls : List (Nat × Value)} {st : List Value} {S : St} {i : Nat} {x : Nat} {ls' : List (Nat × Value)} (hd : decode mi.2.2.1 pc = .ok (.astore i, 2)) (hn : i < mi.2.2.2.1) (hs : sto1 ls i (.ref x) = ls') (k : Go l d mi K (pc + 2) ls' (st) S) : Go l d mi K (pc) ls (.ref x :: st) S := by
  intro p e R s m args below meth c cells slots Q g H locs lsA F hr hP hD hS hl
  subst hs
  exact lv_astore F.1 F.2.1 hd hl hn (trL_sto1 g ls i (.ref x)) (fun lsA hl => k p e R s m args below meth c cells slots Q g H locs lsA F hr hP hD hS hl)
theorem Go.lstore {l : Launch} {d : Nat} {mi : MI} {K : Option Value → St → Prop} {pc : Nat} {ls : List (Nat × Value)} {st : List Value} {S : St} {i : Nat} {x : Int64} {ls' : List (Nat × Value)} (hd : decode mi.2.2.1 pc = .ok (.lstore i, 2)) (hn : i + 1 < mi.2.2.2.1) (hs : sto2 ls i (.long x) = ls') (k : Go l d mi K (pc + 2) ls' (st) S) : Go l d mi K (pc) ls (.long x :: st) S := by
  intro p e R s m args below meth c cells slots Q g H locs lsA F hr hP hD hS hl
  subst hs
  exact lv_lstore F.1 F.2.1 hd hl hn (trL_sto2 g ls i (.long x)) (fun lsA hl => k p e R s m args below meth c cells slots Q g H locs lsA F hr hP hD hS hl)
theorem lgt_ix (g : GX) {ls : List (Nat × Value)} {i : Nat} {x : Int32} (h : lgt ls i = some (.int x)) : ∃ q : Nat, (trL g ls)[q]? = some (i, .int x) := by
  unfold lgt at h
  cases hf : ls.find? (fun q => q.1 == i) with
  | none => rw [hf] at h; cases h
  | some q =>
    rw [hf] at h
    have h2 : q.2 = .int x := Option.some.inj h
    have hi : q.1 = i := by simpa using List.find?_some hf
    obtain ⟨n, hn⟩ := List.getElem?_of_mem (List.mem_of_find?_eq_some hf)
    refine ⟨n, ?_⟩
    unfold trL
    rw [List.getElem?_map, hn]
    show some (q.1, tr g q.2) = _
    rw [hi, h2]
    rfl
theorem Go.iinc {l : Launch} {d : Nat} {mi : MI} {K : Option Value → St → Prop} {pc : Nat} {ls : List (Nat × Value)} {st : List Value} {S : St} {i : Nat} {n : Int} {x v : Int32} {ls' : List (Nat × Value)} (hd : decode mi.2.2.1 pc = .ok (.iinc i n, 3)) (hg : lgt ls i = some (.int x)) (hv : x + Int32.ofInt n = v) (hn : i < mi.2.2.2.1) (hs : sto1 ls i (.int v) = ls') (k : Go l d mi K (pc + 3) ls' (st) S) : Go l d mi K (pc) ls (st) S := by
  intro p e R s m args below meth c cells slots Q g H locs lsA F hr hP hD hS hl
  subst hs
  obtain ⟨q, hq⟩ := lgt_ix g hg
  exact lv_iinc F.1 F.2.1 hd hl hq hv hn (trL_sto1 g ls i (.int v)) (fun lsA hl => k p e R s m args below meth c cells slots Q g H locs lsA F hr hP hD hS hl)
theorem Go.iadd {l : Launch} {d : Nat} {mi : MI} {K : Option Value → St → Prop} {pc : Nat} {ls : List (Nat × Value)} {st : List Value} {S : St} {x y : Int32} (hd : decode mi.2.2.1 pc = .ok (.iadd, 1)) (k : Go l d mi K (pc + 1) ls (.int (x + y) :: st) S) : Go l d mi K (pc) ls (.int y :: .int x :: st) S := by
  intro p e R s m args below meth c cells slots Q g H locs lsA F hr hP hD hS hl
  exact lv_iadd F.1 F.2.1 hd (k p e R s m args below meth c cells slots Q g H locs lsA F hr hP hD hS hl)
theorem Go.isub {l : Launch} {d : Nat} {mi : MI} {K : Option Value → St → Prop} {pc : Nat} {ls : List (Nat × Value)} {st : List Value} {S : St} {x y : Int32} (hd : decode mi.2.2.1 pc = .ok (.isub, 1)) (k : Go l d mi K (pc + 1) ls (.int (x - y) :: st) S) : Go l d mi K (pc) ls (.int y :: .int x :: st) S := by
  intro p e R s m args below meth c cells slots Q g H locs lsA F hr hP hD hS hl
  exact lv_isub F.1 F.2.1 hd (k p e R s m args below meth c cells slots Q g H locs lsA F hr hP hD hS hl)
theorem Go.imul {l : Launch} {d : Nat} {mi : MI} {K : Option Value → St → Prop} {pc : Nat} {ls : List (Nat × Value)} {st : List Value} {S : St} {x y : Int32} (hd : decode mi.2.2.1 pc = .ok (.imul, 1)) (k : Go l d mi K (pc + 1) ls (.int (x * y) :: st) S) : Go l d mi K (pc) ls (.int y :: .int x :: st) S := by
  intro p e R s m args below meth c cells slots Q g H locs lsA F hr hP hD hS hl
  exact lv_imul F.1 F.2.1 hd (k p e R s m args below meth c cells slots Q g H locs lsA F hr hP hD hS hl)
theorem Go.iand {l : Launch} {d : Nat} {mi : MI} {K : Option Value → St → Prop} {pc : Nat} {ls : List (Nat × Value)} {st : List Value} {S : St} {x y : Int32} (hd : decode mi.2.2.1 pc = .ok (.iand, 1)) (k : Go l d mi K (pc + 1) ls (.int (x &&& y) :: st) S) : Go l d mi K (pc) ls (.int y :: .int x :: st) S := by
  intro p e R s m args below meth c cells slots Q g H locs lsA F hr hP hD hS hl
  exact lv_iand F.1 F.2.1 hd (k p e R s m args below meth c cells slots Q g H locs lsA F hr hP hD hS hl)
theorem Go.ior {l : Launch} {d : Nat} {mi : MI} {K : Option Value → St → Prop} {pc : Nat} {ls : List (Nat × Value)} {st : List Value} {S : St} {x y : Int32} (hd : decode mi.2.2.1 pc = .ok (.ior, 1)) (k : Go l d mi K (pc + 1) ls (.int (x ||| y) :: st) S) : Go l d mi K (pc) ls (.int y :: .int x :: st) S := by
  intro p e R s m args below meth c cells slots Q g H locs lsA F hr hP hD hS hl
  exact lv_ior F.1 F.2.1 hd (k p e R s m args below meth c cells slots Q g H locs lsA F hr hP hD hS hl)
theorem Go.ixor {l : Launch} {d : Nat} {mi : MI} {K : Option Value → St → Prop} {pc : Nat} {ls : List (Nat × Value)} {st : List Value} {S : St} {x y : Int32} (hd : decode mi.2.2.1 pc = .ok (.ixor, 1)) (k : Go l d mi K (pc + 1) ls (.int (x ^^^ y) :: st) S) : Go l d mi K (pc) ls (.int y :: .int x :: st) S := by
  intro p e R s m args below meth c cells slots Q g H locs lsA F hr hP hD hS hl
  exact lv_ixor F.1 F.2.1 hd (k p e R s m args below meth c cells slots Q g H locs lsA F hr hP hD hS hl)
theorem Go.ishl {l : Launch} {d : Nat} {mi : MI} {K : Option Value → St → Prop} {pc : Nat} {ls : List (Nat × Value)} {st : List Value} {S : St} {x y : Int32} (hd : decode mi.2.2.1 pc = .ok (.ishl, 1)) (k : Go l d mi K (pc + 1) ls (.int (x <<< (y &&& 31)) :: st) S) : Go l d mi K (pc) ls (.int y :: .int x :: st) S := by
  intro p e R s m args below meth c cells slots Q g H locs lsA F hr hP hD hS hl
  exact lv_ishl F.1 F.2.1 hd (k p e R s m args below meth c cells slots Q g H locs lsA F hr hP hD hS hl)
theorem Go.ishr {l : Launch} {d : Nat} {mi : MI} {K : Option Value → St → Prop} {pc : Nat} {ls : List (Nat × Value)} {st : List Value} {S : St} {x y : Int32} (hd : decode mi.2.2.1 pc = .ok (.ishr, 1)) (k : Go l d mi K (pc + 1) ls (.int (x >>> (y &&& 31)) :: st) S) : Go l d mi K (pc) ls (.int y :: .int x :: st) S := by
  intro p e R s m args below meth c cells slots Q g H locs lsA F hr hP hD hS hl
  exact lv_ishr F.1 F.2.1 hd (k p e R s m args below meth c cells slots Q g H locs lsA F hr hP hD hS hl)
theorem Go.iushr {l : Launch} {d : Nat} {mi : MI} {K : Option Value → St → Prop} {pc : Nat} {ls : List (Nat × Value)} {st : List Value} {S : St} {x y v : Int32} (hd : decode mi.2.2.1 pc = .ok (.iushr, 1)) (hv : (x.toUInt32 >>> (y.toUInt32 &&& Int32.toUInt32 31)).toInt32 = v) (k : Go l d mi K (pc + 1) ls (.int v :: st) S) : Go l d mi K (pc) ls (.int y :: .int x :: st) S := by
  intro p e R s m args below meth c cells slots Q g H locs lsA F hr hP hD hS hl
  exact lv_iushr F.1 F.2.1 hd hv (k p e R s m args below meth c cells slots Q g H locs lsA F hr hP hD hS hl)
theorem Go.idiv {l : Launch} {d : Nat} {mi : MI} {K : Option Value → St → Prop} {pc : Nat} {ls : List (Nat × Value)} {st : List Value} {S : St} {x y : Int32} (hd : decode mi.2.2.1 pc = .ok (.idiv, 1)) (hne : ¬ y = 0) (k : Go l d mi K (pc + 1) ls (.int (x / y) :: st) S) : Go l d mi K (pc) ls (.int y :: .int x :: st) S := by
  intro p e R s m args below meth c cells slots Q g H locs lsA F hr hP hD hS hl
  exact lv_idiv F.1 F.2.1 hd hne (k p e R s m args below meth c cells slots Q g H locs lsA F hr hP hD hS hl)
theorem Go.irem {l : Launch} {d : Nat} {mi : MI} {K : Option Value → St → Prop} {pc : Nat} {ls : List (Nat × Value)} {st : List Value} {S : St} {x y : Int32} (hd : decode mi.2.2.1 pc = .ok (.irem, 1)) (hne : ¬ y = 0) (k : Go l d mi K (pc + 1) ls (.int (x - x / y * y) :: st) S) : Go l d mi K (pc) ls (.int y :: .int x :: st) S := by
  intro p e R s m args below meth c cells slots Q g H locs lsA F hr hP hD hS hl
  exact lv_irem F.1 F.2.1 hd hne (k p e R s m args below meth c cells slots Q g H locs lsA F hr hP hD hS hl)
theorem Go.ineg {l : Launch} {d : Nat} {mi : MI} {K : Option Value → St → Prop} {pc : Nat} {ls : List (Nat × Value)} {st : List Value} {S : St} {x : Int32} (hd : decode mi.2.2.1 pc = .ok (.ineg, 1)) (k : Go l d mi K (pc + 1) ls (.int (-x) :: st) S) : Go l d mi K (pc) ls (.int x :: st) S := by
  intro p e R s m args below meth c cells slots Q g H locs lsA F hr hP hD hS hl
  exact lv_ineg F.1 F.2.1 hd (k p e R s m args below meth c cells slots Q g H locs lsA F hr hP hD hS hl)
theorem Go.ladd {l : Launch} {d : Nat} {mi : MI} {K : Option Value → St → Prop} {pc : Nat} {ls : List (Nat × Value)} {st : List Value} {S : St} {x y : Int64} (hd : decode mi.2.2.1 pc = .ok (.ladd, 1)) (k : Go l d mi K (pc + 1) ls (.long (x + y) :: st) S) : Go l d mi K (pc) ls (.long y :: .long x :: st) S := by
  intro p e R s m args below meth c cells slots Q g H locs lsA F hr hP hD hS hl
  exact lv_ladd F.1 F.2.1 hd (k p e R s m args below meth c cells slots Q g H locs lsA F hr hP hD hS hl)
theorem Go.land {l : Launch} {d : Nat} {mi : MI} {K : Option Value → St → Prop} {pc : Nat} {ls : List (Nat × Value)} {st : List Value} {S : St} {x y : Int64} (hd : decode mi.2.2.1 pc = .ok (.land, 1)) (k : Go l d mi K (pc + 1) ls (.long (x &&& y) :: st) S) : Go l d mi K (pc) ls (.long y :: .long x :: st) S := by
  intro p e R s m args below meth c cells slots Q g H locs lsA F hr hP hD hS hl
  exact lv_land F.1 F.2.1 hd (k p e R s m args below meth c cells slots Q g H locs lsA F hr hP hD hS hl)
theorem Go.lor {l : Launch} {d : Nat} {mi : MI} {K : Option Value → St → Prop} {pc : Nat} {ls : List (Nat × Value)} {st : List Value} {S : St} {x y : Int64} (hd : decode mi.2.2.1 pc = .ok (.lor, 1)) (k : Go l d mi K (pc + 1) ls (.long (x ||| y) :: st) S) : Go l d mi K (pc) ls (.long y :: .long x :: st) S := by
  intro p e R s m args below meth c cells slots Q g H locs lsA F hr hP hD hS hl
  exact lv_lor F.1 F.2.1 hd (k p e R s m args below meth c cells slots Q g H locs lsA F hr hP hD hS hl)
theorem Go.lshl {l : Launch} {d : Nat} {mi : MI} {K : Option Value → St → Prop} {pc : Nat} {ls : List (Nat × Value)} {st : List Value} {S : St} {x v : Int64} {y : Int32} (hd : decode mi.2.2.1 pc = .ok (.lshl, 1)) (hv : x <<< (y.toInt64 &&& 63) = v) (k : Go l d mi K (pc + 1) ls (.long v :: st) S) : Go l d mi K (pc) ls (.int y :: .long x :: st) S := by
  intro p e R s m args below meth c cells slots Q g H locs lsA F hr hP hD hS hl
  exact lv_lshl F.1 F.2.1 hd hv (k p e R s m args below meth c cells slots Q g H locs lsA F hr hP hD hS hl)
theorem Go.i2l {l : Launch} {d : Nat} {mi : MI} {K : Option Value → St → Prop} {pc : Nat} {ls : List (Nat × Value)} {st : List Value} {S : St} {x : Int32} {v : Int64} (hd : decode mi.2.2.1 pc = .ok (.i2l, 1)) (hv : x.toInt64 = v) (k : Go l d mi K (pc + 1) ls (.long v :: st) S) : Go l d mi K (pc) ls (.int x :: st) S := by
  intro p e R s m args below meth c cells slots Q g H locs lsA F hr hP hD hS hl
  exact lv_i2l F.1 F.2.1 hd hv (k p e R s m args below meth c cells slots Q g H locs lsA F hr hP hD hS hl)
theorem Go.l2i {l : Launch} {d : Nat} {mi : MI} {K : Option Value → St → Prop} {pc : Nat} {ls : List (Nat × Value)} {st : List Value} {S : St} {x : Int64} {v : Int32} (hd : decode mi.2.2.1 pc = .ok (.l2i, 1)) (hv : x.toInt32 = v) (k : Go l d mi K (pc + 1) ls (.int v :: st) S) : Go l d mi K (pc) ls (.long x :: st) S := by
  intro p e R s m args below meth c cells slots Q g H locs lsA F hr hP hD hS hl
  exact lv_l2i F.1 F.2.1 hd hv (k p e R s m args below meth c cells slots Q g H locs lsA F hr hP hD hS hl)
theorem Go.i2b {l : Launch} {d : Nat} {mi : MI} {K : Option Value → St → Prop} {pc : Nat} {ls : List (Nat × Value)} {st : List Value} {S : St} {x v : Int32} (hd : decode mi.2.2.1 pc = .ok (.i2b, 1)) (hv : x.toInt8.toInt32 = v) (k : Go l d mi K (pc + 1) ls (.int v :: st) S) : Go l d mi K (pc) ls (.int x :: st) S := by
  intro p e R s m args below meth c cells slots Q g H locs lsA F hr hP hD hS hl
  exact lv_i2b F.1 F.2.1 hd hv (k p e R s m args below meth c cells slots Q g H locs lsA F hr hP hD hS hl)
theorem Go.i2s {l : Launch} {d : Nat} {mi : MI} {K : Option Value → St → Prop} {pc : Nat} {ls : List (Nat × Value)} {st : List Value} {S : St} {x v : Int32} (hd : decode mi.2.2.1 pc = .ok (.i2s, 1)) (hv : x.toInt16.toInt32 = v) (k : Go l d mi K (pc + 1) ls (.int v :: st) S) : Go l d mi K (pc) ls (.int x :: st) S := by
  intro p e R s m args below meth c cells slots Q g H locs lsA F hr hP hD hS hl
  exact lv_i2s F.1 F.2.1 hd hv (k p e R s m args below meth c cells slots Q g H locs lsA F hr hP hD hS hl)
theorem Go.lcmp {l : Launch} {d : Nat} {mi : MI} {K : Option Value → St → Prop} {pc : Nat} {ls : List (Nat × Value)} {st : List Value} {S : St} {x y : Int64} (hd : decode mi.2.2.1 pc = .ok (.lcmp, 1)) (k : Go l d mi K (pc + 1) ls (.int (lg_cmp x y) :: st) S) : Go l d mi K (pc) ls (.long y :: .long x :: st) S := by
  intro p e R s m args below meth c cells slots Q g H locs lsA F hr hP hD hS hl
  exact W.lcmp F.1 F.2.1 hd (k p e R s m args below meth c cells slots Q g H locs lsA F hr hP hD hS hl)
theorem Go.dup {l : Launch} {d : Nat} {mi : MI} {K : Option Value → St → Prop} {pc : Nat} {ls : List (Nat × Value)} {st : List Value} {S : St} {v : Value} (hd : decode mi.2.2.1 pc = .ok (.dup, 1)) (hc : v.category = 1) (k : Go l d mi K (pc + 1) ls (v :: v :: st) S) : Go l d mi K (pc) ls (v :: st) S := by
  intro p e R s m args below meth c cells slots Q g H locs lsA F hr hP hD hS hl
  exact lv_dup F.1 F.2.1 hd ((tr_cat g v).trans hc) (k p e R s m args below meth c cells slots Q g H locs lsA F hr hP hD hS hl)
theorem Go.pop {l : Launch} {d : Nat} {mi : MI} {K : Option Value → St → Prop} {pc : Nat} {ls : List (Nat × Value)} {st : List Value} {S : St} {v : Value} (hd : decode mi.2.2.1 pc = .ok (.pop, 1)) (hc : v.category = 1) (k : Go l d mi K (pc + 1) ls (st) S) : Go l d mi K (pc) ls (v :: st) S := by
  intro p e R s m args below meth c cells slots Q g H locs lsA F hr hP hD hS hl
  exact lv_pop F.1 F.2.1 hd ((tr_cat g v).trans hc) (k p e R s m args below meth c cells slots Q g H locs lsA F hr hP hD hS hl)
theorem Go.dup2 {l : Launch} {d : Nat} {mi : MI} {K : Option Value → St → Prop} {pc : Nat} {ls : List (Nat × Value)} {st : List Value} {S : St} {v w : Value} (hd : decode mi.2.2.1 pc = .ok (.dup2, 1)) (hc : v.category = 1) (hw : w.category = 1) (k : Go l d mi K (pc + 1) ls (v :: w :: v :: w :: st) S) : Go l d mi K (pc) ls (v :: w :: st) S := by
  intro p e R s m args below meth c cells slots Q g H locs lsA F hr hP hD hS hl
  exact lv_dup2_11 F.1 F.2.1 hd ((tr_cat g v).trans hc) ((tr_cat g w).trans hw) (k p e R s m args below meth c cells slots Q g H locs lsA F hr hP hD hS hl)
theorem Go.ifeq {l : Launch} {d : Nat} {mi : MI} {K : Option Value → St → Prop} {pc : Nat} {ls : List (Nat × Value)} {st : List Value} {S : St} {x : Int32} {off : Int} {tgt : Nat} (hd : decode mi.2.2.1 pc = .ok (.ifCond .eq off, 3)) (ht : (pc : Int) + off = (tgt : Int)) (kt : x = 0 → Go l d mi K (tgt) ls (st) S) (kf : ¬ x = 0 → Go l d mi K (pc + 3) ls (st) S) : Go l d mi K (pc) ls (.int x :: st) S := by
  intro p e R s m args below meth c cells slots Q g H locs lsA F hr hP hD hS hl
  exact lv_if_eq F.1 F.2.1 hd ht (fun h => kt h p e R s m args below meth c cells slots Q g H locs lsA F hr hP hD hS hl) (fun h => kf h p e R s m args below meth c cells slots Q g H locs lsA F hr hP hD hS hl)
theorem Go.ifne {l : Launch} {d : Nat} {mi : MI} {K : Option Value → St → Prop} {pc : Nat} {ls : List (Nat × Value)} {st : List Value} {S : St} {x : Int32} {off : Int} {tgt : Nat} (hd : decode mi.2.2.1 pc = .ok (.ifCond .ne off, 3)) (ht : (pc : Int) + off = (tgt : Int)) (kt : ¬ x = 0 → Go l d mi K (tgt) ls (st) S) (kf : x = 0 → Go l d mi K (pc + 3) ls (st) S) : Go l d mi K (pc) ls (.int x :: st) S := by
  intro p e R s m args below meth c cells slots Q g H locs lsA F hr hP hD hS hl
  exact lv_if_ne F.1 F.2.1 hd ht (fun h => kt h p e R s m args below meth c cells slots Q g H locs lsA F hr hP hD hS hl) (fun h => kf h p e R s m args below meth c cells slots Q g H locs lsA F hr hP hD hS hl)
theorem Go.iflt {l : Launch} {d : Nat} {mi : MI} {K : Option Value → St → Prop} {pc : Nat} {ls : List (Nat × Value)} {st : List Value} {S : St} {x : Int32} {off : Int} {tgt : Nat} (hd : decode mi.2.2.1 pc = .ok (.ifCond .lt off, 3)) (ht : (pc : Int) + off = (tgt : Int)) (kt : x < 0 → Go l d mi K (tgt) ls (st) S) (kf : ¬ x < 0 → Go l d mi K (pc + 3) ls (st) S) : Go l d mi K (pc) ls (.int x :: st) S := by
  intro p e R s m args below meth c cells slots Q g H locs lsA F hr hP hD hS hl
  exact lv_if_lt F.1 F.2.1 hd ht (fun h => kt h p e R s m args below meth c cells slots Q g H locs lsA F hr hP hD hS hl) (fun h => kf h p e R s m args below meth c cells slots Q g H locs lsA F hr hP hD hS hl)
theorem Go.ifge {l : Launch} {d : Nat} {mi : MI} {K : Option Value → St → Prop} {pc : Nat} {ls : List (Nat × Value)} {st : List Value} {S : St} {x : Int32} {off : Int} {tgt : Nat} (hd : decode mi.2.2.1 pc = .ok (.ifCond .ge off, 3)) (ht : (pc : Int) + off = (tgt : Int)) (kt : 0 ≤ x → Go l d mi K (tgt) ls (st) S) (kf : ¬ 0 ≤ x → Go l d mi K (pc + 3) ls (st) S) : Go l d mi K (pc) ls (.int x :: st) S := by
  intro p e R s m args below meth c cells slots Q g H locs lsA F hr hP hD hS hl
  exact lv_if_ge F.1 F.2.1 hd ht (fun h => kt h p e R s m args below meth c cells slots Q g H locs lsA F hr hP hD hS hl) (fun h => kf h p e R s m args below meth c cells slots Q g H locs lsA F hr hP hD hS hl)
theorem Go.ifgt {l : Launch} {d : Nat} {mi : MI} {K : Option Value → St → Prop} {pc : Nat} {ls : List (Nat × Value)} {st : List Value} {S : St} {x : Int32} {off : Int} {tgt : Nat} (hd : decode mi.2.2.1 pc = .ok (.ifCond .gt off, 3)) (ht : (pc : Int) + off = (tgt : Int)) (kt : 0 < x → Go l d mi K (tgt) ls (st) S) (kf : ¬ 0 < x → Go l d mi K (pc + 3) ls (st) S) : Go l d mi K (pc) ls (.int x :: st) S := by
  intro p e R s m args below meth c cells slots Q g H locs lsA F hr hP hD hS hl
  exact lv_if_gt F.1 F.2.1 hd ht (fun h => kt h p e R s m args below meth c cells slots Q g H locs lsA F hr hP hD hS hl) (fun h => kf h p e R s m args below meth c cells slots Q g H locs lsA F hr hP hD hS hl)
theorem Go.ifle {l : Launch} {d : Nat} {mi : MI} {K : Option Value → St → Prop} {pc : Nat} {ls : List (Nat × Value)} {st : List Value} {S : St} {x : Int32} {off : Int} {tgt : Nat} (hd : decode mi.2.2.1 pc = .ok (.ifCond .le off, 3)) (ht : (pc : Int) + off = (tgt : Int)) (kt : x ≤ 0 → Go l d mi K (tgt) ls (st) S) (kf : ¬ x ≤ 0 → Go l d mi K (pc + 3) ls (st) S) : Go l d mi K (pc) ls (.int x :: st) S := by
  intro p e R s m args below meth c cells slots Q g H locs lsA F hr hP hD hS hl
  exact lv_if_le F.1 F.2.1 hd ht (fun h => kt h p e R s m args below meth c cells slots Q g H locs lsA F hr hP hD hS hl) (fun h => kf h p e R s m args below meth c cells slots Q g H locs lsA F hr hP hD hS hl)
theorem Go.icmpeq {l : Launch} {d : Nat} {mi : MI} {K : Option Value → St → Prop} {pc : Nat} {ls : List (Nat × Value)} {st : List Value} {S : St} {x y : Int32} {off : Int} {tgt : Nat} (hd : decode mi.2.2.1 pc = .ok (.if_icmp .eq off, 3)) (ht : (pc : Int) + off = (tgt : Int)) (kt : x = y → Go l d mi K (tgt) ls (st) S) (kf : ¬ x = y → Go l d mi K (pc + 3) ls (st) S) : Go l d mi K (pc) ls (.int y :: .int x :: st) S := by
  intro p e R s m args below meth c cells slots Q g H locs lsA F hr hP hD hS hl
  exact lv_icmp_eq F.1 F.2.1 hd ht (fun h => kt h p e R s m args below meth c cells slots Q g H locs lsA F hr hP hD hS hl) (fun h => kf h p e R s m args below meth c cells slots Q g H locs lsA F hr hP hD hS hl)
theorem Go.icmpne {l : Launch} {d : Nat} {mi : MI} {K : Option Value → St → Prop} {pc : Nat} {ls : List (Nat × Value)} {st : List Value} {S : St} {x y : Int32} {off : Int} {tgt : Nat} (hd : decode mi.2.2.1 pc = .ok (.if_icmp .ne off, 3)) (ht : (pc : Int) + off = (tgt : Int)) (kt : ¬ x = y → Go l d mi K (tgt) ls (st) S) (kf : x = y → Go l d mi K (pc + 3) ls (st) S) : Go l d mi K (pc) ls (.int y :: .int x :: st) S := by
  intro p e R s m args below meth c cells slots Q g H locs lsA F hr hP hD hS hl
  exact lv_icmp_ne F.1 F.2.1 hd ht (fun h => kt h p e R s m args below meth c cells slots Q g H locs lsA F hr hP hD hS hl) (fun h => kf h p e R s m args below meth c cells slots Q g H locs lsA F hr hP hD hS hl)
theorem Go.icmplt {l : Launch} {d : Nat} {mi : MI} {K : Option Value → St → Prop} {pc : Nat} {ls : List (Nat × Value)} {st : List Value} {S : St} {x y : Int32} {off : Int} {tgt : Nat} (hd : decode mi.2.2.1 pc = .ok (.if_icmp .lt off, 3)) (ht : (pc : Int) + off = (tgt : Int)) (kt : x < y → Go l d mi K (tgt) ls (st) S) (kf : ¬ x < y → Go l d mi K (pc + 3) ls (st) S) : Go l d mi K (pc) ls (.int y :: .int x :: st) S := by
  intro p e R s m args below meth c cells slots Q g H locs lsA F hr hP hD hS hl
  exact lv_icmp_lt F.1 F.2.1 hd ht (fun h => kt h p e R s m args below meth c cells slots Q g H locs lsA F hr hP hD hS hl) (fun h => kf h p e R s m args below meth c cells slots Q g H locs lsA F hr hP hD hS hl)
theorem Go.icmpge {l : Launch} {d : Nat} {mi : MI} {K : Option Value → St → Prop} {pc : Nat} {ls : List (Nat × Value)} {st : List Value} {S : St} {x y : Int32} {off : Int} {tgt : Nat} (hd : decode mi.2.2.1 pc = .ok (.if_icmp .ge off, 3)) (ht : (pc : Int) + off = (tgt : Int)) (kt : y ≤ x → Go l d mi K (tgt) ls (st) S) (kf : ¬ y ≤ x → Go l d mi K (pc + 3) ls (st) S) : Go l d mi K (pc) ls (.int y :: .int x :: st) S := by
  intro p e R s m args below meth c cells slots Q g H locs lsA F hr hP hD hS hl
  exact lv_icmp_ge F.1 F.2.1 hd ht (fun h => kt h p e R s m args below meth c cells slots Q g H locs lsA F hr hP hD hS hl) (fun h => kf h p e R s m args below meth c cells slots Q g H locs lsA F hr hP hD hS hl)
theorem Go.icmpgt {l : Launch} {d : Nat} {mi : MI} {K : Option Value → St → Prop} {pc : Nat} {ls : List (Nat × Value)} {st : List Value} {S : St} {x y : Int32} {off : Int} {tgt : Nat} (hd : decode mi.2.2.1 pc = .ok (.if_icmp .gt off, 3)) (ht : (pc : Int) + off = (tgt : Int)) (kt : y < x → Go l d mi K (tgt) ls (st) S) (kf : ¬ y < x → Go l d mi K (pc + 3) ls (st) S) : Go l d mi K (pc) ls (.int y :: .int x :: st) S := by
  intro p e R s m args below meth c cells slots Q g H locs lsA F hr hP hD hS hl
  exact lv_icmp_gt F.1 F.2.1 hd ht (fun h => kt h p e R s m args below meth c cells slots Q g H locs lsA F hr hP hD hS hl) (fun h => kf h p e R s m args below meth c cells slots Q g H locs lsA F hr hP hD hS hl)
theorem Go.icmple {l : Launch} {d : Nat} {mi : MI} {K : Option Value → St → Prop} {pc : Nat} {ls : List (Nat × Value)} {st : List Value} {S : St} {x y : Int32} {off : Int} {tgt : Nat} (hd : decode mi.2.2.1 pc = .ok (.if_icmp .le off, 3)) (ht : (pc : Int) + off = (tgt : Int)) (kt : x ≤ y → Go l d mi K (tgt) ls (st) S) (kf : ¬ x ≤ y → Go l d mi K (pc + 3) ls (st) S) : Go l d mi K (pc) ls (.int y :: .int x :: st) S := by
  intro p e R s m args below meth c cells slots Q g H locs lsA F hr hP hD hS hl
  exact lv_icmp_le F.1 F.2.1 hd ht (fun h => kt h p e R s m args below meth c cells slots Q g H locs lsA F hr hP hD hS hl) (fun h => kf h p e R s m args below meth c cells slots Q g H locs lsA F hr hP hD hS hl)
theorem Go.goto {l : Launch} {d : Nat} {mi : MI} {K : Option Value → St → Prop} {pc : Nat} {ls : List (Nat × Value)} {st : List Value} {S : St} {off : Int} {tgt : Nat} (hd : decode mi.2.2.1 pc = .ok (.goto off, 3)) (ht : (pc : Int) + off = (tgt : Int)) (k : Go l d mi K (tgt) ls (st) S) : Go l d mi K (pc) ls (st) S := by
  intro p e R s m args below meth c cells slots Q g H locs lsA F hr hP hD hS hl
  exact lv_goto F.1 F.2.1 hd ht (k p e R s m args below meth c cells slots Q g H locs lsA F hr hP hD hS hl)
theorem Go.lookup {l : Launch} {d : Nat} {mi : MI} {K : Option Value → St → Prop} {pc : Nat} {ls : List (Nat × Value)} {st : List Value} {S : St} {dflt off : Int} {ps : Array (Int × Int)} {len tgt : Nat} {x : Int32} (hd : decode mi.2.2.1 pc = .ok (.lookupswitch dflt ps, len)) (hp : (ps.toList.zip (ps.toList.drop 1)).all (fun (a, next) => a.1 < next.1) = true) (ho : Op.lookupswitch.offset ps.toList dflt x.toInt = off) (ht : (pc : Int) + off = (tgt : Int)) (k : Go l d mi K (tgt) ls (st) S) : Go l d mi K (pc) ls (.int x :: st) S := by
  intro p e R s m args below meth c cells slots Q g H locs lsA F hr hP hD hS hl
  exact lv_lookup F.1 F.2.1 hd hp ho ht (k p e R s m args below meth c cells slots Q g H locs lsA F hr hP hD hS hl)
theorem Go.tabOut {l : Launch} {d : Nat} {mi : MI} {K : Option Value → St → Prop} {pc : Nat} {ls : List (Nat × Value)} {st : List Value} {S : St} {dflt lo hi : Int} {offs : Array Int} {len tgt : Nat} {x : Int32} (hd : decode mi.2.2.1 pc = .ok (.tableswitch dflt lo hi offs, len)) (h : x.toInt < lo ∨ hi < x.toInt) (ht : (pc : Int) + dflt = (tgt : Int)) (k : Go l d mi K (tgt) ls (st) S) : Go l d mi K (pc) ls (.int x :: st) S := by
  intro p e R s m args below meth c cells slots Q g H locs lsA F hr hP hD hS hl
  exact lv_tableOut F.1 F.2.1 hd h ht (k p e R s m args below meth c cells slots Q g H locs lsA F hr hP hD hS hl)
theorem Go.tabIn {l : Launch} {d : Nat} {mi : MI} {K : Option Value → St → Prop} {pc : Nat} {ls : List (Nat × Value)} {st : List Value} {S : St} {dflt lo hi off : Int} {offs : Array Int} {len tgt : Nat} {x : Int32} (hd : decode mi.2.2.1 pc = .ok (.tableswitch dflt lo hi offs, len)) (h1 : ¬ x.toInt < lo) (h2 : ¬ hi < x.toInt) (ho : offs[(x.toInt - lo).toNat]? = some off) (ht : (pc : Int) + off = (tgt : Int)) (k : Go l d mi K (tgt) ls (st) S) : Go l d mi K (pc) ls (.int x :: st) S := by
  intro p e R s m args below meth c cells slots Q g H locs lsA F hr hP hD hS hl
  exact lv_tableIn F.1 F.2.1 hd h1 h2 ho ht (k p e R s m args below meth c cells slots Q g H locs lsA F hr hP hD hS hl)
theorem Go.ldc {l : Launch} {d : Nat} {mi : MI} {K : Option Value → St → Prop} {pc : Nat} {ls : List (Nat × Value)} {st : List Value} {S : St} {idx : Nat} {v : Int32} (hd : decode mi.2.2.1 pc = .ok (.ldc idx, 2)) (hw : Cond.constant mi.1 idx v ∈ gTs) (k : Go l d mi K (pc + 2) ls (.int v :: st) S) : Go l d mi K (pc) ls (st) S := by
  intro p e R s m args below meth c cells slots Q g H locs lsA F hr hP hD hS hl
  exact lv_ldc F.1 F.2.1 F.2.2.2.1 (F.2.2.2.2.1 _ hw) hd (k p e R s m args below meth c cells slots Q g H locs lsA F hr hP hD hS hl)
theorem Go.ldc_w {l : Launch} {d : Nat} {mi : MI} {K : Option Value → St → Prop} {pc : Nat} {ls : List (Nat × Value)} {st : List Value} {S : St} {idx : Nat} {v : Int32} (hd : decode mi.2.2.1 pc = .ok (.ldc_w idx, 3)) (hw : Cond.constant mi.1 idx v ∈ gTs) (k : Go l d mi K (pc + 3) ls (.int v :: st) S) : Go l d mi K (pc) ls (st) S := by
  intro p e R s m args below meth c cells slots Q g H locs lsA F hr hP hD hS hl
  exact lv_ldcw F.1 F.2.1 F.2.2.2.1 (F.2.2.2.2.1 _ hw) hd (k p e R s m args below meth c cells slots Q g H locs lsA F hr hP hD hS hl)
theorem Go.ldc2_w {l : Launch} {d : Nat} {mi : MI} {K : Option Value → St → Prop} {pc : Nat} {ls : List (Nat × Value)} {st : List Value} {S : St} {idx : Nat} {v : Int64} (hd : decode mi.2.2.1 pc = .ok (.ldc2_w idx, 3)) (hw : Cond.constantLong mi.1 idx v ∈ gTs) (k : Go l d mi K (pc + 3) ls (.long v :: st) S) : Go l d mi K (pc) ls (st) S := by
  intro p e R s m args below meth c cells slots Q g H locs lsA F hr hP hD hS hl
  exact lv_ldc2 F.1 F.2.1 F.2.2.2.1 (F.2.2.2.2.1 _ hw) hd (k p e R s m args below meth c cells slots Q g H locs lsA F hr hP hD hS hl)
theorem Go.iret {l : Launch} {d : Nat} {mi : MI} {K : Option Value → St → Prop} {pc : Nat} {ls : List (Nat × Value)} {st : List Value} {S : St} {x : Int32} {ty : FieldType} (hd : decode mi.2.2.1 pc = .ok (.ireturn, 1)) (hr : mi.2.2.2.2 = some ty) (hn : narrow ty (.int x) = .int x) (hK : K (some (.int x)) S) : Go l d mi K (pc) ls ([.int x]) S := by
  intro p e R s m args below meth c cells slots Q g H locs lsA F hr' hP hD hS hl
  exact hr' pc lsA (some (.int x)) S H locs (Or.inl ⟨x, ty, rfl, hd, hr, hn⟩) hK hP hS
theorem Go.lret {l : Launch} {d : Nat} {mi : MI} {K : Option Value → St → Prop} {pc : Nat} {ls : List (Nat × Value)} {st : List Value} {S : St} {x : Int64} (hd : decode mi.2.2.1 pc = .ok (.lreturn, 1)) (hr : mi.2.2.2.2 = some .long) (hK : K (some (.long x)) S) : Go l d mi K (pc) ls ([.long x]) S := by
  intro p e R s m args below meth c cells slots Q g H locs lsA F hr' hP hD hS hl
  exact hr' pc lsA (some (.long x)) S H locs (Or.inr (Or.inl ⟨x, rfl, hd, hr⟩)) hK hP hS
theorem Go.vret {l : Launch} {d : Nat} {mi : MI} {K : Option Value → St → Prop} {pc : Nat} {ls : List (Nat × Value)} {st : List Value} {S : St} (hd : decode mi.2.2.1 pc = .ok (.return_, 1)) (hr : mi.2.2.2.2 = none) (hK : K none S) : Go l d mi K (pc) ls ([]) S := by
  intro p e R s m args below meth c cells slots Q g H locs lsA F hr' hP hD hS hl
  exact hr' pc lsA none S H locs (Or.inr (Or.inr ⟨rfl, hd, hr⟩)) hK hP hS
/-- what the tables say of a field under a pool number -/
def FL (own : String) (idx ci j : Nat) (fin : Bool) (ty : FieldType) : Prop := ∃ (C : String) (T : u_T) (N : Nat) (ty0 : Nat → FieldType), vwCl[ci]? = some (C, T, N) ∧ j < N ∧ Cond.fieldLink own idx (T j).1 (T j).2.1 (T j).2.2.1 ∈ gTs ∧ (∀ w ∈ u_ws C T N, w ∈ gTs) ∧ (∀ k, k < N → parseFieldDescriptor (T k).2.2.1 = some (ty0 k)) ∧ (∀ a, a < N → ∀ b, b < N → a ≠ b → (T a).2.1 ≠ (T b).2.1) ∧ (T j).2.2.2 = fin ∧ parseFieldDescriptor (T j).2.2.1 = some ty
theorem Go.getR {l : Launch} {d : Nat} {mi : MI} {K : Option Value → St → Prop} {pc : Nat} {ls : List (Nat × Value)} {st : List Value} {S : St} {idx ci j k q : Nat} {fin : Bool} {ty : FieldType} (hd : decode mi.2.2.1 pc = .ok (.getfield idx, 3)) (hf : FL mi.1 idx ci j fin ty) (hs : slR k j = some (ci, some q)) (kk : Go l d mi K (pc + 3) ls (.ref q :: st) S) : Go l d mi K (pc) ls (.ref k :: st) S := by
  intro p e R s m args below meth c cells slots Q g H locs lsA F hr hP hD hS hl
  obtain ⟨C, T, N, ty0, h1, h2, h3, h4, h5, h6, h7, h8⟩ := hf
  obtain ⟨fs, e1, e2, e3, e4⟩ := slR_cell (g := g) (S := S) hs
  exact va_get F.1 F.2.1 F.2.2.2.2.1 h4 F.2.2.2.1 F.2.2.2.2.2.1 hP k (by rw [Wd_at (slR_lt hs), e1]) h1 j h2 (F.2.2.2.2.1 _ h3) (fun _ h9 => h9) e2 hd (kk p e R s m args below meth c cells slots Q g H locs lsA F hr hP hD hS hl)
theorem Go.getI {l : Launch} {d : Nat} {mi : MI} {K : Option Value → St → Prop} {pc : Nat} {ls : List (Nat × Value)} {st : List Value} {S : St} {idx ci j k : Nat} {fin : Bool} {ty : FieldType} (hd : decode mi.2.2.1 pc = .ok (.getfield idx, 3)) (hf : FL mi.1 idx ci j fin ty) (hs : slR k j = some (ci, none)) (kk : Go l d mi K (pc + 3) ls (.int (S.1 k j) :: st) S) : Go l d mi K (pc) ls (.ref k :: st) S := by
  intro p e R s m args below meth c cells slots Q g H locs lsA F hr hP hD hS hl
  obtain ⟨C, T, N, ty0, h1, h2, h3, h4, h5, h6, h7, h8⟩ := hf
  obtain ⟨fs, e1, e2, e3, e4⟩ := slR_cell (g := g) (S := S) hs
  exact va_get F.1 F.2.1 F.2.2.2.2.1 h4 F.2.2.2.1 F.2.2.2.2.2.1 hP k (by rw [Wd_at (slR_lt hs), e1]) h1 j h2 (F.2.2.2.2.1 _ h3) (fun _ h9 => h9) e2 hd (kk p e R s m args below meth c cells slots Q g H locs lsA F hr hP hD hS hl)
theorem Go.putG {l : Launch} {d : Nat} {mi : MI} {K : Option Value → St → Prop} {pc : Nat} {ls : List (Nat × Value)} {st : List Value} {S : St} {idx ci j k : Nat} {x : Int32} {ty : FieldType} (hd : decode mi.2.2.1 pc = .ok (.putfield idx, 3)) (hf : FL mi.1 idx ci j false ty) (hs : slR k j = some (ci, none)) (hn : narrow ty (.int x) = .int x) (hfit : fits ty (.int x) = true) (kk : Go l d mi K (pc + 3) ls (st) (fset S k j x)) : Go l d mi K (pc) ls (.int x :: .ref k :: st) S := by
  intro p e R s m args below meth c cells slots Q g H locs lsA F hr hP hD hS hl
  obtain ⟨C, T, N, ty0, h1, h2, h3, h4, h5, h6, h7, h8⟩ := hf
  obtain ⟨fs, e1, e2, e3, e4⟩ := slR_cell (g := g) (S := S) hs
  refine va_put F.1 F.2.1 F.2.2.2.2.1 h4 ty0 h5 h6 F.2.2.2.1 F.2.2.2.2.2.1 hP hD hS k (by rw [Wd_at (slR_lt hs), e1]) h1 j h2 (F.2.2.2.2.1 _ h3) (fun _ h9 => h9) h7 h8 hn hfit e3 hd (fun H locs hP1 hD1 hS => ?_)
  have hw : (Wd g S).set k (g_ad g k, .inr (ci, fs.set j (.int x))) = Wd g (fset S k j x) := by
    rw [← e4 rfl x]; exact Wd_set (slR_lt hs) (fun q hq => fset_ne hq)
  have hP2 : va_P (g_D g) vwCl (Wd g (fset S k j x)) H := hw ▸ hP1
  exact kk p e R s m args below meth c cells slots Q g H locs lsA F hr hP2 (Wd_D hD) hS hl
theorem Go.putI {l : Launch} {d : Nat} {mi : MI} {K : Option Value → St → Prop} {pc : Nat} {ls : List (Nat × Value)} {st : List Value} {S : St} {idx ci j k : Nat} {x : Int32} (hd : decode mi.2.2.1 pc = .ok (.putfield idx, 3)) (hf : FL mi.1 idx ci j false .int) (hs : slR k j = some (ci, none)) (kk : Go l d mi K (pc + 3) ls (st) (fset S k j x)) : Go l d mi K (pc) ls (.int x :: .ref k :: st) S := Go.putG hd hf hs rfl rfl kk
theorem Go.iald {l : Launch} {d : Nat} {mi : MI} {K : Option Value → St → Prop} {pc : Nat} {ls : List (Nat × Value)} {st : List Value} {S : St} {k n : Nat} {i : Int32} (hd : decode mi.2.2.1 pc = .ok (.iaload, 1)) (ha : arK k = some (0, n)) (hin : vp_in i n) (kk : Go l d mi K (pc + 1) ls (.int (S.2.1 k i.toNatClampNeg) :: st) S) : Go l d mi K (pc) ls (.int i :: .ref k :: st) S := by
  intro p e R s m args below meth c cells slots Q g H locs lsA F hr hP hD hS hl
  exact va_iald F.1 F.2.1 F.2.2.2.2.2.1 hP k 0 (by rw [Wd_at (arK_lt ha (by decide)), arK_int ha (by decide)]) rfl hin hd (kk p e R s m args below meth c cells slots Q g H locs lsA F hr hP hD hS hl)
theorem Go.bald {l : Launch} {d : Nat} {mi : MI} {K : Option Value → St → Prop} {pc : Nat} {ls : List (Nat × Value)} {st : List Value} {S : St} {k n : Nat} {i : Int32} (hd : decode mi.2.2.1 pc = .ok (.baload, 1)) (ha : arK k = some (1, n)) (hin : vp_in i n) (kk : Go l d mi K (pc + 1) ls (.int (S.2.1 k i.toNatClampNeg) :: st) S) : Go l d mi K (pc) ls (.int i :: .ref k :: st) S := by
  intro p e R s m args below meth c cells slots Q g H locs lsA F hr hP hD hS hl
  exact va_bald F.1 F.2.1 F.2.2.2.2.2.1 hP k 1 (by rw [Wd_at (arK_lt ha (by decide)), arK_int ha (by decide)]) rfl hin hd (kk p e R s m args below meth c cells slots Q g H locs lsA F hr hP hD hS hl)
theorem Go.sald {l : Launch} {d : Nat} {mi : MI} {K : Option Value → St → Prop} {pc : Nat} {ls : List (Nat × Value)} {st : List Value} {S : St} {k n : Nat} {i : Int32} (hd : decode mi.2.2.1 pc = .ok (.saload, 1)) (ha : arK k = some (2, n)) (hin : vp_in i n) (kk : Go l d mi K (pc + 1) ls (.int (S.2.1 k i.toNatClampNeg) :: st) S) : Go l d mi K (pc) ls (.int i :: .ref k :: st) S := by
  intro p e R s m args below meth c cells slots Q g H locs lsA F hr hP hD hS hl
  exact va_sald F.1 F.2.1 F.2.2.2.2.2.1 hP k 2 (by rw [Wd_at (arK_lt ha (by decide)), arK_int ha (by decide)]) rfl hin hd (kk p e R s m args below meth c cells slots Q g H locs lsA F hr hP hD hS hl)
theorem Go.zald {l : Launch} {d : Nat} {mi : MI} {K : Option Value → St → Prop} {pc : Nat} {ls : List (Nat × Value)} {st : List Value} {S : St} {k n : Nat} {i : Int32} (hd : decode mi.2.2.1 pc = .ok (.baload, 1)) (ha : arK k = some (3, n)) (hin : vp_in i n) (kk : Go l d mi K (pc + 1) ls (.int (S.2.1 k i.toNatClampNeg) :: st) S) : Go l d mi K (pc) ls (.int i :: .ref k :: st) S := by
  intro p e R s m args below meth c cells slots Q g H locs lsA F hr hP hD hS hl
  exact va_zald F.1 F.2.1 F.2.2.2.2.2.1 hP k 3 (by rw [Wd_at (arK_lt ha (by decide)), arK_int ha (by decide)]) rfl hin hd (kk p e R s m args below meth c cells slots Q g H locs lsA F hr hP hD hS hl)
theorem Go.lald {l : Launch} {d : Nat} {mi : MI} {K : Option Value → St → Prop} {pc : Nat} {ls : List (Nat × Value)} {st : List Value} {S : St} {k n : Nat} {i : Int32} (hd : decode mi.2.2.1 pc = .ok (.laload, 1)) (ha : arK k = some (4, n)) (hin : vp_in i n) (kk : Go l d mi K (pc + 1) ls (.long (S.2.2 k i.toNatClampNeg) :: st) S) : Go l d mi K (pc) ls (.int i :: .ref k :: st) S := by
  intro p e R s m args below meth c cells slots Q g H locs lsA F hr hP hD hS hl
  exact va_lald F.1 F.2.1 F.2.2.2.2.2.1 hP k 4 (by rw [Wd_at (arK_lt ha (by decide)), arK_long ha]) rfl hin hd (kk p e R s m args below meth c cells slots Q g H locs lsA F hr hP hD hS hl)
theorem Go.aald {l : Launch} {d : Nat} {mi : MI} {K : Option Value → St → Prop} {pc : Nat} {ls : List (Nat × Value)} {st : List Value} {S : St} {k n : Nat} {i : Int32} (hd : decode mi.2.2.1 pc = .ok (.aaload, 1)) (ha : arK k = some (5, n)) (hin : vp_in i n) (kk : Go l d mi K (pc + 1) ls (.ref (14 + i.toNatClampNeg) :: st) S) : Go l d mi K (pc) ls (.int i :: .ref k :: st) S := by
  intro p e R s m args below meth c cells slots Q g H locs lsA F hr hP hD hS hl
  exact va_aldq (f := fun i => some (g_ad g (14 + i))) F.1 F.2.1 F.2.2.2.2.2.1 hP k 5 (by rw [Wd_at (arK_lt ha (by decide)), arK_ref ha]) rfl hin hd (kk p e R s m args below meth c cells slots Q g H locs lsA F hr hP hD hS hl)
theorem Go.alen {l : Launch} {d : Nat} {mi : MI} {K : Option Value → St → Prop} {pc : Nat} {ls : List (Nat × Value)} {st : List Value} {S : St} {k kd n : Nat} {v : Int32} (hd : decode mi.2.2.1 pc = .ok (.arraylength, 1)) (ha : arK k = some (kd, n)) (hk : kd ≤ 3) (hv : Int32.ofNat n = v) (kk : Go l d mi K (pc + 1) ls (.int v :: st) S) : Go l d mi K (pc) ls (.ref k :: st) S := by
  intro p e R s m args below meth c cells slots Q g H locs lsA F hr hP hD hS hl
  have ht : ∃ ty, (gtys g)[kd]? = some (g_id g kd, ty) := by
    rcases (show kd = 0 ∨ kd = 1 ∨ kd = 2 ∨ kd = 3 by omega) with rfl | rfl | rfl | rfl <;> exact ⟨_, rfl⟩
  obtain ⟨ty, ht⟩ := ht
  exact va_alen F.1 F.2.1 F.2.2.2.2.2.1 hP k kd (by rw [Wd_at (arK_lt ha (by omega)), arK_int ha hk]) ht hv hd (kk p e R s m args below meth c cells slots Q g H locs lsA F hr hP hD hS hl)
theorem Go.alenL {l : Launch} {d : Nat} {mi : MI} {K : Option Value → St → Prop} {pc : Nat} {ls : List (Nat × Value)} {st : List Value} {S : St} {k n : Nat} {v : Int32} (hd : decode mi.2.2.1 pc = .ok (.arraylength, 1)) (ha : arK k = some (4, n)) (hv : Int32.ofNat n = v) (kk : Go l d mi K (pc + 1) ls (.int v :: st) S) : Go l d mi K (pc) ls (.ref k :: st) S := by
  intro p e R s m args below meth c cells slots Q g H locs lsA F hr hP hD hS hl
  exact va_alen F.1 F.2.1 F.2.2.2.2.2.1 hP k 4 (by rw [Wd_at (arK_lt ha (by omega)), arK_long ha]) rfl hv hd (kk p e R s m args below meth c cells slots Q g H locs lsA F hr hP hD hS hl)
theorem Go.iast {l : Launch} {d : Nat} {mi : MI} {K : Option Value → St → Prop} {pc : Nat} {ls : List (Nat × Value)} {st : List Value} {S : St} {k n : Nat} {i x : Int32} (hd : decode mi.2.2.1 pc = .ok (.iastore, 1)) (ha : arK k = some (0, n)) (hin : vp_in i n) (kk : Go l d mi K (pc + 1) ls (st) (aset S k (upd (S.2.1 k) i.toNatClampNeg (x)))) : Go l d mi K (pc) ls (.int x :: .int i :: .ref k :: st) S := by
  intro p e R s m args below meth c cells slots Q g H locs lsA F hr hP hD hS hl
  refine va_iast F.1 F.2.1 F.2.2.2.2.2.1 hP hD hS k 0 (by rw [Wd_at (arK_lt ha (by decide)), arK_int ha (by decide)]) rfl hin hd (fun H locs hP1 hD1 hS => ?_)
  have hw : (Wd g S).set k (g_ad g k, .inl (g_id g 0, n, .inl (upd (S.2.1 k) i.toNatClampNeg (x)))) = Wd g (aset S k (upd (S.2.1 k) i.toNatClampNeg (x))) := by
    rw [← aset_at (S := S) ha (by decide)]; exact Wd_set (arK_lt ha (by decide)) (fun q hq => aset_ne hq)
  have hP2 : va_P (g_D g) vwCl (Wd g (aset S k (upd (S.2.1 k) i.toNatClampNeg (x)))) H := hw ▸ hP1
  exact kk p e R s m args below meth c cells slots Q g H locs lsA F hr hP2 (Wd_D hD) hS hl
theorem Go.bast {l : Launch} {d : Nat} {mi : MI} {K : Option Value → St → Prop} {pc : Nat} {ls : List (Nat × Value)} {st : List Value} {S : St} {k n : Nat} {i x : Int32} (hd : decode mi.2.2.1 pc = .ok (.bastore, 1)) (ha : arK k = some (1, n)) (hin : vp_in i n) (kk : Go l d mi K (pc + 1) ls (st) (aset S k (upd (S.2.1 k) i.toNatClampNeg (vp_nar .byte x)))) : Go l d mi K (pc) ls (.int x :: .int i :: .ref k :: st) S := by
  intro p e R s m args below meth c cells slots Q g H locs lsA F hr hP hD hS hl
  refine va_bast F.1 F.2.1 F.2.2.2.2.2.1 hP hD hS k 1 (by rw [Wd_at (arK_lt ha (by decide)), arK_int ha (by decide)]) rfl hin hd (fun H locs hP1 hD1 hS => ?_)
  have hw : (Wd g S).set k (g_ad g k, .inl (g_id g 1, n, .inl (upd (S.2.1 k) i.toNatClampNeg (vp_nar .byte x)))) = Wd g (aset S k (upd (S.2.1 k) i.toNatClampNeg (vp_nar .byte x))) := by
    rw [← aset_at (S := S) ha (by decide)]; exact Wd_set (arK_lt ha (by decide)) (fun q hq => aset_ne hq)
  have hP2 : va_P (g_D g) vwCl (Wd g (aset S k (upd (S.2.1 k) i.toNatClampNeg (vp_nar .byte x)))) H := hw ▸ hP1
  exact kk p e R s m args below meth c cells slots Q g H locs lsA F hr hP2 (Wd_D hD) hS hl
theorem Go.sast {l : Launch} {d : Nat} {mi : MI} {K : Option Value → St → Prop} {pc : Nat} {ls : List (Nat × Value)} {st : List Value} {S : St} {k n : Nat} {i x : Int32} (hd : decode mi.2.2.1 pc = .ok (.sastore, 1)) (ha : arK k = some (2, n)) (hin : vp_in i n) (kk : Go l d mi K (pc + 1) ls (st) (aset S k (upd (S.2.1 k) i.toNatClampNeg (vp_nar .short x)))) : Go l d mi K (pc) ls (.int x :: .int i :: .ref k :: st) S := by
  intro p e R s m args below meth c cells slots Q g H locs lsA F hr hP hD hS hl
  refine va_sast F.1 F.2.1 F.2.2.2.2.2.1 hP hD hS k 2 (by rw [Wd_at (arK_lt ha (by decide)), arK_int ha (by decide)]) rfl hin hd (fun H locs hP1 hD1 hS => ?_)
  have hw : (Wd g S).set k (g_ad g k, .inl (g_id g 2, n, .inl (upd (S.2.1 k) i.toNatClampNeg (vp_nar .short x)))) = Wd g (aset S k (upd (S.2.1 k) i.toNatClampNeg (vp_nar .short x))) := by
    rw [← aset_at (S := S) ha (by decide)]; exact Wd_set (arK_lt ha (by decide)) (fun q hq => aset_ne hq)
  have hP2 : va_P (g_D g) vwCl (Wd g (aset S k (upd (S.2.1 k) i.toNatClampNeg (vp_nar .short x)))) H := hw ▸ hP1
  exact kk p e R s m args below meth c cells slots Q g H locs lsA F hr hP2 (Wd_D hD) hS hl
theorem Go.zast {l : Launch} {d : Nat} {mi : MI} {K : Option Value → St → Prop} {pc : Nat} {ls : List (Nat × Value)} {st : List Value} {S : St} {k n : Nat} {i x : Int32} (hd : decode mi.2.2.1 pc = .ok (.bastore, 1)) (ha : arK k = some (3, n)) (hin : vp_in i n) (kk : Go l d mi K (pc + 1) ls (st) (aset S k (upd (S.2.1 k) i.toNatClampNeg (vp_nar .boolean x)))) : Go l d mi K (pc) ls (.int x :: .int i :: .ref k :: st) S := by
  intro p e R s m args below meth c cells slots Q g H locs lsA F hr hP hD hS hl
  refine va_zast F.1 F.2.1 F.2.2.2.2.2.1 hP hD hS k 3 (by rw [Wd_at (arK_lt ha (by decide)), arK_int ha (by decide)]) rfl hin hd (fun H locs hP1 hD1 hS => ?_)
  have hw : (Wd g S).set k (g_ad g k, .inl (g_id g 3, n, .inl (upd (S.2.1 k) i.toNatClampNeg (vp_nar .boolean x)))) = Wd g (aset S k (upd (S.2.1 k) i.toNatClampNeg (vp_nar .boolean x))) := by
    rw [← aset_at (S := S) ha (by decide)]; exact Wd_set (arK_lt ha (by decide)) (fun q hq => aset_ne hq)
  have hP2 : va_P (g_D g) vwCl (Wd g (aset S k (upd (S.2.1 k) i.toNatClampNeg (vp_nar .boolean x)))) H := hw ▸ hP1
  exact kk p e R s m args below meth c cells slots Q g H locs lsA F hr hP2 (Wd_D hD) hS hl
theorem Go.last {l : Launch} {d : Nat} {mi : MI} {K : Option Value → St → Prop} {pc : Nat} {ls : List (Nat × Value)} {st : List Value} {S : St} {k n : Nat} {i : Int32} {x : Int64} (hd : decode mi.2.2.1 pc = .ok (.lastore, 1)) (ha : arK k = some (4, n)) (hin : vp_in i n) (kk : Go l d mi K (pc + 1) ls (st) (lset S k (vp_updL (S.2.2 k) i.toNatClampNeg x))) : Go l d mi K (pc) ls (.long x :: .int i :: .ref k :: st) S := by
  intro p e R s m args below meth c cells slots Q g H locs lsA F hr hP hD hS hl
  refine va_last F.1 F.2.1 F.2.2.2.2.2.1 hP hD hS k 4 (by rw [Wd_at (arK_lt ha (by decide)), arK_long ha]) rfl hin hd (fun H locs hP1 hD1 hS => ?_)
  have hw : (Wd g S).set k (g_ad g k, .inl (g_id g 4, n, .inr (.inl (vp_updL (S.2.2 k) i.toNatClampNeg x)))) = Wd g (lset S k (vp_updL (S.2.2 k) i.toNatClampNeg x)) := by
    rw [← lset_at (S := S) ha]; exact Wd_set (arK_lt ha (by decide)) (fun q hq => lset_ne hq)
  have hP2 : va_P (g_D g) vwCl (Wd g (lset S k (vp_updL (S.2.2 k) i.toNatClampNeg x))) H := hw ▸ hP1
  exact kk p e R s m args below meth c cells slots Q g H locs lsA F hr hP2 (Wd_D hD) hS hl
theorem Go.gsABOVE {l : Launch} {d : Nat} {mi : MI} {K : Option Value → St → Prop} {pc : Nat} {ls : List (Nat × Value)} {st : List Value} {S : St} {idx : Nat} (hd : decode mi.2.2.1 pc = .ok (.getstatic idx, 3)) (hw : Cond.fieldLink mi.1 idx "WhoPrompts$Bodies" "ABOVE" "[I" ∈ gTs) (kk : Go l d mi K (pc + 3) ls (.ref 501 :: st) S) : Go l d mi K (pc) ls (st) S := by
  intro p e R s m args below meth c cells slots Q g H locs lsA F hr hP hD hS hl
  exact va_gets F.1 F.2.1 F.2.2.2.2.2.2.1.1 hS F.2.2.2.1 (F.2.2.2.2.1 _ hw) (fun _ h => h) hd (kk p e R s m args below meth c cells slots Q g H locs lsA F hr hP hD hS hl)
theorem Go.tiABOVE {l : Launch} {d : Nat} {mi : MI} {K : Option Value → St → Prop} {pc : Nat} {ls : List (Nat × Value)} {st : List Value} {S : St} {i : Int32} (hd : decode mi.2.2.1 pc = .ok (.iaload, 1)) (hin : vp_in i 8) (kk : Go l d mi K (pc + 1) ls (.int (aboveT i.toNatClampNeg) :: st) S) : Go l d mi K (pc) ls (.int i :: .ref 501 :: st) S := by
  intro p e R s m args below meth c cells slots Q g H locs lsA F hr hP hD hS hl
  exact va_ti F.1 F.2.1 F.2.2.2.2.2.2.1.2.1 hS hin rfl hd (kk p e R s m args below meth c cells slots Q g H locs lsA F hr hP hD hS hl)
theorem Go.gsOWN {l : Launch} {d : Nat} {mi : MI} {K : Option Value → St → Prop} {pc : Nat} {ls : List (Nat × Value)} {st : List Value} {S : St} {idx : Nat} (hd : decode mi.2.2.1 pc = .ok (.getstatic idx, 3)) (hw : Cond.fieldLink mi.1 idx "WhoPrompts$Bodies" "OWN" "[I" ∈ gTs) (kk : Go l d mi K (pc + 3) ls (.ref 502 :: st) S) : Go l d mi K (pc) ls (st) S := by
  intro p e R s m args below meth c cells slots Q g H locs lsA F hr hP hD hS hl
  exact va_gets F.1 F.2.1 F.2.2.2.2.2.2.1.2.2.1 hS F.2.2.2.1 (F.2.2.2.2.1 _ hw) (fun _ h => h) hd (kk p e R s m args below meth c cells slots Q g H locs lsA F hr hP hD hS hl)
theorem Go.tiOWN {l : Launch} {d : Nat} {mi : MI} {K : Option Value → St → Prop} {pc : Nat} {ls : List (Nat × Value)} {st : List Value} {S : St} {i : Int32} (hd : decode mi.2.2.1 pc = .ok (.iaload, 1)) (hin : vp_in i 32) (kk : Go l d mi K (pc + 1) ls (.int (ownT i.toNatClampNeg) :: st) S) : Go l d mi K (pc) ls (.int i :: .ref 502 :: st) S := by
  intro p e R s m args below meth c cells slots Q g H locs lsA F hr hP hD hS hl
  exact va_ti F.1 F.2.1 F.2.2.2.2.2.2.1.2.2.2.1 hS hin rfl hd (kk p e R s m args below meth c cells slots Q g H locs lsA F hr hP hD hS hl)
