/-- Go, where the script of L ints xs lies beside the world (cell 503 by number) -/
def GoL (L : Nat) (xs : Nat → Int32) (l : Launch) (d : Nat) (mi : MI) (K : Option Value → St → Prop) (pc : Nat) (ls : List (Nat × Value)) (st : List Value) (S : St) : Prop :=
  ∀ (p : Program) (e : Env) (R : Room) (s : State) (m : MethodId) (args : Array Value) (below : List Frame) (meth : Method) (c : Code) (cells slots : Nat) (Q : State → Prop) (g : GX) (H : Heap) (locs : List Loc) (lsA : Array Slot),
    Fx p R s m args c mi d cells slots g → (va_X (g_ad g 503) L xs s s.heap ∧ g_ad g 503 < s.heap.size ∧ ¬ gA g (g_ad g 503)) → RetOK p l e R s m args below meth c cells slots Q mi K g → va_P (g_D g) vwCl (Wd g S) H → va_D (gA g) (Wd g S) → va_S (gA g) s.heap H locs → lv_has lsA mi.2.2.2.1 (trL g ls) →
    W p l e R s m args below meth c H locs cells slots Q (F0 m pc lsA (st.map (tr g)))
theorem GoL.iconst {L : Nat} {xs : Nat → Int32} {l : Launch} {d : Nat} {mi : MI} {K : Option Value → St → Prop} {pc : Nat} {ls : List (Nat × Value)} {st : List Value} {S : St} {n : Int} {v : Int32} (hd : decode mi.2.2.1 pc = .ok (.iconst n, 1)) (hv : Int32.ofInt n = v) (k : GoL L xs l d mi K (pc + 1) ls (.int v :: st) S) : GoL L xs l d mi K (pc) ls (st) S := by
  intro p e R s m args below meth c cells slots Q g H locs lsA F hX hr hP hD hS hl
  exact lv_iconst F.1 F.2.1 hd hv (k p e R s m args below meth c cells slots Q g H locs lsA F hX hr hP hD hS hl)
theorem GoL.bipush {L : Nat} {xs : Nat → Int32} {l : Launch} {d : Nat} {mi : MI} {K : Option Value → St → Prop} {pc : Nat} {ls : List (Nat × Value)} {st : List Value} {S : St} {n : Int} {v : Int32} (hd : decode mi.2.2.1 pc = .ok (.bipush n, 2)) (hv : (Int8.ofInt n).toInt32 = v) (k : GoL L xs l d mi K (pc + 2) ls (.int v :: st) S) : GoL L xs l d mi K (pc) ls (st) S := by
  intro p e R s m args below meth c cells slots Q g H locs lsA F hX hr hP hD hS hl
  exact lv_bipush F.1 F.2.1 hd hv (k p e R s m args below meth c cells slots Q g H locs lsA F hX hr hP hD hS hl)
theorem GoL.iload_n {L : Nat} {xs : Nat → Int32} {l : Launch} {d : Nat} {mi : MI} {K : Option Value → St → Prop} {pc : Nat} {ls : List (Nat × Value)} {st : List Value} {S : St} {k : Fin 4} {x : Int32} (hd : decode mi.2.2.1 pc = .ok (.iload_n k, 1)) (hg : lgt ls k = some (.int x)) (k : GoL L xs l d mi K (pc + 1) ls (.int x :: st) S) : GoL L xs l d mi K (pc) ls (st) S := by
  intro p e R s m args below meth c cells slots Q g H locs lsA F hX hr hP hD hS hl
  exact lv_iload_n F.1 F.2.1 hd rfl (lgt_at hl hg) (k p e R s m args below meth c cells slots Q g H locs lsA F hX hr hP hD hS hl)
theorem GoL.iload {L : Nat} {xs : Nat → Int32} {l : Launch} {d : Nat} {mi : MI} {K : Option Value → St → Prop} {pc : Nat} {ls : List (Nat × Value)} {st : List Value} {S : St} {i : Nat} {x : Int32} (hd : decode mi.2.2.1 pc = .ok (.iload i, 2)) (hg : lgt ls i = some (.int x)) (k : GoL L xs l d mi K (pc + 2) ls (.int x :: st) S) : GoL L xs l d mi K (pc) ls (st) S := by
  intro p e R s m args below meth c cells slots Q g H locs lsA F hX hr hP hD hS hl
  exact lv_iload F.1 F.2.1 hd (lgt_at hl hg) (k p e R s m args below meth c cells slots Q g H locs lsA F hX hr hP hD hS hl)
theorem GoL.aload_n {L : Nat} {xs : Nat → Int32} {l : Launch} {d : Nat} {mi : MI} {K : Option Value → St → Prop} {pc : Nat} {ls : List (Nat × Value)} {st : List Value} {S : St} {k : Fin 4} {x : Nat} (hd : decode mi.2.2.1 pc = .ok (.aload_n k, 1)) (hg : lgt ls k = some (.ref x)) (k : GoL L xs l d mi K (pc + 1) ls (.ref x :: st) S) : GoL L xs l d mi K (pc) ls (st) S := by
  intro p e R s m args below meth c cells slots Q g H locs lsA F hX hr hP hD hS hl
  exact lv_aload_n F.1 F.2.1 hd rfl (lgt_at hl hg) (k p e R s m args below meth c cells slots Q g H locs lsA F hX hr hP hD hS hl)
theorem GoL.istore_n {L : Nat} {xs : Nat → Int32} {l : Launch} {d : Nat} {mi : MI} {K : Option Value → St → Prop} {pc : Nat} {ls : List (Nat × Value)} {st : List Value} {S : St} {kf : Fin 4} {x : Int32} {ls' : List (Nat × Value)} (hd : decode mi.2.2.1 pc = .ok (.istore_n kf, 1)) (hn : (kf : Nat) < mi.2.2.2.1) (hs : sto1 ls (kf : Nat) (.int x) = ls') (k : GoL L xs l d mi K (pc + 1) ls' (st) S) : GoL L xs l d mi K (pc) ls (.int x :: st) S := by
  intro p e R s m args below meth c cells slots Q g H locs lsA F hX hr hP hD hS hl
  subst hs
  exact lv_istore_n F.1 F.2.1 hd rfl hl hn (trL_sto1 g ls (kf : Nat) (.int x)) (fun lsA hl => k p e R s m args below meth c cells slots Q g H locs lsA F hX hr hP hD hS hl)
theorem GoL.iinc {L : Nat} {xs : Nat → Int32} {l : Launch} {d : Nat} {mi : MI} {K : Option Value → St → Prop} {pc : Nat} {ls : List (Nat × Value)} {st : List Value} {S : St} {i : Nat} {n : Int} {x v : Int32} {ls' : List (Nat × Value)} (hd : decode mi.2.2.1 pc = .ok (.iinc i n, 3)) (hg : lgt ls i = some (.int x)) (hv : x + Int32.ofInt n = v) (hn : i < mi.2.2.2.1) (hs : sto1 ls i (.int v) = ls') (k : GoL L xs l d mi K (pc + 3) ls' (st) S) : GoL L xs l d mi K (pc) ls (st) S := by
  intro p e R s m args below meth c cells slots Q g H locs lsA F hX hr hP hD hS hl
  subst hs
  obtain ⟨q, hq⟩ := lgt_ix g hg
  exact lv_iinc F.1 F.2.1 hd hl hq hv hn (trL_sto1 g ls i (.int v)) (fun lsA hl => k p e R s m args below meth c cells slots Q g H locs lsA F hX hr hP hD hS hl)
theorem GoL.iadd {L : Nat} {xs : Nat → Int32} {l : Launch} {d : Nat} {mi : MI} {K : Option Value → St → Prop} {pc : Nat} {ls : List (Nat × Value)} {st : List Value} {S : St} {x y : Int32} (hd : decode mi.2.2.1 pc = .ok (.iadd, 1)) (k : GoL L xs l d mi K (pc + 1) ls (.int (x + y) :: st) S) : GoL L xs l d mi K (pc) ls (.int y :: .int x :: st) S := by
  intro p e R s m args below meth c cells slots Q g H locs lsA F hX hr hP hD hS hl
  exact lv_iadd F.1 F.2.1 hd (k p e R s m args below meth c cells slots Q g H locs lsA F hX hr hP hD hS hl)
theorem GoL.isub {L : Nat} {xs : Nat → Int32} {l : Launch} {d : Nat} {mi : MI} {K : Option Value → St → Prop} {pc : Nat} {ls : List (Nat × Value)} {st : List Value} {S : St} {x y : Int32} (hd : decode mi.2.2.1 pc = .ok (.isub, 1)) (k : GoL L xs l d mi K (pc + 1) ls (.int (x - y) :: st) S) : GoL L xs l d mi K (pc) ls (.int y :: .int x :: st) S := by
  intro p e R s m args below meth c cells slots Q g H locs lsA F hX hr hP hD hS hl
  exact lv_isub F.1 F.2.1 hd (k p e R s m args below meth c cells slots Q g H locs lsA F hX hr hP hD hS hl)
theorem GoL.iand {L : Nat} {xs : Nat → Int32} {l : Launch} {d : Nat} {mi : MI} {K : Option Value → St → Prop} {pc : Nat} {ls : List (Nat × Value)} {st : List Value} {S : St} {x y : Int32} (hd : decode mi.2.2.1 pc = .ok (.iand, 1)) (k : GoL L xs l d mi K (pc + 1) ls (.int (x &&& y) :: st) S) : GoL L xs l d mi K (pc) ls (.int y :: .int x :: st) S := by
  intro p e R s m args below meth c cells slots Q g H locs lsA F hX hr hP hD hS hl
  exact lv_iand F.1 F.2.1 hd (k p e R s m args below meth c cells slots Q g H locs lsA F hX hr hP hD hS hl)
theorem GoL.ladd {L : Nat} {xs : Nat → Int32} {l : Launch} {d : Nat} {mi : MI} {K : Option Value → St → Prop} {pc : Nat} {ls : List (Nat × Value)} {st : List Value} {S : St} {x y : Int64} (hd : decode mi.2.2.1 pc = .ok (.ladd, 1)) (k : GoL L xs l d mi K (pc + 1) ls (.long (x + y) :: st) S) : GoL L xs l d mi K (pc) ls (.long y :: .long x :: st) S := by
  intro p e R s m args below meth c cells slots Q g H locs lsA F hX hr hP hD hS hl
  exact lv_ladd F.1 F.2.1 hd (k p e R s m args below meth c cells slots Q g H locs lsA F hX hr hP hD hS hl)
theorem GoL.land {L : Nat} {xs : Nat → Int32} {l : Launch} {d : Nat} {mi : MI} {K : Option Value → St → Prop} {pc : Nat} {ls : List (Nat × Value)} {st : List Value} {S : St} {x y : Int64} (hd : decode mi.2.2.1 pc = .ok (.land, 1)) (k : GoL L xs l d mi K (pc + 1) ls (.long (x &&& y) :: st) S) : GoL L xs l d mi K (pc) ls (.long y :: .long x :: st) S := by
  intro p e R s m args below meth c cells slots Q g H locs lsA F hX hr hP hD hS hl
  exact lv_land F.1 F.2.1 hd (k p e R s m args below meth c cells slots Q g H locs lsA F hX hr hP hD hS hl)
theorem GoL.lor {L : Nat} {xs : Nat → Int32} {l : Launch} {d : Nat} {mi : MI} {K : Option Value → St → Prop} {pc : Nat} {ls : List (Nat × Value)} {st : List Value} {S : St} {x y : Int64} (hd : decode mi.2.2.1 pc = .ok (.lor, 1)) (k : GoL L xs l d mi K (pc + 1) ls (.long (x ||| y) :: st) S) : GoL L xs l d mi K (pc) ls (.long y :: .long x :: st) S := by
  intro p e R s m args below meth c cells slots Q g H locs lsA F hX hr hP hD hS hl
  exact lv_lor F.1 F.2.1 hd (k p e R s m args below meth c cells slots Q g H locs lsA F hX hr hP hD hS hl)
theorem GoL.lshl {L : Nat} {xs : Nat → Int32} {l : Launch} {d : Nat} {mi : MI} {K : Option Value → St → Prop} {pc : Nat} {ls : List (Nat × Value)} {st : List Value} {S : St} {x v : Int64} {y : Int32} (hd : decode mi.2.2.1 pc = .ok (.lshl, 1)) (hv : x <<< (y.toInt64 &&& 63) = v) (k : GoL L xs l d mi K (pc + 1) ls (.long v :: st) S) : GoL L xs l d mi K (pc) ls (.int y :: .long x :: st) S := by
  intro p e R s m args below meth c cells slots Q g H locs lsA F hX hr hP hD hS hl
  exact lv_lshl F.1 F.2.1 hd hv (k p e R s m args below meth c cells slots Q g H locs lsA F hX hr hP hD hS hl)
theorem GoL.i2l {L : Nat} {xs : Nat → Int32} {l : Launch} {d : Nat} {mi : MI} {K : Option Value → St → Prop} {pc : Nat} {ls : List (Nat × Value)} {st : List Value} {S : St} {x : Int32} {v : Int64} (hd : decode mi.2.2.1 pc = .ok (.i2l, 1)) (hv : x.toInt64 = v) (k : GoL L xs l d mi K (pc + 1) ls (.long v :: st) S) : GoL L xs l d mi K (pc) ls (.int x :: st) S := by
  intro p e R s m args below meth c cells slots Q g H locs lsA F hX hr hP hD hS hl
  exact lv_i2l F.1 F.2.1 hd hv (k p e R s m args below meth c cells slots Q g H locs lsA F hX hr hP hD hS hl)
theorem GoL.lcmp {L : Nat} {xs : Nat → Int32} {l : Launch} {d : Nat} {mi : MI} {K : Option Value → St → Prop} {pc : Nat} {ls : List (Nat × Value)} {st : List Value} {S : St} {x y : Int64} (hd : decode mi.2.2.1 pc = .ok (.lcmp, 1)) (k : GoL L xs l d mi K (pc + 1) ls (.int (lg_cmp x y) :: st) S) : GoL L xs l d mi K (pc) ls (.long y :: .long x :: st) S := by
  intro p e R s m args below meth c cells slots Q g H locs lsA F hX hr hP hD hS hl
  exact W.lcmp F.1 F.2.1 hd (k p e R s m args below meth c cells slots Q g H locs lsA F hX hr hP hD hS hl)
theorem GoL.ifeq {L : Nat} {xs : Nat → Int32} {l : Launch} {d : Nat} {mi : MI} {K : Option Value → St → Prop} {pc : Nat} {ls : List (Nat × Value)} {st : List Value} {S : St} {x : Int32} {off : Int} {tgt : Nat} (hd : decode mi.2.2.1 pc = .ok (.ifCond .eq off, 3)) (ht : (pc : Int) + off = (tgt : Int)) (kt : x = 0 → GoL L xs l d mi K (tgt) ls (st) S) (kf : ¬ x = 0 → GoL L xs l d mi K (pc + 3) ls (st) S) : GoL L xs l d mi K (pc) ls (.int x :: st) S := by
  intro p e R s m args below meth c cells slots Q g H locs lsA F hX hr hP hD hS hl
  exact lv_if_eq F.1 F.2.1 hd ht (fun h => kt h p e R s m args below meth c cells slots Q g H locs lsA F hX hr hP hD hS hl) (fun h => kf h p e R s m args below meth c cells slots Q g H locs lsA F hX hr hP hD hS hl)
theorem GoL.ifne {L : Nat} {xs : Nat → Int32} {l : Launch} {d : Nat} {mi : MI} {K : Option Value → St → Prop} {pc : Nat} {ls : List (Nat × Value)} {st : List Value} {S : St} {x : Int32} {off : Int} {tgt : Nat} (hd : decode mi.2.2.1 pc = .ok (.ifCond .ne off, 3)) (ht : (pc : Int) + off = (tgt : Int)) (kt : ¬ x = 0 → GoL L xs l d mi K (tgt) ls (st) S) (kf : x = 0 → GoL L xs l d mi K (pc + 3) ls (st) S) : GoL L xs l d mi K (pc) ls (.int x :: st) S := by
  intro p e R s m args below meth c cells slots Q g H locs lsA F hX hr hP hD hS hl
  exact lv_if_ne F.1 F.2.1 hd ht (fun h => kt h p e R s m args below meth c cells slots Q g H locs lsA F hX hr hP hD hS hl) (fun h => kf h p e R s m args below meth c cells slots Q g H locs lsA F hX hr hP hD hS hl)
theorem GoL.icmpeq {L : Nat} {xs : Nat → Int32} {l : Launch} {d : Nat} {mi : MI} {K : Option Value → St → Prop} {pc : Nat} {ls : List (Nat × Value)} {st : List Value} {S : St} {x y : Int32} {off : Int} {tgt : Nat} (hd : decode mi.2.2.1 pc = .ok (.if_icmp .eq off, 3)) (ht : (pc : Int) + off = (tgt : Int)) (kt : x = y → GoL L xs l d mi K (tgt) ls (st) S) (kf : ¬ x = y → GoL L xs l d mi K (pc + 3) ls (st) S) : GoL L xs l d mi K (pc) ls (.int y :: .int x :: st) S := by
  intro p e R s m args below meth c cells slots Q g H locs lsA F hX hr hP hD hS hl
  exact lv_icmp_eq F.1 F.2.1 hd ht (fun h => kt h p e R s m args below meth c cells slots Q g H locs lsA F hX hr hP hD hS hl) (fun h => kf h p e R s m args below meth c cells slots Q g H locs lsA F hX hr hP hD hS hl)
theorem GoL.icmpne {L : Nat} {xs : Nat → Int32} {l : Launch} {d : Nat} {mi : MI} {K : Option Value → St → Prop} {pc : Nat} {ls : List (Nat × Value)} {st : List Value} {S : St} {x y : Int32} {off : Int} {tgt : Nat} (hd : decode mi.2.2.1 pc = .ok (.if_icmp .ne off, 3)) (ht : (pc : Int) + off = (tgt : Int)) (kt : ¬ x = y → GoL L xs l d mi K (tgt) ls (st) S) (kf : x = y → GoL L xs l d mi K (pc + 3) ls (st) S) : GoL L xs l d mi K (pc) ls (.int y :: .int x :: st) S := by
  intro p e R s m args below meth c cells slots Q g H locs lsA F hX hr hP hD hS hl
  exact lv_icmp_ne F.1 F.2.1 hd ht (fun h => kt h p e R s m args below meth c cells slots Q g H locs lsA F hX hr hP hD hS hl) (fun h => kf h p e R s m args below meth c cells slots Q g H locs lsA F hX hr hP hD hS hl)
theorem GoL.icmpgt {L : Nat} {xs : Nat → Int32} {l : Launch} {d : Nat} {mi : MI} {K : Option Value → St → Prop} {pc : Nat} {ls : List (Nat × Value)} {st : List Value} {S : St} {x y : Int32} {off : Int} {tgt : Nat} (hd : decode mi.2.2.1 pc = .ok (.if_icmp .gt off, 3)) (ht : (pc : Int) + off = (tgt : Int)) (kt : y < x → GoL L xs l d mi K (tgt) ls (st) S) (kf : ¬ y < x → GoL L xs l d mi K (pc + 3) ls (st) S) : GoL L xs l d mi K (pc) ls (.int y :: .int x :: st) S := by
  intro p e R s m args below meth c cells slots Q g H locs lsA F hX hr hP hD hS hl
  exact lv_icmp_gt F.1 F.2.1 hd ht (fun h => kt h p e R s m args below meth c cells slots Q g H locs lsA F hX hr hP hD hS hl) (fun h => kf h p e R s m args below meth c cells slots Q g H locs lsA F hX hr hP hD hS hl)
theorem GoL.goto {L : Nat} {xs : Nat → Int32} {l : Launch} {d : Nat} {mi : MI} {K : Option Value → St → Prop} {pc : Nat} {ls : List (Nat × Value)} {st : List Value} {S : St} {off : Int} {tgt : Nat} (hd : decode mi.2.2.1 pc = .ok (.goto off, 3)) (ht : (pc : Int) + off = (tgt : Int)) (k : GoL L xs l d mi K (tgt) ls (st) S) : GoL L xs l d mi K (pc) ls (st) S := by
  intro p e R s m args below meth c cells slots Q g H locs lsA F hX hr hP hD hS hl
  exact lv_goto F.1 F.2.1 hd ht (k p e R s m args below meth c cells slots Q g H locs lsA F hX hr hP hD hS hl)
theorem GoL.tabOut {L : Nat} {xs : Nat → Int32} {l : Launch} {d : Nat} {mi : MI} {K : Option Value → St → Prop} {pc : Nat} {ls : List (Nat × Value)} {st : List Value} {S : St} {dflt lo hi : Int} {offs : Array Int} {len tgt : Nat} {x : Int32} (hd : decode mi.2.2.1 pc = .ok (.tableswitch dflt lo hi offs, len)) (h : x.toInt < lo ∨ hi < x.toInt) (ht : (pc : Int) + dflt = (tgt : Int)) (k : GoL L xs l d mi K (tgt) ls (st) S) : GoL L xs l d mi K (pc) ls (.int x :: st) S := by
  intro p e R s m args below meth c cells slots Q g H locs lsA F hX hr hP hD hS hl
  exact lv_tableOut F.1 F.2.1 hd h ht (k p e R s m args below meth c cells slots Q g H locs lsA F hX hr hP hD hS hl)
theorem GoL.tabIn {L : Nat} {xs : Nat → Int32} {l : Launch} {d : Nat} {mi : MI} {K : Option Value → St → Prop} {pc : Nat} {ls : List (Nat × Value)} {st : List Value} {S : St} {dflt lo hi off : Int} {offs : Array Int} {len tgt : Nat} {x : Int32} (hd : decode mi.2.2.1 pc = .ok (.tableswitch dflt lo hi offs, len)) (h1 : ¬ x.toInt < lo) (h2 : ¬ hi < x.toInt) (ho : offs[(x.toInt - lo).toNat]? = some off) (ht : (pc : Int) + off = (tgt : Int)) (k : GoL L xs l d mi K (tgt) ls (st) S) : GoL L xs l d mi K (pc) ls (.int x :: st) S := by
  intro p e R s m args below meth c cells slots Q g H locs lsA F hX hr hP hD hS hl
  exact lv_tableIn F.1 F.2.1 hd h1 h2 ho ht (k p e R s m args below meth c cells slots Q g H locs lsA F hX hr hP hD hS hl)
theorem GoL.ldc2_w {L : Nat} {xs : Nat → Int32} {l : Launch} {d : Nat} {mi : MI} {K : Option Value → St → Prop} {pc : Nat} {ls : List (Nat × Value)} {st : List Value} {S : St} {idx : Nat} {v : Int64} (hd : decode mi.2.2.1 pc = .ok (.ldc2_w idx, 3)) (hw : Cond.constantLong mi.1 idx v ∈ gTs) (k : GoL L xs l d mi K (pc + 3) ls (.long v :: st) S) : GoL L xs l d mi K (pc) ls (st) S := by
  intro p e R s m args below meth c cells slots Q g H locs lsA F hX hr hP hD hS hl
  exact lv_ldc2 F.1 F.2.1 F.2.2.2.1 (F.2.2.2.2.1 _ hw) hd (k p e R s m args below meth c cells slots Q g H locs lsA F hX hr hP hD hS hl)
theorem GoL.iret {L : Nat} {xs : Nat → Int32} {l : Launch} {d : Nat} {mi : MI} {K : Option Value → St → Prop} {pc : Nat} {ls : List (Nat × Value)} {st : List Value} {S : St} {x : Int32} {ty : FieldType} (hd : decode mi.2.2.1 pc = .ok (.ireturn, 1)) (hr : mi.2.2.2.2 = some ty) (hn : narrow ty (.int x) = .int x) (hK : K (some (.int x)) S) : GoL L xs l d mi K (pc) ls ([.int x]) S := by
  intro p e R s m args below meth c cells slots Q g H locs lsA F hX hr' hP hD hS hl
  exact hr' pc lsA (some (.int x)) S H locs (Or.inl ⟨x, ty, rfl, hd, hr, hn⟩) hK hP hS
theorem GoL.iincS {L : Nat} {xs : Nat → Int32} {l : Launch} {d : Nat} {mi : MI} {K : Option Value → St → Prop} {pc : Nat} {ls : List (Nat × Value)} {st : List Value} {S : St} {i : Nat} {x : Int32} {ls' : List (Nat × Value)} (hd : decode mi.2.2.1 pc = .ok (.iinc i 6, 3)) (hg : lgt ls i = some (.int x)) (hn : i < mi.2.2.2.1) (hs : sto1 ls i (.int (x + 6)) = ls') (k : GoL L xs l d mi K (pc + 3) ls' st S) : GoL L xs l d mi K pc ls st S := GoL.iinc hd hg (by rw [show Int32.ofInt 6 = 6 by decide]) hn hs k
theorem GoL.sld {L : Nat} {xs : Nat → Int32} {l : Launch} {d : Nat} {mi : MI} {K : Option Value → St → Prop} {pc : Nat} {ls : List (Nat × Value)} {st : List Value} {S : St} {i : Int32} (hd : decode mi.2.2.1 pc = .ok (.iaload, 1)) (hin : vp_in i L) (kk : GoL L xs l d mi K (pc + 1) ls (.int (xs i.toNatClampNeg) :: st) S) : GoL L xs l d mi K pc ls (.int i :: .ref 503 :: st) S := by
  intro p e R s m args below meth c cells slots Q g H locs lsA F hX hr hP hD hS hl
  exact va_sld F.1 F.2.1 hX.1 hX.2.1 hX.2.2 hS hin hd (kk p e R s m args below meth c cells slots Q g H locs lsA F hX hr hP hD hS hl)
theorem GoL.slen {L : Nat} {xs : Nat → Int32} {l : Launch} {d : Nat} {mi : MI} {K : Option Value → St → Prop} {pc : Nat} {ls : List (Nat × Value)} {st : List Value} {S : St} (hd : decode mi.2.2.1 pc = .ok (.arraylength, 1)) (kk : GoL L xs l d mi K (pc + 1) ls (.int (Int32.ofNat L) :: st) S) : GoL L xs l d mi K pc ls (.ref 503 :: st) S := by
  intro p e R s m args below meth c cells slots Q g H locs lsA F hX hr hP hD hS hl
  exact va_slen F.1 F.2.1 hX.1 hX.2.1 hX.2.2 hS hd (kk p e R s m args below meth c cells slots Q g H locs lsA F hX hr hP hD hS hl)
theorem GoL.pick {L : Nat} {xs : Nat → Int32} {l : Launch} {d : Nat} {mi : MI} {K : Option Value → St → Prop} {pc : Nat} {ls : List (Nat × Value)} {st : List Value} {S : St} {ls' : List (Nat × Value)} (ks : List Nat) (h : lv_pick ls ks = ls') (k : GoL L xs l d mi K pc ls' st S) : GoL L xs l d mi K pc ls st S := by
  intro p e R s m args below meth c cells slots Q g H locs lsA F hX hr hP hD hS hl
  refine k p e R s m args below meth c cells slots Q g H locs lsA F hX hr hP hD hS (lv_sub hl ks ?_)
  subst h
  unfold lv_pick trL
  rw [List.map_filterMap]
  congr 1
  funext q
  rw [List.getElem?_map]
theorem GoL.swT {L : Nat} {xs : Nat → Int32} {l : Launch} {d : Nat} {mi : MI} {K : Option Value → St → Prop} {pc : Nat} {ls : List (Nat × Value)} {st : List Value} {S : St} {dflt lo hi off : Int} {offs : Array Int} {len tgt : Nat} {x : Int32} (hd : decode mi.2.2.1 pc = .ok (.tableswitch dflt lo hi offs, len)) (ho : swO dflt lo hi offs x = off) (hz : (offs.size : Int) = hi - lo + 1) (ht : (pc : Int) + off = (tgt : Int)) (k : GoL L xs l d mi K tgt ls st S) : GoL L xs l d mi K pc ls (.int x :: st) S := by
  unfold swO at ho
  by_cases h : x.toInt < lo ∨ hi < x.toInt
  · rw [if_pos h] at ho
    subst ho
    exact GoL.tabOut hd h ht k
  · rw [if_neg h] at ho
    have hl : (x.toInt - lo).toNat < offs.size := by omega
    refine GoL.tabIn hd (fun q => h (Or.inl q)) (fun q => h (Or.inr q)) ?_ ht k
    rw [← ho, Array.getElem?_eq_getElem hl]
    simp [Array.getD, hl]
set_option maxHeartbeats 1000000 in
theorem GoL.callVK {L : Nat} {xs : Nat → Int32} {l : Launch} {d : Nat} {mi mi' : MI} {K K' : Option Value → St → Prop} {pc : Nat} {ls : List (Nat × Value)} {st rest : List Value} {S : St} {idx n k ci : Nat} {q : vw_C} (as : List Value)
    (hd : decode mi.2.2.1 pc = .ok (.invokevirtual idx, 3)) (hM : MK mi' n) (hV : MV mi') (hlk : Cond.methodLink mi.1 idx mi'.2.1 ∈ gTs) (hcl : clK k = some ci) (hq : vwCl[ci]? = some q) (hqc : q.1 = mi'.2.1.cls) (hn : as.length = n) (hst : st = as.reverse ++ .ref k :: rest) (hrest : (rest.map fun v => v.category).sum ≤ 8)
    (hlen : (lg_sl (.ref 0 :: as)).length ≤ mi'.2.2.2.1) (hc : Go l d mi' K' 0 (lv_args 0 (.ref k :: as)) [] S) (kk : ∀ v S', K' v S' → GoL L xs l (d + 1) mi K (pc + 3) ls (v.toList ++ rest) S') : GoL L xs l (d + 1) mi K pc ls st S := by
  intro p e R s m args below meth c cells slots Q g H locs lsA F hX hr hP hD hS hl
  have hlen' : (lg_sl ((.ref k :: as).map (tr g))).length ≤ mi'.2.2.2.1 := by rw [lg_len g]; exact hlen
  have M := Go.met g hM hlen' hc
  have hin := wsM_in hM
  have hts := F.2.2.2.2.1
  obtain ⟨fs, hcell⟩ := clK_cell (g := g) (S := S) hcl
  have hrcv := va_recv F.2.2.2.2.2.1 hP hq (show (Wd g S)[k]? = some (g_ad g k, .inr (ci, fs)) by rw [Wd_at (clK_lt hcl), hcell])
  rw [hqc] at hrcv
  refine go_call (va_runV (Ts := gTs) (As := as.map (tr g)) (rest := rest.map (tr g)) (b := g_ad g k) (C := mi'.2.1.cls) ⟨F.1, F.2.1, F.2.2.1, F.2.2.2.1, hts⟩ M
    ⟨callB_of n hts (good_gTs hin) rfl rfl rfl (hts _ hM.1.2) (hts _ hlk) hM.2.1 (room_call F.2.2.2.2.2.2.2.2.1 hM.2.2.1), hts _ hV.1, hts _ hV.2⟩
    ⟨PcG_blind g _ S, hrcv, PcG_at F.2.2.2.2.2.1 F.2.2.2.2.2.2.1 F.2.2.2.2.2.2.2.1 hP hD hS⟩ rfl (by rw [List.length_map]; exact hn) hl.1 (by rw [hst, List.map_append, List.map_reverse]; rfl) (lv_room (by rw [cat_map]; exact hrest)) hd ⟨F.2.2.2.2.2.2.2.2.2.1, F.2.2.2.2.2.2.2.2.2.2⟩) hS ?_
  intro v S' H1 locs1 hk hP1 hS1
  have := kk v S' hk p e R s m args below meth c cells slots Q g H1 locs1 lsA F hX hr hP1 (Wd_D hD) hS1 hl
  rw [List.map_append] at this
  cases v <;> exact this
theorem GoL.callV {L : Nat} {xs : Nat → Int32} {l : Launch} {d : Nat} {mi mi' : MI} {K : Option Value → St → Prop} {pc : Nat} {ls : List (Nat × Value)} {st rest : List Value} {S S1 : St} {r : Option Value} {idx n k ci : Nat} {q : vw_C} (as : List Value)
    (hd : decode mi.2.2.1 pc = .ok (.invokevirtual idx, 3)) (hM : MK mi' n) (hV : MV mi') (hlk : Cond.methodLink mi.1 idx mi'.2.1 ∈ gTs) (hcl : clK k = some ci) (hq : vwCl[ci]? = some q) (hqc : q.1 = mi'.2.1.cls) (hn : as.length = n) (hst : st = as.reverse ++ .ref k :: rest) (hrest : (rest.map fun v => v.category).sum ≤ 8)
    (hlen : (lg_sl (.ref 0 :: as)).length ≤ mi'.2.2.2.1) (hc : Go l d mi' (Res r S1) 0 (lv_args 0 (.ref k :: as)) [] S) (kk : GoL L xs l (d + 1) mi K (pc + 3) ls (r.toList ++ rest) S1) : GoL L xs l (d + 1) mi K pc ls st S :=
  GoL.callVK as hd hM hV hlk hcl hq hqc hn hst hrest hlen hc (fun v S' h => by obtain ⟨rfl, rfl⟩ := h; exact kk)
abbrev mL_law : MI := (RL, yL_law, cL_law, 4, some .boolean)
theorem sw_L_law_33 (x : Int32) (h0 : ¬ x = 0) (h1 : ¬ x = 1) (h2 : ¬ x = 2) (h3 : ¬ x = 3) (h4 : ¬ x = 4) (h5 : ¬ x = 5) (h6 : ¬ x = 6) (h7 : ¬ x = 7) (h8 : ¬ x = 8) (h9 : ¬ x = 9) (h10 : ¬ x = 10) (h11 : ¬ x = 11) (h12 : ¬ x = 12) (h13 : ¬ x = 13) (h14 : ¬ x = 14) (h15 : ¬ x = 15) (h16 : ¬ x = 16) (h17 : ¬ x = 17) (h18 : ¬ x = 18) (h19 : ¬ x = 19) (h20 : ¬ x = 20) (h21 : ¬ x = 21) (h22 : ¬ x = 22) (h23 : ¬ x = 23) (h24 : ¬ x = 24) (h25 : ¬ x = 25) (h26 : ¬ x = 26) (h27 : ¬ x = 27) (h28 : ¬ x = 28) (h29 : ¬ x = 29) (h30 : ¬ x = 30) (h31 : ¬ x = 31) (h32 : ¬ x = 32) (h33 : ¬ x = 33) : swO 1234 0 33 #[151, 194, 237, 260, 283, 316, 359, 392, 415, 448, 471, 504, 527, 550, 583, 626, 659, 692, 725, 758, 791, 804, 817, 830, 843, 866, 909, 932, 965, 1008, 1081, 1115, 1178, 1211] x = 1234 := by
  by_cases h : x.toInt < 0 ∨ 33 < x.toInt
  · unfold swO; rw [if_pos h]
  · have hx : x = 0 ∨ x = 1 ∨ x = 2 ∨ x = 3 ∨ x = 4 ∨ x = 5 ∨ x = 6 ∨ x = 7 ∨ x = 8 ∨ x = 9 ∨ x = 10 ∨ x = 11 ∨ x = 12 ∨ x = 13 ∨ x = 14 ∨ x = 15 ∨ x = 16 ∨ x = 17 ∨ x = 18 ∨ x = 19 ∨ x = 20 ∨ x = 21 ∨ x = 22 ∨ x = 23 ∨ x = 24 ∨ x = 25 ∨ x = 26 ∨ x = 27 ∨ x = 28 ∨ x = 29 ∨ x = 30 ∨ x = 31 ∨ x = 32 ∨ x = 33 := by
      have e : ∀ v : Int32, x.toInt = v.toInt → x = v := fun v h => Int32.toInt_inj.mp h
      have : x.toInt = 0 ∨ x.toInt = 1 ∨ x.toInt = 2 ∨ x.toInt = 3 ∨ x.toInt = 4 ∨ x.toInt = 5 ∨ x.toInt = 6 ∨ x.toInt = 7 ∨ x.toInt = 8 ∨ x.toInt = 9 ∨ x.toInt = 10 ∨ x.toInt = 11 ∨ x.toInt = 12 ∨ x.toInt = 13 ∨ x.toInt = 14 ∨ x.toInt = 15 ∨ x.toInt = 16 ∨ x.toInt = 17 ∨ x.toInt = 18 ∨ x.toInt = 19 ∨ x.toInt = 20 ∨ x.toInt = 21 ∨ x.toInt = 22 ∨ x.toInt = 23 ∨ x.toInt = 24 ∨ x.toInt = 25 ∨ x.toInt = 26 ∨ x.toInt = 27 ∨ x.toInt = 28 ∨ x.toInt = 29 ∨ x.toInt = 30 ∨ x.toInt = 31 ∨ x.toInt = 32 ∨ x.toInt = 33 := by omega
      rcases this with h | h | h | h | h | h | h | h | h | h | h | h | h | h | h | h | h | h | h | h | h | h | h | h | h | h | h | h | h | h | h | h | h | h
      · exact Or.inl (e 0 h)
      · exact Or.inr (Or.inl (e 1 h))
      · exact Or.inr (Or.inr (Or.inl (e 2 h)))
      · exact Or.inr (Or.inr (Or.inr (Or.inl (e 3 h))))
      · exact Or.inr (Or.inr (Or.inr (Or.inr (Or.inl (e 4 h)))))
      · exact Or.inr (Or.inr (Or.inr (Or.inr (Or.inr (Or.inl (e 5 h))))))
      · exact Or.inr (Or.inr (Or.inr (Or.inr (Or.inr (Or.inr (Or.inl (e 6 h)))))))
      · exact Or.inr (Or.inr (Or.inr (Or.inr (Or.inr (Or.inr (Or.inr (Or.inl (e 7 h))))))))
      · exact Or.inr (Or.inr (Or.inr (Or.inr (Or.inr (Or.inr (Or.inr (Or.inr (Or.inl (e 8 h)))))))))
      · exact Or.inr (Or.inr (Or.inr (Or.inr (Or.inr (Or.inr (Or.inr (Or.inr (Or.inr (Or.inl (e 9 h))))))))))
      · exact Or.inr (Or.inr (Or.inr (Or.inr (Or.inr (Or.inr (Or.inr (Or.inr (Or.inr (Or.inr (Or.inl (e 10 h)))))))))))
      · exact Or.inr (Or.inr (Or.inr (Or.inr (Or.inr (Or.inr (Or.inr (Or.inr (Or.inr (Or.inr (Or.inr (Or.inl (e 11 h))))))))))))
      · exact Or.inr (Or.inr (Or.inr (Or.inr (Or.inr (Or.inr (Or.inr (Or.inr (Or.inr (Or.inr (Or.inr (Or.inr (Or.inl (e 12 h)))))))))))))
      · exact Or.inr (Or.inr (Or.inr (Or.inr (Or.inr (Or.inr (Or.inr (Or.inr (Or.inr (Or.inr (Or.inr (Or.inr (Or.inr (Or.inl (e 13 h))))))))))))))
      · exact Or.inr (Or.inr (Or.inr (Or.inr (Or.inr (Or.inr (Or.inr (Or.inr (Or.inr (Or.inr (Or.inr (Or.inr (Or.inr (Or.inr (Or.inl (e 14 h)))))))))))))))
      · exact Or.inr (Or.inr (Or.inr (Or.inr (Or.inr (Or.inr (Or.inr (Or.inr (Or.inr (Or.inr (Or.inr (Or.inr (Or.inr (Or.inr (Or.inr (Or.inl (e 15 h))))))))))))))))
      · exact Or.inr (Or.inr (Or.inr (Or.inr (Or.inr (Or.inr (Or.inr (Or.inr (Or.inr (Or.inr (Or.inr (Or.inr (Or.inr (Or.inr (Or.inr (Or.inr (Or.inl (e 16 h)))))))))))))))))
      · exact Or.inr (Or.inr (Or.inr (Or.inr (Or.inr (Or.inr (Or.inr (Or.inr (Or.inr (Or.inr (Or.inr (Or.inr (Or.inr (Or.inr (Or.inr (Or.inr (Or.inr (Or.inl (e 17 h))))))))))))))))))
      · exact Or.inr (Or.inr (Or.inr (Or.inr (Or.inr (Or.inr (Or.inr (Or.inr (Or.inr (Or.inr (Or.inr (Or.inr (Or.inr (Or.inr (Or.inr (Or.inr (Or.inr (Or.inr (Or.inl (e 18 h)))))))))))))))))))
      · exact Or.inr (Or.inr (Or.inr (Or.inr (Or.inr (Or.inr (Or.inr (Or.inr (Or.inr (Or.inr (Or.inr (Or.inr (Or.inr (Or.inr (Or.inr (Or.inr (Or.inr (Or.inr (Or.inr (Or.inl (e 19 h))))))))))))))))))))
      · exact Or.inr (Or.inr (Or.inr (Or.inr (Or.inr (Or.inr (Or.inr (Or.inr (Or.inr (Or.inr (Or.inr (Or.inr (Or.inr (Or.inr (Or.inr (Or.inr (Or.inr (Or.inr (Or.inr (Or.inr (Or.inl (e 20 h)))))))))))))))))))))
      · exact Or.inr (Or.inr (Or.inr (Or.inr (Or.inr (Or.inr (Or.inr (Or.inr (Or.inr (Or.inr (Or.inr (Or.inr (Or.inr (Or.inr (Or.inr (Or.inr (Or.inr (Or.inr (Or.inr (Or.inr (Or.inr (Or.inl (e 21 h))))))))))))))))))))))
      · exact Or.inr (Or.inr (Or.inr (Or.inr (Or.inr (Or.inr (Or.inr (Or.inr (Or.inr (Or.inr (Or.inr (Or.inr (Or.inr (Or.inr (Or.inr (Or.inr (Or.inr (Or.inr (Or.inr (Or.inr (Or.inr (Or.inr (Or.inl (e 22 h)))))))))))))))))))))))
      · exact Or.inr (Or.inr (Or.inr (Or.inr (Or.inr (Or.inr (Or.inr (Or.inr (Or.inr (Or.inr (Or.inr (Or.inr (Or.inr (Or.inr (Or.inr (Or.inr (Or.inr (Or.inr (Or.inr (Or.inr (Or.inr (Or.inr (Or.inr (Or.inl (e 23 h))))))))))))))))))))))))
      · exact Or.inr (Or.inr (Or.inr (Or.inr (Or.inr (Or.inr (Or.inr (Or.inr (Or.inr (Or.inr (Or.inr (Or.inr (Or.inr (Or.inr (Or.inr (Or.inr (Or.inr (Or.inr (Or.inr (Or.inr (Or.inr (Or.inr (Or.inr (Or.inr (Or.inl (e 24 h)))))))))))))))))))))))))
      · exact Or.inr (Or.inr (Or.inr (Or.inr (Or.inr (Or.inr (Or.inr (Or.inr (Or.inr (Or.inr (Or.inr (Or.inr (Or.inr (Or.inr (Or.inr (Or.inr (Or.inr (Or.inr (Or.inr (Or.inr (Or.inr (Or.inr (Or.inr (Or.inr (Or.inr (Or.inl (e 25 h))))))))))))))))))))))))))
      · exact Or.inr (Or.inr (Or.inr (Or.inr (Or.inr (Or.inr (Or.inr (Or.inr (Or.inr (Or.inr (Or.inr (Or.inr (Or.inr (Or.inr (Or.inr (Or.inr (Or.inr (Or.inr (Or.inr (Or.inr (Or.inr (Or.inr (Or.inr (Or.inr (Or.inr (Or.inr (Or.inl (e 26 h)))))))))))))))))))))))))))
      · exact Or.inr (Or.inr (Or.inr (Or.inr (Or.inr (Or.inr (Or.inr (Or.inr (Or.inr (Or.inr (Or.inr (Or.inr (Or.inr (Or.inr (Or.inr (Or.inr (Or.inr (Or.inr (Or.inr (Or.inr (Or.inr (Or.inr (Or.inr (Or.inr (Or.inr (Or.inr (Or.inr (Or.inl (e 27 h))))))))))))))))))))))))))))
      · exact Or.inr (Or.inr (Or.inr (Or.inr (Or.inr (Or.inr (Or.inr (Or.inr (Or.inr (Or.inr (Or.inr (Or.inr (Or.inr (Or.inr (Or.inr (Or.inr (Or.inr (Or.inr (Or.inr (Or.inr (Or.inr (Or.inr (Or.inr (Or.inr (Or.inr (Or.inr (Or.inr (Or.inr (Or.inl (e 28 h)))))))))))))))))))))))))))))
      · exact Or.inr (Or.inr (Or.inr (Or.inr (Or.inr (Or.inr (Or.inr (Or.inr (Or.inr (Or.inr (Or.inr (Or.inr (Or.inr (Or.inr (Or.inr (Or.inr (Or.inr (Or.inr (Or.inr (Or.inr (Or.inr (Or.inr (Or.inr (Or.inr (Or.inr (Or.inr (Or.inr (Or.inr (Or.inr (Or.inl (e 29 h))))))))))))))))))))))))))))))
      · exact Or.inr (Or.inr (Or.inr (Or.inr (Or.inr (Or.inr (Or.inr (Or.inr (Or.inr (Or.inr (Or.inr (Or.inr (Or.inr (Or.inr (Or.inr (Or.inr (Or.inr (Or.inr (Or.inr (Or.inr (Or.inr (Or.inr (Or.inr (Or.inr (Or.inr (Or.inr (Or.inr (Or.inr (Or.inr (Or.inr (Or.inl (e 30 h)))))))))))))))))))))))))))))))
      · exact Or.inr (Or.inr (Or.inr (Or.inr (Or.inr (Or.inr (Or.inr (Or.inr (Or.inr (Or.inr (Or.inr (Or.inr (Or.inr (Or.inr (Or.inr (Or.inr (Or.inr (Or.inr (Or.inr (Or.inr (Or.inr (Or.inr (Or.inr (Or.inr (Or.inr (Or.inr (Or.inr (Or.inr (Or.inr (Or.inr (Or.inr (Or.inl (e 31 h))))))))))))))))))))))))))))))))
      · exact Or.inr (Or.inr (Or.inr (Or.inr (Or.inr (Or.inr (Or.inr (Or.inr (Or.inr (Or.inr (Or.inr (Or.inr (Or.inr (Or.inr (Or.inr (Or.inr (Or.inr (Or.inr (Or.inr (Or.inr (Or.inr (Or.inr (Or.inr (Or.inr (Or.inr (Or.inr (Or.inr (Or.inr (Or.inr (Or.inr (Or.inr (Or.inr (Or.inl (e 32 h)))))))))))))))))))))))))))))))))
      · exact Or.inr (Or.inr (Or.inr (Or.inr (Or.inr (Or.inr (Or.inr (Or.inr (Or.inr (Or.inr (Or.inr (Or.inr (Or.inr (Or.inr (Or.inr (Or.inr (Or.inr (Or.inr (Or.inr (Or.inr (Or.inr (Or.inr (Or.inr (Or.inr (Or.inr (Or.inr (Or.inr (Or.inr (Or.inr (Or.inr (Or.inr (Or.inr (Or.inr (e 33 h)))))))))))))))))))))))))))))))))
    rcases hx with rfl | rfl | rfl | rfl | rfl | rfl | rfl | rfl | rfl | rfl | rfl | rfl | rfl | rfl | rfl | rfl | rfl | rfl | rfl | rfl | rfl | rfl | rfl | rfl | rfl | rfl | rfl | rfl | rfl | rfl | rfl | rfl | rfl | rfl <;> first | rfl | (exact absurd rfl (by assumption))
def F_L_law_18 (L : Nat) (xs : Nat → Int32) (N : Nat) : Nat → Int32 → St → Option (Int32 × St)
  | 0 => fun _ _ => none
  | n + 1 => fun x3 S =>
    if ((Int32.ofNat L) - 6) < x3 then (some (1, S)) else (gd (inb x3 L) (if ((xs (Int32.toNatClampNeg x3)) &&& 63) = 0 then (gd (inb (x3 + 1) L) (gd (inb (x3 + 2) L) (gd (inb (x3 + 3) L) ((F_X11_line (xs (Int32.toNatClampNeg (x3 + 1))) (xs (Int32.toNatClampNeg (x3 + 2))) (xs (Int32.toNatClampNeg (x3 + 3))) S).bind (fun r_200 => gd (inb (x3 + 1) L) (gd (inb (x3 + 2) L) (gd (inb (x3 + 3) L) ((F_X12_line (xs (Int32.toNatClampNeg (x3 + 1))) (xs (Int32.toNatClampNeg (x3 + 2))) (xs (Int32.toNatClampNeg (x3 + 3))) r_200.2).bind (fun r_219 => if r_200.1 = r_219.1 then ((F_L_law_18 L xs N n) (x3 + 6) r_219.2) else (some (0, r_219.2))))))))))) else (if ((xs (Int32.toNatClampNeg x3)) &&& 63) = 1 then (gd (inb (x3 + 1) L) (gd (inb (x3 + 2) L) (gd (inb (x3 + 3) L) ((F_X11_lines N (xs (Int32.toNatClampNeg (x3 + 1))) (xs (Int32.toNatClampNeg (x3 + 2))) (xs (Int32.toNatClampNeg (x3 + 3))) S).bind (fun r_243 => gd (inb (x3 + 1) L) (gd (inb (x3 + 2) L) (gd (inb (x3 + 3) L) ((F_X12_lines N (xs (Int32.toNatClampNeg (x3 + 1))) (xs (Int32.toNatClampNeg (x3 + 2))) (xs (Int32.toNatClampNeg (x3 + 3))) r_243.2).bind (fun r_262 => if r_243.1 = r_262.1 then ((F_L_law_18 L xs N n) (x3 + 6) r_262.2) else (some (0, r_262.2))))))))))) else (if ((xs (Int32.toNatClampNeg x3)) &&& 63) = 2 then (gd (inb (x3 + 1) L) ((F_X11_feed (xs (Int32.toNatClampNeg (x3 + 1))) S).bind (fun r_276 => gd (inb (x3 + 1) L) ((F_X12_feed (xs (Int32.toNatClampNeg (x3 + 1))) r_276.2).bind (fun r_285 => if r_276.1 = r_285.1 then ((F_L_law_18 L xs N n) (x3 + 6) r_285.2) else (some (0, r_285.2))))))) else (if ((xs (Int32.toNatClampNeg x3)) &&& 63) = 3 then (gd (inb (x3 + 1) L) ((F_X11_law N (xs (Int32.toNatClampNeg (x3 + 1))) S).bind (fun r_299 => gd (inb (x3 + 1) L) ((F_X12_law N (xs (Int32.toNatClampNeg (x3 + 1))) r_299.2).bind (fun r_308 => if r_299.1 = r_308.1 then ((F_L_law_18 L xs N n) (x3 + 6) r_308.2) else (some (0, r_308.2))))))) else (if ((xs (Int32.toNatClampNeg x3)) &&& 63) = 4 then (gd (inb (x3 + 1) L) (gd (inb (x3 + 2) L) ((F_X11_set (xs (Int32.toNatClampNeg (x3 + 1))) (xs (Int32.toNatClampNeg (x3 + 2))) S).bind (fun r_327 => gd (inb (x3 + 1) L) (gd (inb (x3 + 2) L) ((F_X12_set (xs (Int32.toNatClampNeg (x3 + 1))) (xs (Int32.toNatClampNeg (x3 + 2))) r_327.2).bind (fun r_341 => if r_327.1 = r_341.1 then ((F_L_law_18 L xs N n) (x3 + 6) r_341.2) else (some (0, r_341.2))))))))) else (if ((xs (Int32.toNatClampNeg x3)) &&& 63) = 5 then (gd (inb (x3 + 1) L) (gd (inb (x3 + 2) L) (gd (inb (x3 + 3) L) ((F_X11_mend (xs (Int32.toNatClampNeg (x3 + 1))) (xs (Int32.toNatClampNeg (x3 + 2))) (xs (Int32.toNatClampNeg (x3 + 3))) S).bind (fun r_365 => gd (inb (x3 + 1) L) (gd (inb (x3 + 2) L) (gd (inb (x3 + 3) L) ((F_X12_mend N (xs (Int32.toNatClampNeg (x3 + 1))) (xs (Int32.toNatClampNeg (x3 + 2))) (xs (Int32.toNatClampNeg (x3 + 3))) r_365.2).bind (fun r_384 => if r_365.1 = r_384.1 then ((F_L_law_18 L xs N n) (x3 + 6) r_384.2) else (some (0, r_384.2))))))))))) else (if ((xs (Int32.toNatClampNeg x3)) &&& 63) = 6 then (gd (inb (x3 + 1) L) (gd (inb (x3 + 2) L) ((F_X11_of N (xs (Int32.toNatClampNeg (x3 + 1))) (xs (Int32.toNatClampNeg (x3 + 2))) S).bind (fun r_403 => gd (inb (x3 + 1) L) (gd (inb (x3 + 2) L) ((F_X12_of N (xs (Int32.toNatClampNeg (x3 + 1))) (xs (Int32.toNatClampNeg (x3 + 2))) r_403.2).bind (fun r_417 => if r_403.1 = r_417.1 then ((F_L_law_18 L xs N n) (x3 + 6) r_417.2) else (some (0, r_417.2))))))))) else (if ((xs (Int32.toNatClampNeg x3)) &&& 63) = 7 then (gd (inb (x3 + 1) L) ((F_X11_rehearse N (xs (Int32.toNatClampNeg (x3 + 1))) S).bind (fun r_431 => gd (inb (x3 + 1) L) ((F_X12_rehearse N (xs (Int32.toNatClampNeg (x3 + 1))) r_431.2).bind (fun r_440 => if r_431.1 = r_440.1 then ((F_L_law_18 L xs N n) (x3 + 6) r_440.2) else (some (0, r_440.2))))))) else (if ((xs (Int32.toNatClampNeg x3)) &&& 63) = 8 then (gd (inb (x3 + 1) L) (gd (inb (x3 + 2) L) ((F_X11_jumps N (xs (Int32.toNatClampNeg (x3 + 1))) (xs (Int32.toNatClampNeg (x3 + 2))) S).bind (fun r_459 => gd (inb (x3 + 1) L) (gd (inb (x3 + 2) L) ((F_X12_jumps N (xs (Int32.toNatClampNeg (x3 + 1))) (xs (Int32.toNatClampNeg (x3 + 2))) r_459.2).bind (fun r_473 => if r_459.1 = r_473.1 then ((F_L_law_18 L xs N n) (x3 + 6) r_473.2) else (some (0, r_473.2))))))))) else (if ((xs (Int32.toNatClampNeg x3)) &&& 63) = 9 then (gd (inb (x3 + 1) L) ((F_X11_behind N (xs (Int32.toNatClampNeg (x3 + 1))) S).bind (fun r_487 => gd (inb (x3 + 1) L) ((F_X12_behind N (xs (Int32.toNatClampNeg (x3 + 1))) r_487.2).bind (fun r_496 => if r_487.1 = r_496.1 then ((F_L_law_18 L xs N n) (x3 + 6) r_496.2) else (some (0, r_496.2))))))) else (if ((xs (Int32.toNatClampNeg x3)) &&& 63) = 10 then (gd (inb (x3 + 1) L) (gd (inb (x3 + 2) L) ((F_X11_way N (xs (Int32.toNatClampNeg (x3 + 1))) (xs (Int32.toNatClampNeg (x3 + 2))) S).bind (fun r_515 => gd (inb (x3 + 1) L) (gd (inb (x3 + 2) L) ((F_X12_way N (xs (Int32.toNatClampNeg (x3 + 1))) (xs (Int32.toNatClampNeg (x3 + 2))) r_515.2).bind (fun r_529 => if r_515.1 = r_529.1 then ((F_L_law_18 L xs N n) (x3 + 6) r_529.2) else (some (0, r_529.2))))))))) else (if ((xs (Int32.toNatClampNeg x3)) &&& 63) = 11 then (gd (inb (x3 + 1) L) ((F_X11_night N (xs (Int32.toNatClampNeg (x3 + 1))) S).bind (fun r_543 => gd (inb (x3 + 1) L) ((F_X12_night N (xs (Int32.toNatClampNeg (x3 + 1))) r_543.2).bind (fun r_552 => if r_543.1 = r_552.1 then ((F_L_law_18 L xs N n) (x3 + 6) r_552.2) else (some (0, r_552.2))))))) else (if ((xs (Int32.toNatClampNeg x3)) &&& 63) = 12 then (gd (inb (x3 + 1) L) ((F_X11_told (xs (Int32.toNatClampNeg (x3 + 1))) S).bind (fun r_566 => gd (inb (x3 + 1) L) ((F_X12_told (xs (Int32.toNatClampNeg (x3 + 1))) r_566.2).bind (fun r_575 => if r_566.1 = r_575.1 then ((F_L_law_18 L xs N n) (x3 + 6) r_575.2) else (some (0, r_575.2))))))) else (if ((xs (Int32.toNatClampNeg x3)) &&& 63) = 13 then (gd (inb (x3 + 1) L) (gd (inb (x3 + 2) L) ((F_X11_said (xs (Int32.toNatClampNeg (x3 + 1))) (xs (Int32.toNatClampNeg (x3 + 2))) S).bind (fun r_594 => gd (inb (x3 + 1) L) (gd (inb (x3 + 2) L) ((F_X12_said (xs (Int32.toNatClampNeg (x3 + 1))) (xs (Int32.toNatClampNeg (x3 + 2))) r_594.2).bind (fun r_608 => if r_594.1 = r_608.1 then ((F_L_law_18 L xs N n) (x3 + 6) r_608.2) else (some (0, r_608.2))))))))) else (if ((xs (Int32.toNatClampNeg x3)) &&& 63) = 14 then (gd (inb (x3 + 1) L) (gd (inb (x3 + 2) L) (gd (inb (x3 + 3) L) ((F_X11_mean N (xs (Int32.toNatClampNeg (x3 + 1))) (xs (Int32.toNatClampNeg (x3 + 2))) (xs (Int32.toNatClampNeg (x3 + 3))) S).bind (fun r_632 => gd (inb (x3 + 1) L) (gd (inb (x3 + 2) L) (gd (inb (x3 + 3) L) ((F_X12_mean N (xs (Int32.toNatClampNeg (x3 + 1))) (xs (Int32.toNatClampNeg (x3 + 2))) (xs (Int32.toNatClampNeg (x3 + 3))) r_632.2).bind (fun r_651 => if r_632.1 = r_651.1 then ((F_L_law_18 L xs N n) (x3 + 6) r_651.2) else (some (0, r_651.2))))))))))) else (if ((xs (Int32.toNatClampNeg x3)) &&& 63) = 15 then (gd (inb (x3 + 1) L) (gd (inb (x3 + 2) L) ((F_X11_tape N (xs (Int32.toNatClampNeg (x3 + 1))) (xs (Int32.toNatClampNeg (x3 + 2))) S).bind (fun r_670 => gd (inb (x3 + 1) L) (gd (inb (x3 + 2) L) ((F_X12_tape N (xs (Int32.toNatClampNeg (x3 + 1))) (xs (Int32.toNatClampNeg (x3 + 2))) r_670.2).bind (fun r_684 => if r_670.1 = r_684.1 then ((F_L_law_18 L xs N n) (x3 + 6) r_684.2) else (some (0, r_684.2))))))))) else (if ((xs (Int32.toNatClampNeg x3)) &&& 63) = 16 then (gd (inb (x3 + 1) L) (gd (inb (x3 + 2) L) ((F_X11_prompt N (xs (Int32.toNatClampNeg (x3 + 1))) (xs (Int32.toNatClampNeg (x3 + 2))) S).bind (fun r_703 => gd (inb (x3 + 1) L) (gd (inb (x3 + 2) L) ((F_X12_prompt N (xs (Int32.toNatClampNeg (x3 + 1))) (xs (Int32.toNatClampNeg (x3 + 2))) r_703.2).bind (fun r_717 => if r_703.1 = r_717.1 then ((F_L_law_18 L xs N n) (x3 + 6) r_717.2) else (some (0, r_717.2))))))))) else (if ((xs (Int32.toNatClampNeg x3)) &&& 63) = 17 then (gd (inb (x3 + 1) L) (gd (inb (x3 + 2) L) ((F_X11_evenings N (xs (Int32.toNatClampNeg (x3 + 1))) (xs (Int32.toNatClampNeg (x3 + 2))) S).bind (fun r_736 => gd (inb (x3 + 1) L) (gd (inb (x3 + 2) L) ((F_X12_evenings N (xs (Int32.toNatClampNeg (x3 + 1))) (xs (Int32.toNatClampNeg (x3 + 2))) r_736.2).bind (fun r_750 => if r_736.1 = r_750.1 then ((F_L_law_18 L xs N n) (x3 + 6) r_750.2) else (some (0, r_750.2))))))))) else (if ((xs (Int32.toNatClampNeg x3)) &&& 63) = 18 then (gd (inb (x3 + 1) L) (gd (inb (x3 + 2) L) ((F_X11_cut N (xs (Int32.toNatClampNeg (x3 + 1))) (xs (Int32.toNatClampNeg (x3 + 2))) S).bind (fun r_769 => gd (inb (x3 + 1) L) (gd (inb (x3 + 2) L) ((F_X12_cut N (xs (Int32.toNatClampNeg (x3 + 1))) (xs (Int32.toNatClampNeg (x3 + 2))) r_769.2).bind (fun r_783 => if r_769.1 = r_783.1 then ((F_L_law_18 L xs N n) (x3 + 6) r_783.2) else (some (0, r_783.2))))))))) else (if ((xs (Int32.toNatClampNeg x3)) &&& 63) = 19 then (gd (inb (x3 + 1) L) (gd (inb (x3 + 2) L) ((F_X11_newspaper N (xs (Int32.toNatClampNeg (x3 + 1))) (xs (Int32.toNatClampNeg (x3 + 2))) S).bind (fun r_802 => gd (inb (x3 + 1) L) (gd (inb (x3 + 2) L) ((F_X12_newspaper N (xs (Int32.toNatClampNeg (x3 + 1))) (xs (Int32.toNatClampNeg (x3 + 2))) r_802.2).bind (fun r_816 => if r_802.1 = r_816.1 then ((F_L_law_18 L xs N n) (x3 + 6) r_816.2) else (some (0, r_816.2))))))))) else (if ((xs (Int32.toNatClampNeg x3)) &&& 63) = 20 then ((F_X11_image S).bind (fun r_825 => (F_X12_image N r_825.2).bind (fun r_829 => if r_825.1 = r_829.1 then ((F_L_law_18 L xs N n) (x3 + 6) r_829.2) else (some (0, r_829.2))))) else (if ((xs (Int32.toNatClampNeg x3)) &&& 63) = 21 then ((F_X11_back S).bind (fun r_838 => (F_X12_back N r_838.2).bind (fun r_842 => if r_838.1 = r_842.1 then ((F_L_law_18 L xs N n) (x3 + 6) r_842.2) else (some (0, r_842.2))))) else (if ((xs (Int32.toNatClampNeg x3)) &&& 63) = 22 then ((F_X11_undo S).bind (fun r_851 => (F_X12_undo r_851.2).bind (fun r_855 => if r_851.1 = r_855.1 then ((F_L_law_18 L xs N n) (x3 + 6) r_855.2) else (some (0, r_855.2))))) else (if ((xs (Int32.toNatClampNeg x3)) &&& 63) = 23 then ((F_X11_redo S).bind (fun r_864 => (F_X12_redo r_864.2).bind (fun r_868 => if r_864.1 = r_868.1 then ((F_L_law_18 L xs N n) (x3 + 6) r_868.2) else (some (0, r_868.2))))) else (if ((xs (Int32.toNatClampNeg x3)) &&& 63) = 24 then (gd (inb (x3 + 1) L) ((F_X11_body (xs (Int32.toNatClampNeg (x3 + 1))) S).bind (fun r_882 => gd (inb (x3 + 1) L) ((F_X12_body (xs (Int32.toNatClampNeg (x3 + 1))) r_882.2).bind (fun r_891 => if r_882.1 = r_891.1 then ((F_L_law_18 L xs N n) (x3 + 6) r_891.2) else (some (0, r_891.2))))))) else (if ((xs (Int32.toNatClampNeg x3)) &&& 63) = 25 then (gd (inb (x3 + 1) L) (gd (inb (x3 + 2) L) (gd (inb (x3 + 3) L) ((F_X11_act N (xs (Int32.toNatClampNeg (x3 + 1))) (xs (Int32.toNatClampNeg (x3 + 2))) (xs (Int32.toNatClampNeg (x3 + 3))) S).bind (fun r_915 => gd (inb (x3 + 1) L) (gd (inb (x3 + 2) L) (gd (inb (x3 + 3) L) ((F_X12_act (xs (Int32.toNatClampNeg (x3 + 1))) (xs (Int32.toNatClampNeg (x3 + 2))) (xs (Int32.toNatClampNeg (x3 + 3))) r_915.2).bind (fun r_934 => if r_915.1 = r_934.1 then ((F_L_law_18 L xs N n) (x3 + 6) r_934.2) else (some (0, r_934.2))))))))))) else (if ((xs (Int32.toNatClampNeg x3)) &&& 63) = 26 then (gd (inb (x3 + 1) L) ((F_X11_trace (xs (Int32.toNatClampNeg (x3 + 1))) S).bind (fun r_948 => gd (inb (x3 + 1) L) ((F_X12_trace (xs (Int32.toNatClampNeg (x3 + 1))) r_948.2).bind (fun r_957 => if r_948.1 = r_957.1 then ((F_L_law_18 L xs N n) (x3 + 6) r_957.2) else (some (0, r_957.2))))))) else (if ((xs (Int32.toNatClampNeg x3)) &&& 63) = 27 then (gd (inb (x3 + 1) L) (gd (inb (x3 + 2) L) ((F_X11_keep (xs (Int32.toNatClampNeg (x3 + 1))) (xs (Int32.toNatClampNeg (x3 + 2))) S).bind (fun r_976 => gd (inb (x3 + 1) L) (gd (inb (x3 + 2) L) ((F_X12_keep (xs (Int32.toNatClampNeg (x3 + 1))) (xs (Int32.toNatClampNeg (x3 + 2))) r_976.2).bind (fun r_990 => if r_976.1 = r_990.1 then ((F_L_law_18 L xs N n) (x3 + 6) r_990.2) else (some (0, r_990.2))))))))) else (if ((xs (Int32.toNatClampNeg x3)) &&& 63) = 28 then (gd (inb (x3 + 1) L) (gd (inb (x3 + 2) L) (gd (inb (x3 + 3) L) ((F_X11_row N (xs (Int32.toNatClampNeg (x3 + 1))) (xs (Int32.toNatClampNeg (x3 + 2))) (xs (Int32.toNatClampNeg (x3 + 3))) S).bind (fun r_1014 => gd (inb (x3 + 1) L) (gd (inb (x3 + 2) L) (gd (inb (x3 + 3) L) ((F_X12_row N (xs (Int32.toNatClampNeg (x3 + 1))) (xs (Int32.toNatClampNeg (x3 + 2))) (xs (Int32.toNatClampNeg (x3 + 3))) r_1014.2).bind (fun r_1033 => if r_1014.1 = r_1033.1 then ((F_L_law_18 L xs N n) (x3 + 6) r_1033.2) else (some (0, r_1033.2))))))))))) else (if ((xs (Int32.toNatClampNeg x3)) &&& 63) = 29 then (gd (inb (x3 + 1) L) (gd (inb (x3 + 2) L) (gd (inb (x3 + 3) L) (gd (inb (x3 + 4) L) ((F_X11_put (xs (Int32.toNatClampNeg (x3 + 1))) (xs (Int32.toNatClampNeg (x3 + 2))) (((Int32.toInt64 (xs (Int32.toNatClampNeg (x3 + 3)))) <<< (Int32.toInt64 (32 : Int32) &&& 63)) ||| ((Int32.toInt64 (xs (Int32.toNatClampNeg (x3 + 4)))) &&& 4294967295)) S).bind (fun r_1072 => gd (inb (x3 + 1) L) (gd (inb (x3 + 2) L) (gd (inb (x3 + 3) L) (gd (inb (x3 + 4) L) ((F_X12_put (xs (Int32.toNatClampNeg (x3 + 1))) (xs (Int32.toNatClampNeg (x3 + 2))) (((Int32.toInt64 (xs (Int32.toNatClampNeg (x3 + 3)))) <<< (Int32.toInt64 (32 : Int32) &&& 63)) ||| ((Int32.toInt64 (xs (Int32.toNatClampNeg (x3 + 4)))) &&& 4294967295)) r_1072.2).bind (fun r_1106 => if r_1072.1 = r_1106.1 then ((F_L_law_18 L xs N n) (x3 + 6) r_1106.2) else (some (0, r_1106.2))))))))))))) else (if ((xs (Int32.toNatClampNeg x3)) &&& 63) = 30 then (gd (inb (x3 + 1) L) (gd (inb (x3 + 2) L) ((F_X11_element (xs (Int32.toNatClampNeg (x3 + 1))) (xs (Int32.toNatClampNeg (x3 + 2))) S).bind (fun r_1125 => gd (inb (x3 + 1) L) (gd (inb (x3 + 2) L) ((F_X12_element (xs (Int32.toNatClampNeg (x3 + 1))) (xs (Int32.toNatClampNeg (x3 + 2))) r_1125.2).bind (fun r_1139 => if (lg_cmp r_1125.1 r_1139.1) = 0 then ((F_L_law_18 L xs N n) (x3 + 6) r_1139.2) else (some (0, r_1139.2))))))))) else (if ((xs (Int32.toNatClampNeg x3)) &&& 63) = 31 then (gd (inb (x3 + 1) L) (gd (inb (x3 + 2) L) (gd (inb (x3 + 3) L) (gd (inb (x3 + 4) L) (gd (inb (x3 + 5) L) ((F_X11_shift (xs (Int32.toNatClampNeg (x3 + 1))) (xs (Int32.toNatClampNeg (x3 + 2))) (xs (Int32.toNatClampNeg (x3 + 3))) (xs (Int32.toNatClampNeg (x3 + 4))) (xs (Int32.toNatClampNeg (x3 + 5))) S).bind (fun r_1174 => gd (inb (x3 + 1) L) (gd (inb (x3 + 2) L) (gd (inb (x3 + 3) L) (gd (inb (x3 + 4) L) (gd (inb (x3 + 5) L) ((F_X12_shift N (xs (Int32.toNatClampNeg (x3 + 1))) (xs (Int32.toNatClampNeg (x3 + 2))) (xs (Int32.toNatClampNeg (x3 + 3))) (xs (Int32.toNatClampNeg (x3 + 4))) (xs (Int32.toNatClampNeg (x3 + 5))) r_1174.2).bind (fun r_1203 => if r_1174.1 = r_1203.1 then ((F_L_law_18 L xs N n) (x3 + 6) r_1203.2) else (some (0, r_1203.2))))))))))))))) else (if ((xs (Int32.toNatClampNeg x3)) &&& 63) = 32 then (gd (inb (x3 + 1) L) (gd (inb (x3 + 2) L) ((F_X11_taken N (xs (Int32.toNatClampNeg (x3 + 1))) (xs (Int32.toNatClampNeg (x3 + 2))) S).bind (fun r_1222 => gd (inb (x3 + 1) L) (gd (inb (x3 + 2) L) ((F_X12_taken (xs (Int32.toNatClampNeg (x3 + 1))) (xs (Int32.toNatClampNeg (x3 + 2))) r_1222.2).bind (fun r_1236 => if r_1222.1 = r_1236.1 then ((F_L_law_18 L xs N n) (x3 + 6) r_1236.2) else (some (0, r_1236.2))))))))) else (if ((xs (Int32.toNatClampNeg x3)) &&& 63) = 33 then (gd (inb (x3 + 1) L) ((F_X11_count (xs (Int32.toNatClampNeg (x3 + 1))) S).bind (fun r_1250 => gd (inb (x3 + 1) L) ((F_X12_count (xs (Int32.toNatClampNeg (x3 + 1))) r_1250.2).bind (fun r_1259 => if r_1250.1 = r_1259.1 then ((F_L_law_18 L xs N n) (x3 + 6) r_1259.2) else (some (0, r_1259.2))))))) else ((F_L_law_18 L xs N n) (x3 + 6) S))))))))))))))))))))))))))))))))))))
set_option maxHeartbeats 4000000 in
set_option maxRecDepth 100000 in
theorem ok_L_law_18 {l : Launch} (d : Nat) (L : Nat) (xs : Nat → Int32) (N : Nat) : ∀ (n : Nat) (x3 : Int32) (S : St) (R : Int32 × St), F_L_law_18 L xs N n x3 S = some R → GoL L xs l (d + 57) mL_law (Res (some (.int R.1)) R.2) 18 [(0, .ref 503), (1, .ref 0), (2, .ref 63), (3, .int x3)] [] S := by
  intro n
  induction n with
  | zero => intro x3 S  R hF; cases hF
  | succ n hk18 =>
    intro x3 S  R hF
    have hF : (if ((Int32.ofNat L) - 6) < x3 then (some (1, S)) else (gd (inb x3 L) (if ((xs (Int32.toNatClampNeg x3)) &&& 63) = 0 then (gd (inb (x3 + 1) L) (gd (inb (x3 + 2) L) (gd (inb (x3 + 3) L) ((F_X11_line (xs (Int32.toNatClampNeg (x3 + 1))) (xs (Int32.toNatClampNeg (x3 + 2))) (xs (Int32.toNatClampNeg (x3 + 3))) S).bind (fun r_200 => gd (inb (x3 + 1) L) (gd (inb (x3 + 2) L) (gd (inb (x3 + 3) L) ((F_X12_line (xs (Int32.toNatClampNeg (x3 + 1))) (xs (Int32.toNatClampNeg (x3 + 2))) (xs (Int32.toNatClampNeg (x3 + 3))) r_200.2).bind (fun r_219 => if r_200.1 = r_219.1 then ((F_L_law_18 L xs N n) (x3 + 6) r_219.2) else (some (0, r_219.2))))))))))) else (if ((xs (Int32.toNatClampNeg x3)) &&& 63) = 1 then (gd (inb (x3 + 1) L) (gd (inb (x3 + 2) L) (gd (inb (x3 + 3) L) ((F_X11_lines N (xs (Int32.toNatClampNeg (x3 + 1))) (xs (Int32.toNatClampNeg (x3 + 2))) (xs (Int32.toNatClampNeg (x3 + 3))) S).bind (fun r_243 => gd (inb (x3 + 1) L) (gd (inb (x3 + 2) L) (gd (inb (x3 + 3) L) ((F_X12_lines N (xs (Int32.toNatClampNeg (x3 + 1))) (xs (Int32.toNatClampNeg (x3 + 2))) (xs (Int32.toNatClampNeg (x3 + 3))) r_243.2).bind (fun r_262 => if r_243.1 = r_262.1 then ((F_L_law_18 L xs N n) (x3 + 6) r_262.2) else (some (0, r_262.2))))))))))) else (if ((xs (Int32.toNatClampNeg x3)) &&& 63) = 2 then (gd (inb (x3 + 1) L) ((F_X11_feed (xs (Int32.toNatClampNeg (x3 + 1))) S).bind (fun r_276 => gd (inb (x3 + 1) L) ((F_X12_feed (xs (Int32.toNatClampNeg (x3 + 1))) r_276.2).bind (fun r_285 => if r_276.1 = r_285.1 then ((F_L_law_18 L xs N n) (x3 + 6) r_285.2) else (some (0, r_285.2))))))) else (if ((xs (Int32.toNatClampNeg x3)) &&& 63) = 3 then (gd (inb (x3 + 1) L) ((F_X11_law N (xs (Int32.toNatClampNeg (x3 + 1))) S).bind (fun r_299 => gd (inb (x3 + 1) L) ((F_X12_law N (xs (Int32.toNatClampNeg (x3 + 1))) r_299.2).bind (fun r_308 => if r_299.1 = r_308.1 then ((F_L_law_18 L xs N n) (x3 + 6) r_308.2) else (some (0, r_308.2))))))) else (if ((xs (Int32.toNatClampNeg x3)) &&& 63) = 4 then (gd (inb (x3 + 1) L) (gd (inb (x3 + 2) L) ((F_X11_set (xs (Int32.toNatClampNeg (x3 + 1))) (xs (Int32.toNatClampNeg (x3 + 2))) S).bind (fun r_327 => gd (inb (x3 + 1) L) (gd (inb (x3 + 2) L) ((F_X12_set (xs (Int32.toNatClampNeg (x3 + 1))) (xs (Int32.toNatClampNeg (x3 + 2))) r_327.2).bind (fun r_341 => if r_327.1 = r_341.1 then ((F_L_law_18 L xs N n) (x3 + 6) r_341.2) else (some (0, r_341.2))))))))) else (if ((xs (Int32.toNatClampNeg x3)) &&& 63) = 5 then (gd (inb (x3 + 1) L) (gd (inb (x3 + 2) L) (gd (inb (x3 + 3) L) ((F_X11_mend (xs (Int32.toNatClampNeg (x3 + 1))) (xs (Int32.toNatClampNeg (x3 + 2))) (xs (Int32.toNatClampNeg (x3 + 3))) S).bind (fun r_365 => gd (inb (x3 + 1) L) (gd (inb (x3 + 2) L) (gd (inb (x3 + 3) L) ((F_X12_mend N (xs (Int32.toNatClampNeg (x3 + 1))) (xs (Int32.toNatClampNeg (x3 + 2))) (xs (Int32.toNatClampNeg (x3 + 3))) r_365.2).bind (fun r_384 => if r_365.1 = r_384.1 then ((F_L_law_18 L xs N n) (x3 + 6) r_384.2) else (some (0, r_384.2))))))))))) else (if ((xs (Int32.toNatClampNeg x3)) &&& 63) = 6 then (gd (inb (x3 + 1) L) (gd (inb (x3 + 2) L) ((F_X11_of N (xs (Int32.toNatClampNeg (x3 + 1))) (xs (Int32.toNatClampNeg (x3 + 2))) S).bind (fun r_403 => gd (inb (x3 + 1) L) (gd (inb (x3 + 2) L) ((F_X12_of N (xs (Int32.toNatClampNeg (x3 + 1))) (xs (Int32.toNatClampNeg (x3 + 2))) r_403.2).bind (fun r_417 => if r_403.1 = r_417.1 then ((F_L_law_18 L xs N n) (x3 + 6) r_417.2) else (some (0, r_417.2))))))))) else (if ((xs (Int32.toNatClampNeg x3)) &&& 63) = 7 then (gd (inb (x3 + 1) L) ((F_X11_rehearse N (xs (Int32.toNatClampNeg (x3 + 1))) S).bind (fun r_431 => gd (inb (x3 + 1) L) ((F_X12_rehearse N (xs (Int32.toNatClampNeg (x3 + 1))) r_431.2).bind (fun r_440 => if r_431.1 = r_440.1 then ((F_L_law_18 L xs N n) (x3 + 6) r_440.2) else (some (0, r_440.2))))))) else (if ((xs (Int32.toNatClampNeg x3)) &&& 63) = 8 then (gd (inb (x3 + 1) L) (gd (inb (x3 + 2) L) ((F_X11_jumps N (xs (Int32.toNatClampNeg (x3 + 1))) (xs (Int32.toNatClampNeg (x3 + 2))) S).bind (fun r_459 => gd (inb (x3 + 1) L) (gd (inb (x3 + 2) L) ((F_X12_jumps N (xs (Int32.toNatClampNeg (x3 + 1))) (xs (Int32.toNatClampNeg (x3 + 2))) r_459.2).bind (fun r_473 => if r_459.1 = r_473.1 then ((F_L_law_18 L xs N n) (x3 + 6) r_473.2) else (some (0, r_473.2))))))))) else (if ((xs (Int32.toNatClampNeg x3)) &&& 63) = 9 then (gd (inb (x3 + 1) L) ((F_X11_behind N (xs (Int32.toNatClampNeg (x3 + 1))) S).bind (fun r_487 => gd (inb (x3 + 1) L) ((F_X12_behind N (xs (Int32.toNatClampNeg (x3 + 1))) r_487.2).bind (fun r_496 => if r_487.1 = r_496.1 then ((F_L_law_18 L xs N n) (x3 + 6) r_496.2) else (some (0, r_496.2))))))) else (if ((xs (Int32.toNatClampNeg x3)) &&& 63) = 10 then (gd (inb (x3 + 1) L) (gd (inb (x3 + 2) L) ((F_X11_way N (xs (Int32.toNatClampNeg (x3 + 1))) (xs (Int32.toNatClampNeg (x3 + 2))) S).bind (fun r_515 => gd (inb (x3 + 1) L) (gd (inb (x3 + 2) L) ((F_X12_way N (xs (Int32.toNatClampNeg (x3 + 1))) (xs (Int32.toNatClampNeg (x3 + 2))) r_515.2).bind (fun r_529 => if r_515.1 = r_529.1 then ((F_L_law_18 L xs N n) (x3 + 6) r_529.2) else (some (0, r_529.2))))))))) else (if ((xs (Int32.toNatClampNeg x3)) &&& 63) = 11 then (gd (inb (x3 + 1) L) ((F_X11_night N (xs (Int32.toNatClampNeg (x3 + 1))) S).bind (fun r_543 => gd (inb (x3 + 1) L) ((F_X12_night N (xs (Int32.toNatClampNeg (x3 + 1))) r_543.2).bind (fun r_552 => if r_543.1 = r_552.1 then ((F_L_law_18 L xs N n) (x3 + 6) r_552.2) else (some (0, r_552.2))))))) else (if ((xs (Int32.toNatClampNeg x3)) &&& 63) = 12 then (gd (inb (x3 + 1) L) ((F_X11_told (xs (Int32.toNatClampNeg (x3 + 1))) S).bind (fun r_566 => gd (inb (x3 + 1) L) ((F_X12_told (xs (Int32.toNatClampNeg (x3 + 1))) r_566.2).bind (fun r_575 => if r_566.1 = r_575.1 then ((F_L_law_18 L xs N n) (x3 + 6) r_575.2) else (some (0, r_575.2))))))) else (if ((xs (Int32.toNatClampNeg x3)) &&& 63) = 13 then (gd (inb (x3 + 1) L) (gd (inb (x3 + 2) L) ((F_X11_said (xs (Int32.toNatClampNeg (x3 + 1))) (xs (Int32.toNatClampNeg (x3 + 2))) S).bind (fun r_594 => gd (inb (x3 + 1) L) (gd (inb (x3 + 2) L) ((F_X12_said (xs (Int32.toNatClampNeg (x3 + 1))) (xs (Int32.toNatClampNeg (x3 + 2))) r_594.2).bind (fun r_608 => if r_594.1 = r_608.1 then ((F_L_law_18 L xs N n) (x3 + 6) r_608.2) else (some (0, r_608.2))))))))) else (if ((xs (Int32.toNatClampNeg x3)) &&& 63) = 14 then (gd (inb (x3 + 1) L) (gd (inb (x3 + 2) L) (gd (inb (x3 + 3) L) ((F_X11_mean N (xs (Int32.toNatClampNeg (x3 + 1))) (xs (Int32.toNatClampNeg (x3 + 2))) (xs (Int32.toNatClampNeg (x3 + 3))) S).bind (fun r_632 => gd (inb (x3 + 1) L) (gd (inb (x3 + 2) L) (gd (inb (x3 + 3) L) ((F_X12_mean N (xs (Int32.toNatClampNeg (x3 + 1))) (xs (Int32.toNatClampNeg (x3 + 2))) (xs (Int32.toNatClampNeg (x3 + 3))) r_632.2).bind (fun r_651 => if r_632.1 = r_651.1 then ((F_L_law_18 L xs N n) (x3 + 6) r_651.2) else (some (0, r_651.2))))))))))) else (if ((xs (Int32.toNatClampNeg x3)) &&& 63) = 15 then (gd (inb (x3 + 1) L) (gd (inb (x3 + 2) L) ((F_X11_tape N (xs (Int32.toNatClampNeg (x3 + 1))) (xs (Int32.toNatClampNeg (x3 + 2))) S).bind (fun r_670 => gd (inb (x3 + 1) L) (gd (inb (x3 + 2) L) ((F_X12_tape N (xs (Int32.toNatClampNeg (x3 + 1))) (xs (Int32.toNatClampNeg (x3 + 2))) r_670.2).bind (fun r_684 => if r_670.1 = r_684.1 then ((F_L_law_18 L xs N n) (x3 + 6) r_684.2) else (some (0, r_684.2))))))))) else (if ((xs (Int32.toNatClampNeg x3)) &&& 63) = 16 then (gd (inb (x3 + 1) L) (gd (inb (x3 + 2) L) ((F_X11_prompt N (xs (Int32.toNatClampNeg (x3 + 1))) (xs (Int32.toNatClampNeg (x3 + 2))) S).bind (fun r_703 => gd (inb (x3 + 1) L) (gd (inb (x3 + 2) L) ((F_X12_prompt N (xs (Int32.toNatClampNeg (x3 + 1))) (xs (Int32.toNatClampNeg (x3 + 2))) r_703.2).bind (fun r_717 => if r_703.1 = r_717.1 then ((F_L_law_18 L xs N n) (x3 + 6) r_717.2) else (some (0, r_717.2))))))))) else (if ((xs (Int32.toNatClampNeg x3)) &&& 63) = 17 then (gd (inb (x3 + 1) L) (gd (inb (x3 + 2) L) ((F_X11_evenings N (xs (Int32.toNatClampNeg (x3 + 1))) (xs (Int32.toNatClampNeg (x3 + 2))) S).bind (fun r_736 => gd (inb (x3 + 1) L) (gd (inb (x3 + 2) L) ((F_X12_evenings N (xs (Int32.toNatClampNeg (x3 + 1))) (xs (Int32.toNatClampNeg (x3 + 2))) r_736.2).bind (fun r_750 => if r_736.1 = r_750.1 then ((F_L_law_18 L xs N n) (x3 + 6) r_750.2) else (some (0, r_750.2))))))))) else (if ((xs (Int32.toNatClampNeg x3)) &&& 63) = 18 then (gd (inb (x3 + 1) L) (gd (inb (x3 + 2) L) ((F_X11_cut N (xs (Int32.toNatClampNeg (x3 + 1))) (xs (Int32.toNatClampNeg (x3 + 2))) S).bind (fun r_769 => gd (inb (x3 + 1) L) (gd (inb (x3 + 2) L) ((F_X12_cut N (xs (Int32.toNatClampNeg (x3 + 1))) (xs (Int32.toNatClampNeg (x3 + 2))) r_769.2).bind (fun r_783 => if r_769.1 = r_783.1 then ((F_L_law_18 L xs N n) (x3 + 6) r_783.2) else (some (0, r_783.2))))))))) else (if ((xs (Int32.toNatClampNeg x3)) &&& 63) = 19 then (gd (inb (x3 + 1) L) (gd (inb (x3 + 2) L) ((F_X11_newspaper N (xs (Int32.toNatClampNeg (x3 + 1))) (xs (Int32.toNatClampNeg (x3 + 2))) S).bind (fun r_802 => gd (inb (x3 + 1) L) (gd (inb (x3 + 2) L) ((F_X12_newspaper N (xs (Int32.toNatClampNeg (x3 + 1))) (xs (Int32.toNatClampNeg (x3 + 2))) r_802.2).bind (fun r_816 => if r_802.1 = r_816.1 then ((F_L_law_18 L xs N n) (x3 + 6) r_816.2) else (some (0, r_816.2))))))))) else (if ((xs (Int32.toNatClampNeg x3)) &&& 63) = 20 then ((F_X11_image S).bind (fun r_825 => (F_X12_image N r_825.2).bind (fun r_829 => if r_825.1 = r_829.1 then ((F_L_law_18 L xs N n) (x3 + 6) r_829.2) else (some (0, r_829.2))))) else (if ((xs (Int32.toNatClampNeg x3)) &&& 63) = 21 then ((F_X11_back S).bind (fun r_838 => (F_X12_back N r_838.2).bind (fun r_842 => if r_838.1 = r_842.1 then ((F_L_law_18 L xs N n) (x3 + 6) r_842.2) else (some (0, r_842.2))))) else (if ((xs (Int32.toNatClampNeg x3)) &&& 63) = 22 then ((F_X11_undo S).bind (fun r_851 => (F_X12_undo r_851.2).bind (fun r_855 => if r_851.1 = r_855.1 then ((F_L_law_18 L xs N n) (x3 + 6) r_855.2) else (some (0, r_855.2))))) else (if ((xs (Int32.toNatClampNeg x3)) &&& 63) = 23 then ((F_X11_redo S).bind (fun r_864 => (F_X12_redo r_864.2).bind (fun r_868 => if r_864.1 = r_868.1 then ((F_L_law_18 L xs N n) (x3 + 6) r_868.2) else (some (0, r_868.2))))) else (if ((xs (Int32.toNatClampNeg x3)) &&& 63) = 24 then (gd (inb (x3 + 1) L) ((F_X11_body (xs (Int32.toNatClampNeg (x3 + 1))) S).bind (fun r_882 => gd (inb (x3 + 1) L) ((F_X12_body (xs (Int32.toNatClampNeg (x3 + 1))) r_882.2).bind (fun r_891 => if r_882.1 = r_891.1 then ((F_L_law_18 L xs N n) (x3 + 6) r_891.2) else (some (0, r_891.2))))))) else (if ((xs (Int32.toNatClampNeg x3)) &&& 63) = 25 then (gd (inb (x3 + 1) L) (gd (inb (x3 + 2) L) (gd (inb (x3 + 3) L) ((F_X11_act N (xs (Int32.toNatClampNeg (x3 + 1))) (xs (Int32.toNatClampNeg (x3 + 2))) (xs (Int32.toNatClampNeg (x3 + 3))) S).bind (fun r_915 => gd (inb (x3 + 1) L) (gd (inb (x3 + 2) L) (gd (inb (x3 + 3) L) ((F_X12_act (xs (Int32.toNatClampNeg (x3 + 1))) (xs (Int32.toNatClampNeg (x3 + 2))) (xs (Int32.toNatClampNeg (x3 + 3))) r_915.2).bind (fun r_934 => if r_915.1 = r_934.1 then ((F_L_law_18 L xs N n) (x3 + 6) r_934.2) else (some (0, r_934.2))))))))))) else (if ((xs (Int32.toNatClampNeg x3)) &&& 63) = 26 then (gd (inb (x3 + 1) L) ((F_X11_trace (xs (Int32.toNatClampNeg (x3 + 1))) S).bind (fun r_948 => gd (inb (x3 + 1) L) ((F_X12_trace (xs (Int32.toNatClampNeg (x3 + 1))) r_948.2).bind (fun r_957 => if r_948.1 = r_957.1 then ((F_L_law_18 L xs N n) (x3 + 6) r_957.2) else (some (0, r_957.2))))))) else (if ((xs (Int32.toNatClampNeg x3)) &&& 63) = 27 then (gd (inb (x3 + 1) L) (gd (inb (x3 + 2) L) ((F_X11_keep (xs (Int32.toNatClampNeg (x3 + 1))) (xs (Int32.toNatClampNeg (x3 + 2))) S).bind (fun r_976 => gd (inb (x3 + 1) L) (gd (inb (x3 + 2) L) ((F_X12_keep (xs (Int32.toNatClampNeg (x3 + 1))) (xs (Int32.toNatClampNeg (x3 + 2))) r_976.2).bind (fun r_990 => if r_976.1 = r_990.1 then ((F_L_law_18 L xs N n) (x3 + 6) r_990.2) else (some (0, r_990.2))))))))) else (if ((xs (Int32.toNatClampNeg x3)) &&& 63) = 28 then (gd (inb (x3 + 1) L) (gd (inb (x3 + 2) L) (gd (inb (x3 + 3) L) ((F_X11_row N (xs (Int32.toNatClampNeg (x3 + 1))) (xs (Int32.toNatClampNeg (x3 + 2))) (xs (Int32.toNatClampNeg (x3 + 3))) S).bind (fun r_1014 => gd (inb (x3 + 1) L) (gd (inb (x3 + 2) L) (gd (inb (x3 + 3) L) ((F_X12_row N (xs (Int32.toNatClampNeg (x3 + 1))) (xs (Int32.toNatClampNeg (x3 + 2))) (xs (Int32.toNatClampNeg (x3 + 3))) r_1014.2).bind (fun r_1033 => if r_1014.1 = r_1033.1 then ((F_L_law_18 L xs N n) (x3 + 6) r_1033.2) else (some (0, r_1033.2))))))))))) else (if ((xs (Int32.toNatClampNeg x3)) &&& 63) = 29 then (gd (inb (x3 + 1) L) (gd (inb (x3 + 2) L) (gd (inb (x3 + 3) L) (gd (inb (x3 + 4) L) ((F_X11_put (xs (Int32.toNatClampNeg (x3 + 1))) (xs (Int32.toNatClampNeg (x3 + 2))) (((Int32.toInt64 (xs (Int32.toNatClampNeg (x3 + 3)))) <<< (Int32.toInt64 (32 : Int32) &&& 63)) ||| ((Int32.toInt64 (xs (Int32.toNatClampNeg (x3 + 4)))) &&& 4294967295)) S).bind (fun r_1072 => gd (inb (x3 + 1) L) (gd (inb (x3 + 2) L) (gd (inb (x3 + 3) L) (gd (inb (x3 + 4) L) ((F_X12_put (xs (Int32.toNatClampNeg (x3 + 1))) (xs (Int32.toNatClampNeg (x3 + 2))) (((Int32.toInt64 (xs (Int32.toNatClampNeg (x3 + 3)))) <<< (Int32.toInt64 (32 : Int32) &&& 63)) ||| ((Int32.toInt64 (xs (Int32.toNatClampNeg (x3 + 4)))) &&& 4294967295)) r_1072.2).bind (fun r_1106 => if r_1072.1 = r_1106.1 then ((F_L_law_18 L xs N n) (x3 + 6) r_1106.2) else (some (0, r_1106.2))))))))))))) else (if ((xs (Int32.toNatClampNeg x3)) &&& 63) = 30 then (gd (inb (x3 + 1) L) (gd (inb (x3 + 2) L) ((F_X11_element (xs (Int32.toNatClampNeg (x3 + 1))) (xs (Int32.toNatClampNeg (x3 + 2))) S).bind (fun r_1125 => gd (inb (x3 + 1) L) (gd (inb (x3 + 2) L) ((F_X12_element (xs (Int32.toNatClampNeg (x3 + 1))) (xs (Int32.toNatClampNeg (x3 + 2))) r_1125.2).bind (fun r_1139 => if (lg_cmp r_1125.1 r_1139.1) = 0 then ((F_L_law_18 L xs N n) (x3 + 6) r_1139.2) else (some (0, r_1139.2))))))))) else (if ((xs (Int32.toNatClampNeg x3)) &&& 63) = 31 then (gd (inb (x3 + 1) L) (gd (inb (x3 + 2) L) (gd (inb (x3 + 3) L) (gd (inb (x3 + 4) L) (gd (inb (x3 + 5) L) ((F_X11_shift (xs (Int32.toNatClampNeg (x3 + 1))) (xs (Int32.toNatClampNeg (x3 + 2))) (xs (Int32.toNatClampNeg (x3 + 3))) (xs (Int32.toNatClampNeg (x3 + 4))) (xs (Int32.toNatClampNeg (x3 + 5))) S).bind (fun r_1174 => gd (inb (x3 + 1) L) (gd (inb (x3 + 2) L) (gd (inb (x3 + 3) L) (gd (inb (x3 + 4) L) (gd (inb (x3 + 5) L) ((F_X12_shift N (xs (Int32.toNatClampNeg (x3 + 1))) (xs (Int32.toNatClampNeg (x3 + 2))) (xs (Int32.toNatClampNeg (x3 + 3))) (xs (Int32.toNatClampNeg (x3 + 4))) (xs (Int32.toNatClampNeg (x3 + 5))) r_1174.2).bind (fun r_1203 => if r_1174.1 = r_1203.1 then ((F_L_law_18 L xs N n) (x3 + 6) r_1203.2) else (some (0, r_1203.2))))))))))))))) else (if ((xs (Int32.toNatClampNeg x3)) &&& 63) = 32 then (gd (inb (x3 + 1) L) (gd (inb (x3 + 2) L) ((F_X11_taken N (xs (Int32.toNatClampNeg (x3 + 1))) (xs (Int32.toNatClampNeg (x3 + 2))) S).bind (fun r_1222 => gd (inb (x3 + 1) L) (gd (inb (x3 + 2) L) ((F_X12_taken (xs (Int32.toNatClampNeg (x3 + 1))) (xs (Int32.toNatClampNeg (x3 + 2))) r_1222.2).bind (fun r_1236 => if r_1222.1 = r_1236.1 then ((F_L_law_18 L xs N n) (x3 + 6) r_1236.2) else (some (0, r_1236.2))))))))) else (if ((xs (Int32.toNatClampNeg x3)) &&& 63) = 33 then (gd (inb (x3 + 1) L) ((F_X11_count (xs (Int32.toNatClampNeg (x3 + 1))) S).bind (fun r_1250 => gd (inb (x3 + 1) L) ((F_X12_count (xs (Int32.toNatClampNeg (x3 + 1))) r_1250.2).bind (fun r_1259 => if r_1250.1 = r_1259.1 then ((F_L_law_18 L xs N n) (x3 + 6) r_1259.2) else (some (0, r_1259.2))))))) else ((F_L_law_18 L xs N n) (x3 + 6) S))))))))))))))))))))))))))))))))))))) = some R := hF
    refine GoL.iload_n dL_law_18 rfl ?_
    refine GoL.aload_n dL_law_19 rfl ?_
    refine GoL.slen dL_law_20 ?_
    refine GoL.bipush (v := 6) dL_law_21 (by decide) ?_
    refine GoL.isub dL_law_23 ?_
    refine GoL.icmpgt (tgt := 1273) dL_law_24 (by decide) (fun h_24 => ?_) (fun h_24 => ?_)
    · have hF := ite_t h_24 hF
      refine GoL.iconst (v := 1) dL_law_1273 (by decide) ?_
      obtain rfl := Option.some.inj hF
      exact GoL.iret (st := []) dL_law_1274 rfl rfl ⟨rfl, rfl⟩
    · have hF := ite_f h_24 hF
      refine GoL.aload_n dL_law_27 rfl ?_
      refine GoL.iload_n dL_law_28 rfl ?_
      obtain ⟨hb_29, hF⟩ := gd_some hF
      refine GoL.sld dL_law_29 (inb_ok hb_29) ?_
      refine GoL.bipush (v := 63) dL_law_30 (by decide) ?_
      refine GoL.iand dL_law_32 ?_
      by_cases hs_33_0 : ((xs (Int32.toNatClampNeg x3)) &&& 63) = 0
      · have hF := ite_t hs_33_0 hF
        refine GoL.swT (tgt := 184) dL_law_33 (by first | (rw [hs_33_0]; done) | (rw [hs_33_0]; rfl) | (rw [hs_33_0]; decide)) (by decide) (by decide) ?_
        refine GoL.aload_n dL_law_184 rfl ?_
        refine GoL.aload_n dL_law_185 rfl ?_
        refine GoL.iload_n dL_law_186 rfl ?_
        refine GoL.iconst (v := 1) dL_law_187 (by decide) ?_
        refine GoL.iadd dL_law_188 ?_
        obtain ⟨hb_189, hF⟩ := gd_some hF
        refine GoL.sld dL_law_189 (inb_ok hb_189) ?_
        refine GoL.aload_n dL_law_190 rfl ?_
        refine GoL.iload_n dL_law_191 rfl ?_
        refine GoL.iconst (v := 2) dL_law_192 (by decide) ?_
        refine GoL.iadd dL_law_193 ?_
        obtain ⟨hb_194, hF⟩ := gd_some hF
        refine GoL.sld dL_law_194 (inb_ok hb_194) ?_
        refine GoL.aload_n dL_law_195 rfl ?_
        refine GoL.iload_n dL_law_196 rfl ?_
        refine GoL.iconst (v := 3) dL_law_197 (by decide) ?_
        refine GoL.iadd dL_law_198 ?_
        obtain ⟨hb_199, hF⟩ := gd_some hF
        refine GoL.sld dL_law_199 (inb_ok hb_199) ?_
        obtain ⟨r_200, hc_200, hF⟩ := Option.bind_eq_some_iff.mp hF
        refine GoL.callV [_, _, _] dL_law_200 kX11_line vX11_line lL_13 rfl rfl rfl rfl rfl (Nat.le_of_ble_eq_true rfl) (Nat.le_of_ble_eq_true rfl) (ok_X11_line (d + 54) _ _ _ _ _ hc_200) ?_
        refine GoL.aload_n dL_law_203 rfl ?_
        refine GoL.aload_n dL_law_204 rfl ?_
        refine GoL.iload_n dL_law_205 rfl ?_
        refine GoL.iconst (v := 1) dL_law_206 (by decide) ?_
        refine GoL.iadd dL_law_207 ?_
        obtain ⟨hb_208, hF⟩ := gd_some hF
        refine GoL.sld dL_law_208 (inb_ok hb_208) ?_
        refine GoL.aload_n dL_law_209 rfl ?_
        refine GoL.iload_n dL_law_210 rfl ?_
        refine GoL.iconst (v := 2) dL_law_211 (by decide) ?_
        refine GoL.iadd dL_law_212 ?_
        obtain ⟨hb_213, hF⟩ := gd_some hF
        refine GoL.sld dL_law_213 (inb_ok hb_213) ?_
        refine GoL.aload_n dL_law_214 rfl ?_
        refine GoL.iload_n dL_law_215 rfl ?_
        refine GoL.iconst (v := 3) dL_law_216 (by decide) ?_
        refine GoL.iadd dL_law_217 ?_
        obtain ⟨hb_218, hF⟩ := gd_some hF
        refine GoL.sld dL_law_218 (inb_ok hb_218) ?_
        obtain ⟨r_219, hc_219, hF⟩ := Option.bind_eq_some_iff.mp hF
        refine GoL.callV [_, _, _] dL_law_219 kX12_line vX12_line lL_17 rfl rfl rfl rfl rfl (Nat.le_of_ble_eq_true rfl) (Nat.le_of_ble_eq_true rfl) (ok_X12_line (d + 55) _ _ _ _ _ hc_219) ?_
        refine GoL.icmpeq (tgt := 1267) dL_law_222 (by decide) (fun h_222 => ?_) (fun h_222 => ?_)
        · have hF := ite_t h_222 hF
          refine GoL.iincS (ls' := [(3, _), (0, _), (1, _), (2, _)]) dL_law_1267 rfl (by decide) rfl ?_
          refine GoL.goto (tgt := 18) dL_law_1270 (by decide) ?_
          refine GoL.pick (ls' := [(0, _), (1, _), (2, _), (3, _)]) [1, 2, 3, 0] rfl ?_
          exact hk18 _ _ _ hF
        · have hF := ite_f h_222 hF
          refine GoL.iconst (v := 0) dL_law_225 (by decide) ?_
          obtain rfl := Option.some.inj hF
          exact GoL.iret (st := []) dL_law_226 rfl rfl ⟨rfl, rfl⟩
      · have hF := ite_f hs_33_0 hF
        by_cases hs_33_1 : ((xs (Int32.toNatClampNeg x3)) &&& 63) = 1
        · have hF := ite_t hs_33_1 hF
          refine GoL.swT (tgt := 227) dL_law_33 (by first | (rw [hs_33_1]; done) | (rw [hs_33_1]; rfl) | (rw [hs_33_1]; decide)) (by decide) (by decide) ?_
          refine GoL.aload_n dL_law_227 rfl ?_
          refine GoL.aload_n dL_law_228 rfl ?_
          refine GoL.iload_n dL_law_229 rfl ?_
          refine GoL.iconst (v := 1) dL_law_230 (by decide) ?_
          refine GoL.iadd dL_law_231 ?_
          obtain ⟨hb_232, hF⟩ := gd_some hF
          refine GoL.sld dL_law_232 (inb_ok hb_232) ?_
          refine GoL.aload_n dL_law_233 rfl ?_
          refine GoL.iload_n dL_law_234 rfl ?_
          refine GoL.iconst (v := 2) dL_law_235 (by decide) ?_
          refine GoL.iadd dL_law_236 ?_
          obtain ⟨hb_237, hF⟩ := gd_some hF
          refine GoL.sld dL_law_237 (inb_ok hb_237) ?_
          refine GoL.aload_n dL_law_238 rfl ?_
          refine GoL.iload_n dL_law_239 rfl ?_
          refine GoL.iconst (v := 3) dL_law_240 (by decide) ?_
          refine GoL.iadd dL_law_241 ?_
          obtain ⟨hb_242, hF⟩ := gd_some hF
          refine GoL.sld dL_law_242 (inb_ok hb_242) ?_
          obtain ⟨r_243, hc_243, hF⟩ := Option.bind_eq_some_iff.mp hF
          refine GoL.callV [_, _, _] dL_law_243 kX11_lines vX11_lines lL_18 rfl rfl rfl rfl rfl (Nat.le_of_ble_eq_true rfl) (Nat.le_of_ble_eq_true rfl) (ok_X11_lines (d + 53) N _ _ _ _ _ hc_243) ?_
          refine GoL.aload_n dL_law_246 rfl ?_
          refine GoL.aload_n dL_law_247 rfl ?_
          refine GoL.iload_n dL_law_248 rfl ?_
          refine GoL.iconst (v := 1) dL_law_249 (by decide) ?_
          refine GoL.iadd dL_law_250 ?_
          obtain ⟨hb_251, hF⟩ := gd_some hF
          refine GoL.sld dL_law_251 (inb_ok hb_251) ?_
          refine GoL.aload_n dL_law_252 rfl ?_
          refine GoL.iload_n dL_law_253 rfl ?_
          refine GoL.iconst (v := 2) dL_law_254 (by decide) ?_
          refine GoL.iadd dL_law_255 ?_
          obtain ⟨hb_256, hF⟩ := gd_some hF
          refine GoL.sld dL_law_256 (inb_ok hb_256) ?_
          refine GoL.aload_n dL_law_257 rfl ?_
          refine GoL.iload_n dL_law_258 rfl ?_
          refine GoL.iconst (v := 3) dL_law_259 (by decide) ?_
          refine GoL.iadd dL_law_260 ?_
          obtain ⟨hb_261, hF⟩ := gd_some hF
          refine GoL.sld dL_law_261 (inb_ok hb_261) ?_
          obtain ⟨r_262, hc_262, hF⟩ := Option.bind_eq_some_iff.mp hF
          refine GoL.callV [_, _, _] dL_law_262 kX12_lines vX12_lines lL_21 rfl rfl rfl rfl rfl (Nat.le_of_ble_eq_true rfl) (Nat.le_of_ble_eq_true rfl) (ok_X12_lines (d + 54) N _ _ _ _ _ hc_262) ?_
          refine GoL.icmpeq (tgt := 1267) dL_law_265 (by decide) (fun h_265 => ?_) (fun h_265 => ?_)
          · have hF := ite_t h_265 hF
            refine GoL.iincS (ls' := [(3, _), (0, _), (1, _), (2, _)]) dL_law_1267 rfl (by decide) rfl ?_
            refine GoL.goto (tgt := 18) dL_law_1270 (by decide) ?_
            refine GoL.pick (ls' := [(0, _), (1, _), (2, _), (3, _)]) [1, 2, 3, 0] rfl ?_
            exact hk18 _ _ _ hF
          · have hF := ite_f h_265 hF
            refine GoL.iconst (v := 0) dL_law_268 (by decide) ?_
            obtain rfl := Option.some.inj hF
            exact GoL.iret (st := []) dL_law_269 rfl rfl ⟨rfl, rfl⟩
        · have hF := ite_f hs_33_1 hF
          by_cases hs_33_2 : ((xs (Int32.toNatClampNeg x3)) &&& 63) = 2
          · have hF := ite_t hs_33_2 hF
            refine GoL.swT (tgt := 270) dL_law_33 (by first | (rw [hs_33_2]; done) | (rw [hs_33_2]; rfl) | (rw [hs_33_2]; decide)) (by decide) (by decide) ?_
            refine GoL.aload_n dL_law_270 rfl ?_
            refine GoL.aload_n dL_law_271 rfl ?_
            refine GoL.iload_n dL_law_272 rfl ?_
            refine GoL.iconst (v := 1) dL_law_273 (by decide) ?_
            refine GoL.iadd dL_law_274 ?_
            obtain ⟨hb_275, hF⟩ := gd_some hF
            refine GoL.sld dL_law_275 (inb_ok hb_275) ?_
            obtain ⟨r_276, hc_276, hF⟩ := Option.bind_eq_some_iff.mp hF
            refine GoL.callV [_] dL_law_276 kX11_feed vX11_feed lL_22 rfl rfl rfl rfl rfl (Nat.le_of_ble_eq_true rfl) (Nat.le_of_ble_eq_true rfl) (ok_X11_feed (d + 56) _ _ _ hc_276) ?_
            refine GoL.aload_n dL_law_279 rfl ?_
            refine GoL.aload_n dL_law_280 rfl ?_
            refine GoL.iload_n dL_law_281 rfl ?_
            refine GoL.iconst (v := 1) dL_law_282 (by decide) ?_
            refine GoL.iadd dL_law_283 ?_
            obtain ⟨hb_284, hF⟩ := gd_some hF
            refine GoL.sld dL_law_284 (inb_ok hb_284) ?_
            obtain ⟨r_285, hc_285, hF⟩ := Option.bind_eq_some_iff.mp hF
            refine GoL.callV [_] dL_law_285 kX12_feed vX12_feed lL_26 rfl rfl rfl rfl rfl (Nat.le_of_ble_eq_true rfl) (Nat.le_of_ble_eq_true rfl) (ok_X12_feed (d + 55) _ _ _ hc_285) ?_
            refine GoL.icmpeq (tgt := 1267) dL_law_288 (by decide) (fun h_288 => ?_) (fun h_288 => ?_)
            · have hF := ite_t h_288 hF
              refine GoL.iincS (ls' := [(3, _), (0, _), (1, _), (2, _)]) dL_law_1267 rfl (by decide) rfl ?_
              refine GoL.goto (tgt := 18) dL_law_1270 (by decide) ?_
              refine GoL.pick (ls' := [(0, _), (1, _), (2, _), (3, _)]) [1, 2, 3, 0] rfl ?_
              exact hk18 _ _ _ hF
            · have hF := ite_f h_288 hF
              refine GoL.iconst (v := 0) dL_law_291 (by decide) ?_
              obtain rfl := Option.some.inj hF
              exact GoL.iret (st := []) dL_law_292 rfl rfl ⟨rfl, rfl⟩
          · have hF := ite_f hs_33_2 hF
            by_cases hs_33_3 : ((xs (Int32.toNatClampNeg x3)) &&& 63) = 3
            · have hF := ite_t hs_33_3 hF
              refine GoL.swT (tgt := 293) dL_law_33 (by first | (rw [hs_33_3]; done) | (rw [hs_33_3]; rfl) | (rw [hs_33_3]; decide)) (by decide) (by decide) ?_
              refine GoL.aload_n dL_law_293 rfl ?_
              refine GoL.aload_n dL_law_294 rfl ?_
              refine GoL.iload_n dL_law_295 rfl ?_
              refine GoL.iconst (v := 1) dL_law_296 (by decide) ?_
              refine GoL.iadd dL_law_297 ?_
              obtain ⟨hb_298, hF⟩ := gd_some hF
              refine GoL.sld dL_law_298 (inb_ok hb_298) ?_
              obtain ⟨r_299, hc_299, hF⟩ := Option.bind_eq_some_iff.mp hF
              refine GoL.callV [_] dL_law_299 kX11_law vX11_law lL_27 rfl rfl rfl rfl rfl (Nat.le_of_ble_eq_true rfl) (Nat.le_of_ble_eq_true rfl) (ok_X11_law (d + 51) N _ _ _ hc_299) ?_
              refine GoL.aload_n dL_law_302 rfl ?_
              refine GoL.aload_n dL_law_303 rfl ?_
              refine GoL.iload_n dL_law_304 rfl ?_
              refine GoL.iconst (v := 1) dL_law_305 (by decide) ?_
              refine GoL.iadd dL_law_306 ?_
              obtain ⟨hb_307, hF⟩ := gd_some hF
              refine GoL.sld dL_law_307 (inb_ok hb_307) ?_
              obtain ⟨r_308, hc_308, hF⟩ := Option.bind_eq_some_iff.mp hF
              refine GoL.callV [_] dL_law_308 kX12_law vX12_law lL_30 rfl rfl rfl rfl rfl (Nat.le_of_ble_eq_true rfl) (Nat.le_of_ble_eq_true rfl) (ok_X12_law (d + 0) N _ _ _ hc_308) ?_
              refine GoL.icmpeq (tgt := 1267) dL_law_311 (by decide) (fun h_311 => ?_) (fun h_311 => ?_)
              · have hF := ite_t h_311 hF
                refine GoL.iincS (ls' := [(3, _), (0, _), (1, _), (2, _)]) dL_law_1267 rfl (by decide) rfl ?_
                refine GoL.goto (tgt := 18) dL_law_1270 (by decide) ?_
                refine GoL.pick (ls' := [(0, _), (1, _), (2, _), (3, _)]) [1, 2, 3, 0] rfl ?_
                exact hk18 _ _ _ hF
              · have hF := ite_f h_311 hF
                refine GoL.iconst (v := 0) dL_law_314 (by decide) ?_
                obtain rfl := Option.some.inj hF
                exact GoL.iret (st := []) dL_law_315 rfl rfl ⟨rfl, rfl⟩
            · have hF := ite_f hs_33_3 hF
              by_cases hs_33_4 : ((xs (Int32.toNatClampNeg x3)) &&& 63) = 4
              · have hF := ite_t hs_33_4 hF
                refine GoL.swT (tgt := 316) dL_law_33 (by first | (rw [hs_33_4]; done) | (rw [hs_33_4]; rfl) | (rw [hs_33_4]; decide)) (by decide) (by decide) ?_
                refine GoL.aload_n dL_law_316 rfl ?_
                refine GoL.aload_n dL_law_317 rfl ?_
                refine GoL.iload_n dL_law_318 rfl ?_
                refine GoL.iconst (v := 1) dL_law_319 (by decide) ?_
                refine GoL.iadd dL_law_320 ?_
                obtain ⟨hb_321, hF⟩ := gd_some hF
                refine GoL.sld dL_law_321 (inb_ok hb_321) ?_
                refine GoL.aload_n dL_law_322 rfl ?_
                refine GoL.iload_n dL_law_323 rfl ?_
                refine GoL.iconst (v := 2) dL_law_324 (by decide) ?_
                refine GoL.iadd dL_law_325 ?_
                obtain ⟨hb_326, hF⟩ := gd_some hF
                refine GoL.sld dL_law_326 (inb_ok hb_326) ?_
                obtain ⟨r_327, hc_327, hF⟩ := Option.bind_eq_some_iff.mp hF
                refine GoL.callV [_, _] dL_law_327 kX11_set vX11_set lL_31 rfl rfl rfl rfl rfl (Nat.le_of_ble_eq_true rfl) (Nat.le_of_ble_eq_true rfl) (ok_X11_set (d + 56) _ _ _ _ hc_327) ?_
                refine GoL.aload_n dL_law_330 rfl ?_
                refine GoL.aload_n dL_law_331 rfl ?_
                refine GoL.iload_n dL_law_332 rfl ?_
                refine GoL.iconst (v := 1) dL_law_333 (by decide) ?_
                refine GoL.iadd dL_law_334 ?_
                obtain ⟨hb_335, hF⟩ := gd_some hF
                refine GoL.sld dL_law_335 (inb_ok hb_335) ?_
                refine GoL.aload_n dL_law_336 rfl ?_
                refine GoL.iload_n dL_law_337 rfl ?_
                refine GoL.iconst (v := 2) dL_law_338 (by decide) ?_
                refine GoL.iadd dL_law_339 ?_
                obtain ⟨hb_340, hF⟩ := gd_some hF
                refine GoL.sld dL_law_340 (inb_ok hb_340) ?_
                obtain ⟨r_341, hc_341, hF⟩ := Option.bind_eq_some_iff.mp hF
                refine GoL.callV [_, _] dL_law_341 kX12_set vX12_set lL_35 rfl rfl rfl rfl rfl (Nat.le_of_ble_eq_true rfl) (Nat.le_of_ble_eq_true rfl) (ok_X12_set (d + 55) _ _ _ _ hc_341) ?_
                refine GoL.icmpeq (tgt := 1267) dL_law_344 (by decide) (fun h_344 => ?_) (fun h_344 => ?_)
                · have hF := ite_t h_344 hF
                  refine GoL.iincS (ls' := [(3, _), (0, _), (1, _), (2, _)]) dL_law_1267 rfl (by decide) rfl ?_
                  refine GoL.goto (tgt := 18) dL_law_1270 (by decide) ?_
                  refine GoL.pick (ls' := [(0, _), (1, _), (2, _), (3, _)]) [1, 2, 3, 0] rfl ?_
                  exact hk18 _ _ _ hF
                · have hF := ite_f h_344 hF
                  refine GoL.iconst (v := 0) dL_law_347 (by decide) ?_
                  obtain rfl := Option.some.inj hF
                  exact GoL.iret (st := []) dL_law_348 rfl rfl ⟨rfl, rfl⟩
              · have hF := ite_f hs_33_4 hF
                by_cases hs_33_5 : ((xs (Int32.toNatClampNeg x3)) &&& 63) = 5
                · have hF := ite_t hs_33_5 hF
                  refine GoL.swT (tgt := 349) dL_law_33 (by first | (rw [hs_33_5]; done) | (rw [hs_33_5]; rfl) | (rw [hs_33_5]; decide)) (by decide) (by decide) ?_
                  refine GoL.aload_n dL_law_349 rfl ?_
                  refine GoL.aload_n dL_law_350 rfl ?_
                  refine GoL.iload_n dL_law_351 rfl ?_
                  refine GoL.iconst (v := 1) dL_law_352 (by decide) ?_
                  refine GoL.iadd dL_law_353 ?_
                  obtain ⟨hb_354, hF⟩ := gd_some hF
                  refine GoL.sld dL_law_354 (inb_ok hb_354) ?_
                  refine GoL.aload_n dL_law_355 rfl ?_
                  refine GoL.iload_n dL_law_356 rfl ?_
                  refine GoL.iconst (v := 2) dL_law_357 (by decide) ?_
                  refine GoL.iadd dL_law_358 ?_
                  obtain ⟨hb_359, hF⟩ := gd_some hF
                  refine GoL.sld dL_law_359 (inb_ok hb_359) ?_
                  refine GoL.aload_n dL_law_360 rfl ?_
                  refine GoL.iload_n dL_law_361 rfl ?_
                  refine GoL.iconst (v := 3) dL_law_362 (by decide) ?_
                  refine GoL.iadd dL_law_363 ?_
                  obtain ⟨hb_364, hF⟩ := gd_some hF
                  refine GoL.sld dL_law_364 (inb_ok hb_364) ?_
                  obtain ⟨r_365, hc_365, hF⟩ := Option.bind_eq_some_iff.mp hF
                  refine GoL.callV [_, _, _] dL_law_365 kX11_mend vX11_mend lL_36 rfl rfl rfl rfl rfl (Nat.le_of_ble_eq_true rfl) (Nat.le_of_ble_eq_true rfl) (ok_X11_mend (d + 53) _ _ _ _ _ hc_365) ?_
                  refine GoL.aload_n dL_law_368 rfl ?_
                  refine GoL.aload_n dL_law_369 rfl ?_
                  refine GoL.iload_n dL_law_370 rfl ?_
                  refine GoL.iconst (v := 1) dL_law_371 (by decide) ?_
                  refine GoL.iadd dL_law_372 ?_
                  obtain ⟨hb_373, hF⟩ := gd_some hF
                  refine GoL.sld dL_law_373 (inb_ok hb_373) ?_
                  refine GoL.aload_n dL_law_374 rfl ?_
                  refine GoL.iload_n dL_law_375 rfl ?_
                  refine GoL.iconst (v := 2) dL_law_376 (by decide) ?_
                  refine GoL.iadd dL_law_377 ?_
                  obtain ⟨hb_378, hF⟩ := gd_some hF
                  refine GoL.sld dL_law_378 (inb_ok hb_378) ?_
                  refine GoL.aload_n dL_law_379 rfl ?_
                  refine GoL.iload_n dL_law_380 rfl ?_
                  refine GoL.iconst (v := 3) dL_law_381 (by decide) ?_
                  refine GoL.iadd dL_law_382 ?_
                  obtain ⟨hb_383, hF⟩ := gd_some hF
                  refine GoL.sld dL_law_383 (inb_ok hb_383) ?_
                  obtain ⟨r_384, hc_384, hF⟩ := Option.bind_eq_some_iff.mp hF
                  refine GoL.callV [_, _, _] dL_law_384 kX12_mend vX12_mend lL_39 rfl rfl rfl rfl rfl (Nat.le_of_ble_eq_true rfl) (Nat.le_of_ble_eq_true rfl) (ok_X12_mend (d + 54) N _ _ _ _ _ hc_384) ?_
                  refine GoL.icmpeq (tgt := 1267) dL_law_387 (by decide) (fun h_387 => ?_) (fun h_387 => ?_)
                  · have hF := ite_t h_387 hF
                    refine GoL.iincS (ls' := [(3, _), (0, _), (1, _), (2, _)]) dL_law_1267 rfl (by decide) rfl ?_
                    refine GoL.goto (tgt := 18) dL_law_1270 (by decide) ?_
                    refine GoL.pick (ls' := [(0, _), (1, _), (2, _), (3, _)]) [1, 2, 3, 0] rfl ?_
                    exact hk18 _ _ _ hF
                  · have hF := ite_f h_387 hF
                    refine GoL.iconst (v := 0) dL_law_390 (by decide) ?_
                    obtain rfl := Option.some.inj hF
                    exact GoL.iret (st := []) dL_law_391 rfl rfl ⟨rfl, rfl⟩
                · have hF := ite_f hs_33_5 hF
                  by_cases hs_33_6 : ((xs (Int32.toNatClampNeg x3)) &&& 63) = 6
                  · have hF := ite_t hs_33_6 hF
                    refine GoL.swT (tgt := 392) dL_law_33 (by first | (rw [hs_33_6]; done) | (rw [hs_33_6]; rfl) | (rw [hs_33_6]; decide)) (by decide) (by decide) ?_
                    refine GoL.aload_n dL_law_392 rfl ?_
                    refine GoL.aload_n dL_law_393 rfl ?_
                    refine GoL.iload_n dL_law_394 rfl ?_
                    refine GoL.iconst (v := 1) dL_law_395 (by decide) ?_
                    refine GoL.iadd dL_law_396 ?_
                    obtain ⟨hb_397, hF⟩ := gd_some hF
                    refine GoL.sld dL_law_397 (inb_ok hb_397) ?_
                    refine GoL.aload_n dL_law_398 rfl ?_
                    refine GoL.iload_n dL_law_399 rfl ?_
                    refine GoL.iconst (v := 2) dL_law_400 (by decide) ?_
                    refine GoL.iadd dL_law_401 ?_
                    obtain ⟨hb_402, hF⟩ := gd_some hF
                    refine GoL.sld dL_law_402 (inb_ok hb_402) ?_
                    obtain ⟨r_403, hc_403, hF⟩ := Option.bind_eq_some_iff.mp hF
                    refine GoL.callV [_, _] dL_law_403 kX11_of vX11_of lL_40 rfl rfl rfl rfl rfl (Nat.le_of_ble_eq_true rfl) (Nat.le_of_ble_eq_true rfl) (ok_X11_of (d + 50) N _ _ _ _ hc_403) ?_
                    refine GoL.aload_n dL_law_406 rfl ?_
                    refine GoL.aload_n dL_law_407 rfl ?_
                    refine GoL.iload_n dL_law_408 rfl ?_
                    refine GoL.iconst (v := 1) dL_law_409 (by decide) ?_
                    refine GoL.iadd dL_law_410 ?_
                    obtain ⟨hb_411, hF⟩ := gd_some hF
                    refine GoL.sld dL_law_411 (inb_ok hb_411) ?_
                    refine GoL.aload_n dL_law_412 rfl ?_
                    refine GoL.iload_n dL_law_413 rfl ?_
                    refine GoL.iconst (v := 2) dL_law_414 (by decide) ?_
                    refine GoL.iadd dL_law_415 ?_
                    obtain ⟨hb_416, hF⟩ := gd_some hF
                    refine GoL.sld dL_law_416 (inb_ok hb_416) ?_
                    obtain ⟨r_417, hc_417, hF⟩ := Option.bind_eq_some_iff.mp hF
                    refine GoL.callV [_, _] dL_law_417 kX12_of vX12_of lL_43 rfl rfl rfl rfl rfl (Nat.le_of_ble_eq_true rfl) (Nat.le_of_ble_eq_true rfl) (ok_X12_of (d + 51) N _ _ _ _ hc_417) ?_
                    refine GoL.icmpeq (tgt := 1267) dL_law_420 (by decide) (fun h_420 => ?_) (fun h_420 => ?_)
                    · have hF := ite_t h_420 hF
                      refine GoL.iincS (ls' := [(3, _), (0, _), (1, _), (2, _)]) dL_law_1267 rfl (by decide) rfl ?_
                      refine GoL.goto (tgt := 18) dL_law_1270 (by decide) ?_
                      refine GoL.pick (ls' := [(0, _), (1, _), (2, _), (3, _)]) [1, 2, 3, 0] rfl ?_
                      exact hk18 _ _ _ hF
                    · have hF := ite_f h_420 hF
                      refine GoL.iconst (v := 0) dL_law_423 (by decide) ?_
                      obtain rfl := Option.some.inj hF
                      exact GoL.iret (st := []) dL_law_424 rfl rfl ⟨rfl, rfl⟩
                  · have hF := ite_f hs_33_6 hF
                    by_cases hs_33_7 : ((xs (Int32.toNatClampNeg x3)) &&& 63) = 7
                    · have hF := ite_t hs_33_7 hF
                      refine GoL.swT (tgt := 425) dL_law_33 (by first | (rw [hs_33_7]; done) | (rw [hs_33_7]; rfl) | (rw [hs_33_7]; decide)) (by decide) (by decide) ?_
                      refine GoL.aload_n dL_law_425 rfl ?_
                      refine GoL.aload_n dL_law_426 rfl ?_
                      refine GoL.iload_n dL_law_427 rfl ?_
                      refine GoL.iconst (v := 1) dL_law_428 (by decide) ?_
                      refine GoL.iadd dL_law_429 ?_
                      obtain ⟨hb_430, hF⟩ := gd_some hF
                      refine GoL.sld dL_law_430 (inb_ok hb_430) ?_
                      obtain ⟨r_431, hc_431, hF⟩ := Option.bind_eq_some_iff.mp hF
                      refine GoL.callV [_] dL_law_431 kX11_rehearse vX11_rehearse lL_44 rfl rfl rfl rfl rfl (Nat.le_of_ble_eq_true rfl) (Nat.le_of_ble_eq_true rfl) (ok_X11_rehearse (d + 51) N _ _ _ hc_431) ?_
                      refine GoL.aload_n dL_law_434 rfl ?_
                      refine GoL.aload_n dL_law_435 rfl ?_
                      refine GoL.iload_n dL_law_436 rfl ?_
                      refine GoL.iconst (v := 1) dL_law_437 (by decide) ?_
                      refine GoL.iadd dL_law_438 ?_
                      obtain ⟨hb_439, hF⟩ := gd_some hF
                      refine GoL.sld dL_law_439 (inb_ok hb_439) ?_
                      obtain ⟨r_440, hc_440, hF⟩ := Option.bind_eq_some_iff.mp hF
                      refine GoL.callV [_] dL_law_440 kX12_rehearse vX12_rehearse lL_47 rfl rfl rfl rfl rfl (Nat.le_of_ble_eq_true rfl) (Nat.le_of_ble_eq_true rfl) (ok_X12_rehearse (d + 50) N _ _ _ hc_440) ?_
                      refine GoL.icmpeq (tgt := 1267) dL_law_443 (by decide) (fun h_443 => ?_) (fun h_443 => ?_)
                      · have hF := ite_t h_443 hF
                        refine GoL.iincS (ls' := [(3, _), (0, _), (1, _), (2, _)]) dL_law_1267 rfl (by decide) rfl ?_
                        refine GoL.goto (tgt := 18) dL_law_1270 (by decide) ?_
                        refine GoL.pick (ls' := [(0, _), (1, _), (2, _), (3, _)]) [1, 2, 3, 0] rfl ?_
                        exact hk18 _ _ _ hF
                      · have hF := ite_f h_443 hF
                        refine GoL.iconst (v := 0) dL_law_446 (by decide) ?_
                        obtain rfl := Option.some.inj hF
                        exact GoL.iret (st := []) dL_law_447 rfl rfl ⟨rfl, rfl⟩
                    · have hF := ite_f hs_33_7 hF
                      by_cases hs_33_8 : ((xs (Int32.toNatClampNeg x3)) &&& 63) = 8
                      · have hF := ite_t hs_33_8 hF
                        refine GoL.swT (tgt := 448) dL_law_33 (by first | (rw [hs_33_8]; done) | (rw [hs_33_8]; rfl) | (rw [hs_33_8]; decide)) (by decide) (by decide) ?_
                        refine GoL.aload_n dL_law_448 rfl ?_
                        refine GoL.aload_n dL_law_449 rfl ?_
                        refine GoL.iload_n dL_law_450 rfl ?_
                        refine GoL.iconst (v := 1) dL_law_451 (by decide) ?_
                        refine GoL.iadd dL_law_452 ?_
                        obtain ⟨hb_453, hF⟩ := gd_some hF
                        refine GoL.sld dL_law_453 (inb_ok hb_453) ?_
                        refine GoL.aload_n dL_law_454 rfl ?_
                        refine GoL.iload_n dL_law_455 rfl ?_
                        refine GoL.iconst (v := 2) dL_law_456 (by decide) ?_
                        refine GoL.iadd dL_law_457 ?_
                        obtain ⟨hb_458, hF⟩ := gd_some hF
                        refine GoL.sld dL_law_458 (inb_ok hb_458) ?_
                        obtain ⟨r_459, hc_459, hF⟩ := Option.bind_eq_some_iff.mp hF
                        refine GoL.callV [_, _] dL_law_459 kX11_jumps vX11_jumps lL_48 rfl rfl rfl rfl rfl (Nat.le_of_ble_eq_true rfl) (Nat.le_of_ble_eq_true rfl) (ok_X11_jumps (d + 55) N _ _ _ _ hc_459) ?_
                        refine GoL.aload_n dL_law_462 rfl ?_
                        refine GoL.aload_n dL_law_463 rfl ?_
                        refine GoL.iload_n dL_law_464 rfl ?_
                        refine GoL.iconst (v := 1) dL_law_465 (by decide) ?_
                        refine GoL.iadd dL_law_466 ?_
                        obtain ⟨hb_467, hF⟩ := gd_some hF
                        refine GoL.sld dL_law_467 (inb_ok hb_467) ?_
                        refine GoL.aload_n dL_law_468 rfl ?_
                        refine GoL.iload_n dL_law_469 rfl ?_
                        refine GoL.iconst (v := 2) dL_law_470 (by decide) ?_
                        refine GoL.iadd dL_law_471 ?_
                        obtain ⟨hb_472, hF⟩ := gd_some hF
                        refine GoL.sld dL_law_472 (inb_ok hb_472) ?_
                        obtain ⟨r_473, hc_473, hF⟩ := Option.bind_eq_some_iff.mp hF
                        refine GoL.callV [_, _] dL_law_473 kX12_jumps vX12_jumps lL_51 rfl rfl rfl rfl rfl (Nat.le_of_ble_eq_true rfl) (Nat.le_of_ble_eq_true rfl) (ok_X12_jumps (d + 55) N _ _ _ _ hc_473) ?_
                        refine GoL.icmpeq (tgt := 1267) dL_law_476 (by decide) (fun h_476 => ?_) (fun h_476 => ?_)
                        · have hF := ite_t h_476 hF
                          refine GoL.iincS (ls' := [(3, _), (0, _), (1, _), (2, _)]) dL_law_1267 rfl (by decide) rfl ?_
                          refine GoL.goto (tgt := 18) dL_law_1270 (by decide) ?_
                          refine GoL.pick (ls' := [(0, _), (1, _), (2, _), (3, _)]) [1, 2, 3, 0] rfl ?_
                          exact hk18 _ _ _ hF
                        · have hF := ite_f h_476 hF
                          refine GoL.iconst (v := 0) dL_law_479 (by decide) ?_
                          obtain rfl := Option.some.inj hF
                          exact GoL.iret (st := []) dL_law_480 rfl rfl ⟨rfl, rfl⟩
                      · have hF := ite_f hs_33_8 hF
                        by_cases hs_33_9 : ((xs (Int32.toNatClampNeg x3)) &&& 63) = 9
                        · have hF := ite_t hs_33_9 hF
                          refine GoL.swT (tgt := 481) dL_law_33 (by first | (rw [hs_33_9]; done) | (rw [hs_33_9]; rfl) | (rw [hs_33_9]; decide)) (by decide) (by decide) ?_
                          refine GoL.aload_n dL_law_481 rfl ?_
                          refine GoL.aload_n dL_law_482 rfl ?_
                          refine GoL.iload_n dL_law_483 rfl ?_
                          refine GoL.iconst (v := 1) dL_law_484 (by decide) ?_
                          refine GoL.iadd dL_law_485 ?_
                          obtain ⟨hb_486, hF⟩ := gd_some hF
                          refine GoL.sld dL_law_486 (inb_ok hb_486) ?_
                          obtain ⟨r_487, hc_487, hF⟩ := Option.bind_eq_some_iff.mp hF
                          refine GoL.callV [_] dL_law_487 kX11_behind vX11_behind lL_52 rfl rfl rfl rfl rfl (Nat.le_of_ble_eq_true rfl) (Nat.le_of_ble_eq_true rfl) (ok_X11_behind (d + 54) N _ _ _ hc_487) ?_
                          refine GoL.aload_n dL_law_490 rfl ?_
                          refine GoL.aload_n dL_law_491 rfl ?_
                          refine GoL.iload_n dL_law_492 rfl ?_
                          refine GoL.iconst (v := 1) dL_law_493 (by decide) ?_
                          refine GoL.iadd dL_law_494 ?_
                          obtain ⟨hb_495, hF⟩ := gd_some hF
                          refine GoL.sld dL_law_495 (inb_ok hb_495) ?_
                          obtain ⟨r_496, hc_496, hF⟩ := Option.bind_eq_some_iff.mp hF
                          refine GoL.callV [_] dL_law_496 kX12_behind vX12_behind lL_55 rfl rfl rfl rfl rfl (Nat.le_of_ble_eq_true rfl) (Nat.le_of_ble_eq_true rfl) (ok_X12_behind (d + 54) N _ _ _ hc_496) ?_
                          refine GoL.icmpeq (tgt := 1267) dL_law_499 (by decide) (fun h_499 => ?_) (fun h_499 => ?_)
                          · have hF := ite_t h_499 hF
                            refine GoL.iincS (ls' := [(3, _), (0, _), (1, _), (2, _)]) dL_law_1267 rfl (by decide) rfl ?_
                            refine GoL.goto (tgt := 18) dL_law_1270 (by decide) ?_
                            refine GoL.pick (ls' := [(0, _), (1, _), (2, _), (3, _)]) [1, 2, 3, 0] rfl ?_
                            exact hk18 _ _ _ hF
                          · have hF := ite_f h_499 hF
                            refine GoL.iconst (v := 0) dL_law_502 (by decide) ?_
                            obtain rfl := Option.some.inj hF
                            exact GoL.iret (st := []) dL_law_503 rfl rfl ⟨rfl, rfl⟩
                        · have hF := ite_f hs_33_9 hF
                          by_cases hs_33_10 : ((xs (Int32.toNatClampNeg x3)) &&& 63) = 10
                          · have hF := ite_t hs_33_10 hF
                            refine GoL.swT (tgt := 504) dL_law_33 (by first | (rw [hs_33_10]; done) | (rw [hs_33_10]; rfl) | (rw [hs_33_10]; decide)) (by decide) (by decide) ?_
                            refine GoL.aload_n dL_law_504 rfl ?_
                            refine GoL.aload_n dL_law_505 rfl ?_
                            refine GoL.iload_n dL_law_506 rfl ?_
                            refine GoL.iconst (v := 1) dL_law_507 (by decide) ?_
                            refine GoL.iadd dL_law_508 ?_
                            obtain ⟨hb_509, hF⟩ := gd_some hF
                            refine GoL.sld dL_law_509 (inb_ok hb_509) ?_
                            refine GoL.aload_n dL_law_510 rfl ?_
                            refine GoL.iload_n dL_law_511 rfl ?_
                            refine GoL.iconst (v := 2) dL_law_512 (by decide) ?_
                            refine GoL.iadd dL_law_513 ?_
                            obtain ⟨hb_514, hF⟩ := gd_some hF
                            refine GoL.sld dL_law_514 (inb_ok hb_514) ?_
                            obtain ⟨r_515, hc_515, hF⟩ := Option.bind_eq_some_iff.mp hF
                            refine GoL.callV [_, _] dL_law_515 kX11_way vX11_way lL_56 rfl rfl rfl rfl rfl (Nat.le_of_ble_eq_true rfl) (Nat.le_of_ble_eq_true rfl) (ok_X11_way (d + 53) N _ _ _ _ hc_515) ?_
                            refine GoL.aload_n dL_law_518 rfl ?_
                            refine GoL.aload_n dL_law_519 rfl ?_
                            refine GoL.iload_n dL_law_520 rfl ?_
                            refine GoL.iconst (v := 1) dL_law_521 (by decide) ?_
                            refine GoL.iadd dL_law_522 ?_
                            obtain ⟨hb_523, hF⟩ := gd_some hF
                            refine GoL.sld dL_law_523 (inb_ok hb_523) ?_
                            refine GoL.aload_n dL_law_524 rfl ?_
                            refine GoL.iload_n dL_law_525 rfl ?_
                            refine GoL.iconst (v := 2) dL_law_526 (by decide) ?_
                            refine GoL.iadd dL_law_527 ?_
                            obtain ⟨hb_528, hF⟩ := gd_some hF
                            refine GoL.sld dL_law_528 (inb_ok hb_528) ?_
                            obtain ⟨r_529, hc_529, hF⟩ := Option.bind_eq_some_iff.mp hF
                            refine GoL.callV [_, _] dL_law_529 kX12_way vX12_way lL_59 rfl rfl rfl rfl rfl (Nat.le_of_ble_eq_true rfl) (Nat.le_of_ble_eq_true rfl) (ok_X12_way (d + 52) N _ _ _ _ hc_529) ?_
                            refine GoL.icmpeq (tgt := 1267) dL_law_532 (by decide) (fun h_532 => ?_) (fun h_532 => ?_)
                            · have hF := ite_t h_532 hF
                              refine GoL.iincS (ls' := [(3, _), (0, _), (1, _), (2, _)]) dL_law_1267 rfl (by decide) rfl ?_
                              refine GoL.goto (tgt := 18) dL_law_1270 (by decide) ?_
                              refine GoL.pick (ls' := [(0, _), (1, _), (2, _), (3, _)]) [1, 2, 3, 0] rfl ?_
                              exact hk18 _ _ _ hF
                            · have hF := ite_f h_532 hF
                              refine GoL.iconst (v := 0) dL_law_535 (by decide) ?_
                              obtain rfl := Option.some.inj hF
                              exact GoL.iret (st := []) dL_law_536 rfl rfl ⟨rfl, rfl⟩
                          · have hF := ite_f hs_33_10 hF
                            by_cases hs_33_11 : ((xs (Int32.toNatClampNeg x3)) &&& 63) = 11
                            · have hF := ite_t hs_33_11 hF
                              refine GoL.swT (tgt := 537) dL_law_33 (by first | (rw [hs_33_11]; done) | (rw [hs_33_11]; rfl) | (rw [hs_33_11]; decide)) (by decide) (by decide) ?_
                              refine GoL.aload_n dL_law_537 rfl ?_
                              refine GoL.aload_n dL_law_538 rfl ?_
                              refine GoL.iload_n dL_law_539 rfl ?_
                              refine GoL.iconst (v := 1) dL_law_540 (by decide) ?_
                              refine GoL.iadd dL_law_541 ?_
                              obtain ⟨hb_542, hF⟩ := gd_some hF
                              refine GoL.sld dL_law_542 (inb_ok hb_542) ?_
                              obtain ⟨r_543, hc_543, hF⟩ := Option.bind_eq_some_iff.mp hF
                              refine GoL.callV [_] dL_law_543 kX11_night vX11_night lL_60 rfl rfl rfl rfl rfl (Nat.le_of_ble_eq_true rfl) (Nat.le_of_ble_eq_true rfl) (ok_X11_night (d + 50) N _ _ _ hc_543) ?_
                              refine GoL.aload_n dL_law_546 rfl ?_
                              refine GoL.aload_n dL_law_547 rfl ?_
                              refine GoL.iload_n dL_law_548 rfl ?_
                              refine GoL.iconst (v := 1) dL_law_549 (by decide) ?_
                              refine GoL.iadd dL_law_550 ?_
                              obtain ⟨hb_551, hF⟩ := gd_some hF
                              refine GoL.sld dL_law_551 (inb_ok hb_551) ?_
                              obtain ⟨r_552, hc_552, hF⟩ := Option.bind_eq_some_iff.mp hF
                              refine GoL.callV [_] dL_law_552 kX12_night vX12_night lL_63 rfl rfl rfl rfl rfl (Nat.le_of_ble_eq_true rfl) (Nat.le_of_ble_eq_true rfl) (ok_X12_night (d + 50) N _ _ _ hc_552) ?_
                              refine GoL.icmpeq (tgt := 1267) dL_law_555 (by decide) (fun h_555 => ?_) (fun h_555 => ?_)
                              · have hF := ite_t h_555 hF
                                refine GoL.iincS (ls' := [(3, _), (0, _), (1, _), (2, _)]) dL_law_1267 rfl (by decide) rfl ?_
                                refine GoL.goto (tgt := 18) dL_law_1270 (by decide) ?_
                                refine GoL.pick (ls' := [(0, _), (1, _), (2, _), (3, _)]) [1, 2, 3, 0] rfl ?_
                                exact hk18 _ _ _ hF
                              · have hF := ite_f h_555 hF
                                refine GoL.iconst (v := 0) dL_law_558 (by decide) ?_
                                obtain rfl := Option.some.inj hF
                                exact GoL.iret (st := []) dL_law_559 rfl rfl ⟨rfl, rfl⟩
                            · have hF := ite_f hs_33_11 hF
                              by_cases hs_33_12 : ((xs (Int32.toNatClampNeg x3)) &&& 63) = 12
                              · have hF := ite_t hs_33_12 hF
                                refine GoL.swT (tgt := 560) dL_law_33 (by first | (rw [hs_33_12]; done) | (rw [hs_33_12]; rfl) | (rw [hs_33_12]; decide)) (by decide) (by decide) ?_
                                refine GoL.aload_n dL_law_560 rfl ?_
                                refine GoL.aload_n dL_law_561 rfl ?_
                                refine GoL.iload_n dL_law_562 rfl ?_
                                refine GoL.iconst (v := 1) dL_law_563 (by decide) ?_
                                refine GoL.iadd dL_law_564 ?_
                                obtain ⟨hb_565, hF⟩ := gd_some hF
                                refine GoL.sld dL_law_565 (inb_ok hb_565) ?_
                                obtain ⟨r_566, hc_566, hF⟩ := Option.bind_eq_some_iff.mp hF
                                refine GoL.callV [_] dL_law_566 kX11_told vX11_told lL_64 rfl rfl rfl rfl rfl (Nat.le_of_ble_eq_true rfl) (Nat.le_of_ble_eq_true rfl) (ok_X11_told (d + 55) _ _ _ hc_566) ?_
                                refine GoL.aload_n dL_law_569 rfl ?_
                                refine GoL.aload_n dL_law_570 rfl ?_
                                refine GoL.iload_n dL_law_571 rfl ?_
                                refine GoL.iconst (v := 1) dL_law_572 (by decide) ?_
                                refine GoL.iadd dL_law_573 ?_
                                obtain ⟨hb_574, hF⟩ := gd_some hF
                                refine GoL.sld dL_law_574 (inb_ok hb_574) ?_
                                obtain ⟨r_575, hc_575, hF⟩ := Option.bind_eq_some_iff.mp hF
                                refine GoL.callV [_] dL_law_575 kX12_told vX12_told lL_67 rfl rfl rfl rfl rfl (Nat.le_of_ble_eq_true rfl) (Nat.le_of_ble_eq_true rfl) (ok_X12_told (d + 55) _ _ _ hc_575) ?_
                                refine GoL.icmpeq (tgt := 1267) dL_law_578 (by decide) (fun h_578 => ?_) (fun h_578 => ?_)
                                · have hF := ite_t h_578 hF
                                  refine GoL.iincS (ls' := [(3, _), (0, _), (1, _), (2, _)]) dL_law_1267 rfl (by decide) rfl ?_
                                  refine GoL.goto (tgt := 18) dL_law_1270 (by decide) ?_
                                  refine GoL.pick (ls' := [(0, _), (1, _), (2, _), (3, _)]) [1, 2, 3, 0] rfl ?_
                                  exact hk18 _ _ _ hF
                                · have hF := ite_f h_578 hF
                                  refine GoL.iconst (v := 0) dL_law_581 (by decide) ?_
                                  obtain rfl := Option.some.inj hF
                                  exact GoL.iret (st := []) dL_law_582 rfl rfl ⟨rfl, rfl⟩
                              · have hF := ite_f hs_33_12 hF
                                by_cases hs_33_13 : ((xs (Int32.toNatClampNeg x3)) &&& 63) = 13
                                · have hF := ite_t hs_33_13 hF
                                  refine GoL.swT (tgt := 583) dL_law_33 (by first | (rw [hs_33_13]; done) | (rw [hs_33_13]; rfl) | (rw [hs_33_13]; decide)) (by decide) (by decide) ?_
                                  refine GoL.aload_n dL_law_583 rfl ?_
                                  refine GoL.aload_n dL_law_584 rfl ?_
                                  refine GoL.iload_n dL_law_585 rfl ?_
                                  refine GoL.iconst (v := 1) dL_law_586 (by decide) ?_
                                  refine GoL.iadd dL_law_587 ?_
                                  obtain ⟨hb_588, hF⟩ := gd_some hF
                                  refine GoL.sld dL_law_588 (inb_ok hb_588) ?_
                                  refine GoL.aload_n dL_law_589 rfl ?_
                                  refine GoL.iload_n dL_law_590 rfl ?_
                                  refine GoL.iconst (v := 2) dL_law_591 (by decide) ?_
                                  refine GoL.iadd dL_law_592 ?_
                                  obtain ⟨hb_593, hF⟩ := gd_some hF
                                  refine GoL.sld dL_law_593 (inb_ok hb_593) ?_
                                  obtain ⟨r_594, hc_594, hF⟩ := Option.bind_eq_some_iff.mp hF
                                  refine GoL.callV [_, _] dL_law_594 kX11_said vX11_said lL_68 rfl rfl rfl rfl rfl (Nat.le_of_ble_eq_true rfl) (Nat.le_of_ble_eq_true rfl) (ok_X11_said (d + 55) _ _ _ _ hc_594) ?_
                                  refine GoL.aload_n dL_law_597 rfl ?_
                                  refine GoL.aload_n dL_law_598 rfl ?_
                                  refine GoL.iload_n dL_law_599 rfl ?_
                                  refine GoL.iconst (v := 1) dL_law_600 (by decide) ?_
                                  refine GoL.iadd dL_law_601 ?_
                                  obtain ⟨hb_602, hF⟩ := gd_some hF
                                  refine GoL.sld dL_law_602 (inb_ok hb_602) ?_
                                  refine GoL.aload_n dL_law_603 rfl ?_
                                  refine GoL.iload_n dL_law_604 rfl ?_
                                  refine GoL.iconst (v := 2) dL_law_605 (by decide) ?_
                                  refine GoL.iadd dL_law_606 ?_
                                  obtain ⟨hb_607, hF⟩ := gd_some hF
                                  refine GoL.sld dL_law_607 (inb_ok hb_607) ?_
                                  obtain ⟨r_608, hc_608, hF⟩ := Option.bind_eq_some_iff.mp hF
                                  refine GoL.callV [_, _] dL_law_608 kX12_said vX12_said lL_71 rfl rfl rfl rfl rfl (Nat.le_of_ble_eq_true rfl) (Nat.le_of_ble_eq_true rfl) (ok_X12_said (d + 55) _ _ _ _ hc_608) ?_
                                  refine GoL.icmpeq (tgt := 1267) dL_law_611 (by decide) (fun h_611 => ?_) (fun h_611 => ?_)
                                  · have hF := ite_t h_611 hF
                                    refine GoL.iincS (ls' := [(3, _), (0, _), (1, _), (2, _)]) dL_law_1267 rfl (by decide) rfl ?_
                                    refine GoL.goto (tgt := 18) dL_law_1270 (by decide) ?_
                                    refine GoL.pick (ls' := [(0, _), (1, _), (2, _), (3, _)]) [1, 2, 3, 0] rfl ?_
                                    exact hk18 _ _ _ hF
                                  · have hF := ite_f h_611 hF
                                    refine GoL.iconst (v := 0) dL_law_614 (by decide) ?_
                                    obtain rfl := Option.some.inj hF
                                    exact GoL.iret (st := []) dL_law_615 rfl rfl ⟨rfl, rfl⟩
                                · have hF := ite_f hs_33_13 hF
                                  by_cases hs_33_14 : ((xs (Int32.toNatClampNeg x3)) &&& 63) = 14
                                  · have hF := ite_t hs_33_14 hF
                                    refine GoL.swT (tgt := 616) dL_law_33 (by first | (rw [hs_33_14]; done) | (rw [hs_33_14]; rfl) | (rw [hs_33_14]; decide)) (by decide) (by decide) ?_
                                    refine GoL.aload_n dL_law_616 rfl ?_
                                    refine GoL.aload_n dL_law_617 rfl ?_
                                    refine GoL.iload_n dL_law_618 rfl ?_
                                    refine GoL.iconst (v := 1) dL_law_619 (by decide) ?_
                                    refine GoL.iadd dL_law_620 ?_
                                    obtain ⟨hb_621, hF⟩ := gd_some hF
                                    refine GoL.sld dL_law_621 (inb_ok hb_621) ?_
                                    refine GoL.aload_n dL_law_622 rfl ?_
                                    refine GoL.iload_n dL_law_623 rfl ?_
                                    refine GoL.iconst (v := 2) dL_law_624 (by decide) ?_
                                    refine GoL.iadd dL_law_625 ?_
                                    obtain ⟨hb_626, hF⟩ := gd_some hF
                                    refine GoL.sld dL_law_626 (inb_ok hb_626) ?_
                                    refine GoL.aload_n dL_law_627 rfl ?_
                                    refine GoL.iload_n dL_law_628 rfl ?_
                                    refine GoL.iconst (v := 3) dL_law_629 (by decide) ?_
                                    refine GoL.iadd dL_law_630 ?_
                                    obtain ⟨hb_631, hF⟩ := gd_some hF
                                    refine GoL.sld dL_law_631 (inb_ok hb_631) ?_
                                    obtain ⟨r_632, hc_632, hF⟩ := Option.bind_eq_some_iff.mp hF
                                    refine GoL.callV [_, _, _] dL_law_632 kX11_mean vX11_mean lL_72 rfl rfl rfl rfl rfl (Nat.le_of_ble_eq_true rfl) (Nat.le_of_ble_eq_true rfl) (ok_X11_mean (d + 50) N _ _ _ _ _ hc_632) ?_
                                    refine GoL.aload_n dL_law_635 rfl ?_
                                    refine GoL.aload_n dL_law_636 rfl ?_
                                    refine GoL.iload_n dL_law_637 rfl ?_
                                    refine GoL.iconst (v := 1) dL_law_638 (by decide) ?_
                                    refine GoL.iadd dL_law_639 ?_
                                    obtain ⟨hb_640, hF⟩ := gd_some hF
                                    refine GoL.sld dL_law_640 (inb_ok hb_640) ?_
                                    refine GoL.aload_n dL_law_641 rfl ?_
                                    refine GoL.iload_n dL_law_642 rfl ?_
                                    refine GoL.iconst (v := 2) dL_law_643 (by decide) ?_
                                    refine GoL.iadd dL_law_644 ?_
                                    obtain ⟨hb_645, hF⟩ := gd_some hF
                                    refine GoL.sld dL_law_645 (inb_ok hb_645) ?_
                                    refine GoL.aload_n dL_law_646 rfl ?_
                                    refine GoL.iload_n dL_law_647 rfl ?_
                                    refine GoL.iconst (v := 3) dL_law_648 (by decide) ?_
                                    refine GoL.iadd dL_law_649 ?_
                                    obtain ⟨hb_650, hF⟩ := gd_some hF
                                    refine GoL.sld dL_law_650 (inb_ok hb_650) ?_
                                    obtain ⟨r_651, hc_651, hF⟩ := Option.bind_eq_some_iff.mp hF
                                    refine GoL.callV [_, _, _] dL_law_651 kX12_mean vX12_mean lL_75 rfl rfl rfl rfl rfl (Nat.le_of_ble_eq_true rfl) (Nat.le_of_ble_eq_true rfl) (ok_X12_mean (d + 50) N _ _ _ _ _ hc_651) ?_
                                    refine GoL.icmpeq (tgt := 1267) dL_law_654 (by decide) (fun h_654 => ?_) (fun h_654 => ?_)
                                    · have hF := ite_t h_654 hF
                                      refine GoL.iincS (ls' := [(3, _), (0, _), (1, _), (2, _)]) dL_law_1267 rfl (by decide) rfl ?_
                                      refine GoL.goto (tgt := 18) dL_law_1270 (by decide) ?_
                                      refine GoL.pick (ls' := [(0, _), (1, _), (2, _), (3, _)]) [1, 2, 3, 0] rfl ?_
                                      exact hk18 _ _ _ hF
                                    · have hF := ite_f h_654 hF
                                      refine GoL.iconst (v := 0) dL_law_657 (by decide) ?_
                                      obtain rfl := Option.some.inj hF
                                      exact GoL.iret (st := []) dL_law_658 rfl rfl ⟨rfl, rfl⟩
                                  · have hF := ite_f hs_33_14 hF
                                    by_cases hs_33_15 : ((xs (Int32.toNatClampNeg x3)) &&& 63) = 15
                                    · have hF := ite_t hs_33_15 hF
                                      refine GoL.swT (tgt := 659) dL_law_33 (by first | (rw [hs_33_15]; done) | (rw [hs_33_15]; rfl) | (rw [hs_33_15]; decide)) (by decide) (by decide) ?_
                                      refine GoL.aload_n dL_law_659 rfl ?_
                                      refine GoL.aload_n dL_law_660 rfl ?_
                                      refine GoL.iload_n dL_law_661 rfl ?_
                                      refine GoL.iconst (v := 1) dL_law_662 (by decide) ?_
                                      refine GoL.iadd dL_law_663 ?_
                                      obtain ⟨hb_664, hF⟩ := gd_some hF
                                      refine GoL.sld dL_law_664 (inb_ok hb_664) ?_
                                      refine GoL.aload_n dL_law_665 rfl ?_
                                      refine GoL.iload_n dL_law_666 rfl ?_
                                      refine GoL.iconst (v := 2) dL_law_667 (by decide) ?_
                                      refine GoL.iadd dL_law_668 ?_
                                      obtain ⟨hb_669, hF⟩ := gd_some hF
                                      refine GoL.sld dL_law_669 (inb_ok hb_669) ?_
                                      obtain ⟨r_670, hc_670, hF⟩ := Option.bind_eq_some_iff.mp hF
                                      refine GoL.callV [_, _] dL_law_670 kX11_tape vX11_tape lL_76 rfl rfl rfl rfl rfl (Nat.le_of_ble_eq_true rfl) (Nat.le_of_ble_eq_true rfl) (ok_X11_tape (d + 53) N _ _ _ _ hc_670) ?_
                                      refine GoL.aload_n dL_law_673 rfl ?_
                                      refine GoL.aload_n dL_law_674 rfl ?_
                                      refine GoL.iload_n dL_law_675 rfl ?_
                                      refine GoL.iconst (v := 1) dL_law_676 (by decide) ?_
                                      refine GoL.iadd dL_law_677 ?_
                                      obtain ⟨hb_678, hF⟩ := gd_some hF
                                      refine GoL.sld dL_law_678 (inb_ok hb_678) ?_
                                      refine GoL.aload_n dL_law_679 rfl ?_
                                      refine GoL.iload_n dL_law_680 rfl ?_
                                      refine GoL.iconst (v := 2) dL_law_681 (by decide) ?_
                                      refine GoL.iadd dL_law_682 ?_
                                      obtain ⟨hb_683, hF⟩ := gd_some hF
                                      refine GoL.sld dL_law_683 (inb_ok hb_683) ?_
                                      obtain ⟨r_684, hc_684, hF⟩ := Option.bind_eq_some_iff.mp hF
                                      refine GoL.callV [_, _] dL_law_684 kX12_tape vX12_tape lL_79 rfl rfl rfl rfl rfl (Nat.le_of_ble_eq_true rfl) (Nat.le_of_ble_eq_true rfl) (ok_X12_tape (d + 53) N _ _ _ _ hc_684) ?_
                                      refine GoL.icmpeq (tgt := 1267) dL_law_687 (by decide) (fun h_687 => ?_) (fun h_687 => ?_)
                                      · have hF := ite_t h_687 hF
                                        refine GoL.iincS (ls' := [(3, _), (0, _), (1, _), (2, _)]) dL_law_1267 rfl (by decide) rfl ?_
                                        refine GoL.goto (tgt := 18) dL_law_1270 (by decide) ?_
                                        refine GoL.pick (ls' := [(0, _), (1, _), (2, _), (3, _)]) [1, 2, 3, 0] rfl ?_
                                        exact hk18 _ _ _ hF
                                      · have hF := ite_f h_687 hF
                                        refine GoL.iconst (v := 0) dL_law_690 (by decide) ?_
                                        obtain rfl := Option.some.inj hF
                                        exact GoL.iret (st := []) dL_law_691 rfl rfl ⟨rfl, rfl⟩
                                    · have hF := ite_f hs_33_15 hF
                                      by_cases hs_33_16 : ((xs (Int32.toNatClampNeg x3)) &&& 63) = 16
                                      · have hF := ite_t hs_33_16 hF
                                        refine GoL.swT (tgt := 692) dL_law_33 (by first | (rw [hs_33_16]; done) | (rw [hs_33_16]; rfl) | (rw [hs_33_16]; decide)) (by decide) (by decide) ?_
                                        refine GoL.aload_n dL_law_692 rfl ?_
                                        refine GoL.aload_n dL_law_693 rfl ?_
                                        refine GoL.iload_n dL_law_694 rfl ?_
                                        refine GoL.iconst (v := 1) dL_law_695 (by decide) ?_
                                        refine GoL.iadd dL_law_696 ?_
                                        obtain ⟨hb_697, hF⟩ := gd_some hF
                                        refine GoL.sld dL_law_697 (inb_ok hb_697) ?_
                                        refine GoL.aload_n dL_law_698 rfl ?_
                                        refine GoL.iload_n dL_law_699 rfl ?_
                                        refine GoL.iconst (v := 2) dL_law_700 (by decide) ?_
                                        refine GoL.iadd dL_law_701 ?_
                                        obtain ⟨hb_702, hF⟩ := gd_some hF
                                        refine GoL.sld dL_law_702 (inb_ok hb_702) ?_
                                        obtain ⟨r_703, hc_703, hF⟩ := Option.bind_eq_some_iff.mp hF
                                        refine GoL.callV [_, _] dL_law_703 kX11_prompt vX11_prompt lL_80 rfl rfl rfl rfl rfl (Nat.le_of_ble_eq_true rfl) (Nat.le_of_ble_eq_true rfl) (ok_X11_prompt (d + 51) N _ _ _ _ hc_703) ?_
                                        refine GoL.aload_n dL_law_706 rfl ?_
                                        refine GoL.aload_n dL_law_707 rfl ?_
                                        refine GoL.iload_n dL_law_708 rfl ?_
                                        refine GoL.iconst (v := 1) dL_law_709 (by decide) ?_
                                        refine GoL.iadd dL_law_710 ?_
                                        obtain ⟨hb_711, hF⟩ := gd_some hF
                                        refine GoL.sld dL_law_711 (inb_ok hb_711) ?_
                                        refine GoL.aload_n dL_law_712 rfl ?_
                                        refine GoL.iload_n dL_law_713 rfl ?_
                                        refine GoL.iconst (v := 2) dL_law_714 (by decide) ?_
                                        refine GoL.iadd dL_law_715 ?_
                                        obtain ⟨hb_716, hF⟩ := gd_some hF
                                        refine GoL.sld dL_law_716 (inb_ok hb_716) ?_
                                        obtain ⟨r_717, hc_717, hF⟩ := Option.bind_eq_some_iff.mp hF
                                        refine GoL.callV [_, _] dL_law_717 kX12_prompt vX12_prompt lL_83 rfl rfl rfl rfl rfl (Nat.le_of_ble_eq_true rfl) (Nat.le_of_ble_eq_true rfl) (ok_X12_prompt (d + 51) N _ _ _ _ hc_717) ?_
                                        refine GoL.icmpeq (tgt := 1267) dL_law_720 (by decide) (fun h_720 => ?_) (fun h_720 => ?_)
                                        · have hF := ite_t h_720 hF
                                          refine GoL.iincS (ls' := [(3, _), (0, _), (1, _), (2, _)]) dL_law_1267 rfl (by decide) rfl ?_
                                          refine GoL.goto (tgt := 18) dL_law_1270 (by decide) ?_
                                          refine GoL.pick (ls' := [(0, _), (1, _), (2, _), (3, _)]) [1, 2, 3, 0] rfl ?_
                                          exact hk18 _ _ _ hF
                                        · have hF := ite_f h_720 hF
                                          refine GoL.iconst (v := 0) dL_law_723 (by decide) ?_
                                          obtain rfl := Option.some.inj hF
                                          exact GoL.iret (st := []) dL_law_724 rfl rfl ⟨rfl, rfl⟩
                                      · have hF := ite_f hs_33_16 hF
                                        by_cases hs_33_17 : ((xs (Int32.toNatClampNeg x3)) &&& 63) = 17
                                        · have hF := ite_t hs_33_17 hF
                                          refine GoL.swT (tgt := 725) dL_law_33 (by first | (rw [hs_33_17]; done) | (rw [hs_33_17]; rfl) | (rw [hs_33_17]; decide)) (by decide) (by decide) ?_
                                          refine GoL.aload_n dL_law_725 rfl ?_
                                          refine GoL.aload_n dL_law_726 rfl ?_
                                          refine GoL.iload_n dL_law_727 rfl ?_
                                          refine GoL.iconst (v := 1) dL_law_728 (by decide) ?_
                                          refine GoL.iadd dL_law_729 ?_
                                          obtain ⟨hb_730, hF⟩ := gd_some hF
                                          refine GoL.sld dL_law_730 (inb_ok hb_730) ?_
                                          refine GoL.aload_n dL_law_731 rfl ?_
                                          refine GoL.iload_n dL_law_732 rfl ?_
                                          refine GoL.iconst (v := 2) dL_law_733 (by decide) ?_
                                          refine GoL.iadd dL_law_734 ?_
                                          obtain ⟨hb_735, hF⟩ := gd_some hF
                                          refine GoL.sld dL_law_735 (inb_ok hb_735) ?_
                                          obtain ⟨r_736, hc_736, hF⟩ := Option.bind_eq_some_iff.mp hF
                                          refine GoL.callV [_, _] dL_law_736 kX11_evenings vX11_evenings lL_84 rfl rfl rfl rfl rfl (Nat.le_of_ble_eq_true rfl) (Nat.le_of_ble_eq_true rfl) (ok_X11_evenings (d + 49) N _ _ _ _ hc_736) ?_
                                          refine GoL.aload_n dL_law_739 rfl ?_
                                          refine GoL.aload_n dL_law_740 rfl ?_
                                          refine GoL.iload_n dL_law_741 rfl ?_
                                          refine GoL.iconst (v := 1) dL_law_742 (by decide) ?_
                                          refine GoL.iadd dL_law_743 ?_
                                          obtain ⟨hb_744, hF⟩ := gd_some hF
                                          refine GoL.sld dL_law_744 (inb_ok hb_744) ?_
                                          refine GoL.aload_n dL_law_745 rfl ?_
                                          refine GoL.iload_n dL_law_746 rfl ?_
                                          refine GoL.iconst (v := 2) dL_law_747 (by decide) ?_
                                          refine GoL.iadd dL_law_748 ?_
                                          obtain ⟨hb_749, hF⟩ := gd_some hF
                                          refine GoL.sld dL_law_749 (inb_ok hb_749) ?_
                                          obtain ⟨r_750, hc_750, hF⟩ := Option.bind_eq_some_iff.mp hF
                                          refine GoL.callV [_, _] dL_law_750 kX12_evenings vX12_evenings lL_87 rfl rfl rfl rfl rfl (Nat.le_of_ble_eq_true rfl) (Nat.le_of_ble_eq_true rfl) (ok_X12_evenings (d + 50) N _ _ _ _ hc_750) ?_
                                          refine GoL.icmpeq (tgt := 1267) dL_law_753 (by decide) (fun h_753 => ?_) (fun h_753 => ?_)
                                          · have hF := ite_t h_753 hF
                                            refine GoL.iincS (ls' := [(3, _), (0, _), (1, _), (2, _)]) dL_law_1267 rfl (by decide) rfl ?_
                                            refine GoL.goto (tgt := 18) dL_law_1270 (by decide) ?_
                                            refine GoL.pick (ls' := [(0, _), (1, _), (2, _), (3, _)]) [1, 2, 3, 0] rfl ?_
                                            exact hk18 _ _ _ hF
                                          · have hF := ite_f h_753 hF
                                            refine GoL.iconst (v := 0) dL_law_756 (by decide) ?_
                                            obtain rfl := Option.some.inj hF
                                            exact GoL.iret (st := []) dL_law_757 rfl rfl ⟨rfl, rfl⟩
                                        · have hF := ite_f hs_33_17 hF
                                          by_cases hs_33_18 : ((xs (Int32.toNatClampNeg x3)) &&& 63) = 18
                                          · have hF := ite_t hs_33_18 hF
                                            refine GoL.swT (tgt := 758) dL_law_33 (by first | (rw [hs_33_18]; done) | (rw [hs_33_18]; rfl) | (rw [hs_33_18]; decide)) (by decide) (by decide) ?_
                                            refine GoL.aload_n dL_law_758 rfl ?_
                                            refine GoL.aload_n dL_law_759 rfl ?_
                                            refine GoL.iload_n dL_law_760 rfl ?_
                                            refine GoL.iconst (v := 1) dL_law_761 (by decide) ?_
                                            refine GoL.iadd dL_law_762 ?_
                                            obtain ⟨hb_763, hF⟩ := gd_some hF
                                            refine GoL.sld dL_law_763 (inb_ok hb_763) ?_
                                            refine GoL.aload_n dL_law_764 rfl ?_
                                            refine GoL.iload_n dL_law_765 rfl ?_
                                            refine GoL.iconst (v := 2) dL_law_766 (by decide) ?_
                                            refine GoL.iadd dL_law_767 ?_
                                            obtain ⟨hb_768, hF⟩ := gd_some hF
                                            refine GoL.sld dL_law_768 (inb_ok hb_768) ?_
                                            obtain ⟨r_769, hc_769, hF⟩ := Option.bind_eq_some_iff.mp hF
                                            refine GoL.callV [_, _] dL_law_769 kX11_cut vX11_cut lL_88 rfl rfl rfl rfl rfl (Nat.le_of_ble_eq_true rfl) (Nat.le_of_ble_eq_true rfl) (ok_X11_cut (d + 53) N _ _ _ _ hc_769) ?_
                                            refine GoL.aload_n dL_law_772 rfl ?_
                                            refine GoL.aload_n dL_law_773 rfl ?_
                                            refine GoL.iload_n dL_law_774 rfl ?_
                                            refine GoL.iconst (v := 1) dL_law_775 (by decide) ?_
                                            refine GoL.iadd dL_law_776 ?_
                                            obtain ⟨hb_777, hF⟩ := gd_some hF
                                            refine GoL.sld dL_law_777 (inb_ok hb_777) ?_
                                            refine GoL.aload_n dL_law_778 rfl ?_
                                            refine GoL.iload_n dL_law_779 rfl ?_
                                            refine GoL.iconst (v := 2) dL_law_780 (by decide) ?_
                                            refine GoL.iadd dL_law_781 ?_
                                            obtain ⟨hb_782, hF⟩ := gd_some hF
                                            refine GoL.sld dL_law_782 (inb_ok hb_782) ?_
                                            obtain ⟨r_783, hc_783, hF⟩ := Option.bind_eq_some_iff.mp hF
                                            refine GoL.callV [_, _] dL_law_783 kX12_cut vX12_cut lL_91 rfl rfl rfl rfl rfl (Nat.le_of_ble_eq_true rfl) (Nat.le_of_ble_eq_true rfl) (ok_X12_cut (d + 47) N _ _ _ _ hc_783) ?_
                                            refine GoL.icmpeq (tgt := 1267) dL_law_786 (by decide) (fun h_786 => ?_) (fun h_786 => ?_)
                                            · have hF := ite_t h_786 hF
                                              refine GoL.iincS (ls' := [(3, _), (0, _), (1, _), (2, _)]) dL_law_1267 rfl (by decide) rfl ?_
                                              refine GoL.goto (tgt := 18) dL_law_1270 (by decide) ?_
                                              refine GoL.pick (ls' := [(0, _), (1, _), (2, _), (3, _)]) [1, 2, 3, 0] rfl ?_
                                              exact hk18 _ _ _ hF
                                            · have hF := ite_f h_786 hF
                                              refine GoL.iconst (v := 0) dL_law_789 (by decide) ?_
                                              obtain rfl := Option.some.inj hF
                                              exact GoL.iret (st := []) dL_law_790 rfl rfl ⟨rfl, rfl⟩
                                          · have hF := ite_f hs_33_18 hF
                                            by_cases hs_33_19 : ((xs (Int32.toNatClampNeg x3)) &&& 63) = 19
                                            · have hF := ite_t hs_33_19 hF
                                              refine GoL.swT (tgt := 791) dL_law_33 (by first | (rw [hs_33_19]; done) | (rw [hs_33_19]; rfl) | (rw [hs_33_19]; decide)) (by decide) (by decide) ?_
                                              refine GoL.aload_n dL_law_791 rfl ?_
                                              refine GoL.aload_n dL_law_792 rfl ?_
                                              refine GoL.iload_n dL_law_793 rfl ?_
                                              refine GoL.iconst (v := 1) dL_law_794 (by decide) ?_
                                              refine GoL.iadd dL_law_795 ?_
                                              obtain ⟨hb_796, hF⟩ := gd_some hF
                                              refine GoL.sld dL_law_796 (inb_ok hb_796) ?_
                                              refine GoL.aload_n dL_law_797 rfl ?_
                                              refine GoL.iload_n dL_law_798 rfl ?_
                                              refine GoL.iconst (v := 2) dL_law_799 (by decide) ?_
                                              refine GoL.iadd dL_law_800 ?_
                                              obtain ⟨hb_801, hF⟩ := gd_some hF
                                              refine GoL.sld dL_law_801 (inb_ok hb_801) ?_
                                              obtain ⟨r_802, hc_802, hF⟩ := Option.bind_eq_some_iff.mp hF
                                              refine GoL.callV [_, _] dL_law_802 kX11_newspaper vX11_newspaper lL_92 rfl rfl rfl rfl rfl (Nat.le_of_ble_eq_true rfl) (Nat.le_of_ble_eq_true rfl) (ok_X11_newspaper (d + 49) N _ _ _ _ hc_802) ?_
                                              refine GoL.aload_n dL_law_805 rfl ?_
                                              refine GoL.aload_n dL_law_806 rfl ?_
                                              refine GoL.iload_n dL_law_807 rfl ?_
                                              refine GoL.iconst (v := 1) dL_law_808 (by decide) ?_
                                              refine GoL.iadd dL_law_809 ?_
                                              obtain ⟨hb_810, hF⟩ := gd_some hF
                                              refine GoL.sld dL_law_810 (inb_ok hb_810) ?_
                                              refine GoL.aload_n dL_law_811 rfl ?_
                                              refine GoL.iload_n dL_law_812 rfl ?_
                                              refine GoL.iconst (v := 2) dL_law_813 (by decide) ?_
                                              refine GoL.iadd dL_law_814 ?_
                                              obtain ⟨hb_815, hF⟩ := gd_some hF
                                              refine GoL.sld dL_law_815 (inb_ok hb_815) ?_
                                              obtain ⟨r_816, hc_816, hF⟩ := Option.bind_eq_some_iff.mp hF
                                              refine GoL.callV [_, _] dL_law_816 kX12_newspaper vX12_newspaper lL_95 rfl rfl rfl rfl rfl (Nat.le_of_ble_eq_true rfl) (Nat.le_of_ble_eq_true rfl) (ok_X12_newspaper (d + 51) N _ _ _ _ hc_816) ?_
                                              refine GoL.icmpeq (tgt := 1267) dL_law_819 (by decide) (fun h_819 => ?_) (fun h_819 => ?_)
                                              · have hF := ite_t h_819 hF
                                                refine GoL.iincS (ls' := [(3, _), (0, _), (1, _), (2, _)]) dL_law_1267 rfl (by decide) rfl ?_
                                                refine GoL.goto (tgt := 18) dL_law_1270 (by decide) ?_
                                                refine GoL.pick (ls' := [(0, _), (1, _), (2, _), (3, _)]) [1, 2, 3, 0] rfl ?_
                                                exact hk18 _ _ _ hF
                                              · have hF := ite_f h_819 hF
                                                refine GoL.iconst (v := 0) dL_law_822 (by decide) ?_
                                                obtain rfl := Option.some.inj hF
                                                exact GoL.iret (st := []) dL_law_823 rfl rfl ⟨rfl, rfl⟩
                                            · have hF := ite_f hs_33_19 hF
                                              by_cases hs_33_20 : ((xs (Int32.toNatClampNeg x3)) &&& 63) = 20
                                              · have hF := ite_t hs_33_20 hF
                                                refine GoL.swT (tgt := 824) dL_law_33 (by first | (rw [hs_33_20]; done) | (rw [hs_33_20]; rfl) | (rw [hs_33_20]; decide)) (by decide) (by decide) ?_
                                                refine GoL.aload_n dL_law_824 rfl ?_
                                                obtain ⟨r_825, hc_825, hF⟩ := Option.bind_eq_some_iff.mp hF
                                                refine GoL.callV [] dL_law_825 kX11_image vX11_image lL_96 rfl rfl rfl rfl rfl (Nat.le_of_ble_eq_true rfl) (Nat.le_of_ble_eq_true rfl) (ok_X11_image (d + 54) _ _ hc_825) ?_
                                                refine GoL.aload_n dL_law_828 rfl ?_
                                                obtain ⟨r_829, hc_829, hF⟩ := Option.bind_eq_some_iff.mp hF
                                                refine GoL.callV [] dL_law_829 kX12_image vX12_image lL_100 rfl rfl rfl rfl rfl (Nat.le_of_ble_eq_true rfl) (Nat.le_of_ble_eq_true rfl) (ok_X12_image (d + 56) N _ _ hc_829) ?_
                                                refine GoL.icmpeq (tgt := 1267) dL_law_832 (by decide) (fun h_832 => ?_) (fun h_832 => ?_)
                                                · have hF := ite_t h_832 hF
                                                  refine GoL.iincS (ls' := [(3, _), (0, _), (1, _), (2, _)]) dL_law_1267 rfl (by decide) rfl ?_
                                                  refine GoL.goto (tgt := 18) dL_law_1270 (by decide) ?_
                                                  refine GoL.pick (ls' := [(0, _), (1, _), (2, _), (3, _)]) [1, 2, 3, 0] rfl ?_
                                                  exact hk18 _ _ _ hF
                                                · have hF := ite_f h_832 hF
                                                  refine GoL.iconst (v := 0) dL_law_835 (by decide) ?_
                                                  obtain rfl := Option.some.inj hF
                                                  exact GoL.iret (st := []) dL_law_836 rfl rfl ⟨rfl, rfl⟩
                                              · have hF := ite_f hs_33_20 hF
                                                by_cases hs_33_21 : ((xs (Int32.toNatClampNeg x3)) &&& 63) = 21
                                                · have hF := ite_t hs_33_21 hF
                                                  refine GoL.swT (tgt := 837) dL_law_33 (by first | (rw [hs_33_21]; done) | (rw [hs_33_21]; rfl) | (rw [hs_33_21]; decide)) (by decide) (by decide) ?_
                                                  refine GoL.aload_n dL_law_837 rfl ?_
                                                  obtain ⟨r_838, hc_838, hF⟩ := Option.bind_eq_some_iff.mp hF
                                                  refine GoL.callV [] dL_law_838 kX11_back vX11_back lL_101 rfl rfl rfl rfl rfl (Nat.le_of_ble_eq_true rfl) (Nat.le_of_ble_eq_true rfl) (ok_X11_back (d + 54) _ _ hc_838) ?_
                                                  refine GoL.aload_n dL_law_841 rfl ?_
                                                  obtain ⟨r_842, hc_842, hF⟩ := Option.bind_eq_some_iff.mp hF
                                                  refine GoL.callV [] dL_law_842 kX12_back vX12_back lL_104 rfl rfl rfl rfl rfl (Nat.le_of_ble_eq_true rfl) (Nat.le_of_ble_eq_true rfl) (ok_X12_back (d + 56) N _ _ hc_842) ?_
                                                  refine GoL.icmpeq (tgt := 1267) dL_law_845 (by decide) (fun h_845 => ?_) (fun h_845 => ?_)
                                                  · have hF := ite_t h_845 hF
                                                    refine GoL.iincS (ls' := [(3, _), (0, _), (1, _), (2, _)]) dL_law_1267 rfl (by decide) rfl ?_
                                                    refine GoL.goto (tgt := 18) dL_law_1270 (by decide) ?_
                                                    refine GoL.pick (ls' := [(0, _), (1, _), (2, _), (3, _)]) [1, 2, 3, 0] rfl ?_
                                                    exact hk18 _ _ _ hF
                                                  · have hF := ite_f h_845 hF
                                                    refine GoL.iconst (v := 0) dL_law_848 (by decide) ?_
                                                    obtain rfl := Option.some.inj hF
                                                    exact GoL.iret (st := []) dL_law_849 rfl rfl ⟨rfl, rfl⟩
                                                · have hF := ite_f hs_33_21 hF
                                                  by_cases hs_33_22 : ((xs (Int32.toNatClampNeg x3)) &&& 63) = 22
                                                  · have hF := ite_t hs_33_22 hF
                                                    refine GoL.swT (tgt := 850) dL_law_33 (by first | (rw [hs_33_22]; done) | (rw [hs_33_22]; rfl) | (rw [hs_33_22]; decide)) (by decide) (by decide) ?_
                                                    refine GoL.aload_n dL_law_850 rfl ?_
                                                    obtain ⟨r_851, hc_851, hF⟩ := Option.bind_eq_some_iff.mp hF
                                                    refine GoL.callV [] dL_law_851 kX11_undo vX11_undo lL_105 rfl rfl rfl rfl rfl (Nat.le_of_ble_eq_true rfl) (Nat.le_of_ble_eq_true rfl) (ok_X11_undo (d + 53) _ _ hc_851) ?_
                                                    refine GoL.aload_n dL_law_854 rfl ?_
                                                    obtain ⟨r_855, hc_855, hF⟩ := Option.bind_eq_some_iff.mp hF
                                                    refine GoL.callV [] dL_law_855 kX12_undo vX12_undo lL_108 rfl rfl rfl rfl rfl (Nat.le_of_ble_eq_true rfl) (Nat.le_of_ble_eq_true rfl) (ok_X12_undo (d + 55) _ _ hc_855) ?_
                                                    refine GoL.icmpeq (tgt := 1267) dL_law_858 (by decide) (fun h_858 => ?_) (fun h_858 => ?_)
                                                    · have hF := ite_t h_858 hF
                                                      refine GoL.iincS (ls' := [(3, _), (0, _), (1, _), (2, _)]) dL_law_1267 rfl (by decide) rfl ?_
                                                      refine GoL.goto (tgt := 18) dL_law_1270 (by decide) ?_
                                                      refine GoL.pick (ls' := [(0, _), (1, _), (2, _), (3, _)]) [1, 2, 3, 0] rfl ?_
                                                      exact hk18 _ _ _ hF
                                                    · have hF := ite_f h_858 hF
                                                      refine GoL.iconst (v := 0) dL_law_861 (by decide) ?_
                                                      obtain rfl := Option.some.inj hF
                                                      exact GoL.iret (st := []) dL_law_862 rfl rfl ⟨rfl, rfl⟩
                                                  · have hF := ite_f hs_33_22 hF
                                                    by_cases hs_33_23 : ((xs (Int32.toNatClampNeg x3)) &&& 63) = 23
                                                    · have hF := ite_t hs_33_23 hF
                                                      refine GoL.swT (tgt := 863) dL_law_33 (by first | (rw [hs_33_23]; done) | (rw [hs_33_23]; rfl) | (rw [hs_33_23]; decide)) (by decide) (by decide) ?_
                                                      refine GoL.aload_n dL_law_863 rfl ?_
                                                      obtain ⟨r_864, hc_864, hF⟩ := Option.bind_eq_some_iff.mp hF
                                                      refine GoL.callV [] dL_law_864 kX11_redo vX11_redo lL_109 rfl rfl rfl rfl rfl (Nat.le_of_ble_eq_true rfl) (Nat.le_of_ble_eq_true rfl) (ok_X11_redo (d + 53) _ _ hc_864) ?_
                                                      refine GoL.aload_n dL_law_867 rfl ?_
                                                      obtain ⟨r_868, hc_868, hF⟩ := Option.bind_eq_some_iff.mp hF
                                                      refine GoL.callV [] dL_law_868 kX12_redo vX12_redo lL_112 rfl rfl rfl rfl rfl (Nat.le_of_ble_eq_true rfl) (Nat.le_of_ble_eq_true rfl) (ok_X12_redo (d + 55) _ _ hc_868) ?_
                                                      refine GoL.icmpeq (tgt := 1267) dL_law_871 (by decide) (fun h_871 => ?_) (fun h_871 => ?_)
                                                      · have hF := ite_t h_871 hF
                                                        refine GoL.iincS (ls' := [(3, _), (0, _), (1, _), (2, _)]) dL_law_1267 rfl (by decide) rfl ?_
                                                        refine GoL.goto (tgt := 18) dL_law_1270 (by decide) ?_
                                                        refine GoL.pick (ls' := [(0, _), (1, _), (2, _), (3, _)]) [1, 2, 3, 0] rfl ?_
                                                        exact hk18 _ _ _ hF
                                                      · have hF := ite_f h_871 hF
                                                        refine GoL.iconst (v := 0) dL_law_874 (by decide) ?_
                                                        obtain rfl := Option.some.inj hF
                                                        exact GoL.iret (st := []) dL_law_875 rfl rfl ⟨rfl, rfl⟩
                                                    · have hF := ite_f hs_33_23 hF
                                                      by_cases hs_33_24 : ((xs (Int32.toNatClampNeg x3)) &&& 63) = 24
                                                      · have hF := ite_t hs_33_24 hF
                                                        refine GoL.swT (tgt := 876) dL_law_33 (by first | (rw [hs_33_24]; done) | (rw [hs_33_24]; rfl) | (rw [hs_33_24]; decide)) (by decide) (by decide) ?_
                                                        refine GoL.aload_n dL_law_876 rfl ?_
                                                        refine GoL.aload_n dL_law_877 rfl ?_
                                                        refine GoL.iload_n dL_law_878 rfl ?_
                                                        refine GoL.iconst (v := 1) dL_law_879 (by decide) ?_
                                                        refine GoL.iadd dL_law_880 ?_
                                                        obtain ⟨hb_881, hF⟩ := gd_some hF
                                                        refine GoL.sld dL_law_881 (inb_ok hb_881) ?_
                                                        obtain ⟨r_882, hc_882, hF⟩ := Option.bind_eq_some_iff.mp hF
                                                        refine GoL.callV [_] dL_law_882 kX11_body vX11_body lL_113 rfl rfl rfl rfl rfl (Nat.le_of_ble_eq_true rfl) (Nat.le_of_ble_eq_true rfl) (ok_X11_body (d + 55) _ _ _ hc_882) ?_
                                                        refine GoL.aload_n dL_law_885 rfl ?_
                                                        refine GoL.aload_n dL_law_886 rfl ?_
                                                        refine GoL.iload_n dL_law_887 rfl ?_
                                                        refine GoL.iconst (v := 1) dL_law_888 (by decide) ?_
                                                        refine GoL.iadd dL_law_889 ?_
                                                        obtain ⟨hb_890, hF⟩ := gd_some hF
                                                        refine GoL.sld dL_law_890 (inb_ok hb_890) ?_
                                                        obtain ⟨r_891, hc_891, hF⟩ := Option.bind_eq_some_iff.mp hF
                                                        refine GoL.callV [_] dL_law_891 kX12_body vX12_body lL_116 rfl rfl rfl rfl rfl (Nat.le_of_ble_eq_true rfl) (Nat.le_of_ble_eq_true rfl) (ok_X12_body (d + 55) _ _ _ hc_891) ?_
                                                        refine GoL.icmpeq (tgt := 1267) dL_law_894 (by decide) (fun h_894 => ?_) (fun h_894 => ?_)
                                                        · have hF := ite_t h_894 hF
                                                          refine GoL.iincS (ls' := [(3, _), (0, _), (1, _), (2, _)]) dL_law_1267 rfl (by decide) rfl ?_
                                                          refine GoL.goto (tgt := 18) dL_law_1270 (by decide) ?_
                                                          refine GoL.pick (ls' := [(0, _), (1, _), (2, _), (3, _)]) [1, 2, 3, 0] rfl ?_
                                                          exact hk18 _ _ _ hF
                                                        · have hF := ite_f h_894 hF
                                                          refine GoL.iconst (v := 0) dL_law_897 (by decide) ?_
                                                          obtain rfl := Option.some.inj hF
                                                          exact GoL.iret (st := []) dL_law_898 rfl rfl ⟨rfl, rfl⟩
                                                      · have hF := ite_f hs_33_24 hF
                                                        by_cases hs_33_25 : ((xs (Int32.toNatClampNeg x3)) &&& 63) = 25
                                                        · have hF := ite_t hs_33_25 hF
                                                          refine GoL.swT (tgt := 899) dL_law_33 (by first | (rw [hs_33_25]; done) | (rw [hs_33_25]; rfl) | (rw [hs_33_25]; decide)) (by decide) (by decide) ?_
                                                          refine GoL.aload_n dL_law_899 rfl ?_
                                                          refine GoL.aload_n dL_law_900 rfl ?_
                                                          refine GoL.iload_n dL_law_901 rfl ?_
                                                          refine GoL.iconst (v := 1) dL_law_902 (by decide) ?_
                                                          refine GoL.iadd dL_law_903 ?_
                                                          obtain ⟨hb_904, hF⟩ := gd_some hF
                                                          refine GoL.sld dL_law_904 (inb_ok hb_904) ?_
                                                          refine GoL.aload_n dL_law_905 rfl ?_
                                                          refine GoL.iload_n dL_law_906 rfl ?_
                                                          refine GoL.iconst (v := 2) dL_law_907 (by decide) ?_
                                                          refine GoL.iadd dL_law_908 ?_
                                                          obtain ⟨hb_909, hF⟩ := gd_some hF
                                                          refine GoL.sld dL_law_909 (inb_ok hb_909) ?_
                                                          refine GoL.aload_n dL_law_910 rfl ?_
                                                          refine GoL.iload_n dL_law_911 rfl ?_
                                                          refine GoL.iconst (v := 3) dL_law_912 (by decide) ?_
                                                          refine GoL.iadd dL_law_913 ?_
                                                          obtain ⟨hb_914, hF⟩ := gd_some hF
                                                          refine GoL.sld dL_law_914 (inb_ok hb_914) ?_
                                                          obtain ⟨r_915, hc_915, hF⟩ := Option.bind_eq_some_iff.mp hF
                                                          refine GoL.callV [_, _, _] dL_law_915 kX11_act vX11_act lL_117 rfl rfl rfl rfl rfl (Nat.le_of_ble_eq_true rfl) (Nat.le_of_ble_eq_true rfl) (ok_X11_act (d + 11) N _ _ _ _ _ hc_915) ?_
                                                          refine GoL.aload_n dL_law_918 rfl ?_
                                                          refine GoL.aload_n dL_law_919 rfl ?_
                                                          refine GoL.iload_n dL_law_920 rfl ?_
                                                          refine GoL.iconst (v := 1) dL_law_921 (by decide) ?_
                                                          refine GoL.iadd dL_law_922 ?_
                                                          obtain ⟨hb_923, hF⟩ := gd_some hF
                                                          refine GoL.sld dL_law_923 (inb_ok hb_923) ?_
                                                          refine GoL.aload_n dL_law_924 rfl ?_
                                                          refine GoL.iload_n dL_law_925 rfl ?_
                                                          refine GoL.iconst (v := 2) dL_law_926 (by decide) ?_
                                                          refine GoL.iadd dL_law_927 ?_
                                                          obtain ⟨hb_928, hF⟩ := gd_some hF
                                                          refine GoL.sld dL_law_928 (inb_ok hb_928) ?_
                                                          refine GoL.aload_n dL_law_929 rfl ?_
                                                          refine GoL.iload_n dL_law_930 rfl ?_
                                                          refine GoL.iconst (v := 3) dL_law_931 (by decide) ?_
                                                          refine GoL.iadd dL_law_932 ?_
                                                          obtain ⟨hb_933, hF⟩ := gd_some hF
                                                          refine GoL.sld dL_law_933 (inb_ok hb_933) ?_
                                                          obtain ⟨r_934, hc_934, hF⟩ := Option.bind_eq_some_iff.mp hF
                                                          refine GoL.callV [_, _, _] dL_law_934 kX12_act vX12_act lL_120 rfl rfl rfl rfl rfl (Nat.le_of_ble_eq_true rfl) (Nat.le_of_ble_eq_true rfl) (ok_X12_act (d + 47) _ _ _ _ _ hc_934) ?_
                                                          refine GoL.icmpeq (tgt := 1267) dL_law_937 (by decide) (fun h_937 => ?_) (fun h_937 => ?_)
                                                          · have hF := ite_t h_937 hF
                                                            refine GoL.iincS (ls' := [(3, _), (0, _), (1, _), (2, _)]) dL_law_1267 rfl (by decide) rfl ?_
                                                            refine GoL.goto (tgt := 18) dL_law_1270 (by decide) ?_
                                                            refine GoL.pick (ls' := [(0, _), (1, _), (2, _), (3, _)]) [1, 2, 3, 0] rfl ?_
                                                            exact hk18 _ _ _ hF
                                                          · have hF := ite_f h_937 hF
                                                            refine GoL.iconst (v := 0) dL_law_940 (by decide) ?_
                                                            obtain rfl := Option.some.inj hF
                                                            exact GoL.iret (st := []) dL_law_941 rfl rfl ⟨rfl, rfl⟩
                                                        · have hF := ite_f hs_33_25 hF
                                                          by_cases hs_33_26 : ((xs (Int32.toNatClampNeg x3)) &&& 63) = 26
                                                          · have hF := ite_t hs_33_26 hF
                                                            refine GoL.swT (tgt := 942) dL_law_33 (by first | (rw [hs_33_26]; done) | (rw [hs_33_26]; rfl) | (rw [hs_33_26]; decide)) (by decide) (by decide) ?_
                                                            refine GoL.aload_n dL_law_942 rfl ?_
                                                            refine GoL.aload_n dL_law_943 rfl ?_
                                                            refine GoL.iload_n dL_law_944 rfl ?_
                                                            refine GoL.iconst (v := 1) dL_law_945 (by decide) ?_
                                                            refine GoL.iadd dL_law_946 ?_
                                                            obtain ⟨hb_947, hF⟩ := gd_some hF
                                                            refine GoL.sld dL_law_947 (inb_ok hb_947) ?_
                                                            obtain ⟨r_948, hc_948, hF⟩ := Option.bind_eq_some_iff.mp hF
                                                            refine GoL.callV [_] dL_law_948 kX11_trace vX11_trace lL_121 rfl rfl rfl rfl rfl (Nat.le_of_ble_eq_true rfl) (Nat.le_of_ble_eq_true rfl) (ok_X11_trace (d + 54) _ _ _ hc_948) ?_
                                                            refine GoL.aload_n dL_law_951 rfl ?_
                                                            refine GoL.aload_n dL_law_952 rfl ?_
                                                            refine GoL.iload_n dL_law_953 rfl ?_
                                                            refine GoL.iconst (v := 1) dL_law_954 (by decide) ?_
                                                            refine GoL.iadd dL_law_955 ?_
                                                            obtain ⟨hb_956, hF⟩ := gd_some hF
                                                            refine GoL.sld dL_law_956 (inb_ok hb_956) ?_
                                                            obtain ⟨r_957, hc_957, hF⟩ := Option.bind_eq_some_iff.mp hF
                                                            refine GoL.callV [_] dL_law_957 kX12_trace vX12_trace lL_124 rfl rfl rfl rfl rfl (Nat.le_of_ble_eq_true rfl) (Nat.le_of_ble_eq_true rfl) (ok_X12_trace (d + 56) _ _ _ hc_957) ?_
                                                            refine GoL.icmpeq (tgt := 1267) dL_law_960 (by decide) (fun h_960 => ?_) (fun h_960 => ?_)
                                                            · have hF := ite_t h_960 hF
                                                              refine GoL.iincS (ls' := [(3, _), (0, _), (1, _), (2, _)]) dL_law_1267 rfl (by decide) rfl ?_
                                                              refine GoL.goto (tgt := 18) dL_law_1270 (by decide) ?_
                                                              refine GoL.pick (ls' := [(0, _), (1, _), (2, _), (3, _)]) [1, 2, 3, 0] rfl ?_
                                                              exact hk18 _ _ _ hF
                                                            · have hF := ite_f h_960 hF
                                                              refine GoL.iconst (v := 0) dL_law_963 (by decide) ?_
                                                              obtain rfl := Option.some.inj hF
                                                              exact GoL.iret (st := []) dL_law_964 rfl rfl ⟨rfl, rfl⟩
                                                          · have hF := ite_f hs_33_26 hF
                                                            by_cases hs_33_27 : ((xs (Int32.toNatClampNeg x3)) &&& 63) = 27
                                                            · have hF := ite_t hs_33_27 hF
                                                              refine GoL.swT (tgt := 965) dL_law_33 (by first | (rw [hs_33_27]; done) | (rw [hs_33_27]; rfl) | (rw [hs_33_27]; decide)) (by decide) (by decide) ?_
                                                              refine GoL.aload_n dL_law_965 rfl ?_
                                                              refine GoL.aload_n dL_law_966 rfl ?_
                                                              refine GoL.iload_n dL_law_967 rfl ?_
                                                              refine GoL.iconst (v := 1) dL_law_968 (by decide) ?_
                                                              refine GoL.iadd dL_law_969 ?_
                                                              obtain ⟨hb_970, hF⟩ := gd_some hF
                                                              refine GoL.sld dL_law_970 (inb_ok hb_970) ?_
                                                              refine GoL.aload_n dL_law_971 rfl ?_
                                                              refine GoL.iload_n dL_law_972 rfl ?_
                                                              refine GoL.iconst (v := 2) dL_law_973 (by decide) ?_
                                                              refine GoL.iadd dL_law_974 ?_
                                                              obtain ⟨hb_975, hF⟩ := gd_some hF
                                                              refine GoL.sld dL_law_975 (inb_ok hb_975) ?_
                                                              obtain ⟨r_976, hc_976, hF⟩ := Option.bind_eq_some_iff.mp hF
                                                              refine GoL.callV [_, _] dL_law_976 kX11_keep vX11_keep lL_125 rfl rfl rfl rfl rfl (Nat.le_of_ble_eq_true rfl) (Nat.le_of_ble_eq_true rfl) (ok_X11_keep (d + 55) _ _ _ _ hc_976) ?_
                                                              refine GoL.aload_n dL_law_979 rfl ?_
                                                              refine GoL.aload_n dL_law_980 rfl ?_
                                                              refine GoL.iload_n dL_law_981 rfl ?_
                                                              refine GoL.iconst (v := 1) dL_law_982 (by decide) ?_
                                                              refine GoL.iadd dL_law_983 ?_
                                                              obtain ⟨hb_984, hF⟩ := gd_some hF
                                                              refine GoL.sld dL_law_984 (inb_ok hb_984) ?_
                                                              refine GoL.aload_n dL_law_985 rfl ?_
                                                              refine GoL.iload_n dL_law_986 rfl ?_
                                                              refine GoL.iconst (v := 2) dL_law_987 (by decide) ?_
                                                              refine GoL.iadd dL_law_988 ?_
                                                              obtain ⟨hb_989, hF⟩ := gd_some hF
                                                              refine GoL.sld dL_law_989 (inb_ok hb_989) ?_
                                                              obtain ⟨r_990, hc_990, hF⟩ := Option.bind_eq_some_iff.mp hF
                                                              refine GoL.callV [_, _] dL_law_990 kX12_keep vX12_keep lL_128 rfl rfl rfl rfl rfl (Nat.le_of_ble_eq_true rfl) (Nat.le_of_ble_eq_true rfl) (ok_X12_keep (d + 54) _ _ _ _ hc_990) ?_
                                                              refine GoL.icmpeq (tgt := 1267) dL_law_993 (by decide) (fun h_993 => ?_) (fun h_993 => ?_)
                                                              · have hF := ite_t h_993 hF
                                                                refine GoL.iincS (ls' := [(3, _), (0, _), (1, _), (2, _)]) dL_law_1267 rfl (by decide) rfl ?_
                                                                refine GoL.goto (tgt := 18) dL_law_1270 (by decide) ?_
                                                                refine GoL.pick (ls' := [(0, _), (1, _), (2, _), (3, _)]) [1, 2, 3, 0] rfl ?_
                                                                exact hk18 _ _ _ hF
                                                              · have hF := ite_f h_993 hF
                                                                refine GoL.iconst (v := 0) dL_law_996 (by decide) ?_
                                                                obtain rfl := Option.some.inj hF
                                                                exact GoL.iret (st := []) dL_law_997 rfl rfl ⟨rfl, rfl⟩
                                                            · have hF := ite_f hs_33_27 hF
                                                              by_cases hs_33_28 : ((xs (Int32.toNatClampNeg x3)) &&& 63) = 28
                                                              · have hF := ite_t hs_33_28 hF
                                                                refine GoL.swT (tgt := 998) dL_law_33 (by first | (rw [hs_33_28]; done) | (rw [hs_33_28]; rfl) | (rw [hs_33_28]; decide)) (by decide) (by decide) ?_
                                                                refine GoL.aload_n dL_law_998 rfl ?_
                                                                refine GoL.aload_n dL_law_999 rfl ?_
                                                                refine GoL.iload_n dL_law_1000 rfl ?_
                                                                refine GoL.iconst (v := 1) dL_law_1001 (by decide) ?_
                                                                refine GoL.iadd dL_law_1002 ?_
                                                                obtain ⟨hb_1003, hF⟩ := gd_some hF
                                                                refine GoL.sld dL_law_1003 (inb_ok hb_1003) ?_
                                                                refine GoL.aload_n dL_law_1004 rfl ?_
                                                                refine GoL.iload_n dL_law_1005 rfl ?_
                                                                refine GoL.iconst (v := 2) dL_law_1006 (by decide) ?_
                                                                refine GoL.iadd dL_law_1007 ?_
                                                                obtain ⟨hb_1008, hF⟩ := gd_some hF
                                                                refine GoL.sld dL_law_1008 (inb_ok hb_1008) ?_
                                                                refine GoL.aload_n dL_law_1009 rfl ?_
                                                                refine GoL.iload_n dL_law_1010 rfl ?_
                                                                refine GoL.iconst (v := 3) dL_law_1011 (by decide) ?_
                                                                refine GoL.iadd dL_law_1012 ?_
                                                                obtain ⟨hb_1013, hF⟩ := gd_some hF
                                                                refine GoL.sld dL_law_1013 (inb_ok hb_1013) ?_
                                                                obtain ⟨r_1014, hc_1014, hF⟩ := Option.bind_eq_some_iff.mp hF
                                                                refine GoL.callV [_, _, _] dL_law_1014 kX11_row vX11_row lL_129 rfl rfl rfl rfl rfl (Nat.le_of_ble_eq_true rfl) (Nat.le_of_ble_eq_true rfl) (ok_X11_row (d + 54) N _ _ _ _ _ hc_1014) ?_
                                                                refine GoL.aload_n dL_law_1017 rfl ?_
                                                                refine GoL.aload_n dL_law_1018 rfl ?_
                                                                refine GoL.iload_n dL_law_1019 rfl ?_
                                                                refine GoL.iconst (v := 1) dL_law_1020 (by decide) ?_
                                                                refine GoL.iadd dL_law_1021 ?_
                                                                obtain ⟨hb_1022, hF⟩ := gd_some hF
                                                                refine GoL.sld dL_law_1022 (inb_ok hb_1022) ?_
                                                                refine GoL.aload_n dL_law_1023 rfl ?_
                                                                refine GoL.iload_n dL_law_1024 rfl ?_
                                                                refine GoL.iconst (v := 2) dL_law_1025 (by decide) ?_
                                                                refine GoL.iadd dL_law_1026 ?_
                                                                obtain ⟨hb_1027, hF⟩ := gd_some hF
                                                                refine GoL.sld dL_law_1027 (inb_ok hb_1027) ?_
                                                                refine GoL.aload_n dL_law_1028 rfl ?_
                                                                refine GoL.iload_n dL_law_1029 rfl ?_
                                                                refine GoL.iconst (v := 3) dL_law_1030 (by decide) ?_
                                                                refine GoL.iadd dL_law_1031 ?_
                                                                obtain ⟨hb_1032, hF⟩ := gd_some hF
                                                                refine GoL.sld dL_law_1032 (inb_ok hb_1032) ?_
                                                                obtain ⟨r_1033, hc_1033, hF⟩ := Option.bind_eq_some_iff.mp hF
                                                                refine GoL.callV [_, _, _] dL_law_1033 kX12_row vX12_row lL_132 rfl rfl rfl rfl rfl (Nat.le_of_ble_eq_true rfl) (Nat.le_of_ble_eq_true rfl) (ok_X12_row (d + 54) N _ _ _ _ _ hc_1033) ?_
                                                                refine GoL.icmpeq (tgt := 1267) dL_law_1036 (by decide) (fun h_1036 => ?_) (fun h_1036 => ?_)
                                                                · have hF := ite_t h_1036 hF
                                                                  refine GoL.iincS (ls' := [(3, _), (0, _), (1, _), (2, _)]) dL_law_1267 rfl (by decide) rfl ?_
                                                                  refine GoL.goto (tgt := 18) dL_law_1270 (by decide) ?_
                                                                  refine GoL.pick (ls' := [(0, _), (1, _), (2, _), (3, _)]) [1, 2, 3, 0] rfl ?_
                                                                  exact hk18 _ _ _ hF
                                                                · have hF := ite_f h_1036 hF
                                                                  refine GoL.iconst (v := 0) dL_law_1039 (by decide) ?_
                                                                  obtain rfl := Option.some.inj hF
                                                                  exact GoL.iret (st := []) dL_law_1040 rfl rfl ⟨rfl, rfl⟩
                                                              · have hF := ite_f hs_33_28 hF
                                                                by_cases hs_33_29 : ((xs (Int32.toNatClampNeg x3)) &&& 63) = 29
                                                                · have hF := ite_t hs_33_29 hF
                                                                  refine GoL.swT (tgt := 1041) dL_law_33 (by first | (rw [hs_33_29]; done) | (rw [hs_33_29]; rfl) | (rw [hs_33_29]; decide)) (by decide) (by decide) ?_
                                                                  refine GoL.aload_n dL_law_1041 rfl ?_
                                                                  refine GoL.aload_n dL_law_1042 rfl ?_
                                                                  refine GoL.iload_n dL_law_1043 rfl ?_
                                                                  refine GoL.iconst (v := 1) dL_law_1044 (by decide) ?_
                                                                  refine GoL.iadd dL_law_1045 ?_
                                                                  obtain ⟨hb_1046, hF⟩ := gd_some hF
                                                                  refine GoL.sld dL_law_1046 (inb_ok hb_1046) ?_
                                                                  refine GoL.aload_n dL_law_1047 rfl ?_
                                                                  refine GoL.iload_n dL_law_1048 rfl ?_
                                                                  refine GoL.iconst (v := 2) dL_law_1049 (by decide) ?_
                                                                  refine GoL.iadd dL_law_1050 ?_
                                                                  obtain ⟨hb_1051, hF⟩ := gd_some hF
                                                                  refine GoL.sld dL_law_1051 (inb_ok hb_1051) ?_
                                                                  refine GoL.aload_n dL_law_1052 rfl ?_
                                                                  refine GoL.iload_n dL_law_1053 rfl ?_
                                                                  refine GoL.iconst (v := 3) dL_law_1054 (by decide) ?_
                                                                  refine GoL.iadd dL_law_1055 ?_
                                                                  obtain ⟨hb_1056, hF⟩ := gd_some hF
                                                                  refine GoL.sld dL_law_1056 (inb_ok hb_1056) ?_
                                                                  refine GoL.i2l dL_law_1057 rfl ?_
                                                                  refine GoL.bipush (v := 32) dL_law_1058 (by decide) ?_
                                                                  refine GoL.lshl dL_law_1060 rfl ?_
                                                                  refine GoL.aload_n dL_law_1061 rfl ?_
                                                                  refine GoL.iload_n dL_law_1062 rfl ?_
                                                                  refine GoL.iconst (v := 4) dL_law_1063 (by decide) ?_
                                                                  refine GoL.iadd dL_law_1064 ?_
                                                                  obtain ⟨hb_1065, hF⟩ := gd_some hF
                                                                  refine GoL.sld dL_law_1065 (inb_ok hb_1065) ?_
                                                                  refine GoL.i2l dL_law_1066 rfl ?_
                                                                  refine GoL.ldc2_w dL_law_1067 qL_133 ?_
                                                                  refine GoL.land dL_law_1070 ?_
                                                                  refine GoL.lor dL_law_1071 ?_
                                                                  obtain ⟨r_1072, hc_1072, hF⟩ := Option.bind_eq_some_iff.mp hF
                                                                  refine GoL.callV [_, _, _] dL_law_1072 kX11_put vX11_put lL_135 rfl rfl rfl rfl rfl (Nat.le_of_ble_eq_true rfl) (Nat.le_of_ble_eq_true rfl) (ok_X11_put (d + 54) _ _ _ _ _ hc_1072) ?_
                                                                  refine GoL.aload_n dL_law_1075 rfl ?_
                                                                  refine GoL.aload_n dL_law_1076 rfl ?_
                                                                  refine GoL.iload_n dL_law_1077 rfl ?_
                                                                  refine GoL.iconst (v := 1) dL_law_1078 (by decide) ?_
                                                                  refine GoL.iadd dL_law_1079 ?_
                                                                  obtain ⟨hb_1080, hF⟩ := gd_some hF
                                                                  refine GoL.sld dL_law_1080 (inb_ok hb_1080) ?_
                                                                  refine GoL.aload_n dL_law_1081 rfl ?_
                                                                  refine GoL.iload_n dL_law_1082 rfl ?_
                                                                  refine GoL.iconst (v := 2) dL_law_1083 (by decide) ?_
                                                                  refine GoL.iadd dL_law_1084 ?_
                                                                  obtain ⟨hb_1085, hF⟩ := gd_some hF
                                                                  refine GoL.sld dL_law_1085 (inb_ok hb_1085) ?_
                                                                  refine GoL.aload_n dL_law_1086 rfl ?_
                                                                  refine GoL.iload_n dL_law_1087 rfl ?_
                                                                  refine GoL.iconst (v := 3) dL_law_1088 (by decide) ?_
                                                                  refine GoL.iadd dL_law_1089 ?_
                                                                  obtain ⟨hb_1090, hF⟩ := gd_some hF
                                                                  refine GoL.sld dL_law_1090 (inb_ok hb_1090) ?_
                                                                  refine GoL.i2l dL_law_1091 rfl ?_
                                                                  refine GoL.bipush (v := 32) dL_law_1092 (by decide) ?_
                                                                  refine GoL.lshl dL_law_1094 rfl ?_
                                                                  refine GoL.aload_n dL_law_1095 rfl ?_
                                                                  refine GoL.iload_n dL_law_1096 rfl ?_
                                                                  refine GoL.iconst (v := 4) dL_law_1097 (by decide) ?_
                                                                  refine GoL.iadd dL_law_1098 ?_
                                                                  obtain ⟨hb_1099, hF⟩ := gd_some hF
                                                                  refine GoL.sld dL_law_1099 (inb_ok hb_1099) ?_
                                                                  refine GoL.i2l dL_law_1100 rfl ?_
                                                                  refine GoL.ldc2_w dL_law_1101 qL_133 ?_
                                                                  refine GoL.land dL_law_1104 ?_
                                                                  refine GoL.lor dL_law_1105 ?_
                                                                  obtain ⟨r_1106, hc_1106, hF⟩ := Option.bind_eq_some_iff.mp hF
                                                                  refine GoL.callV [_, _, _] dL_law_1106 kX12_put vX12_put lL_139 rfl rfl rfl rfl rfl (Nat.le_of_ble_eq_true rfl) (Nat.le_of_ble_eq_true rfl) (ok_X12_put (d + 53) _ _ _ _ _ hc_1106) ?_
                                                                  refine GoL.icmpeq (tgt := 1267) dL_law_1109 (by decide) (fun h_1109 => ?_) (fun h_1109 => ?_)
                                                                  · have hF := ite_t h_1109 hF
                                                                    refine GoL.iincS (ls' := [(3, _), (0, _), (1, _), (2, _)]) dL_law_1267 rfl (by decide) rfl ?_
                                                                    refine GoL.goto (tgt := 18) dL_law_1270 (by decide) ?_
                                                                    refine GoL.pick (ls' := [(0, _), (1, _), (2, _), (3, _)]) [1, 2, 3, 0] rfl ?_
                                                                    exact hk18 _ _ _ hF
                                                                  · have hF := ite_f h_1109 hF
                                                                    refine GoL.iconst (v := 0) dL_law_1112 (by decide) ?_
                                                                    obtain rfl := Option.some.inj hF
                                                                    exact GoL.iret (st := []) dL_law_1113 rfl rfl ⟨rfl, rfl⟩
                                                                · have hF := ite_f hs_33_29 hF
                                                                  by_cases hs_33_30 : ((xs (Int32.toNatClampNeg x3)) &&& 63) = 30
                                                                  · have hF := ite_t hs_33_30 hF
                                                                    refine GoL.swT (tgt := 1114) dL_law_33 (by first | (rw [hs_33_30]; done) | (rw [hs_33_30]; rfl) | (rw [hs_33_30]; decide)) (by decide) (by decide) ?_
                                                                    refine GoL.aload_n dL_law_1114 rfl ?_
                                                                    refine GoL.aload_n dL_law_1115 rfl ?_
                                                                    refine GoL.iload_n dL_law_1116 rfl ?_
                                                                    refine GoL.iconst (v := 1) dL_law_1117 (by decide) ?_
                                                                    refine GoL.iadd dL_law_1118 ?_
                                                                    obtain ⟨hb_1119, hF⟩ := gd_some hF
                                                                    refine GoL.sld dL_law_1119 (inb_ok hb_1119) ?_
                                                                    refine GoL.aload_n dL_law_1120 rfl ?_
                                                                    refine GoL.iload_n dL_law_1121 rfl ?_
                                                                    refine GoL.iconst (v := 2) dL_law_1122 (by decide) ?_
                                                                    refine GoL.iadd dL_law_1123 ?_
                                                                    obtain ⟨hb_1124, hF⟩ := gd_some hF
                                                                    refine GoL.sld dL_law_1124 (inb_ok hb_1124) ?_
                                                                    obtain ⟨r_1125, hc_1125, hF⟩ := Option.bind_eq_some_iff.mp hF
                                                                    refine GoL.callV [_, _] dL_law_1125 kX11_element vX11_element lL_140 rfl rfl rfl rfl rfl (Nat.le_of_ble_eq_true rfl) (Nat.le_of_ble_eq_true rfl) (ok_X11_element (d + 54) _ _ _ _ hc_1125) ?_
                                                                    refine GoL.aload_n dL_law_1128 rfl ?_
                                                                    refine GoL.aload_n dL_law_1129 rfl ?_
                                                                    refine GoL.iload_n dL_law_1130 rfl ?_
                                                                    refine GoL.iconst (v := 1) dL_law_1131 (by decide) ?_
                                                                    refine GoL.iadd dL_law_1132 ?_
                                                                    obtain ⟨hb_1133, hF⟩ := gd_some hF
                                                                    refine GoL.sld dL_law_1133 (inb_ok hb_1133) ?_
                                                                    refine GoL.aload_n dL_law_1134 rfl ?_
                                                                    refine GoL.iload_n dL_law_1135 rfl ?_
                                                                    refine GoL.iconst (v := 2) dL_law_1136 (by decide) ?_
                                                                    refine GoL.iadd dL_law_1137 ?_
                                                                    obtain ⟨hb_1138, hF⟩ := gd_some hF
                                                                    refine GoL.sld dL_law_1138 (inb_ok hb_1138) ?_
                                                                    obtain ⟨r_1139, hc_1139, hF⟩ := Option.bind_eq_some_iff.mp hF
                                                                    refine GoL.callV [_, _] dL_law_1139 kX12_element vX12_element lL_144 rfl rfl rfl rfl rfl (Nat.le_of_ble_eq_true rfl) (Nat.le_of_ble_eq_true rfl) (ok_X12_element (d + 53) _ _ _ _ hc_1139) ?_
                                                                    refine GoL.lcmp dL_law_1142 ?_
                                                                    refine GoL.ifeq (tgt := 1267) dL_law_1143 (by decide) (fun h_1143 => ?_) (fun h_1143 => ?_)
                                                                    · have hF := ite_t h_1143 hF
                                                                      refine GoL.iincS (ls' := [(3, _), (0, _), (1, _), (2, _)]) dL_law_1267 rfl (by decide) rfl ?_
                                                                      refine GoL.goto (tgt := 18) dL_law_1270 (by decide) ?_
                                                                      refine GoL.pick (ls' := [(0, _), (1, _), (2, _), (3, _)]) [1, 2, 3, 0] rfl ?_
                                                                      exact hk18 _ _ _ hF
                                                                    · have hF := ite_f h_1143 hF
                                                                      refine GoL.iconst (v := 0) dL_law_1146 (by decide) ?_
                                                                      obtain rfl := Option.some.inj hF
                                                                      exact GoL.iret (st := []) dL_law_1147 rfl rfl ⟨rfl, rfl⟩
                                                                  · have hF := ite_f hs_33_30 hF
                                                                    by_cases hs_33_31 : ((xs (Int32.toNatClampNeg x3)) &&& 63) = 31
                                                                    · have hF := ite_t hs_33_31 hF
                                                                      refine GoL.swT (tgt := 1148) dL_law_33 (by first | (rw [hs_33_31]; done) | (rw [hs_33_31]; rfl) | (rw [hs_33_31]; decide)) (by decide) (by decide) ?_
                                                                      refine GoL.aload_n dL_law_1148 rfl ?_
                                                                      refine GoL.aload_n dL_law_1149 rfl ?_
                                                                      refine GoL.iload_n dL_law_1150 rfl ?_
                                                                      refine GoL.iconst (v := 1) dL_law_1151 (by decide) ?_
                                                                      refine GoL.iadd dL_law_1152 ?_
                                                                      obtain ⟨hb_1153, hF⟩ := gd_some hF
                                                                      refine GoL.sld dL_law_1153 (inb_ok hb_1153) ?_
                                                                      refine GoL.aload_n dL_law_1154 rfl ?_
                                                                      refine GoL.iload_n dL_law_1155 rfl ?_
                                                                      refine GoL.iconst (v := 2) dL_law_1156 (by decide) ?_
                                                                      refine GoL.iadd dL_law_1157 ?_
                                                                      obtain ⟨hb_1158, hF⟩ := gd_some hF
                                                                      refine GoL.sld dL_law_1158 (inb_ok hb_1158) ?_
                                                                      refine GoL.aload_n dL_law_1159 rfl ?_
                                                                      refine GoL.iload_n dL_law_1160 rfl ?_
                                                                      refine GoL.iconst (v := 3) dL_law_1161 (by decide) ?_
                                                                      refine GoL.iadd dL_law_1162 ?_
                                                                      obtain ⟨hb_1163, hF⟩ := gd_some hF
                                                                      refine GoL.sld dL_law_1163 (inb_ok hb_1163) ?_
                                                                      refine GoL.aload_n dL_law_1164 rfl ?_
                                                                      refine GoL.iload_n dL_law_1165 rfl ?_
                                                                      refine GoL.iconst (v := 4) dL_law_1166 (by decide) ?_
                                                                      refine GoL.iadd dL_law_1167 ?_
                                                                      obtain ⟨hb_1168, hF⟩ := gd_some hF
                                                                      refine GoL.sld dL_law_1168 (inb_ok hb_1168) ?_
                                                                      refine GoL.aload_n dL_law_1169 rfl ?_
                                                                      refine GoL.iload_n dL_law_1170 rfl ?_
                                                                      refine GoL.iconst (v := 5) dL_law_1171 (by decide) ?_
                                                                      refine GoL.iadd dL_law_1172 ?_
                                                                      obtain ⟨hb_1173, hF⟩ := gd_some hF
                                                                      refine GoL.sld dL_law_1173 (inb_ok hb_1173) ?_
                                                                      obtain ⟨r_1174, hc_1174, hF⟩ := Option.bind_eq_some_iff.mp hF
                                                                      refine GoL.callV [_, _, _, _, _] dL_law_1174 kX11_shift vX11_shift lL_145 rfl rfl rfl rfl rfl (Nat.le_of_ble_eq_true rfl) (Nat.le_of_ble_eq_true rfl) (ok_X11_shift (d + 55) _ _ _ _ _ _ _ hc_1174) ?_
                                                                      refine GoL.aload_n dL_law_1177 rfl ?_
                                                                      refine GoL.aload_n dL_law_1178 rfl ?_
                                                                      refine GoL.iload_n dL_law_1179 rfl ?_
                                                                      refine GoL.iconst (v := 1) dL_law_1180 (by decide) ?_
                                                                      refine GoL.iadd dL_law_1181 ?_
                                                                      obtain ⟨hb_1182, hF⟩ := gd_some hF
                                                                      refine GoL.sld dL_law_1182 (inb_ok hb_1182) ?_
                                                                      refine GoL.aload_n dL_law_1183 rfl ?_
                                                                      refine GoL.iload_n dL_law_1184 rfl ?_
                                                                      refine GoL.iconst (v := 2) dL_law_1185 (by decide) ?_
                                                                      refine GoL.iadd dL_law_1186 ?_
                                                                      obtain ⟨hb_1187, hF⟩ := gd_some hF
                                                                      refine GoL.sld dL_law_1187 (inb_ok hb_1187) ?_
                                                                      refine GoL.aload_n dL_law_1188 rfl ?_
                                                                      refine GoL.iload_n dL_law_1189 rfl ?_
                                                                      refine GoL.iconst (v := 3) dL_law_1190 (by decide) ?_
                                                                      refine GoL.iadd dL_law_1191 ?_
                                                                      obtain ⟨hb_1192, hF⟩ := gd_some hF
                                                                      refine GoL.sld dL_law_1192 (inb_ok hb_1192) ?_
                                                                      refine GoL.aload_n dL_law_1193 rfl ?_
                                                                      refine GoL.iload_n dL_law_1194 rfl ?_
                                                                      refine GoL.iconst (v := 4) dL_law_1195 (by decide) ?_
                                                                      refine GoL.iadd dL_law_1196 ?_
                                                                      obtain ⟨hb_1197, hF⟩ := gd_some hF
                                                                      refine GoL.sld dL_law_1197 (inb_ok hb_1197) ?_
                                                                      refine GoL.aload_n dL_law_1198 rfl ?_
                                                                      refine GoL.iload_n dL_law_1199 rfl ?_
                                                                      refine GoL.iconst (v := 5) dL_law_1200 (by decide) ?_
                                                                      refine GoL.iadd dL_law_1201 ?_
                                                                      obtain ⟨hb_1202, hF⟩ := gd_some hF
                                                                      refine GoL.sld dL_law_1202 (inb_ok hb_1202) ?_
                                                                      obtain ⟨r_1203, hc_1203, hF⟩ := Option.bind_eq_some_iff.mp hF
                                                                      refine GoL.callV [_, _, _, _, _] dL_law_1203 kX12_shift vX12_shift lL_149 rfl rfl rfl rfl rfl (Nat.le_of_ble_eq_true rfl) (Nat.le_of_ble_eq_true rfl) (ok_X12_shift (d + 54) N _ _ _ _ _ _ _ hc_1203) ?_
                                                                      refine GoL.icmpeq (tgt := 1267) dL_law_1206 (by decide) (fun h_1206 => ?_) (fun h_1206 => ?_)
                                                                      · have hF := ite_t h_1206 hF
                                                                        refine GoL.iincS (ls' := [(3, _), (0, _), (1, _), (2, _)]) dL_law_1267 rfl (by decide) rfl ?_
                                                                        refine GoL.goto (tgt := 18) dL_law_1270 (by decide) ?_
                                                                        refine GoL.pick (ls' := [(0, _), (1, _), (2, _), (3, _)]) [1, 2, 3, 0] rfl ?_
                                                                        exact hk18 _ _ _ hF
                                                                      · have hF := ite_f h_1206 hF
                                                                        refine GoL.iconst (v := 0) dL_law_1209 (by decide) ?_
                                                                        obtain rfl := Option.some.inj hF
                                                                        exact GoL.iret (st := []) dL_law_1210 rfl rfl ⟨rfl, rfl⟩
                                                                    · have hF := ite_f hs_33_31 hF
                                                                      by_cases hs_33_32 : ((xs (Int32.toNatClampNeg x3)) &&& 63) = 32
                                                                      · have hF := ite_t hs_33_32 hF
                                                                        refine GoL.swT (tgt := 1211) dL_law_33 (by first | (rw [hs_33_32]; done) | (rw [hs_33_32]; rfl) | (rw [hs_33_32]; decide)) (by decide) (by decide) ?_
                                                                        refine GoL.aload_n dL_law_1211 rfl ?_
                                                                        refine GoL.aload_n dL_law_1212 rfl ?_
                                                                        refine GoL.iload_n dL_law_1213 rfl ?_
                                                                        refine GoL.iconst (v := 1) dL_law_1214 (by decide) ?_
                                                                        refine GoL.iadd dL_law_1215 ?_
                                                                        obtain ⟨hb_1216, hF⟩ := gd_some hF
                                                                        refine GoL.sld dL_law_1216 (inb_ok hb_1216) ?_
                                                                        refine GoL.aload_n dL_law_1217 rfl ?_
                                                                        refine GoL.iload_n dL_law_1218 rfl ?_
                                                                        refine GoL.iconst (v := 2) dL_law_1219 (by decide) ?_
                                                                        refine GoL.iadd dL_law_1220 ?_
                                                                        obtain ⟨hb_1221, hF⟩ := gd_some hF
                                                                        refine GoL.sld dL_law_1221 (inb_ok hb_1221) ?_
                                                                        obtain ⟨r_1222, hc_1222, hF⟩ := Option.bind_eq_some_iff.mp hF
                                                                        refine GoL.callV [_, _] dL_law_1222 kX11_taken vX11_taken lL_150 rfl rfl rfl rfl rfl (Nat.le_of_ble_eq_true rfl) (Nat.le_of_ble_eq_true rfl) (ok_X11_taken (d + 55) N _ _ _ _ hc_1222) ?_
                                                                        refine GoL.aload_n dL_law_1225 rfl ?_
                                                                        refine GoL.aload_n dL_law_1226 rfl ?_
                                                                        refine GoL.iload_n dL_law_1227 rfl ?_
                                                                        refine GoL.iconst (v := 1) dL_law_1228 (by decide) ?_
                                                                        refine GoL.iadd dL_law_1229 ?_
                                                                        obtain ⟨hb_1230, hF⟩ := gd_some hF
                                                                        refine GoL.sld dL_law_1230 (inb_ok hb_1230) ?_
                                                                        refine GoL.aload_n dL_law_1231 rfl ?_
                                                                        refine GoL.iload_n dL_law_1232 rfl ?_
                                                                        refine GoL.iconst (v := 2) dL_law_1233 (by decide) ?_
                                                                        refine GoL.iadd dL_law_1234 ?_
                                                                        obtain ⟨hb_1235, hF⟩ := gd_some hF
                                                                        refine GoL.sld dL_law_1235 (inb_ok hb_1235) ?_
                                                                        obtain ⟨r_1236, hc_1236, hF⟩ := Option.bind_eq_some_iff.mp hF
                                                                        refine GoL.callV [_, _] dL_law_1236 kX12_taken vX12_taken lL_153 rfl rfl rfl rfl rfl (Nat.le_of_ble_eq_true rfl) (Nat.le_of_ble_eq_true rfl) (ok_X12_taken (d + 54) _ _ _ _ hc_1236) ?_
                                                                        refine GoL.icmpeq (tgt := 1267) dL_law_1239 (by decide) (fun h_1239 => ?_) (fun h_1239 => ?_)
                                                                        · have hF := ite_t h_1239 hF
                                                                          refine GoL.iincS (ls' := [(3, _), (0, _), (1, _), (2, _)]) dL_law_1267 rfl (by decide) rfl ?_
                                                                          refine GoL.goto (tgt := 18) dL_law_1270 (by decide) ?_
                                                                          refine GoL.pick (ls' := [(0, _), (1, _), (2, _), (3, _)]) [1, 2, 3, 0] rfl ?_
                                                                          exact hk18 _ _ _ hF
                                                                        · have hF := ite_f h_1239 hF
                                                                          refine GoL.iconst (v := 0) dL_law_1242 (by decide) ?_
                                                                          obtain rfl := Option.some.inj hF
                                                                          exact GoL.iret (st := []) dL_law_1243 rfl rfl ⟨rfl, rfl⟩
                                                                      · have hF := ite_f hs_33_32 hF
                                                                        by_cases hs_33_33 : ((xs (Int32.toNatClampNeg x3)) &&& 63) = 33
                                                                        · have hF := ite_t hs_33_33 hF
                                                                          refine GoL.swT (tgt := 1244) dL_law_33 (by first | (rw [hs_33_33]; done) | (rw [hs_33_33]; rfl) | (rw [hs_33_33]; decide)) (by decide) (by decide) ?_
                                                                          refine GoL.aload_n dL_law_1244 rfl ?_
                                                                          refine GoL.aload_n dL_law_1245 rfl ?_
                                                                          refine GoL.iload_n dL_law_1246 rfl ?_
                                                                          refine GoL.iconst (v := 1) dL_law_1247 (by decide) ?_
                                                                          refine GoL.iadd dL_law_1248 ?_
                                                                          obtain ⟨hb_1249, hF⟩ := gd_some hF
                                                                          refine GoL.sld dL_law_1249 (inb_ok hb_1249) ?_
                                                                          obtain ⟨r_1250, hc_1250, hF⟩ := Option.bind_eq_some_iff.mp hF
                                                                          refine GoL.callV [_] dL_law_1250 kX11_count vX11_count lL_154 rfl rfl rfl rfl rfl (Nat.le_of_ble_eq_true rfl) (Nat.le_of_ble_eq_true rfl) (ok_X11_count (d + 56) _ _ _ hc_1250) ?_
                                                                          refine GoL.aload_n dL_law_1253 rfl ?_
                                                                          refine GoL.aload_n dL_law_1254 rfl ?_
                                                                          refine GoL.iload_n dL_law_1255 rfl ?_
                                                                          refine GoL.iconst (v := 1) dL_law_1256 (by decide) ?_
                                                                          refine GoL.iadd dL_law_1257 ?_
                                                                          obtain ⟨hb_1258, hF⟩ := gd_some hF
                                                                          refine GoL.sld dL_law_1258 (inb_ok hb_1258) ?_
                                                                          obtain ⟨r_1259, hc_1259, hF⟩ := Option.bind_eq_some_iff.mp hF
                                                                          refine GoL.callV [_] dL_law_1259 kX12_count vX12_count lL_157 rfl rfl rfl rfl rfl (Nat.le_of_ble_eq_true rfl) (Nat.le_of_ble_eq_true rfl) (ok_X12_count (d + 56) _ _ _ hc_1259) ?_
                                                                          refine GoL.icmpeq (tgt := 1267) dL_law_1262 (by decide) (fun h_1262 => ?_) (fun h_1262 => ?_)
                                                                          · have hF := ite_t h_1262 hF
                                                                            refine GoL.iincS (ls' := [(3, _), (0, _), (1, _), (2, _)]) dL_law_1267 rfl (by decide) rfl ?_
                                                                            refine GoL.goto (tgt := 18) dL_law_1270 (by decide) ?_
                                                                            refine GoL.pick (ls' := [(0, _), (1, _), (2, _), (3, _)]) [1, 2, 3, 0] rfl ?_
                                                                            exact hk18 _ _ _ hF
                                                                          · have hF := ite_f h_1262 hF
                                                                            refine GoL.iconst (v := 0) dL_law_1265 (by decide) ?_
                                                                            obtain rfl := Option.some.inj hF
                                                                            exact GoL.iret (st := []) dL_law_1266 rfl rfl ⟨rfl, rfl⟩
                                                                        · have hF := ite_f hs_33_33 hF
                                                                          refine GoL.swT (tgt := 1267) dL_law_33 (sw_L_law_33 _ hs_33_0 hs_33_1 hs_33_2 hs_33_3 hs_33_4 hs_33_5 hs_33_6 hs_33_7 hs_33_8 hs_33_9 hs_33_10 hs_33_11 hs_33_12 hs_33_13 hs_33_14 hs_33_15 hs_33_16 hs_33_17 hs_33_18 hs_33_19 hs_33_20 hs_33_21 hs_33_22 hs_33_23 hs_33_24 hs_33_25 hs_33_26 hs_33_27 hs_33_28 hs_33_29 hs_33_30 hs_33_31 hs_33_32 hs_33_33) (by decide) (by decide) ?_
                                                                          refine GoL.iincS (ls' := [(3, _), (0, _), (1, _), (2, _)]) dL_law_1267 rfl (by decide) rfl ?_
                                                                          refine GoL.goto (tgt := 18) dL_law_1270 (by decide) ?_
                                                                          refine GoL.pick (ls' := [(0, _), (1, _), (2, _), (3, _)]) [1, 2, 3, 0] rfl ?_
                                                                          exact hk18 _ _ _ hF
