theorem clK_cell {g : GX} {S : St} {k ci : Nat} (h : clK k = some ci) : ∃ fs : List Value, cellE g S k = .inr (ci, fs) := by
  unfold clK at h
  cases hs : shp k with
  | inr a => rw [hs] at h; cases h
  | inl o =>
    rw [hs] at h
    cases h
    exact ⟨_, by unfold cellE; rw [hs]⟩
theorem lg_len0 (g : GX) : ∀ as : List Value, (lg_sl (as.map (tr g))).length = (lg_sl as).length
  | [] => rfl
  | v :: vs => by
    have ih := lg_len0 g vs
    cases v <;> simp_all [lg_sl, tr, Value.category]
theorem lg_len (g : GX) {k : Nat} {as : List Value} : (lg_sl ((.ref k :: as).map (tr g))).length = (lg_sl (.ref 0 :: as)).length := by
  rw [lg_len0]
  simp [lg_sl, Value.category]
theorem gTs_good : ∀ w ∈ gTs, goodWord w = true := fun w h => (List.mem_filter.mp h).2
theorem good_gTs {ws : List Cond} (h : ∀ w ∈ ws, w ∈ gTs) : GoodIn gTs ws := fun w hw => ⟨h w hw, good_of_word (gTs_good w (h w hw))⟩
theorem wsM_in {mi : MI} {n : Nat} (hM : MK mi n) : ∀ w ∈ wsM mi, w ∈ gTs := by
  intro w hw
  rcases List.mem_cons.mp hw with rfl | h
  · exact hM.1.1
  · exact h
theorem PcG_blind (g : GX) (as : List Value) (S : St) : FrameBlind (PcG g as S) := by
  intro a U fr mk q
  obtain ⟨q0, qP, qK, qD, qS, qb⟩ := q
  exact ⟨q0, qP, va_K.moved (u := U) (U := U.calling fr mk a) (Vm.Alike.refl U.vm) qK, qD, qS.calling rfl, qb⟩
theorem PcG_at {g : GX} {as : List Value} {S : St} {s : State} {H : Heap} {locs : List Loc} (hK : va_K (g_D g) vwCl (gtys g) s) (hSt : Stat g s s.heap) (hb : g_base g ≤ s.heap.size) (hP : va_P (g_D g) vwCl (Wd g S) H) (hD : va_D (gA g) (Wd g S)) (hS : va_S (gA g) s.heap H locs) :
    ∀ U : State, U.heap = H → s.WarmedH U.vm → PcG g as S (as.map (tr g)).toArray U := by
  intro U hU hW
  refine ⟨rfl, by rw [hU]; exact hP, va_K.moved hW.alike hK, hD, ?_, by rw [hU]; exact Nat.le_trans hb hS.1⟩
  rw [hU]
  exact hSt.next hW hS.2.1
section GC
variable {p : Program} {l : Launch} {e : Env} {R : Room} {s : State} {m : MethodId} {args : Array Value} {below : List Frame} {meth : Method} {c : Code} {H : Heap} {locs : List Loc} {cells slots : Nat} {Q : State → Prop}
theorem go_call {pc : Nat} {lsA : Array Slot} {rest st0 : List Value} {a : Array Value} {g : GX} {K' : Option Value → St → Prop} (hr : va_Run p l e R s m args below meth c H locs cells slots 0 0 (F0 m pc lsA st0) rest (QcG g K' a) (gA g)) (hS : va_S (gA g) s.heap H locs)
    (kk : ∀ (v : Option Value) (S' : St) (H1 : Heap) (locs1 : List Loc), K' v S' → va_P (g_D g) vwCl (Wd g S') H1 → va_S (gA g) s.heap H1 locs1 → W p l e R s m args below meth c H1 locs1 cells slots Q (F0 m (pc + 3) lsA ((v.map (tr g)).toList ++ rest))) : W p l e R s m args below meth c H locs cells slots Q (F0 m pc lsA st0) := by
  intro T hT X
  obtain ⟨v, st₀, t, T', L, h0, X', hL, e1, e2, ⟨w, S', hv, hk, hP1, hz, hq⟩, st⟩ := hr T hT X
  cases hv
  rw [h0] at hz hq
  obtain ⟨t2, a1, b1⟩ := kk w S' T'.heap (locs ++ L) hk (by rw [e1]; exact hP1)
    ⟨Nat.le_trans hS.1 (by rw [e1]; exact hz), fun q h1 h2 => by rw [e1, hq q (Nat.lt_of_lt_of_le h1 hS.1) h2]; exact hS.2.1 q h1 h2, fun q hq' => by
      rcases List.mem_append.mp hq' with h | h
      · exact hS.2.2 q h
      · exact hL q h⟩ T' rfl X'
  exact ⟨t2, st t2 a1, b1⟩
end GC
/-- an answer and a state: what a contract promises -/
def Res (r : Option Value) (S1 : St) : Option Value → St → Prop := fun v S' => v = r ∧ S' = S1
def MV (mi : MI) : Prop := Cond.instanceMethod mi.2.1 ∈ gTs ∧ Cond.selects mi.2.1.cls mi.2.1 mi.2.1 ∈ gTs
theorem room_call {R : Room} {d k : Nat} (h : d + 1 ≤ R.frames ∧ 40 * (d + 1) ≤ R.locals) (hk : k ≤ 20) : (rmD d).frames + 1 ≤ R.frames ∧ 8 + (k + 11) + (rmD d).locals ≤ R.locals := by
  refine ⟨h.1, ?_⟩
  show 8 + (k + 11) + 40 * d ≤ R.locals
  omega
theorem cat_map (g : GX) (st : List Value) : ((st.map (tr g)).map fun v => v.category).sum = (st.map fun v => v.category).sum := by
  rw [List.map_map]
  congr 1
  apply List.map_congr_left
  intro v _
  exact tr_cat g v
set_option maxHeartbeats 1000000 in
/-- a call of an instance method whose world is the whole -/
theorem Go.callVK {l : Launch} {d : Nat} {mi mi' : MI} {K K' : Option Value → St → Prop} {pc : Nat} {ls : List (Nat × Value)} {st rest : List Value} {S : St} {idx n k ci : Nat} {q : vw_C} (as : List Value)
    (hd : decode mi.2.2.1 pc = .ok (.invokevirtual idx, 3)) (hM : MK mi' n) (hV : MV mi') (hlk : Cond.methodLink mi.1 idx mi'.2.1 ∈ gTs) (hcl : clK k = some ci) (hq : vwCl[ci]? = some q) (hqc : q.1 = mi'.2.1.cls) (hn : as.length = n) (hst : st = as.reverse ++ .ref k :: rest) (hrest : (rest.map fun v => v.category).sum ≤ 8)
    (hlen : (lg_sl (.ref 0 :: as)).length ≤ mi'.2.2.2.1) (hc : Go l d mi' K' 0 (lv_args 0 (.ref k :: as)) [] S) (kk : ∀ v S', K' v S' → Go l (d + 1) mi K (pc + 3) ls (v.toList ++ rest) S') : Go l (d + 1) mi K pc ls st S := by
  intro p e R s m args below meth c cells slots Q g H locs lsA F hr hP hD hS hl
  have hlen' : (lg_sl ((.ref k :: as).map (tr g))).length ≤ mi'.2.2.2.1 := by rw [lg_len g]; exact hlen
  have M := Go.met g hM hlen' hc
  have hin := wsM_in hM
  have hts := F.2.2.2.2.1
  obtain ⟨fs, hcell⟩ := clK_cell (g := g) (S := S) hcl
  have hrcv := va_recv F.2.2.2.2.2.1 hP hq (show (Wd g S)[k]? = some (g_ad g k, .inr (ci, fs)) by rw [Wd_at (clK_lt hcl), hcell])
  rw [hqc] at hrcv
  refine go_call (va_runV (Ts := gTs) (As := as.map (tr g)) (rest := rest.map (tr g)) (b := g_ad g k) (C := mi'.2.1.cls) ⟨F.1, F.2.1, F.2.2.1, F.2.2.2.1, hts⟩ M
    ⟨callB_of n hts (good_gTs hin) rfl rfl rfl (hts _ hM.1.2) (hts _ hlk) hM.2.1 (room_call F.2.2.2.2.2.2.2.2.1 hM.2.2.1), hts _ hV.1, hts _ hV.2⟩
    ⟨PcG_blind g _ S, hrcv, PcG_at F.2.2.2.2.2.1 F.2.2.2.2.2.2.1 F.2.2.2.2.2.2.2.1 hP hD hS⟩ rfl (by rw [List.length_map]; exact hn) hl.1 (by rw [hst, List.map_append, List.map_reverse]; rfl) (lv_room (by rw [cat_map]; exact hrest)) hd ⟨F.2.2.2.2.2.2.2.2.2.1, F.2.2.2.2.2.2.2.2.2.2⟩) hS ?_
  intro v S' H1 locs1 hk hP1 hS1
  have := kk v S' hk p e R s m args below meth c cells slots Q g H1 locs1 lsA F hr hP1 (Wd_D hD) hS1 hl
  rw [List.map_append] at this
  cases v <;> exact this
set_option maxHeartbeats 1000000 in
theorem Go.callSK {l : Launch} {d : Nat} {mi mi' : MI} {K K' : Option Value → St → Prop} {pc : Nat} {ls : List (Nat × Value)} {st rest : List Value} {S : St} {idx n : Nat} (as : List Value)
    (hd : decode mi.2.2.1 pc = .ok (.invokestatic idx, 3)) (hM : MK mi' n) (hV : Cond.static mi'.2.1 ∈ gTs) (hlk : Cond.methodLink mi.1 idx mi'.2.1 ∈ gTs) (hn : as.length = n) (hst : st = as.reverse ++ rest) (hrest : (rest.map fun v => v.category).sum ≤ 8)
    (hlen : (lg_sl as).length ≤ mi'.2.2.2.1) (hc : Go l d mi' K' 0 (lv_args 0 as) [] S) (kk : ∀ v S', K' v S' → Go l (d + 1) mi K (pc + 3) ls (v.toList ++ rest) S') : Go l (d + 1) mi K pc ls st S := by
  intro p e R s m args below meth c cells slots Q g H locs lsA F hr hP hD hS hl
  have hlen' : (lg_sl (as.map (tr g))).length ≤ mi'.2.2.2.1 := by rw [lg_len0 g]; exact hlen
  have M := Go.met g hM hlen' hc
  have hin := wsM_in hM
  have hts := F.2.2.2.2.1
  refine go_call (va_runS (Ts := gTs) (As := as.map (tr g)) (rest := rest.map (tr g)) ⟨F.1, F.2.1, F.2.2.1, F.2.2.2.1, hts⟩ M
    ⟨callB_of n hts (good_gTs hin) rfl rfl rfl (hts _ hM.1.2) (hts _ hlk) hM.2.1 (room_call F.2.2.2.2.2.2.2.2.1 hM.2.2.1), hts _ hV⟩
    ⟨PcG_blind g _ S, PcG_at F.2.2.2.2.2.1 F.2.2.2.2.2.2.1 F.2.2.2.2.2.2.2.1 hP hD hS⟩ rfl (by rw [List.length_map]; exact hn) hl.1 (by rw [hst, List.map_append, List.map_reverse]) (lv_room (by rw [cat_map]; exact hrest)) hd ⟨F.2.2.2.2.2.2.2.2.2.1, F.2.2.2.2.2.2.2.2.2.2⟩) hS ?_
  intro v S' H1 locs1 hk hP1 hS1
  have := kk v S' hk p e R s m args below meth c cells slots Q g H1 locs1 lsA F hr hP1 (Wd_D hD) hS1 hl
  rw [List.map_append] at this
  cases v <;> exact this
set_option maxHeartbeats 1000000 in
/-- the one call of a private static of the nest's host: Play.mayBe asks isPart -/
theorem Go.callPart {l : Launch} {d : Nat} {mi : MI} {K K' : Option Value → St → Prop} {pc : Nat} {ls : List (Nat × Value)} {st rest : List Value} {S : St} {maxL : Nat} {cc : ByteArray} (as : List Value) (hmi : mi.1 = RX8)
    (hd : decode mi.2.2.1 pc = .ok (.invokestatic 59, 3)) (hM : MK (RX11, yX11_isPart, cc, maxL, some .boolean) 1) (hV : Cond.static yX11_isPart ∈ gTs) (hn : as.length = 1) (hst : st = as.reverse ++ rest) (hrest : (rest.map fun v => v.category).sum ≤ 8)
    (hlen : (lg_sl as).length ≤ maxL) (hc : Go l d (RX11, yX11_isPart, cc, maxL, some .boolean) K' 0 (lv_args 0 as) [] S) (kk : ∀ v S', K' v S' → Go l (d + 1) mi K (pc + 3) ls (v.toList ++ rest) S') : Go l (d + 1) mi K pc ls st S := by
  intro p e R s m args below meth c cells slots Q g H locs lsA F hr hP hD hS hl
  have hlen' : (lg_sl (as.map (tr g))).length ≤ maxL := by rw [lg_len0 g]; exact hlen
  have M := Go.met g hM hlen' hc
  have hin := wsM_in hM
  have hts := F.2.2.2.2.1
  refine go_call (va_runSN (Ts := gTs) (As := as.map (tr g)) (rest := rest.map (tr g)) (host := "WhoPrompts") (own := RX8) ⟨F.1, F.2.1, F.2.2.1, hmi ▸ F.2.2.2.1, hts⟩ M
    ⟨va_cnB 1 hts (good_gTs hin) rfl rfl rfl F.2.2.2.2.2.2.1.2.2.2.2 (hts _ hM.1.2) hM.2.1 (room_call F.2.2.2.2.2.2.2.2.1 hM.2.2.1), hts _ hV, trivial⟩
    ⟨PcG_blind g _ S, PcG_at F.2.2.2.2.2.1 F.2.2.2.2.2.2.1 F.2.2.2.2.2.2.2.1 hP hD hS⟩ rfl (by rw [List.length_map]; exact hn) hl.1 (by rw [hst, List.map_append, List.map_reverse]) (lv_room (by rw [cat_map]; exact hrest)) hd ⟨F.2.2.2.2.2.2.2.2.2.1, F.2.2.2.2.2.2.2.2.2.2⟩) hS ?_
  intro v S' H1 locs1 hk hP1 hS1
  have := kk v S' hk p e R s m args below meth c cells slots Q g H1 locs1 lsA F hr hP1 (Wd_D hD) hS1 hl
  rw [List.map_append] at this
  cases v <;> exact this
/-- contracts with one answer and one state -/
theorem Go.callV {l : Launch} {d : Nat} {mi mi' : MI} {K : Option Value → St → Prop} {pc : Nat} {ls : List (Nat × Value)} {st rest : List Value} {S S1 : St} {r : Option Value} {idx n k ci : Nat} {q : vw_C} (as : List Value)
    (hd : decode mi.2.2.1 pc = .ok (.invokevirtual idx, 3)) (hM : MK mi' n) (hV : MV mi') (hlk : Cond.methodLink mi.1 idx mi'.2.1 ∈ gTs) (hcl : clK k = some ci) (hq : vwCl[ci]? = some q) (hqc : q.1 = mi'.2.1.cls) (hn : as.length = n) (hst : st = as.reverse ++ .ref k :: rest) (hrest : (rest.map fun v => v.category).sum ≤ 8)
    (hlen : (lg_sl (.ref 0 :: as)).length ≤ mi'.2.2.2.1) (hc : Go l d mi' (Res r S1) 0 (lv_args 0 (.ref k :: as)) [] S) (kk : Go l (d + 1) mi K (pc + 3) ls (r.toList ++ rest) S1) : Go l (d + 1) mi K pc ls st S :=
  Go.callVK as hd hM hV hlk hcl hq hqc hn hst hrest hlen hc (fun v S' h => by obtain ⟨rfl, rfl⟩ := h; exact kk)
theorem Go.callS {l : Launch} {d : Nat} {mi mi' : MI} {K : Option Value → St → Prop} {pc : Nat} {ls : List (Nat × Value)} {st rest : List Value} {S S1 : St} {r : Option Value} {idx n : Nat} (as : List Value)
    (hd : decode mi.2.2.1 pc = .ok (.invokestatic idx, 3)) (hM : MK mi' n) (hV : Cond.static mi'.2.1 ∈ gTs) (hlk : Cond.methodLink mi.1 idx mi'.2.1 ∈ gTs) (hn : as.length = n) (hst : st = as.reverse ++ rest) (hrest : (rest.map fun v => v.category).sum ≤ 8)
    (hlen : (lg_sl as).length ≤ mi'.2.2.2.1) (hc : Go l d mi' (Res r S1) 0 (lv_args 0 as) [] S) (kk : Go l (d + 1) mi K (pc + 3) ls (r.toList ++ rest) S1) : Go l (d + 1) mi K pc ls st S :=
  Go.callSK as hd hM hV hlk hn hst hrest hlen hc (fun v S' h => by obtain ⟨rfl, rfl⟩ := h; exact kk)
theorem Go.mono {l : Launch} {d : Nat} {mi : MI} {K K' : Option Value → St → Prop} {pc : Nat} {ls : List (Nat × Value)} {st : List Value} {S : St} (h : Go l d mi K pc ls st S) (hk : ∀ v S', K v S' → K' v S') : Go l d mi K' pc ls st S := by
  intro p e R s m args below meth c cells slots Q g H locs lsA F hr hP hD hS hl
  exact h p e R s m args below meth c cells slots Q g H locs lsA F (fun pc lsA v S H locs a b c d => hr pc lsA v S H locs a (hk v S b) c d) hP hD hS hl
theorem Go.deep {l : Launch} {d d' : Nat} (hd : d ≤ d') {mi : MI} {K : Option Value → St → Prop} {pc : Nat} {ls : List (Nat × Value)} {st : List Value} {S : St} (h : Go l d mi K pc ls st S) : Go l d' mi K pc ls st S := by
  intro p e R s m args below meth c cells slots Q g H locs lsA F hr hP hD hS hl
  obtain ⟨f1, f2, f3, f4, f5, f6, f7, f8, f9, f10⟩ := F
  exact h p e R s m args below meth c cells slots Q g H locs lsA ⟨f1, f2, f3, f4, f5, f6, f7, f8, ⟨Nat.le_trans hd f9.1, Nat.le_trans (Nat.mul_le_mul_left 40 hd) f9.2⟩, f10⟩ hr hP hD hS hl
theorem Go.eqS {l : Launch} {d : Nat} {mi : MI} {K : Option Value → St → Prop} {pc : Nat} {ls : List (Nat × Value)} {st : List Value} {S S' : St} (e : S = S') (h : Go l d mi K pc ls st S') : Go l d mi K pc ls st S := e ▸ h
theorem Go.eqv {l : Launch} {d : Nat} {mi : MI} {K : Option Value → St → Prop} {pc : Nat} {ls : List (Nat × Value)} {st : List Value} {S : St} {x y : Int32} (e : x = y) (h : Go l d mi K pc ls (.int y :: st) S) : Go l d mi K pc ls (.int x :: st) S := e ▸ h
set_option maxHeartbeats 1000000 in
/-- System.arraycopy between int rows -/
theorem Go.copyi {l : Launch} {d : Nat} {mi : MI} {K : Option Value → St → Prop} {pc : Nat} {ls : List (Nat × Value)} {st : List Value} {S : St} {idx k0 k1 n0 n1 : Nat} {sp dp n : Int32} (hd : decode mi.2.2.1 pc = .ok (.invokestatic idx, 3)) (hlk : Cond.methodLink mi.1 idx arraycopyName ∈ gTs) (hst : Cond.static arraycopyName ∈ gTs) (hnt : Cond.native arraycopyName ∈ gTs) (hini : Cond.initialized "java/lang/System" ∈ gTs)
    (ha0 : arK k0 = some (0, n0)) (ha1 : arK k1 = some (0, n1)) (h1 : ¬ sp < 0) (h2 : ¬ dp < 0) (h3 : ¬ n < 0) (h4 : sp.toNatClampNeg + n.toNatClampNeg ≤ n0) (h5 : dp.toNatClampNeg + n.toNatClampNeg ≤ n1) (hrest : (st.map fun v => v.category).sum ≤ 8)
    (kk : Go l (d + 1) mi K (pc + 3) ls st (aset S k1 (va_cpy (S.2.1 k0) (S.2.1 k1) sp.toNatClampNeg dp.toNatClampNeg n.toNatClampNeg))) : Go l (d + 1) mi K pc ls (.int n :: .int dp :: .ref k1 :: .int sp :: .ref k0 :: st) S := by
  intro p e R s m args below meth c cells slots Q g H locs lsA F hr hP hD hS hl
  have hts := F.2.2.2.2.1
  have hR := F.2.2.2.2.2.2.2.2.1
  have hnf : nativeFrameWords "java/lang/System" "arraycopy" 5 + 11 ≤ 31 := by decide +kernel
  refine va_copyi (ty := .int) F.1 F.2.1 (F.2.2.1.trans hl.1.symm) F.2.2.2.1 (hts _ hlk) (hts _ hnt) (hts _ hst) (hts _ hini) F.2.2.2.2.2.1 hP hD hS k0 k1 0 0 (by rw [Wd_at (arK_lt ha0 (by decide)), arK_int ha0 (by decide)]) (by rw [Wd_at (arK_lt ha1 (by decide)), arK_int ha1 (by decide)]) rfl rfl rfl h1 h2 h3 h4 h5 (fun _ _ => rfl) (by omega) (by rw [cat_map]; exact Nat.le_trans (Nat.add_le_add hrest hnf) (by omega)) hd (fun H locs hP1 hD1 hS => ?_)
  have hw : (Wd g S).set k1 (g_ad g k1, .inl (g_id g 0, n1, .inl (va_cpy (S.2.1 k0) (S.2.1 k1) sp.toNatClampNeg dp.toNatClampNeg n.toNatClampNeg))) = Wd g (aset S k1 (va_cpy (S.2.1 k0) (S.2.1 k1) sp.toNatClampNeg dp.toNatClampNeg n.toNatClampNeg)) := by
    rw [← aset_at (S := S) ha1 (by decide)]; exact Wd_set (arK_lt ha1 (by decide)) (fun q hq => aset_ne hq)
  have hP2 := hw ▸ hP1
  exact kk p e R s m args below meth c cells slots Q g H locs lsA F hr hP2 (Wd_D hD) hS hl
set_option maxHeartbeats 1000000 in
/-- System.arraycopy between long rows -/
theorem Go.copyl {l : Launch} {d : Nat} {mi : MI} {K : Option Value → St → Prop} {pc : Nat} {ls : List (Nat × Value)} {st : List Value} {S : St} {idx k0 k1 n0 n1 : Nat} {sp dp n : Int32} (hd : decode mi.2.2.1 pc = .ok (.invokestatic idx, 3)) (hlk : Cond.methodLink mi.1 idx arraycopyName ∈ gTs) (hst : Cond.static arraycopyName ∈ gTs) (hnt : Cond.native arraycopyName ∈ gTs) (hini : Cond.initialized "java/lang/System" ∈ gTs)
    (ha0 : arK k0 = some (4, n0)) (ha1 : arK k1 = some (4, n1)) (h1 : ¬ sp < 0) (h2 : ¬ dp < 0) (h3 : ¬ n < 0) (h4 : sp.toNatClampNeg + n.toNatClampNeg ≤ n0) (h5 : dp.toNatClampNeg + n.toNatClampNeg ≤ n1) (hrest : (st.map fun v => v.category).sum ≤ 8)
    (kk : Go l (d + 1) mi K (pc + 3) ls st (lset S k1 (va_cpy (S.2.2 k0) (S.2.2 k1) sp.toNatClampNeg dp.toNatClampNeg n.toNatClampNeg))) : Go l (d + 1) mi K pc ls (.int n :: .int dp :: .ref k1 :: .int sp :: .ref k0 :: st) S := by
  intro p e R s m args below meth c cells slots Q g H locs lsA F hr hP hD hS hl
  have hts := F.2.2.2.2.1
  have hR := F.2.2.2.2.2.2.2.2.1
  have hnf : nativeFrameWords "java/lang/System" "arraycopy" 5 + 11 ≤ 31 := by decide +kernel
  refine va_copyl (ty := .long) F.1 F.2.1 (F.2.2.1.trans hl.1.symm) F.2.2.2.1 (hts _ hlk) (hts _ hnt) (hts _ hst) (hts _ hini) F.2.2.2.2.2.1 hP hD hS k0 k1 4 4 (by rw [Wd_at (arK_lt ha0 (by decide)), arK_long ha0]) (by rw [Wd_at (arK_lt ha1 (by decide)), arK_long ha1]) rfl rfl rfl h1 h2 h3 h4 h5 (fun _ _ => rfl) (by omega) (by rw [cat_map]; exact Nat.le_trans (Nat.add_le_add hrest hnf) (by omega)) hd (fun H locs hP1 hD1 hS => ?_)
  have hw : (Wd g S).set k1 (g_ad g k1, .inl (g_id g 4, n1, .inr (.inl (va_cpy (S.2.2 k0) (S.2.2 k1) sp.toNatClampNeg dp.toNatClampNeg n.toNatClampNeg)))) = Wd g (lset S k1 (va_cpy (S.2.2 k0) (S.2.2 k1) sp.toNatClampNeg dp.toNatClampNeg n.toNatClampNeg)) := by
    rw [← lset_at (S := S) ha1]; exact Wd_set (arK_lt ha1 (by decide)) (fun q hq => lset_ne hq)
  have hP2 := hw ▸ hP1
  exact kk p e R s m args below meth c cells slots Q g H locs lsA F hr hP2 (Wd_D hD) hS hl
/-- loops, and all that is proved by a number that falls -/
theorem go_loop {σ : Type} (P : σ → Prop) (I : Nat → σ → Prop) (hs : ∀ n s, I n s → (∀ n' s', n' < n → I n' s' → P s') → P s) : ∀ n s, I n s → P s := by
  intro n
  induction n using Nat.strongRecOn with
  | ind n ih => intro s h; exact hs n s h (fun n' s' hn hi => ih n' hn s' hi)
