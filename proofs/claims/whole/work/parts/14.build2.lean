theorem getD_push {α : Type} {is : List α} {x z : α} : ∀ j, (is ++ [x]).getD j z = if j = is.length then x else is.getD j z := by
  intro j
  by_cases h : j = is.length
  · subst h
    simp [List.getD]
  · rw [if_neg h]
    simp only [List.getD]
    by_cases hl : j < is.length
    · rw [List.getElem?_append_left hl]
    · rw [List.getElem?_eq_none (by rw [List.length_append]; simp; omega), List.getElem?_eq_none (by omega)]
def FL2 (own : String) (idx ci j : Nat) (fin : Bool) (ty : FieldType) : Prop := ∃ (C : String) (T : u_T) (N : Nat) (ty0 : Nat → FieldType), vwCl[ci]? = some (C, T, N) ∧ j < N ∧ Cond.fieldLink own idx (T j).1 (T j).2.1 (T j).2.2.1 ∈ gTs ∧ (∀ w ∈ u_ws C T N, w ∈ gTs) ∧ (∀ k, k < N → parseFieldDescriptor (T k).2.2.1 = some (ty0 k)) ∧ (∀ a, a < N → ∀ b, b < N → a ≠ b → (T a).2.1 ≠ (T b).2.1) ∧ (T j).2.2.2 = fin ∧ parseFieldDescriptor (T j).2.2.1 = some ty ∧ (T j).1 = own
theorem GoB.put {l : Launch} {d : Nat} {mi : MI} {csF : List CB} {mc ms cu su : Nat} {pc : Nat} {ls : List (Nat × Value)} {st : List Value} {cs : List CB} {idx ci j k : Nat} {fin : Bool} {ty : FieldType} {v : Value} {fs : List Value} (hd : decode mi.2.2.1 pc = .ok (.putfield idx, 3)) (hf : FL2 mi.1 idx ci j fin ty) (hk : cs[k]? = some (.inl (ci, fs))) (hj : j < fs.length) (hn : ∀ g : GX, narrow ty (tr g v) = tr g v) (hfit : ∀ g : GX, fits ty (tr g v) = true)
    (kk : GoB l d mi csF mc ms cu su (pc + 3) ls st (cs.set k (.inl (ci, fs.set j v)))) : GoB l d mi csF mc ms cu su pc ls (v :: .ref k :: st) cs := by
  intro p e R s m args below meth c Q g H locs lsA F hR hP hz hS hl
  have hts := F.2.2.2.2.1
  have hK := F.2.2.2.2.2.1
  have hD : va_D (gA g) (WB g cs) := WB_D F.2.2.2.2.2.2.2.1.2
  obtain ⟨C, T, N, ty0, h1, h2, h3, h4, h5, h6, h7, h8, h9⟩ := hf
  have go : ∀ (H1 : Heap) (locs1 : List Loc), va_P (g_D g) vwCl ((WB g cs).set k (g_ad g k, .inr (ci, (fs.map (tr g)).set j (tr g v)))) H1 → H1.size = H.size → va_S (gA g) s.heap H1 locs1 → W p l e R s m args below meth c H1 locs1 cu su Q (F0 m (pc + 3) lsA (st.map (tr g))) := by
    intro H1 locs1 hP1 hz1 hS1
    have hw : (WB g cs).set k (g_ad g k, .inr (ci, (fs.map (tr g)).set j (tr g v))) = WB g (cs.set k (.inl (ci, fs.set j v))) := by
      rw [← WB_set]
      simp only [concB, List.map_set]
    rw [hw] at hP1
    exact kk p e R s m args below meth c Q g H1 locs1 lsA F hR hP1 (by rw [hz1, hz, List.length_set]) hS1 hl
  have hat : (WB g cs)[k]? = some (g_ad g k, .inr (ci, fs.map (tr g))) := WB_at hk
  have hap := va_apart (own := mi.1) hts h4 ty0 h5 h6 hK h1
  obtain ⟨r, g1, cell, q1, q2, q3, q4⟩ := hP k _ hat
  have hr : r = (C, T, N) := Option.some.inj (g1.symm.trans h1)
  subst hr
  obtain ⟨hSl, hfc, kC, hkC, hkind⟩ := hK.1 ci _ h1
  obtain ⟨cf, kf, fi, f, hi, hsl⟩ := hSl j h2
  have hlay := hts _ (h4 _ (u_in_lay h2))
  unfold u_lay at hlay
  have hst := (u_facts hfc hkC (u_lays hts h4 h2) hi).1
  have hjl : j < (fs.map (tr g)).length := by rw [List.length_map]; exact hj
  cases fin with
  | true =>
    rw [if_pos h7] at hlay
    have hcf : m.cls = cf := by
      obtain ⟨_, _, c', _, _, _, -, -, hf', -, -, -, hown2, -⟩ := Cond.laysFinal_spec hlay
      have e1 : c' = cf := by have := hi.symm.trans hf'; simp at this; exact this.1.symm
      rw [h9] at hown2
      rw [← e1]; exact Option.some.inj (F.2.2.2.1.symm.trans hown2)
    have h6' := u_fits hfc hkC hkind (Or.inr hlay) hi h8 (hn g) (hfit g)
    refine W.putFinK F.1 F.2.1 F.2.2.2.1 (hts _ h3) hi hst hcf F.2.2.2.2.2.2.1.2.2 (by rw [q2]; exact h6') q1 q3 (by rw [hsl]; exact k2_hasslot (q4 j h2)) rfl rfl hd fun H' e1 e2 e3 => ?_
    rw [hsl] at e1 ⊢
    exact go H' _ (hP.set hD hat ⟨_, h1, t_OB.to (V := updV (vp_V (fs.map (tr g))) j (tr g v)) ⟨_, e1, q2, q3, t_set q4 hap h2 (tr g v)⟩ (fun i _ => vp_updV_set hjl (tr g v) i)⟩ e3) e2 (hS.put e2 e3 (hD.2 k _ hat))
  | false =>
    rw [if_neg (by rw [h7]; decide)] at hlay
    have h6' := u_store hfc hkC hkind hlay hi h8 (hn g) (hfit g)
    refine W.putK F.1 F.2.1 (f := f) ⟨F.2.2.2.1, hts _ h3, ⟨_, _, _, hi⟩, hst⟩ (by rw [q2]; exact h6') q1 q3 (by rw [hsl]; exact k2_hasslot (q4 j h2)) rfl rfl hd fun H' e1 e2 e3 => ?_
    rw [hsl] at e1 ⊢
    exact go H' _ (hP.set hD hat ⟨_, h1, t_OB.to (V := updV (vp_V (fs.map (tr g))) j (tr g v)) ⟨_, e1, q2, q3, t_set q4 hap h2 (tr g v)⟩ (fun i _ => vp_updV_set hjl (tr g v) i)⟩ e3) e2 (hS.put e2 e3 (hD.2 k _ hat))
theorem GoB.get {l : Launch} {d : Nat} {mi : MI} {csF : List CB} {mc ms cu su : Nat} {pc : Nat} {ls : List (Nat × Value)} {st : List Value} {cs : List CB} {idx ci j k : Nat} {fin : Bool} {ty : FieldType} {v : Value} {fs : List Value} (hd : decode mi.2.2.1 pc = .ok (.getfield idx, 3)) (hf : FL mi.1 idx ci j fin ty) (hk : cs[k]? = some (.inl (ci, fs))) (hj : fs[j]? = some v) (kk : GoB l d mi csF mc ms cu su (pc + 3) ls (v :: st) cs) : GoB l d mi csF mc ms cu su pc ls (.ref k :: st) cs := by
  intro p e R s m args below meth c Q g H locs lsA F hR hP hz hS hl
  obtain ⟨C, T, N, ty0, h1, h2, h3, h4, h5, h6, h7, h8⟩ := hf
  exact va_get F.1 F.2.1 F.2.2.2.2.1 h4 F.2.2.2.1 F.2.2.2.2.2.1 hP k (WB_at hk) h1 j h2 (F.2.2.2.2.1 _ h3) (fun _ h9 => h9) (by rw [List.getElem?_map, hj]; rfl) hd (kk p e R s m args below meth c Q g H locs lsA F hR hP hz hS hl)
theorem GoB.iast {l : Launch} {d : Nat} {mi : MI} {csF : List CB} {mc ms cu su : Nat} {pc : Nat} {ls : List (Nat × Value)} {st : List Value} {cs : List CB} {k n : Nat} {i x : Int32} {is : List Int32} (hd : decode mi.2.2.1 pc = .ok (.iastore, 1)) (hk : cs[k]? = some (.inr (0, n, is, []))) (hi : i.toNatClampNeg = is.length) (hin : vp_in i n) (kk : GoB l d mi csF mc ms cu su (pc + 1) ls st (cs.set k (.inr (0, n, is ++ [x], [])))) : GoB l d mi csF mc ms cu su pc ls (.int x :: .int i :: .ref k :: st) cs := by
  intro p e R s m args below meth c Q g H locs lsA F hR hP hz hS hl
  have hD : va_D (gA g) (WB g cs) := WB_D F.2.2.2.2.2.2.2.1.2
  have hat : (WB g cs)[k]? = some (g_ad g k, .inl (g_id g 0, n, .inl (fun i => is.getD i 0))) := WB_at hk
  refine W.iast F.1 F.2.1 (hP k _ hat) ((F.2.2.2.2.2.1.2 0 _ rfl).1 n (fun j => .int (is.getD j 0))) (fun q => by cases q) (by show ¬ (i < 0 ∨ (arrV _ _ _).slots.size ≤ _); rw [arrV_size]; exact hin) rfl rfl hd fun H1 e1 z oq => ?_
  have hP1 : va_P (g_D g) vwCl (WB g (cs.set k (.inr (0, n, is ++ [x], [])))) H1 := by
    rw [← WB_set]
    refine hP.set hD hat ?_ oq
    show H1[g_ad g k]? = some (vp_cell _ _)
    rw [e1]
    show some _ = some (arrV (g_id g 0) n fun j => .int ((is ++ [x]).getD j 0))
    rw [vp_cell_i, arrV_store]
    congr 2
    funext q
    rw [getD_push]
    by_cases hq : q = i.toNatClampNeg
    · subst hq
      simp [updV, hi]
    · simp [updV, hq, ← hi]
  exact kk p e R s m args below meth c Q g H1 _ lsA F hR hP1 (by rw [z, hz, List.length_set]) (hS.put z oq (hD.2 k _ hat)) hl
theorem GoB.aast {l : Launch} {d : Nat} {mi : MI} {csF : List CB} {mc ms cu su : Nat} {pc : Nat} {ls : List (Nat × Value)} {st : List Value} {cs : List CB} {k n q : Nat} {i : Int32} {rs : List (Option Nat)} {fs : List Value} (hd : decode mi.2.2.1 pc = .ok (.aastore, 1)) (hk : cs[k]? = some (.inr (5, n, [], rs))) (hq : cs[q]? = some (.inl (9, fs))) (hi : i.toNatClampNeg = rs.length) (hin : vp_in i n) (kk : GoB l d mi csF mc ms cu su (pc + 1) ls st (cs.set k (.inr (5, n, [], rs ++ [some q])))) : GoB l d mi csF mc ms cu su pc ls (.ref q :: .int i :: .ref k :: st) cs := by
  intro p e R s m args below meth c Q g H locs lsA F hR hP hz hS hl
  have hD : va_D (gA g) (WB g cs) := WB_D F.2.2.2.2.2.2.2.1.2
  have hat : (WB g cs)[k]? = some (g_ad g k, .inl (g_id g 5, n, .inr (.inr (.inr (.inr (fun i => (rs.getD i none).map (g_ad g))))))) := WB_at hk
  have hqt : (WB g cs)[q]? = some (g_ad g q, .inr (9, fs.map (tr g))) := WB_at hq
  have hlt : i.toNatClampNeg < n := Nat.not_le.mp fun q => hin (Or.inr q)
  have h0 : ¬ i < 0 := fun q => hin (Or.inl q)
  have hK := F.2.2.2.2.2.1
  obtain ⟨r', hr', cellV, g1, g2, g3, -⟩ := hP q _ hqt
  have hcls := (hK.1 9 (RX9, TX9, 5) rfl).2
  obtain ⟨kA, comp, k1, k2, k3, -⟩ := (hK.2 5 _ rfl).2
  have hcomp : comp = (g_D g).1 9 := Option.some.inj (k3.symm.trans hcls.1)
  subst hcomp
  obtain ⟨kC, hkC, -⟩ := hcls.2
  refine W.aast F.1 F.2.1 (hP k _ hat) (fun q h => by cases h) (fun h => by cases h) k1 k2 rfl hkC ⟨h0, by show _ < (arrV _ _ _).slots.size; rw [arrV_size]; exact hlt⟩ g1 (fun q h => by rw [g3] at h; cases h) (by rw [g2]; exact hkC) (by rw [g2]; exact va_assign hcls) rfl rfl hd fun H1 e1 z oq => ?_
  have hP1 : va_P (g_D g) vwCl (WB g (cs.set k (.inr (5, n, [], rs ++ [some q])))) H1 := by
    rw [← WB_set]
    refine hP.set hD hat ?_ oq
    show H1[g_ad g k]? = some (vp_cell _ _)
    rw [e1]
    show some _ = some (arrV (g_id g 5) n fun j => va_rf (((rs ++ [some q]).getD j none).map (g_ad g)))
    rw [vp_cell_q, arrV_store]
    congr 2
    funext j
    rw [getD_push]
    by_cases hj : j = i.toNatClampNeg
    · subst hj
      simp [updV, va_rf, hi]
    · simp [updV, hj, ← hi]
  exact kk p e R s m args below meth c Q g H1 _ lsA F hR hP1 (by rw [z, hz, List.length_set]) (hS.put z oq (hD.2 k _ hat)) hl
theorem GoB.objInit {l : Launch} {d : Nat} {mi : MI} {csF : List CB} {mc ms cu su : Nat} {pc : Nat} {ls : List (Nat × Value)} {st : List Value} {cs : List CB} {idx k : Nat} (hd : decode mi.2.2.1 pc = .ok (.invokespecial idx, 3)) (hlk : Cond.methodLink mi.1 idx objectInit ∈ gTs) (hin : Cond.instanceMethod objectInit ∈ gTs) (hco : Cond.code objectInit ⟨#[0xb1]⟩ 1 none ∈ gTs) (hrest : (st.map fun v => v.category).sum ≤ 8) (kk : GoB l (d + 1) mi csF mc ms cu su (pc + 3) ls st cs) : GoB l (d + 1) mi csF mc ms cu su pc ls (.ref k :: st) cs := by
  intro p e R s m args below meth c Q g H locs lsA F hR hP hz hS hl
  have hts := F.2.2.2.2.1
  have hRm := F.2.2.2.2.2.2.2.2.1
  refine W.objInit F.1 F.2.1 F.2.2.2.1 (hts _ hlk) (hts _ hin) (hts _ hco) rfl (by rw [F.2.2.1]; exact hl.1) rfl hd (by omega) ?_ ?_
  · have : 2 * (F0 m pc lsA ((.ref k :: st).map (tr g))).monitorRoom = 0 := rfl
    have h2 := cat_map g st
    omega
  · exact kk p e R s m args below meth c Q g H locs lsA F hR hP hz hS hl
def rmB (d mc ms : Nat) : Room := { frames := d, cells := mc, slots := ms, locals := 40 * d }
def PcB (g : GX) (as : List Value) (cs : List CB) : Array Value → State → Prop := va_Pc (as.map (tr g)) (fun U => va_P (g_D g) vwCl (WB g cs) U.heap ∧ va_K (g_D g) vwCl (gtys g) U ∧ (NW U ∧ va_AO "WhoPrompts$Shelf" U) ∧ (g_base g ≤ U.heap.size ∧ ∀ k, g_ad g k = g_base g + k) ∧ U.heap.size = g_base g + cs.length)
def QcB (g : GX) (csF : List CB) : Array Value → State → Outcome → State → Prop := fun _ st oc t => oc = .returned none ∧ va_P (g_D g) vwCl (WB g csF) t.heap ∧ t.heap.size = g_base g + csF.length ∧ va_F (gA g) st t
set_option maxHeartbeats 4000000 in
theorem GoB.met {l : Launch} {d : Nat} {mi : MI} {csF : List CB} {mc ms : Nat} {as : List Value} {cs : List CB} {n : Nat} (g : GX) (hM : MK mi n) (hnm : mi.2.1.name = "<init>") (hlen : (lg_sl (as.map (tr g))).length ≤ mi.2.2.2.1) (h : GoB l d mi csF mc ms 0 0 0 (lv_args 0 as) [] cs) : Met l mi.2.1 (wsM mi) (rmB d mc ms) (PcB g as cs) (QcB g csF) mc ms (gA g) := by
  refine Met.ofW (cc := mi.2.2.1) (maxL := mi.2.2.2.1) (ret := mi.2.2.2.2) hM.2.2.2.1 rfl ?_
  intro p e s m args below meth c s₁ B hml hv
  obtain ⟨rfl, hP, hK, hNW, hbs, hz⟩ := hv
  have hts := atoms_spec (ws := wsM mi) B.pre
  have hown : s.vm.findClass mi.1 = some m.cls := by rw [hM.2.2.2.2]; exact findClass_of_methodNamed B.named
  have hlocks := B.notSynchronized
  have hnam : meth.name = "<init>" := (name_of_methodNamed B.named B.method).1.trans hnm
  have hl := lv_entry (as.map (tr g)) (n := mi.2.2.2.1) hlen
  rw [lg_entry_eq]
  refine h p e (rmB d mc ms) s m _ below meth c _ g s.heap [] _ ⟨B.exec, B.bytes, hml, hown, fun w hw => hts w (List.mem_cons_of_mem _ hw), hK, ⟨hNW.1, hNW.2, hnam⟩, hbs, ⟨Nat.le_refl _, Nat.le_refl _⟩, Nat.le_refl _, Nat.le_refl _⟩ ?_ hP hz va_S.rf (by rw [trL_args] at hl; exact hl)
  intro pc lsA H' locs' hd hrt hP' hz' hS'
  exact W.vret B.exec B.bytes (B.returns.trans hrt) (fun t ht _ => ⟨rfl, by rw [ht]; exact hP', by rw [ht]; exact hz', hS'.F ht⟩) hS'.2.2 hd
theorem PcB_blind (g : GX) (as : List Value) (cs : List CB) : FrameBlind (PcB g as cs) := by
  intro a U fr mk q
  obtain ⟨q0, qP, qK, qN, qb, qz⟩ := q
  exact ⟨q0, qP, va_K.moved (u := U) (U := U.calling fr mk a) (Vm.Alike.refl U.vm) qK, ⟨fun w hw => va_Nw.same rfl rfl (qN.1 w hw), va_AO.moved (u := U) (U := U.calling fr mk a) (Vm.Alike.refl U.vm) qN.2⟩, qb, qz⟩
theorem PcB_at {g : GX} {as : List Value} {cs : List CB} {s : State} {H : Heap} {locs : List Loc} (hK : va_K (g_D g) vwCl (gtys g) s) (hN : NW s ∧ va_AO "WhoPrompts$Shelf" s) (hb : g_base g ≤ s.heap.size ∧ ∀ k, g_ad g k = g_base g + k) (hP : va_P (g_D g) vwCl (WB g cs) H) (hz : H.size = g_base g + cs.length) (hS : va_S (gA g) s.heap H locs) :
    ∀ U : State, U.heap = H → s.WarmedH U.vm → PcB g as cs (as.map (tr g)).toArray U := by
  intro U hU hW
  exact ⟨rfl, by rw [hU]; exact hP, va_K.moved hW.alike hK, ⟨fun w hw => va_Nw.warmM hW (hN.1 w hw), va_AO.moved hW.alike hN.2⟩, ⟨by rw [hU]; exact Nat.le_trans hb.1 hS.1, hb.2⟩, by rw [hU]; exact hz⟩
section GBC
variable {p : Program} {l : Launch} {e : Env} {R : Room} {s : State} {m : MethodId} {args : Array Value} {below : List Frame} {meth : Method} {c : Code} {H : Heap} {locs : List Loc} {cells slots : Nat} {Q : State → Prop}
theorem goB_call {pc mc ms : Nat} {lsA : Array Slot} {rest st0 : List Value} {a : Array Value} {g : GX} {csF : List CB} (hr : va_Run p l e R s m args below meth c H locs cells slots mc ms (F0 m pc lsA st0) rest (QcB g csF a) (gA g)) (hS : va_S (gA g) s.heap H locs)
    (kk : ∀ (H1 : Heap) (locs1 : List Loc), va_P (g_D g) vwCl (WB g csF) H1 → H1.size = g_base g + csF.length → va_S (gA g) s.heap H1 locs1 → W p l e R s m args below meth c H1 locs1 (cells + mc) (slots + ms) Q (F0 m (pc + 3) lsA rest)) : W p l e R s m args below meth c H locs cells slots Q (F0 m pc lsA st0) := by
  intro T hT X
  obtain ⟨v, st₀, t, T', L, h0, X', hL, e1, e2, ⟨hv, hP1, hz1, hz, hq⟩, st⟩ := hr T hT X
  cases hv
  rw [h0] at hz hq
  obtain ⟨t2, a1, b1⟩ := kk T'.heap (locs ++ L) (by rw [e1]; exact hP1) (by rw [e1]; exact hz1)
    ⟨Nat.le_trans hS.1 (by rw [e1]; exact hz), fun q h1 h2 => by rw [e1, hq q (Nat.lt_of_lt_of_le h1 hS.1) h2]; exact hS.2.1 q h1 h2, fun q hq' => by
      rcases List.mem_append.mp hq' with h | h
      · exact hS.2.2 q h
      · exact hL q h⟩ T' rfl X'
  exact ⟨t2, st t2 a1, b1⟩
end GBC
theorem room_callB {R : Room} {d k mc ms : Nat} (h : d + 1 ≤ R.frames ∧ 40 * (d + 1) ≤ R.locals) (hk : k ≤ 20) : (rmB d mc ms).frames + 1 ≤ R.frames ∧ 8 + (k + 11) + (rmB d mc ms).locals ≤ R.locals := by
  refine ⟨h.1, ?_⟩
  show 8 + (k + 11) + 40 * d ≤ R.locals
  omega
set_option maxHeartbeats 1000000 in
theorem GoB.ctor {l : Launch} {d : Nat} {mi mi' : MI} {csF cs cs1 : List CB} {mc ms mc' ms' cu su cu1 su1 : Nat} {pc : Nat} {ls : List (Nat × Value)} {st : List Value} {idx k : Nat} (hd : decode mi.2.2.1 pc = .ok (.invokespecial idx, 3)) (hM : MK mi' 0) (hr : mi'.2.2.2.2 = none) (hnm : mi'.2.1.name = "<init>") (hin : Cond.instanceMethod mi'.2.1 ∈ gTs) (hlk : (mi.1, idx, mi'.2.1) ∈ nestL) (hrest : (st.map fun v => v.category).sum ≤ 8) (hlen : (lg_sl [.ref 0]).length ≤ mi'.2.2.2.1)
    (h1 : cu + mc' ≤ mc) (h2 : su + ms' ≤ ms) (hc : GoB l d mi' cs1 mc' ms' 0 0 0 [(0, .ref k)] [] cs) (ecu : cu + mc' = cu1) (esu : su + ms' = su1) (kk : GoB l (d + 1) mi csF mc ms cu1 su1 (pc + 3) ls st cs1) : GoB l (d + 1) mi csF mc ms cu su pc ls (.ref k :: st) cs := by
  intro p e R s m args below meth c Q g H locs lsA F hR hP hz hS hl
  subst ecu; subst esu
  have hts := F.2.2.2.2.1
  have M := GoB.met (as := [.ref k]) g hM hnm (by rw [lg_len g]; exact hlen) hc
  have hin' := wsM_in hM
  obtain ⟨own, y, cc', nL, rt⟩ := mi'
  have hr : rt = none := hr
  subst hr
  refine goB_call (va_runIN (Ts := gTs) (As := []) (b := g_ad g k) (rest := st.map (tr g)) (host := "WhoPrompts") ⟨F.1, F.2.1, F.2.2.1, F.2.2.2.1, hts⟩ M
    ⟨va_cnB 0 hts (good_gTs hin') rfl rfl rfl (F.2.2.2.2.2.2.1.1 _ hlk) (hts _ hM.1.2) hM.2.1 (room_callB F.2.2.2.2.2.2.2.2.1 hM.2.2.1), hnm, hts _ hin⟩
    ⟨PcB_blind g _ cs, PcB_at F.2.2.2.2.2.1 ⟨F.2.2.2.2.2.2.1.1, F.2.2.2.2.2.2.1.2.1⟩ F.2.2.2.2.2.2.2.1 hP hz hS⟩ rfl rfl hl.1 rfl (lv_room (by rw [cat_map]; exact hrest)) hd ⟨Nat.le_trans h1 F.2.2.2.2.2.2.2.2.2.1, Nat.le_trans h2 F.2.2.2.2.2.2.2.2.2.2⟩) hS ?_
  intro H1 locs1 hP1 hz1 hS1
  exact kk p e R s m args below meth c Q g H1 locs1 lsA F hR hP1 hz1 hS1 hl
theorem GoB.iconst {l : Launch} {d : Nat} {mi : MI} {csF : List CB} {mc ms cu su : Nat} {pc : Nat} {ls : List (Nat × Value)} {st : List Value} {cs : List CB} {n : Int} {v : Int32} (hd : decode mi.2.2.1 pc = .ok (.iconst n, 1)) (hv : Int32.ofInt n = v) (k : GoB l d mi csF mc ms cu su (pc + 1) ls (.int v :: st) cs) : GoB l d mi csF mc ms cu su (pc) ls (st) cs := by
  intro p e R s m args below meth c Q g H locs lsA F hr hP hz hS hl
  exact lv_iconst F.1 F.2.1 hd hv (k p e R s m args below meth c Q g H locs lsA F hr hP hz hS hl)
theorem GoB.bipush {l : Launch} {d : Nat} {mi : MI} {csF : List CB} {mc ms cu su : Nat} {pc : Nat} {ls : List (Nat × Value)} {st : List Value} {cs : List CB} {n : Int} {v : Int32} (hd : decode mi.2.2.1 pc = .ok (.bipush n, 2)) (hv : (Int8.ofInt n).toInt32 = v) (k : GoB l d mi csF mc ms cu su (pc + 2) ls (.int v :: st) cs) : GoB l d mi csF mc ms cu su (pc) ls (st) cs := by
  intro p e R s m args below meth c Q g H locs lsA F hr hP hz hS hl
  exact lv_bipush F.1 F.2.1 hd hv (k p e R s m args below meth c Q g H locs lsA F hr hP hz hS hl)
theorem GoB.sipush {l : Launch} {d : Nat} {mi : MI} {csF : List CB} {mc ms cu su : Nat} {pc : Nat} {ls : List (Nat × Value)} {st : List Value} {cs : List CB} {n : Int} {v : Int32} (hd : decode mi.2.2.1 pc = .ok (.sipush n, 3)) (hv : (Int16.ofInt n).toInt32 = v) (k : GoB l d mi csF mc ms cu su (pc + 3) ls (.int v :: st) cs) : GoB l d mi csF mc ms cu su (pc) ls (st) cs := by
  intro p e R s m args below meth c Q g H locs lsA F hr hP hz hS hl
  exact lv_sipush F.1 F.2.1 hd hv (k p e R s m args below meth c Q g H locs lsA F hr hP hz hS hl)
theorem GoB.iload_n {l : Launch} {d : Nat} {mi : MI} {csF : List CB} {mc ms cu su : Nat} {pc : Nat} {ls : List (Nat × Value)} {st : List Value} {cs : List CB} {k : Fin 4} {x : Int32} (hd : decode mi.2.2.1 pc = .ok (.iload_n k, 1)) (hg : lgt ls k = some (.int x)) (k : GoB l d mi csF mc ms cu su (pc + 1) ls (.int x :: st) cs) : GoB l d mi csF mc ms cu su (pc) ls (st) cs := by
  intro p e R s m args below meth c Q g H locs lsA F hr hP hz hS hl
  exact lv_iload_n F.1 F.2.1 hd rfl (lgt_at hl hg) (k p e R s m args below meth c Q g H locs lsA F hr hP hz hS hl)
theorem GoB.aload_n {l : Launch} {d : Nat} {mi : MI} {csF : List CB} {mc ms cu su : Nat} {pc : Nat} {ls : List (Nat × Value)} {st : List Value} {cs : List CB} {k : Fin 4} {x : Nat} (hd : decode mi.2.2.1 pc = .ok (.aload_n k, 1)) (hg : lgt ls k = some (.ref x)) (k : GoB l d mi csF mc ms cu su (pc + 1) ls (.ref x :: st) cs) : GoB l d mi csF mc ms cu su (pc) ls (st) cs := by
  intro p e R s m args below meth c Q g H locs lsA F hr hP hz hS hl
  exact lv_aload_n F.1 F.2.1 hd rfl (lgt_at hl hg) (k p e R s m args below meth c Q g H locs lsA F hr hP hz hS hl)
theorem GoB.istore_n {l : Launch} {d : Nat} {mi : MI} {csF : List CB} {mc ms cu su : Nat} {pc : Nat} {ls : List (Nat × Value)} {st : List Value} {cs : List CB} {kf : Fin 4} {x : Int32} {ls' : List (Nat × Value)} (hd : decode mi.2.2.1 pc = .ok (.istore_n kf, 1)) (hn : (kf : Nat) < mi.2.2.2.1) (hs : sto1 ls (kf : Nat) (.int x) = ls') (k : GoB l d mi csF mc ms cu su (pc + 1) ls' (st) cs) : GoB l d mi csF mc ms cu su (pc) ls (.int x :: st) cs := by
  intro p e R s m args below meth c Q g H locs lsA F hr hP hz hS hl
  subst hs
  exact lv_istore_n F.1 F.2.1 hd rfl hl hn (trL_sto1 g ls (kf : Nat) (.int x)) (fun lsA hl => k p e R s m args below meth c Q g H locs lsA F hr hP hz hS hl)
theorem GoB.iinc {l : Launch} {d : Nat} {mi : MI} {csF : List CB} {mc ms cu su : Nat} {pc : Nat} {ls : List (Nat × Value)} {st : List Value} {cs : List CB} {i : Nat} {n : Int} {x v : Int32} {ls' : List (Nat × Value)} (hd : decode mi.2.2.1 pc = .ok (.iinc i n, 3)) (hg : lgt ls i = some (.int x)) (hv : x + Int32.ofInt n = v) (hn : i < mi.2.2.2.1) (hs : sto1 ls i (.int v) = ls') (k : GoB l d mi csF mc ms cu su (pc + 3) ls' (st) cs) : GoB l d mi csF mc ms cu su (pc) ls (st) cs := by
  intro p e R s m args below meth c Q g H locs lsA F hr hP hz hS hl
  subst hs
  obtain ⟨q, hq⟩ := lgt_ix g hg
  exact lv_iinc F.1 F.2.1 hd hl hq hv hn (trL_sto1 g ls i (.int v)) (fun lsA hl => k p e R s m args below meth c Q g H locs lsA F hr hP hz hS hl)
theorem GoB.dup {l : Launch} {d : Nat} {mi : MI} {csF : List CB} {mc ms cu su : Nat} {pc : Nat} {ls : List (Nat × Value)} {st : List Value} {cs : List CB} {v : Value} (hd : decode mi.2.2.1 pc = .ok (.dup, 1)) (hc : v.category = 1) (k : GoB l d mi csF mc ms cu su (pc + 1) ls (v :: v :: st) cs) : GoB l d mi csF mc ms cu su (pc) ls (v :: st) cs := by
  intro p e R s m args below meth c Q g H locs lsA F hr hP hz hS hl
  exact lv_dup F.1 F.2.1 hd ((tr_cat g v).trans hc) (k p e R s m args below meth c Q g H locs lsA F hr hP hz hS hl)
theorem GoB.icmpge {l : Launch} {d : Nat} {mi : MI} {csF : List CB} {mc ms cu su : Nat} {pc : Nat} {ls : List (Nat × Value)} {st : List Value} {cs : List CB} {x y : Int32} {off : Int} {tgt : Nat} (hd : decode mi.2.2.1 pc = .ok (.if_icmp .ge off, 3)) (ht : (pc : Int) + off = (tgt : Int)) (kt : y ≤ x → GoB l d mi csF mc ms cu su (tgt) ls (st) cs) (kf : ¬ y ≤ x → GoB l d mi csF mc ms cu su (pc + 3) ls (st) cs) : GoB l d mi csF mc ms cu su (pc) ls (.int y :: .int x :: st) cs := by
  intro p e R s m args below meth c Q g H locs lsA F hr hP hz hS hl
  exact lv_icmp_ge F.1 F.2.1 hd ht (fun h => kt h p e R s m args below meth c Q g H locs lsA F hr hP hz hS hl) (fun h => kf h p e R s m args below meth c Q g H locs lsA F hr hP hz hS hl)
theorem GoB.goto {l : Launch} {d : Nat} {mi : MI} {csF : List CB} {mc ms cu su : Nat} {pc : Nat} {ls : List (Nat × Value)} {st : List Value} {cs : List CB} {off : Int} {tgt : Nat} (hd : decode mi.2.2.1 pc = .ok (.goto off, 3)) (ht : (pc : Int) + off = (tgt : Int)) (k : GoB l d mi csF mc ms cu su (tgt) ls (st) cs) : GoB l d mi csF mc ms cu su (pc) ls (st) cs := by
  intro p e R s m args below meth c Q g H locs lsA F hr hP hz hS hl
  exact lv_goto F.1 F.2.1 hd ht (k p e R s m args below meth c Q g H locs lsA F hr hP hz hS hl)
