/-- WHAT IS LEFT, a statement on pure functions alone: the law's loop, from the two fresh systems, comes to its end with 1 -/
def PureLaw : Prop := ∀ (L : Nat) (xs : Nat → Int32), L ≤ 384 → ∃ (N n : Nat) (S' : St), F_L_law_18 L xs N n 0 S0 = some (1, S')
theorem known_all {s : State} {args : Array Value} (hg : ∀ w ∈ gTs, w.before args s = true) : ∃ (dC : Nat → ClassId) (dI : Nat → Nat → Nat), ∀ (k : Nat) (q : vw_C), vwCl[k]? = some q → u_Kn s q.1 q.2.1 q.2.2 (dC k) (dI k) := by
  have h : ∀ k : Nat, ∃ x : ClassId × (Nat → Nat), ∀ q : vw_C, vwCl[k]? = some q → u_Kn s q.1 q.2.1 q.2.2 x.1 x.2 := by
    intro k
    by_cases hk : k < 13
    · rcases (show k = 0 ∨ k = 1 ∨ k = 2 ∨ k = 3 ∨ k = 4 ∨ k = 5 ∨ k = 6 ∨ k = 7 ∨ k = 8 ∨ k = 9 ∨ k = 10 ∨ k = 11 ∨ k = 12 by omega) with rfl | rfl | rfl | rfl | rfl | rfl | rfl | rfl | rfl | rfl | rfl | rfl | rfl
      · obtain ⟨c, i, h⟩ := u_known hg iw_X0 (hg _ is_X0); exact ⟨(c, i), fun q hq => by cases hq; exact h⟩
      · obtain ⟨c, i, h⟩ := u_known hg iw_X1 (hg _ is_X1); exact ⟨(c, i), fun q hq => by cases hq; exact h⟩
      · obtain ⟨c, i, h⟩ := u_known hg iw_X2 (hg _ is_X2); exact ⟨(c, i), fun q hq => by cases hq; exact h⟩
      · obtain ⟨c, i, h⟩ := u_known hg iw_X3 (hg _ is_X3); exact ⟨(c, i), fun q hq => by cases hq; exact h⟩
      · obtain ⟨c, i, h⟩ := u_known hg iw_X4 (hg _ is_X4); exact ⟨(c, i), fun q hq => by cases hq; exact h⟩
      · obtain ⟨c, i, h⟩ := u_known hg iw_X5 (hg _ is_X5); exact ⟨(c, i), fun q hq => by cases hq; exact h⟩
      · obtain ⟨c, i, h⟩ := u_known hg iw_X6 (hg _ is_X6); exact ⟨(c, i), fun q hq => by cases hq; exact h⟩
      · obtain ⟨c, i, h⟩ := u_known hg iw_X7 (hg _ is_X7); exact ⟨(c, i), fun q hq => by cases hq; exact h⟩
      · obtain ⟨c, i, h⟩ := u_known hg iw_X8 (hg _ is_X8); exact ⟨(c, i), fun q hq => by cases hq; exact h⟩
      · obtain ⟨c, i, h⟩ := u_known hg iw_X9 (hg _ is_X9); exact ⟨(c, i), fun q hq => by cases hq; exact h⟩
      · obtain ⟨c, i, h⟩ := u_known hg iw_X10 (hg _ is_X10); exact ⟨(c, i), fun q hq => by cases hq; exact h⟩
      · obtain ⟨c, i, h⟩ := u_known hg iw_X11 (hg _ is_X11); exact ⟨(c, i), fun q hq => by cases hq; exact h⟩
      · obtain ⟨c, i, h⟩ := u_known hg iw_X12 (hg _ is_X12); exact ⟨(c, i), fun q hq => by cases hq; exact h⟩
    · exact ⟨(0, fun _ => 0), fun q hq => by rw [List.getElem?_eq_none (show vwCl.length ≤ k by show 13 ≤ k; omega)] at hq; cases hq⟩
  exact ⟨fun k => (Classical.choose (h k)).1, fun k => (Classical.choose (h k)).2, fun k q hq => Classical.choose_spec (h k) q hq⟩
theorem row_of {s : State} {args : Array Value} {ty : FieldType} (h : (Cond.arrayClass ty).before args s = true) : ∃ cA : ClassId, ArrOfT s cA ty ∧ s.vm.findClass ("[" ++ ty.toString) = some cA := by
  obtain ⟨c, k, comp, h1, h2, h3⟩ := Cond.arrayClass_spec h
  exact ⟨c, fun n z => ⟨fun q hq => (by cases hq), k, h2, comp, h3⟩, h1⟩
theorem rows_all {s : State} {args : Array Value} (hg : ∀ w ∈ gTs, w.before args s = true) (ho : va_AO "WhoPrompts$Shelf" s) : ∃ ids : Nat → ClassId, ∀ (k : Nat) (q : ClassId × FieldType), ([(ids 0, .int), (ids 1, .byte), (ids 2, .short), (ids 3, .boolean), (ids 4, .long), (ids 5, .object "WhoPrompts$Shelf")] : List (ClassId × FieldType))[k]? = some q → ArrOfT s q.1 q.2 ∧ va_RA s q.1 q.2 := by
  obtain ⟨c0, a0, b0⟩ := row_of (hg _ aw_int)
  obtain ⟨c1, a1, b1⟩ := row_of (hg _ aw_byte)
  obtain ⟨c2, a2, b2⟩ := row_of (hg _ aw_short)
  obtain ⟨c3, a3, b3⟩ := row_of (hg _ aw_boolean)
  obtain ⟨c4, a4, b4⟩ := row_of (hg _ aw_long)
  obtain ⟨comp, c5, k5, f1, f2, f3, f4, f5⟩ := Cond.arrayOver_spec ho
  refine ⟨fun k => if k = 0 then c0 else if k = 1 then c1 else if k = 2 then c2 else if k = 3 then c3 else if k = 4 then c4 else c5, ?_⟩
  intro k q hq
  match k, hq with
  | 0, hq => cases hq; exact ⟨a0, b0⟩
  | 1, hq => cases hq; exact ⟨a1, b1⟩
  | 2, hq => cases hq; exact ⟨a2, b2⟩
  | 3, hq => cases hq; exact ⟨a3, b3⟩
  | 4, hq => cases hq; exact ⟨a4, b4⟩
  | 5, hq => cases hq; exact ⟨fun n z => ⟨fun q hq => (by cases hq), k5, f3, comp, f4⟩, k5, comp, f3, f4, f1, f5⟩
  | k + 6, hq => simp at hq
theorem lkA : Cond.methodLink RL 9 yX11_init ∈ gTs := gt_mem 20 (by decide +kernel) (by decide +kernel)
theorem lkB : Cond.methodLink RL 12 yX12_init ∈ gTs := gt_mem 954 (by decide +kernel) (by decide +kernel)
theorem ecs_0 : cs_0 = ([] : List CB) ++ [.inl (11, [.null, .null, .int 0, .null, .null, .null, .null, .null, .null, .null, .null, .null, .null])] := rfl
set_option maxRecDepth 100000 in
theorem ecs_63 : cs_37 = cs_36 ++ [.inl (12, [.int 0, .int 0, .null, .null, .null, .null, .null, .null, .null, .null, .int 0, .int 0, .int 0, .int 0, .null, .null, .null, .null, .null, .int 0, .int 0, .int 0, .int 0, .int 0, .null, .null, .null, .null, .null, .null, .null, .null, .null, .int 0, .int 0, .null, .null, .null, .null, .int 0, .int 0, .null, .null, .null, .null, .null, .null, .null, .int 0, .int 0, .int 0, .int 0, .null, .int 0, .int 0, .int 0, .null, .int 0, .null, .null, .null, .null, .null])] := rfl
theorem eln_0 : cs_0.length = 0 + 1 := by decide +kernel
theorem eln_63 : cs_37.length = 63 + 1 := by decide +kernel
theorem elA : cs_36.length = 63 := by decide +kernel
set_option maxHeartbeats 4000000 in
set_option maxRecDepth 100000 in
theorem whole_start_open (hp : PureLaw) {p : Program} {e : Env} {s : State} {m : MethodId} {below : List Frame} {meth : Method} {c : Code} (l : Launch) {b L : Nat} {xs : Nat → Int32} (hL : L ≤ 384) (C0 : lw_At p s m meth c b L xs) : W p l e room_1 s m #[Value.ref b] below meth c s.heap [] 0 0 (lw_Z below #[Value.ref b] s) (entryFrame m ([Value.ref b] : List Value).toArray 4) := by
  obtain ⟨hx, hb, hr, hml, hown, hts, hX, hbl, hlocks, hgv⟩ := id C0
  have hg : ∀ w ∈ gTs, w.before #[Value.ref b] s = true := fun w h => hts w (List.mem_filter.mp h).1
  have hAO : va_AO "WhoPrompts$Shelf" s := hts _ over_in
  have hNW : NW s := fun q hq => va_Nw.of rfl (hts _ (nest_in q hq))
  obtain ⟨dC, dI, hKc⟩ := known_all hg
  obtain ⟨ids, hids⟩ := rows_all hg hAO
  have hout : ∀ a : Nat, a < s.heap.size → ¬ s.heap.size ≤ a := fun a h => Nat.not_le.mpr h
  obtain ⟨tA, eA, hTA⟩ := tab_ABOVE (A := fun q => s.heap.size ≤ q) hgv hout
  obtain ⟨tO, eO, hTO⟩ := tab_OWN (A := fun q => s.heap.size ≤ q) hgv hout
  have hZA := va_Zof (A := fun q => s.heap.size ≤ q) (hts _ lays_A) (hg _ in_X0) eA hout
  have hZO := va_Zof (A := fun q => s.heap.size ≤ q) (hts _ lays_O) (hg _ in_X0) eO hout
  generalize hDe : ((dC, dI) : va_G) = D
  generalize hge : g1x D ids s.heap.size = g1
  have hgD : g_D g1 = D := by rw [← hge]; rfl
  have hgb : g_base g1 = s.heap.size := by rw [← hge]; rfl
  have hga : ∀ k, g_ad g1 k = g_base g1 + k := by rw [← hge]; intro k; rfl
  have hK : va_K D vwCl (gtys g1) s := by
    refine ⟨fun k q h => by rw [← hDe]; exact hKc k q h, ?_⟩
    rw [← hge]
    exact hids
  have hS : va_S (gA g1) s.heap s.heap [] := va_S.rf
  generalize hlo : ([] : List Loc) = locs at hS ⊢
  have hz : s.heap.size = g_base g1 + 0 := by rw [hgb]; rfl
  have hP : va_P D vwCl (WB g1 []) s.heap := fun k q h => by simp [WB] at h
  have hl := lv_entry ([.ref b]) (n := 4) (Nat.le_of_ble_eq_true rfl)
  rw [lg_entry_eq]
  generalize (lg_sl ([.ref b]) ++ List.replicate (4 - (lg_sl ([.ref b])).length) Slot.unset).toArray = ls at hl ⊢
  have hl : lv_has ls 4 [(0, .ref b)] := hl
  have hgk0 := hga 0
  have hKn0 := hK.1 11 _ rfl
  refine W.newcK hx hb hown (hg _ cl_L_7) (hg _ is_X11) (hg _ in_X11) rfl dL_law_0 (Nat.le_of_ble_eq_true rfl) (Nat.le_of_ble_eq_true rfl) hKn0.2.1 (hz.trans (hga 0).symm) fun H1 kC hkC e1 z1 o1 => ?_
  have hP1 : va_P D vwCl (WB g1 cs_0) H1 := by
    rw [ecs_0, WB_push]
    refine (hP.kept (fun j x hx => o1 x.1 (by have := (hP j x hx).lt; omega))).app (fun j x hx => ?_)
    have hz0 : j < 1 := (List.getElem?_eq_some_iff.mp hx).1
    rw [show j = 0 by omega] at hx
    cases hx
    refine ⟨_, (rfl : vwCl[11]? = some (RX11, TX11, 13)), ?_⟩
    have h9 : t_OB (g_ad g1 0) (D.1 11) 13 (D.2 11) H1 (vp_V [.null, .null, .int 0, .null, .null, .null, .null, .null, .null, .null, .null, .null, .null]) := (u_born tyX11 hg iw_X11 hKn0 hkC e1 tyX11_ok).to (by decide)
    exact h9
  have hS1 : va_S (gA g1) s.heap H1 locs := ⟨Nat.le_trans hS.1 (by omega), fun x h1 h2 => (o1 x (by have := hS.1; omega)).trans (hS.2.1 x h1 h2), hS.2.2⟩
  have hz1 : H1.size = g_base g1 + cs_0.length := by rw [z1, hgk0, eln_0]
  refine lv_dup hx hb dL_law_3 rfl ?_
  have M0 := GoB.met (as := [.ref 0]) g1 kX11_init rfl (Nat.le_of_ble_eq_true rfl) (ct_18 (l := l) 5)
  refine goB_call (g := g1) (va_runI (Ts := gTs) (As := []) (b := g_ad g1 0) (rest := [.ref (g_ad g1 0)]) ⟨hx, hb, hml, hown, hg⟩ M0
    ⟨callB_of 0 hg (good_gTs (wsM_in kX11_init)) rfl rfl rfl (hg _ kX11_init.1.2) (hg _ lkA) kX11_init.2.1 ⟨Nat.le_of_ble_eq_true rfl, Nat.le_of_ble_eq_true rfl⟩, rfl, hg _ iM_X11_init⟩
    ⟨PcB_blind g1 _ cs_0, PcB_at (by rw [hgD]; exact hK) ⟨hNW, hAO⟩ ⟨by rw [hgb]; exact Nat.le_refl _, hga⟩ (by rw [hgD]; exact hP1) hz1 hS1⟩ rfl rfl hl.1 rfl (lv_room (Nat.le_of_ble_eq_true rfl)) dL_law_4 ⟨Nat.le_of_ble_eq_true rfl, Nat.le_of_ble_eq_true rfl⟩) hS1 ?_
  intro H2 locs2 hP2 hz2 hS2
  rw [hgD] at hP2
  refine lv_astore_n (lv' := [(1, .ref (g_ad g1 0)), (0, .ref b)]) hx hb dL_law_7 rfl hl (by decide) rfl (fun ls hl => ?_)
  generalize H2 = H at hP2 hz2 hS2 ⊢
  have hP := hP2
  have hS := hS2
  have hz : H.size = g_ad g1 63 := by rw [hz2, hga, elA]
  generalize locs2 = locs at hS ⊢
  have hgk63 := hga 63
  have hKn63 := hK.1 12 _ rfl
  refine W.newcK hx hb hown (hg _ cl_L_10) (hg _ is_X12) (hg _ in_X12) rfl dL_law_8 (Nat.le_of_ble_eq_true rfl) (Nat.le_of_ble_eq_true rfl) hKn63.2.1 hz fun H1 kC hkC e1 z1 o1 => ?_
  have hP1 : va_P D vwCl (WB g1 cs_37) H1 := by
    rw [ecs_63, WB_push]
    refine (hP.kept (fun j x hx => o1 x.1 (by have := (hP j x hx).lt; omega))).app (fun j x hx => ?_)
    have hz0 : j < 1 := (List.getElem?_eq_some_iff.mp hx).1
    rw [show j = 0 by omega] at hx
    cases hx
    refine ⟨_, (rfl : vwCl[12]? = some (RX12, TX12, 63)), ?_⟩
    have h9 : t_OB (g_ad g1 63) (D.1 12) 63 (D.2 12) H1 (vp_V [.int 0, .int 0, .null, .null, .null, .null, .null, .null, .null, .null, .int 0, .int 0, .int 0, .int 0, .null, .null, .null, .null, .null, .int 0, .int 0, .int 0, .int 0, .int 0, .null, .null, .null, .null, .null, .null, .null, .null, .null, .int 0, .int 0, .null, .null, .null, .null, .int 0, .int 0, .null, .null, .null, .null, .null, .null, .null, .int 0, .int 0, .int 0, .int 0, .null, .int 0, .int 0, .int 0, .null, .int 0, .null, .null, .null, .null, .null]) := (u_born tyX12 hg iw_X12 hKn63 hkC e1 tyX12_ok).to (by decide)
    exact h9
  have hS1 : va_S (gA g1) s.heap H1 locs := ⟨Nat.le_trans hS.1 (by omega), fun x h1 h2 => (o1 x (by have := hS.1; omega)).trans (hS.2.1 x h1 h2), hS.2.2⟩
  have hz1 : H1.size = g_base g1 + cs_37.length := by rw [z1, hgk63, eln_63]
  refine lv_dup hx hb dL_law_11 rfl ?_
  have M63 := GoB.met (as := [.ref 63]) g1 kX12_init rfl (Nat.le_of_ble_eq_true rfl) (ct_19 (l := l) 5)
  refine goB_call (g := g1) (va_runI (Ts := gTs) (As := []) (b := g_ad g1 63) (rest := [.ref (g_ad g1 63)]) ⟨hx, hb, hml, hown, hg⟩ M63
    ⟨callB_of 0 hg (good_gTs (wsM_in kX12_init)) rfl rfl rfl (hg _ kX12_init.1.2) (hg _ lkB) kX12_init.2.1 ⟨Nat.le_of_ble_eq_true rfl, Nat.le_of_ble_eq_true rfl⟩, rfl, hg _ iM_X12_init⟩
    ⟨PcB_blind g1 _ cs_37, PcB_at (by rw [hgD]; exact hK) ⟨hNW, hAO⟩ ⟨by rw [hgb]; exact Nat.le_refl _, hga⟩ (by rw [hgD]; exact hP1) hz1 hS1⟩ rfl rfl hl.1 rfl (lv_room (Nat.le_of_ble_eq_true rfl)) dL_law_12 ⟨Nat.le_of_ble_eq_true rfl, Nat.le_of_ble_eq_true rfl⟩) hS1 ?_
  intro H2 locs2 hP2 hz2 hS2
  rw [hgD] at hP2
  refine lv_astore_n (lv' := [(2, .ref (g_ad g1 63)), (1, .ref (g_ad g1 0)), (0, .ref b)]) hx hb dL_law_15 rfl hl (by decide) rfl (fun ls hl => ?_)
  refine lv_iconst (v := 0) hx hb dL_law_16 (by decide) ?_
  refine lv_istore_n (lv' := [(3, .int 0), (2, .ref (g_ad g1 63)), (1, .ref (g_ad g1 0)), (0, .ref b)]) hx hb dL_law_17 rfl hl (by decide) rfl (fun ls hl => ?_)
  obtain ⟨N, n, S', hF⟩ := hp L xs hL
  have G := ok_L_law_18 (l := l) 0 L xs N n 0 S0 _ hF
  have hP3 : va_P D vwCl (Wd (g2x D ids s.heap.size tA tO b) S0) H2 := world_of (by rw [hge]; exact hP2)
  refine G p e room_1 s m #[Value.ref b] below meth c _ _ (lw_Z below #[Value.ref b] s) (g2x D ids s.heap.size tA tO b) H2 locs2 ls ⟨hx, hb, hml, hown, hg, ?_, ?_, Nat.le_refl _, ⟨Nat.le_of_ble_eq_true rfl, Nat.le_of_ble_eq_true rfl⟩, Nat.le_of_ble_eq_true rfl, Nat.le_of_ble_eq_true rfl⟩ ⟨hX, hbl, Nat.not_le.mpr hbl⟩ ?_ hP3 apart_of ?_ ?_
  · have hK2 := hK
    rw [← hge] at hK2
    exact hK2
  · exact ⟨hZA, hTA, hZO, hTO, va_Nw.of rfl (hts _ nest_part)⟩
  · intro pc lsA v S H' locs' hri hk hP' hS'
    obtain ⟨rfl, rfl⟩ := hk
    rcases hri with ⟨x, ty, hv, hd, hrt, hn⟩ | ⟨x, hv, -⟩ | ⟨hv, -⟩
    · cases hv
      refine va_forget (fun q hq => hS'.2.2 q hq) ?_
      refine W.widen (k := 600000) (n := 7302250) (Nat.le_of_ble_eq_true rfl) (Nat.le_of_ble_eq_true rfl) ?_
      exact lw_ret hx hb hr hlocks hd
    · cases hv
    · cases hv
  · rw [← hge] at hS2
    exact hS2
  · rw [← hge] at hl
    exact lv_sub hl [3, 2, 1, 0] rfl
