section
variable {tx : Nat → Nat} {len : Nat}
theorem sg_mem : ∀ c, c < 256 → 1 ≤ sgS c → sgS c ≤ 5 → c ∈ [124, 38, 60, 61, 62, 43, 45, 42, 47, 37] ∧ c < 128 := by decide +kernel
theorem by_tk : ∀ c, c < 128 → vp_nar .byte ((Int32.toInt8 (nI c)).toInt32) = nI c := by decide +kernel
theorem PR.here {S : St} {p op : Nat} {TS : List (Nat × Nat)} (h : PR tx len S p op TS) (hp : p < len) : PR tx len (fset S 63 20 ((S.1 63 20) + 1)) (p + 1) op TS := ⟨h.1.here, h.2.1.same rfl rfl, hp, by have := h.2.2.2; omega⟩
theorem PR.lay {S : St} {p op : Nat} {TS : List (Nat × Nat)} (h : PR tx len S p op TS) (t : Nat × Nat) (hl : TS.length < p) : PR tx len (lay S TS.length t) p op (TS ++ [t]) := by
  refine ⟨?_, h.2.1.lay t, h.2.2.1, ?_⟩
  · rw [List.length_append]
    exact h.1.lay t
  · rw [List.length_append]
    exact hl
theorem le0 {f : Nat} (hf : f ≤ 120) : (0 : Int32) ≤ nI f := Int32.not_lt.mp (nI_pos (by omega))
theorem NX.down {lv p : Nat} (h : NX tx len (lv + 1) p) (hc : p < len → lv ≠ 3 → sgS (tx p) ≠ lv) : NX tx len lv p := fun hp => by
  obtain ⟨a1, a2, a3, a4⟩ := h hp
  have := hc hp
  refine ⟨fun z => ?_, fun z => ?_, fun z => ?_, fun z => ?_⟩
  · by_cases e : lv = 5
    · exact e ▸ this (by omega)
    · exact a1 (by omega)
  · by_cases e : lv = 4
    · exact e ▸ this (by omega)
    · exact a2 (by omega)
  · by_cases e : lv = 2
    · exact e ▸ this (by omega)
    · exact a3 (by omega)
  · by_cases e : lv = 1
    · exact e ▸ this (by omega)
    · exact a4 (by omega)
theorem loop_go (hl : len ≤ 120) (htx : ∀ i, i < len → tx i < 256) {lv op : Nat} (h1 : 1 ≤ lv) (h5 : lv ≤ 5) (h3 : lv ≠ 3) {sub : St → Option St} {L : Nat → St → Option St}
    (hsub : ∀ p TS S, PR tx len S p op TS → RES tx len (lv + 1) p op TS S (sub S))
    (hF : ∀ n S, (0 : Int32) ≤ S.1 63 21 → L (n + 1) S = some S)
    (hS : ∀ n S p TS, PR tx len S p op TS → p < len → sgS (tx p) = lv → L (n + 1) S = (sub (fset S 63 20 ((S.1 63 20) + 1))).bind (fun r => (F_X12_addStep (nI (tx p)) (0 : Int32) r).bind (L n)))
    (hE : ∀ n S p TS, PR tx len S p op TS → (p < len → sgS (tx p) ≠ lv) → L (n + 1) S = some S)
    {p0 : Nat} {TS0 : List (Nat × Nat)} {S0 : St} (hT : TS0.length ≤ p0) : ∀ (n p : Nat) (ts : List (Nat × Nat)) (S : St), AgU S0 S → PR tx len S p op (TS0 ++ ts) → p0 < p → ts.length ≤ p - p0 → (∀ t ∈ ts, okT t) → (∀ h, bal ts h = some (h + 1)) → GoodP tx len lv p0 op p ts → NX tx len (lv + 1) p → len - p + 1 < n → RES tx len lv p0 op TS0 S0 (L n S)
  | 0, p, ts, S, _, _, _, _, _, _, _, _, hn => absurd hn (Nat.not_lt_zero _)
  | n + 1, p, ts, S, hag, hpr, hp, htl, hok, hbal, hg, hnx, hn => by
    by_cases c : p < len ∧ sgS (tx p) = lv
    · rw [hS n S p _ hpr c.1 c.2]
      obtain ⟨S1, e1, g1, h⟩ := hsub (p + 1) (TS0 ++ ts) (fset S 63 20 ((S.1 63 20) + 1)) (hpr.here c.1)
      have hm := sg_mem (tx p) (htx p c.1) (by omega) (by omega)
      have hT2 : (TS0 ++ ts).length = TS0.length + ts.length := List.length_append
      rw [e1]
      show RES tx len lv p0 op TS0 S0 ((F_X12_addStep (nI (tx p)) (0 : Int32) S1).bind (L n))
      rcases h with ⟨p1, ts2, b1, b2, b3, b4, b5, b6, b7⟩ | ⟨f, p1, la, b1, b2, b3, b4, b5, b6⟩
      · have hT3 : ((TS0 ++ ts) ++ ts2).length = TS0.length + ts.length + ts2.length := by rw [List.length_append, hT2]
        have hp1 : p1 ≤ len := b1.2.2.1
        have hpl : p ≤ len := hpr.2.2.1
        rw [lay_eq b1.1 (by omega) (x1 := nI (tx p)) (x2 := 0) (t := (4, tx p)) (by_tk _ hm.2) rfl]
        show RES tx len lv p0 op TS0 S0 (L n (lay S1 _ _))
        have eT : TS0 ++ (ts ++ (ts2 ++ [(4, tx p)])) = ((TS0 ++ ts) ++ ts2) ++ [(4, tx p)] := by rw [List.append_assoc, List.append_assoc]
        have pr : PR tx len (lay S1 ((TS0 ++ ts) ++ ts2).length (4, tx p)) p1 op (TS0 ++ (ts ++ (ts2 ++ [(4, tx p)]))) := by
          rw [eT]
          exact b1.lay _ (by omega)
        have hl4 : (ts ++ (ts2 ++ [(4, tx p)])).length = ts.length + (ts2.length + 1) := by rw [List.length_append, List.length_append]; rfl
        refine loop_go hl htx h1 h5 h3 hsub hF hS hE hT n p1 _ _ (hag.trans ((here_ag S _).trans (g1.trans (lay_ag S1 _ _)))) pr (by omega) (by omega) (fun t ht => ?_) (fun h => ?_) (GoodP.join (k := lv + 1) (k1 := lv) (by rw [if_neg h3]) hg b6 c.1 rfl c.2 h1 h5 (by rw [if_neg h3]) (htx p c.1) (by omega)) b7 (by omega)
        · rcases List.mem_append.mp ht with q | q
          · exact hok t q
          · rcases List.mem_append.mp q with q | q
            · exact b4 t q
            · rcases List.mem_cons.mp q with q | q
              · rw [q]; exact Or.inr (Or.inr (Or.inr (Or.inr ⟨rfl, hm.1⟩)))
              · cases q
        · rw [bal_app, hbal]
          show bal (ts2 ++ [(4, tx p)]) (h + 1) = _
          rw [bal_app, b5]
          show (if 2 ≤ h + 1 + 1 then some (h + 1 + 1 - 1) else none) = _
          rw [if_pos (by omega)]
          rfl
      · have hpl : p ≤ len := hpr.2.2.1
        rw [lay_eq b1 (by omega) (x1 := nI (tx p)) (x2 := 0) (t := (4, tx p)) (by_tk _ hm.2) rfl]
        show RES tx len lv p0 op TS0 S0 (L n (lay S1 la _))
        obtain ⟨k, hk⟩ : ∃ k, n = k + 1 := ⟨n - 1, by omega⟩
        rw [hk, hF k _ (by show (0 : Int32) ≤ S1.1 63 21; rw [b1.2.2.1]; exact le0 (by omega))]
        exact ⟨_, rfl, hag.trans ((here_ag S _).trans (g1.trans (lay_ag S1 _ _))), Or.inr ⟨f, p1, la + 1, b1.lay _, b2, b3, by omega, by omega, BadP.join (k := lv + 1) (k1 := lv) (by rw [if_neg h3]) hg b6 c.1 rfl c.2 h1 h5 (by rw [if_neg h3]) (htx p c.1)⟩⟩
    · have hc : p < len → sgS (tx p) ≠ lv := fun z e => c ⟨z, e⟩
      rw [hE n S p _ hpr hc]
      exact ⟨S, rfl, hag, Or.inl ⟨p, ts, hpr, hp, htl, hok, hbal, hg, hnx.down (fun z _ => hc z)⟩⟩
theorem lev_go (hl : len ≤ 120) (htx : ∀ i, i < len → tx i < 256) {lv op N : Nat} (hN : 130 ≤ N) (h1 : 1 ≤ lv) (h5 : lv ≤ 5) (h3 : lv ≠ 3) {sub : St → Option St} {L : Nat → St → Option St}
    (hsub : ∀ p TS S, PR tx len S p op TS → RES tx len (lv + 1) p op TS S (sub S))
    (hF : ∀ n S, (0 : Int32) ≤ S.1 63 21 → L (n + 1) S = some S)
    (hS : ∀ n S p TS, PR tx len S p op TS → p < len → sgS (tx p) = lv → L (n + 1) S = (sub (fset S 63 20 ((S.1 63 20) + 1))).bind (fun r => (F_X12_addStep (nI (tx p)) (0 : Int32) r).bind (L n)))
    (hE : ∀ n S p TS, PR tx len S p op TS → (p < len → sgS (tx p) ≠ lv) → L (n + 1) S = some S)
    (p : Nat) (TS : List (Nat × Nat)) (S : St) (h : PR tx len S p op TS) : RES tx len lv p op TS S ((sub S).bind (L N)) := by
  obtain ⟨S1, e1, g1, h'⟩ := hsub p TS S h
  rw [e1]
  show RES tx len lv p op TS S (L N S1)
  rcases h' with ⟨p1, ts2, b1, b2, b3, b4, b5, b6, b7⟩ | ⟨f, p1, la, b1, b2, b3, b4, b5, b6⟩
  · exact loop_go hl htx h1 h5 h3 hsub hF hS hE h.2.2.2 N p1 ts2 S1 g1 b1 b2 b3 b4 b5 (b6.weak (by omega) (by omega) (fun a _ => by omega)) b7 (by omega)
  · obtain ⟨k, hk⟩ : ∃ k, N = k + 1 := ⟨N - 1, by omega⟩
    rw [hk, hF k _ (by rw [b1.2.2.1]; exact le0 (by omega))]
    exact ⟨S1, rfl, g1, Or.inr ⟨f, p1, la, b1, b2, b3, b4, b5, b6.weak (by omega) (by omega)⟩⟩
theorem sg5 : ∀ c, c < 256 → (sgS c = 5 ↔ (c = 42 ∨ c = 47 ∨ c = 37)) := by decide +kernel
theorem sg4 : ∀ c, c < 256 → (sgS c = 4 ↔ (c = 43 ∨ c = 45)) := by decide +kernel
theorem sg3 : ∀ c, c < 256 → (sgS c = 3 ↔ (c = 60 ∨ c = 61 ∨ c = 62)) := by decide +kernel
theorem sg2 : ∀ c, c < 256 → (sgS c = 2 ↔ c = 38) := by decide +kernel
theorem sg1 : ∀ c, c < 256 → (sgS c = 1 ↔ c = 124) := by decide +kernel
theorem lkV_in {p : Nat} (hp : p < len) (h : tx p < 128) : lkV tx len p = nI (tx p) := by
  unfold lkV
  rw [if_pos hp, (by_lo _ (by omega)).1 h]
theorem lkV_ne (htx : ∀ i, i < len → tx i < 256) {p k : Nat} (hk : k < 128) (h : p < len → tx p ≠ k) : ¬ lkV tx len p = nI k := fun z => by
  have := (lkV_eq htx hk).mp z
  exact h this.1 this.2
theorem product_ok (hl : len ≤ 120) (htx : ∀ i, i < len → tx i < 256) {op N : Nat} (hN : 130 ≤ N) {r : St → Option St} (hr : ∀ p TS S, PR tx len S p op TS → RES tx len 6 p op TS S (r S)) (p : Nat) (TS : List (Nat × Nat)) (S : St) (h : PR tx len S p op TS) : RES tx len 5 p op TS S (F_X12_product r N S) := by
  refine lev_go (lv := 5) hl htx hN (by decide) (by decide) (by decide) hr (L := F_X12_product_4 r) (fun n S z => ?_) (fun n S p TS h hp hc => ?_) (fun n S p TS h hc => ?_) p TS S h
  · show (if 0 ≤ (S.1 63 21) then (some S) else _) = _
    rw [if_pos z]
  · have lk := look_eq hl h.1 h.2.2.1
    have lv := lkV_in hp (sg_mem _ (htx p hp) (by omega) (by omega)).2
    have X : F_X12_product_38 r (F_X12_product_4 r n) S = (r (fset S 63 20 ((S.1 63 20) + 1))).bind (fun x => (F_X12_addStep (nI (tx p)) (0 : Int32) x).bind (F_X12_product_4 r n)) := by
      unfold F_X12_product_38
      rw [lk, lv]
      rfl
    have e0 : ¬ (0 : Int32) ≤ S.1 63 21 := by rw [h.1.2.2.1]; decide
    show (if 0 ≤ (S.1 63 21) then (some S) else ((F_X12_look S).bind (fun r_12 => if r_12.1 = 42 then (F_X12_product_38 r (F_X12_product_4 r n) r_12.2) else ((F_X12_look r_12.2).bind (fun r_21 => if r_21.1 = 47 then (F_X12_product_38 r (F_X12_product_4 r n) r_21.2) else ((F_X12_look r_21.2).bind (fun r_30 => if r_30.1 = 37 then (F_X12_product_38 r (F_X12_product_4 r n) r_30.2) else (some r_30.2)))))))) = _
    rw [if_neg e0]
    simp only [lk, Option.bind_some, X]
    rw [lv]
    rcases (sg5 _ (htx p hp)).mp hc with q | q | q
    · rw [q, if_pos (by decide)]
    · rw [q, if_neg (by decide), if_pos (by decide)]
    · rw [q, if_neg (by decide), if_neg (by decide), if_pos (by decide)]
  · have lk := look_eq hl h.1 h.2.2.1
    have e0 : ¬ (0 : Int32) ≤ S.1 63 21 := by rw [h.1.2.2.1]; decide
    show (if 0 ≤ (S.1 63 21) then (some S) else ((F_X12_look S).bind (fun r_12 => if r_12.1 = 42 then (F_X12_product_38 r (F_X12_product_4 r n) r_12.2) else ((F_X12_look r_12.2).bind (fun r_21 => if r_21.1 = 47 then (F_X12_product_38 r (F_X12_product_4 r n) r_21.2) else ((F_X12_look r_21.2).bind (fun r_30 => if r_30.1 = 37 then (F_X12_product_38 r (F_X12_product_4 r n) r_30.2) else (some r_30.2)))))))) = _
    rw [if_neg e0]
    simp only [lk, Option.bind_some]
    rw [if_neg (show ¬ lkV tx len p = 42 from lkV_ne htx (k := 42) (by decide) (fun hp z => hc hp (by rw [z]; decide))), if_neg (show ¬ lkV tx len p = 47 from lkV_ne htx (k := 47) (by decide) (fun hp z => hc hp (by rw [z]; decide))), if_neg (show ¬ lkV tx len p = 37 from lkV_ne htx (k := 37) (by decide) (fun hp z => hc hp (by rw [z]; decide)))]
theorem sum_ok (hl : len ≤ 120) (htx : ∀ i, i < len → tx i < 256) {op N : Nat} (hN : 130 ≤ N) {r : St → Option St} (hr : ∀ p TS S, PR tx len S p op TS → RES tx len 6 p op TS S (r S)) (p : Nat) (TS : List (Nat × Nat)) (S : St) (h : PR tx len S p op TS) : RES tx len 4 p op TS S (F_X12_sum r N S) := by
  refine lev_go (lv := 4) hl htx hN (by decide) (by decide) (by decide) (product_ok hl htx hN hr) (L := F_X12_sum_4 r N) (fun n S z => ?_) (fun n S p TS h hp hc => ?_) (fun n S p TS h hc => ?_) p TS S h
  · show (if 0 ≤ (S.1 63 21) then (some S) else _) = _
    rw [if_pos z]
  · have lk := look_eq hl h.1 h.2.2.1
    have lv := lkV_in hp (sg_mem _ (htx p hp) (by omega) (by omega)).2
    have X : F_X12_sum_29 r N (F_X12_sum_4 r N n) S = (F_X12_product r N (fset S 63 20 ((S.1 63 20) + 1))).bind (fun x => (F_X12_addStep (nI (tx p)) (0 : Int32) x).bind (F_X12_sum_4 r N n)) := by
      unfold F_X12_sum_29
      rw [lk, lv]
      rfl
    have e0 : ¬ (0 : Int32) ≤ S.1 63 21 := by rw [h.1.2.2.1]; decide
    show (if 0 ≤ (S.1 63 21) then (some S) else ((F_X12_look S).bind (fun r_12 => if r_12.1 = 43 then (F_X12_sum_29 r N (F_X12_sum_4 r N n) r_12.2) else ((F_X12_look r_12.2).bind (fun r_21 => if r_21.1 = 45 then (F_X12_sum_29 r N (F_X12_sum_4 r N n) r_21.2) else (some r_21.2)))))) = _
    rw [if_neg e0]
    simp only [lk, Option.bind_some, X]
    rw [lv]
    rcases (sg4 _ (htx p hp)).mp hc with q | q
    · rw [q, if_pos (by decide)]
    · rw [q, if_neg (by decide), if_pos (by decide)]
  · have lk := look_eq hl h.1 h.2.2.1
    have e0 : ¬ (0 : Int32) ≤ S.1 63 21 := by rw [h.1.2.2.1]; decide
    show (if 0 ≤ (S.1 63 21) then (some S) else ((F_X12_look S).bind (fun r_12 => if r_12.1 = 43 then (F_X12_sum_29 r N (F_X12_sum_4 r N n) r_12.2) else ((F_X12_look r_12.2).bind (fun r_21 => if r_21.1 = 45 then (F_X12_sum_29 r N (F_X12_sum_4 r N n) r_21.2) else (some r_21.2)))))) = _
    rw [if_neg e0]
    simp only [lk, Option.bind_some]
    rw [if_neg (show ¬ lkV tx len p = 43 from lkV_ne htx (k := 43) (by decide) (fun hp z => hc hp (by rw [z]; decide))), if_neg (show ¬ lkV tx len p = 45 from lkV_ne htx (k := 45) (by decide) (fun hp z => hc hp (by rw [z]; decide)))]
theorem compared_ok (hl : len ≤ 120) (htx : ∀ i, i < len → tx i < 256) {op N : Nat} (hN : 130 ≤ N) {r : St → Option St} (hr : ∀ p TS S, PR tx len S p op TS → RES tx len 6 p op TS S (r S)) (p : Nat) (TS : List (Nat × Nat)) (S : St) (h : PR tx len S p op TS) : RES tx len 3 p op TS S (F_X12_compared r N S) := by
  obtain ⟨S1, e1, g1, h'⟩ := sum_ok hl htx hN hr p TS S h
  have hTp := h.2.2.2
  have hpl := h.2.2.1
  unfold F_X12_compared
  rw [e1]
  rcases h' with ⟨p1, ts, b1, b2, b3, b4, b5, b6, b7⟩ | ⟨f, p1, la, b1, b2, b3, b4, b5, b6⟩
  · have lk := look_eq hl b1.1 b1.2.2.1
    have hp1 := b1.2.2.1
    have e0 : ¬ (0 : Int32) ≤ S1.1 63 21 := by rw [b1.1.2.2.1]; decide
    simp only [lk, Option.bind_some]
    rw [if_neg e0]
    by_cases c : p1 < len ∧ sgS (tx p1) = 3
    · have hm := sg_mem (tx p1) (htx p1 c.1) (by omega) (by omega)
      have lv := lkV_in c.1 hm.2
      have X : RES tx len 3 p op TS S ((F_X12_sum r N (fset S1 63 20 ((S1.1 63 20) + 1))).bind (fun r_46 => (F_X12_addStep (lkV tx len p1) (0 : Int32) r_46).bind (fun r_52 => some r_52))) := by
        obtain ⟨S2, e2, g2, h2⟩ := sum_ok hl htx hN hr (p1 + 1) (TS ++ ts) (fset S1 63 20 ((S1.1 63 20) + 1)) (b1.here c.1)
        have hT2 : (TS ++ ts).length = TS.length + ts.length := List.length_append
        rw [e2, lv]
        show RES tx len 3 p op TS S ((F_X12_addStep (nI (tx p1)) (0 : Int32) S2).bind (fun r_52 => some r_52))
        rcases h2 with ⟨p2, ts2, d1, d2, d3, d4, d5, d6, d7⟩ | ⟨f, p2, la, d1, d2, d3, d4, d5, d6⟩
        · have hT3 : ((TS ++ ts) ++ ts2).length = TS.length + ts.length + ts2.length := by rw [List.length_append, hT2]
          have hp2 : p2 ≤ len := d1.2.2.1
          rw [lay_eq d1.1 (by omega) (x1 := nI (tx p1)) (x2 := 0) (t := (4, tx p1)) (by_tk _ hm.2) rfl]
          have eT : TS ++ (ts ++ (ts2 ++ [(4, tx p1)])) = ((TS ++ ts) ++ ts2) ++ [(4, tx p1)] := by rw [List.append_assoc, List.append_assoc]
          have pr : PR tx len (lay S2 ((TS ++ ts) ++ ts2).length (4, tx p1)) p2 op (TS ++ (ts ++ (ts2 ++ [(4, tx p1)]))) := by
            rw [eT]
            exact d1.lay _ (by omega)
          have hl4 : (ts ++ (ts2 ++ [(4, tx p1)])).length = ts.length + (ts2.length + 1) := by rw [List.length_append, List.length_append]; rfl
          refine ⟨_, rfl, g1.trans ((here_ag S1 _).trans (g2.trans (lay_ag S2 _ _))), Or.inl ⟨p2, _, pr, by omega, by omega, fun t ht => ?_, fun h => ?_, GoodP.join (k := 4) (k1 := 4) rfl b6 d6 c.1 rfl c.2 (by decide) (by decide) rfl (htx p1 c.1) (by omega), d7.down (fun _ z => absurd rfl z)⟩⟩
          · rcases List.mem_append.mp ht with q | q
            · exact b4 t q
            · rcases List.mem_append.mp q with q | q
              · exact d4 t q
              · rcases List.mem_cons.mp q with q | q
                · rw [q]; exact Or.inr (Or.inr (Or.inr (Or.inr ⟨rfl, hm.1⟩)))
                · cases q
          · rw [bal_app, b5]
            show bal (ts2 ++ [(4, tx p1)]) (h + 1) = _
            rw [bal_app, d5]
            show (if 2 ≤ h + 1 + 1 then some (h + 1 + 1 - 1) else none) = _
            rw [if_pos (by omega)]
            rfl
        · rw [lay_eq d1 (by omega) (x1 := nI (tx p1)) (x2 := 0) (t := (4, tx p1)) (by_tk _ hm.2) rfl]
          exact ⟨_, rfl, g1.trans ((here_ag S1 _).trans (g2.trans (lay_ag S2 _ _))), Or.inr ⟨f, p2, la + 1, d1.lay _, d2, d3, by omega, by omega, BadP.join (k := 4) (k1 := 4) rfl b6 d6 c.1 rfl c.2 (by decide) (by decide) rfl (htx p1 c.1)⟩⟩
      by_cases c1 : lkV tx len p1 = 60
      · rw [if_pos c1]; exact X
      · rw [if_neg c1]
        by_cases c2 : lkV tx len p1 = 61
        · rw [if_pos c2]; exact X
        · rw [if_neg c2]
          by_cases c3 : lkV tx len p1 = 62
          · rw [if_pos c3]; exact X
          · exfalso
            rw [lv] at c1 c2 c3
            rcases (sg3 _ (htx p1 c.1)).mp c.2 with q | q | q
            · exact c1 (by rw [q]; rfl)
            · exact c2 (by rw [q]; rfl)
            · exact c3 (by rw [q]; rfl)
    · have hc : p1 < len → sgS (tx p1) ≠ 3 := fun z e => c ⟨z, e⟩
      rw [if_neg (show ¬ lkV tx len p1 = 60 from lkV_ne htx (k := 60) (by decide) (fun hp z => hc hp (by rw [z]; decide))), if_neg (show ¬ lkV tx len p1 = 61 from lkV_ne htx (k := 61) (by decide) (fun hp z => hc hp (by rw [z]; decide))), if_neg (show ¬ lkV tx len p1 = 62 from lkV_ne htx (k := 62) (by decide) (fun hp z => hc hp (by rw [z]; decide)))]
      exact ⟨S1, rfl, g1, Or.inl ⟨p1, ts, b1, b2, b3, b4, b5, b6.weak (by decide) (by decide) (fun _ z => absurd z c), b7.down (fun _ z => absurd rfl z)⟩⟩
  · have lk := look_eq hl b1 b2
    simp only [lk, Option.bind_some]
    rw [if_pos (show (0 : Int32) ≤ S1.1 63 21 by rw [b1.2.2.1]; exact le0 (by omega))]
    exact ⟨S1, rfl, g1, Or.inr ⟨f, p1, la, b1, b2, b3, b4, b5, b6.weak (by decide) (by decide)⟩⟩
theorem both_ok (hl : len ≤ 120) (htx : ∀ i, i < len → tx i < 256) {op N : Nat} (hN : 130 ≤ N) {r : St → Option St} (hr : ∀ p TS S, PR tx len S p op TS → RES tx len 6 p op TS S (r S)) (p : Nat) (TS : List (Nat × Nat)) (S : St) (h : PR tx len S p op TS) : RES tx len 2 p op TS S (F_X12_both r N S) := by
  refine lev_go (lv := 2) hl htx hN (by decide) (by decide) (by decide) (compared_ok hl htx hN hr) (L := F_X12_both_4 r N) (fun n S z => ?_) (fun n S p TS h hp hc => ?_) (fun n S p TS h hc => ?_) p TS S h
  · show (if 0 ≤ (S.1 63 21) then (some S) else _) = _
    rw [if_pos z]
  · have lk := look_eq hl h.1 h.2.2.1
    have lv := lkV_in hp (sg_mem _ (htx p hp) (by omega) (by omega)).2
    have e0 : ¬ (0 : Int32) ≤ S.1 63 21 := by rw [h.1.2.2.1]; decide
    show (if 0 ≤ (S.1 63 21) then (some S) else ((F_X12_look S).bind (fun r_12 => if r_12.1 = 38 then (let S27 := fset r_12.2 63 20 ((r_12.2.1 63 20) + 1); (F_X12_compared r N S27).bind (fun r_31 => (F_X12_addStep (38 : Int32) (0 : Int32) r_31).bind (fun r_38 => (F_X12_both_4 r N n) r_38))) else (some r_12.2)))) = _
    rw [if_neg e0]
    have q := (sg2 _ (htx p hp)).mp hc
    simp only [lk, Option.bind_some]
    rw [lv, q, if_pos (by decide)]
    rfl
  · have lk := look_eq hl h.1 h.2.2.1
    have e0 : ¬ (0 : Int32) ≤ S.1 63 21 := by rw [h.1.2.2.1]; decide
    show (if 0 ≤ (S.1 63 21) then (some S) else ((F_X12_look S).bind (fun r_12 => if r_12.1 = 38 then (let S27 := fset r_12.2 63 20 ((r_12.2.1 63 20) + 1); (F_X12_compared r N S27).bind (fun r_31 => (F_X12_addStep (38 : Int32) (0 : Int32) r_31).bind (fun r_38 => (F_X12_both_4 r N n) r_38))) else (some r_12.2)))) = _
    rw [if_neg e0]
    simp only [lk, Option.bind_some]
    rw [if_neg (show ¬ lkV tx len p = 38 from lkV_ne htx (k := 38) (by decide) (fun hp z => hc hp (by rw [z]; decide)))]
theorem either_ok (hl : len ≤ 120) (htx : ∀ i, i < len → tx i < 256) {op N : Nat} (hN : 130 ≤ N) {r : St → Option St} (hr : ∀ p TS S, PR tx len S p op TS → RES tx len 6 p op TS S (r S)) (p : Nat) (TS : List (Nat × Nat)) (S : St) (h : PR tx len S p op TS) : RES tx len 1 p op TS S (F_X12_either r N S) := by
  refine lev_go (lv := 1) hl htx hN (by decide) (by decide) (by decide) (both_ok hl htx hN hr) (L := F_X12_either_4 r N) (fun n S z => ?_) (fun n S p TS h hp hc => ?_) (fun n S p TS h hc => ?_) p TS S h
  · show (if 0 ≤ (S.1 63 21) then (some S) else _) = _
    rw [if_pos z]
  · have lk := look_eq hl h.1 h.2.2.1
    have lv := lkV_in hp (sg_mem _ (htx p hp) (by omega) (by omega)).2
    have e0 : ¬ (0 : Int32) ≤ S.1 63 21 := by rw [h.1.2.2.1]; decide
    show (if 0 ≤ (S.1 63 21) then (some S) else ((F_X12_look S).bind (fun r_12 => if r_12.1 = 124 then (let S27 := fset r_12.2 63 20 ((r_12.2.1 63 20) + 1); (F_X12_both r N S27).bind (fun r_31 => (F_X12_addStep (124 : Int32) (0 : Int32) r_31).bind (fun r_38 => (F_X12_either_4 r N n) r_38))) else (some r_12.2)))) = _
    rw [if_neg e0]
    have q := (sg1 _ (htx p hp)).mp hc
    simp only [lk, Option.bind_some]
    rw [lv, q, if_pos (by decide)]
    rfl
  · have lk := look_eq hl h.1 h.2.2.1
    have e0 : ¬ (0 : Int32) ≤ S.1 63 21 := by rw [h.1.2.2.1]; decide
    show (if 0 ≤ (S.1 63 21) then (some S) else ((F_X12_look S).bind (fun r_12 => if r_12.1 = 124 then (let S27 := fset r_12.2 63 20 ((r_12.2.1 63 20) + 1); (F_X12_both r N S27).bind (fun r_31 => (F_X12_addStep (124 : Int32) (0 : Int32) r_31).bind (fun r_38 => (F_X12_either_4 r N n) r_38))) else (some r_12.2)))) = _
    rw [if_neg e0]
    simp only [lk, Option.bind_some]
    rw [if_neg (show ¬ lkV tx len p = 124 from lkV_ne htx (k := 124) (by decide) (fun hp z => hc hp (by rw [z]; decide)))]
end
