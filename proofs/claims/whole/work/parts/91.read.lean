section
variable {tx : Nat → Nat} {len : Nat}
theorem stl1 {P : List Nat} {m : List Int32} (hP : ∀ s ∈ P, 1 ≤ sgS s) : stl 1 P m (uB P) = ([], (P.reverse.map (fun s => - nI s)) ++ m, 0) := by
  have h := stl_all (W := []) (P := P) (k := 1) (by decide) (by decide) hP m
  rw [List.append_nil] at h
  exact h
theorem cE0 {P : List Nat} {m : List Int32} {dg : Nat} {wt ak : Bool} (hP : ∀ s ∈ P, 1 ≤ sgS s) : cEndL (P, m, uB P, 0, dg, wt, ak) = some ([], (-59) :: ((P.reverse.map (fun s => - nI s)) ++ m), 0, 0, dg, true, false) := by
  unfold cEndL
  rw [if_pos (show (P, m, uB P, 0, dg, wt, ak).2.2.2.1 = 0 from rfl)]
  show some ((stl 1 P m (uB P)).1, (-59) :: (stl 1 P m (uB P)).2.1, (stl 1 P m (uB P)).2.2, 0, dg, true, false) = _
  rw [stl1 hP]
theorem q59 {P : List Nat} {m : List Int32} {dg : Nat} {ak : Bool} (hP : ∀ s ∈ P, 1 ≤ sgS s) : cstep 59 (P, m, uB P, 0, dg, false, ak) = some ([], (-59) :: ((P.reverse.map (fun s => - nI s)) ++ m), 0, 0, 0, true, false) := by
  unfold cstep
  rw [if_neg (show ¬ (P, m, uB P, 0, dg, false, ak).2.2.2.2.2.1 = true from fun z => by cases z), if_neg (show ¬ isDg 59 = true by decide), if_neg (by decide), if_neg (by decide), if_pos rfl]
  exact cE0 hP
theorem code_rev (P : Lns) (q : List (Nat × Nat) × List (Nat × Nat)) : (-59) :: (lineC q ++ (codeC P).reverse) = (codeC (P ++ [q])).reverse := by
  rw [codeC_app]
  unfold lineC
  by_cases c : q.1 = []
  · rw [if_pos c]
    simp only [List.reverse_append, List.nil_append, List.reverse_cons, List.reverse_nil, List.append_assoc, List.map_reverse, List.cons_append]
  · rw [if_neg c]
    simp only [List.reverse_append, List.nil_append, List.reverse_cons, List.reverse_nil, List.append_assoc, List.map_reverse, List.cons_append]
def MC (tx : Nat → Nat) (len p1 : Nat) (P : Lns) : Prop := ∃ σ O, crun tx len len ([], [], 0, 0, 0, true, false) = crun tx len (len - p1) σ ∧ LEnd tx len p1 O σ ∧ (-59) :: O = (codeC P).reverse
theorem mc_59 {p1 : Nat} {P : Lns} (h : MC tx len p1 P) (hp : p1 < len) (e : tx p1 = 59) : crun tx len len ([], [], 0, 0, 0, true, false) = crun tx len (len - (p1 + 1)) ([], (codeC P).reverse, 0, 0, 0, true, false) := by
  obtain ⟨σ, O, h1, ⟨Q, m, dg, ak, rfl, g1, g2, g3, g4, g5⟩, h3⟩ := h
  rw [h1, crun_step hp, e, q59 (fun s hs => (g1 s hs).1), g2, h3]
theorem mc_next {p1 p2 : Nat} {P : Lns} {q : List (Nat × Nat) × List (Nat × Nat)} (h : crun tx len len ([], [], 0, 0, 0, true, false) = crun tx len (len - p1) ([], (codeC P).reverse, 0, 0, 0, true, false)) (hq : ∀ O, ∃ σ, crun tx len (len - p1) ([], O, 0, 0, 0, true, false) = crun tx len (len - p2) σ ∧ LEnd tx len p2 (lineC q ++ O) σ) : MC tx len p2 (P ++ [q]) := by
  obtain ⟨σ, s1, s2⟩ := hq (codeC P).reverse
  exact ⟨σ, _, h.trans s1, s2, code_rev P q⟩
/-- the text is read to its end -/
theorem mc_end {P : Lns} (h : MC tx len len P) : crun tx len len ([], [], 0, 0, 0, true, false) = .inr (codeC P) := by
  obtain ⟨σ, O, h1, ⟨Q, m, dg, ak, rfl, g1, g2, g3, g4, g5⟩, h3⟩ := h
  rw [h1, Nat.sub_self]
  show (if false = true then (Sum.inl len : Nat ⊕ List Int32) else (match cEndL (Q, m, uB Q, 0, dg, false, ak) with | none => .inl len | some τ => .inr τ.2.1.reverse)) = _
  rw [if_neg (fun z => by cases z), cE0 (fun s hs => (g1 s hs).1)]
  show Sum.inr ((-59) :: ((Q.reverse.map (fun s => - nI s)) ++ m)).reverse = _
  rw [g2, h3, List.reverse_reverse]
/-- something that does not fit -/
theorem mc_stop {p1 : Nat} {P : Lns} (h : MC tx len p1 P) (hn : NX tx len 1 p1) (hp : p1 < len) (he : ¬ tx p1 = 59) : crun tx len len ([], [], 0, 0, 0, true, false) = .inl p1 := by
  obtain ⟨σ, O, h1, ⟨Q, m, dg, ak, rfl, g1, g2, g3, g4, g5⟩, h3⟩ := h
  rw [h1, crun_step hp, step_none hp g3 hn g4 (fun _ => rfl) (fun z1 z2 => by have := g5 hp z1; rw [this] at z2; exact absurd z2.2 (by decide)) (fun z => absurd z he)]
def RTE (tx : Nat → Nat) (len : Nat) (S : St) : Prop := (∃ p P, PR tx len S p 0 (toks P) ∧ LnR S P ∧ P ≠ [] ∧ 2 * P.length ≤ p + 1 ∧ (∀ q ∈ P, wfL q) ∧ NX tx len 1 p ∧ MC tx len p P ∧ ¬ atC tx len p 59) ∨ (∃ f p la, PB tx len S p (nI f) (S.1 63 22) la ∧ f ≤ len ∧ crun tx len len ([], [], 0, 0, 0, true, false) = .inl f)
theorem rt_loop (hl : len ≤ 120) (htx : ∀ i, i < len → tx i < 256) {N : Nat} (hN : 130 ≤ N) {x1 : Int32} : ∀ (n : Nat) (S : St) (p : Nat) (P : Lns), PR tx len S p 0 (toks P) → LnR S P → P ≠ [] → 2 * P.length ≤ p + 1 → (∀ q ∈ P, wfL q) → NX tx len 1 p → MC tx len p P → len - p < n → ∃ S', F_X12_readText_31 N n x1 S = F_X12_readText_64 N x1 S' ∧ AgL S S' ∧ RTE tx len S'
  | 0, S, p, P, _, _, _, _, _, _, _, hn => absurd hn (Nat.not_lt_zero _)
  | n + 1, S, p, P, h, hL, hP, h2, hw, hx, hm, hn => by
    have hp : p ≤ len := h.2.2.1
    have stp : F_X12_readText_31 N (n + 1) x1 S = (if lkV tx len p = 59 then ((F_X12_oneLine N (fset S 63 20 ((S.1 63 20) + 1))).bind (fun r_58 => (F_X12_readText_31 N n) x1 r_58)) else (F_X12_readText_64 N x1 S)) := by
      show (if 0 ≤ (S.1 63 21) then _ else ((F_X12_look S).bind (fun r_39 => if r_39.1 = 59 then ((F_X12_oneLine N (fset r_39.2 63 20 ((r_39.2.1 63 20) + 1))).bind (fun r_58 => (F_X12_readText_31 N n) x1 r_58)) else (F_X12_readText_64 N x1 r_39.2)))) = _
      rw [if_neg (by rw [h.1.2.2.1]; decide), look_eq hl h.1 hp, Option.bind_some]
    rw [stp]
    by_cases c : atC tx len p 59
    · rw [if_pos (show lkV tx len p = 59 from (lkV_eq (k := 59) htx (by decide)).mpr c)]
      have p54 : PR tx len (fset S 63 20 ((S.1 63 20) + 1)) (p + 1) 0 (toks P) := h.here c.1
      have l54 : LnR (fset S 63 20 ((S.1 63 20) + 1)) P := hL
      have m54 := mc_59 hm c.1 c.2
      have hplt := c.1
      obtain ⟨S1, r1, a1, c1⟩ := line_ok hl htx hN p54 l54 (by omega)
      rw [r1, Option.bind_some]
      have a1' : AgL S S1 := (here_ag S _).L.trans a1
      rcases c1 with ⟨p1, q, w1, w2, w3, w4, w5, w6⟩ | ⟨f, p1, la, w1, w2, w3⟩
      · have hln : (P ++ [q]).length = P.length + 1 := List.length_append
        obtain ⟨S', s1, s2, s3⟩ := rt_loop hl htx hN (x1 := x1) n S1 p1 (P ++ [q]) w1 w2 (fun z => by rw [z] at hln; cases hln) (by omega) (fun z hz => by
          rcases List.mem_append.mp hz with e | e
          · exact hw z e
          · rcases List.mem_cons.mp e with e | e
            · rw [e]; exact w4
            · cases e) w5 (mc_next m54 w6) (by omega)
        exact ⟨S', s1, a1'.trans s2, s3⟩
      · obtain ⟨n', rfl⟩ : ∃ n', n = n' + 1 := ⟨n - 1, by omega⟩
        refine ⟨S1, ?_, a1', Or.inr ⟨f, p1, la, w1, w2, m54.trans (w3 _)⟩⟩
        show (if 0 ≤ (S1.1 63 21) then (F_X12_readText_64 N x1 S1) else _) = _
        rw [if_pos (by rw [w1.2.2.1]; exact le0 (by omega))]
    · rw [if_neg (show ¬ lkV tx len p = 59 from fun z => c ((lkV_eq (k := 59) htx (by decide)).mp z))]
      exact ⟨S, rfl, AgL.rfl, Or.inl ⟨p, P, h, hL, hP, h2, hw, hx, hm, c⟩⟩
theorem m130w {w : Nat} (hw : w < 2) (i : Nat) : ((130 : Int32) * nI w) + nI i = nI (130 * w + i) := by
  rcases (show w = 0 ∨ w = 1 by omega) with rfl | rfl
  · rw [show (130 : Int32) * nI 0 = nI 0 by decide, nI_add]
  · rw [show (130 : Int32) * nI 1 = nI 130 by decide, nI_add]
theorem m61w {w : Nat} (hw : w < 2) (i : Nat) : ((61 : Int32) * nI w) + nI i = nI (61 * w + i) := by
  rcases (show w = 0 ∨ w = 1 by omega) with rfl | rfl
  · rw [show (61 : Int32) * nI 0 = nI 0 by decide, nI_add]
  · rw [show (61 : Int32) * nI 1 = nI 61 by decide, nI_add]
def aC7 (k : Nat) : Bool := !decide (k = 77 ∨ k = 78)
def aC8 (k : Nat) : Bool := !decide (k = 80 ∨ k = 81)
theorem cp_105 {N w la : Nat} (hw : w < 2) (hla : la < 130) : ∀ (m i n : Nat) (S : St), i + m = la → m < n → S.1 63 23 = nI la → (∀ j, j < la → vp_nar .byte (S.2.1 77 (260 + j)) = S.2.1 77 (260 + j)) → (∀ j, j < i → S.2.1 77 (130 * w + j) = S.2.1 77 (260 + j) ∧ S.2.1 78 (130 * w + j) = S.2.1 78 (260 + j)) → ∃ S', F_X12_readText_105 N n (nI w) (nI i) S = F_X12_readText_177 N (nI w) 0 (aset S' 79 (upd (S'.2.1 79) w (S'.2.1 79 2))) ∧ AgO fT aC7 lAll S S' ∧ (∀ j, j < la → S'.2.1 77 (130 * w + j) = S.2.1 77 (260 + j) ∧ S'.2.1 78 (130 * w + j) = S.2.1 78 (260 + j)) ∧ (∀ j, j < 130 * w ∨ 130 * w + 130 ≤ j → S'.2.1 77 j = S.2.1 77 j ∧ S'.2.1 78 j = S.2.1 78 j)
  | m, i, 0, S, _, hn, _, _, _ => absurd hn (Nat.not_lt_zero m)
  | 0, i, n + 1, S, hi, _, h23, hb, hz => by
    have e : i = la := hi
    subst e
    refine ⟨S, ?_, AgO.rfl, hz, fun j _ => ⟨rfl, rfl⟩⟩
    show (if (S.1 63 23) ≤ nI i then (gd (inb (2 : Int32) 3) (gd (inb (nI w) 3) (F_X12_readText_177 N (nI w) 0 (aset S 79 (upd (S.2.1 79) (Int32.toNatClampNeg (nI w)) (S.2.1 79 (Int32.toNatClampNeg (2 : Int32)))))))) else _) = _
    rw [if_pos (by rw [h23]; exact Int32.le_refl _), gd_t (by decide), gd_t (inb_nI (by omega) (by decide)), nI_clamp (by omega)]
    rfl
  | m + 1, i, n + 1, S, hi, hn, h23, hb, hz => by
    let S1 : St := aset (aset S 77 (upd (S.2.1 77) (130 * w + i) (S.2.1 77 (260 + i)))) 78 (upd (S.2.1 78) (130 * w + i) (S.2.1 78 (260 + i)))
    have k77 : ∀ j, j ≠ 130 * w + i → S1.2.1 77 j = S.2.1 77 j := fun j hj => pk_un hj
    have k78 : ∀ j, j ≠ 130 * w + i → S1.2.1 78 j = S.2.1 78 j := fun j hj => pk_un hj
    have g77 : S1.2.1 77 (130 * w + i) = S.2.1 77 (260 + i) := pk_us
    have g78 : S1.2.1 78 (130 * w + i) = S.2.1 78 (260 + i) := pk_us
    have stp : F_X12_readText_105 N (n + 1) (nI w) (nI i) S = F_X12_readText_105 N n (nI w) (nI (i + 1)) S1 := by
      have e1 : (260 : Int32) + nI i = nI (260 + i) := nI_add 260 i
      show (if (S.1 63 23) ≤ nI i then _ else (gd (inb (260 + nI i) 390) (gd (inb ((130 * nI w) + nI i) 390) (gd (inb (260 + nI i) 390) (gd (inb ((130 * nI w) + nI i) 390) ((F_X12_readText_105 N n) (nI w) (nI i + 1) (aset (aset S 77 (upd (S.2.1 77) (Int32.toNatClampNeg ((130 * nI w) + nI i)) (vp_nar .byte (S.2.1 77 (Int32.toNatClampNeg (260 + nI i)))))) 78 (upd (S.2.1 78) (Int32.toNatClampNeg ((130 * nI w) + nI i)) (S.2.1 78 (Int32.toNatClampNeg (260 + nI i)))))))))) ) = _
      have g1 : inb (nI (260 + i)) 390 = true := inb_nI (by omega) (by decide)
      have g2 : inb (nI (130 * w + i)) 390 = true := inb_nI (by omega) (by decide)
      rw [if_neg (by rw [h23]; exact nI_ge (by omega) (by omega)), e1, m130w hw, gd_t g1, gd_t g2, gd_t g1, gd_t g2, nI_clamp (by omega), nI_clamp (by omega), hb i (by omega), nI_1]
    obtain ⟨S', u1, u2, u3, u4⟩ := cp_105 (N := N) hw hla m (i + 1) n S1 (by omega) (by omega) h23 (fun j hj => by rw [k77 _ (by omega)]; exact hb j hj) (fun j hj => by
      by_cases c : j = i
      · rw [c, g77, g78, k77 _ (by omega), k78 _ (by omega)]; exact ⟨rfl, rfl⟩
      · rw [k77 _ (by omega), k78 _ (by omega), k77 _ (by omega), k78 _ (by omega)]; exact hz j (by omega))
    refine ⟨S', stp.trans u1, AgO.trans (AgO.aset (AgO.aset AgO.rfl _ (by decide)) _ (by decide)) u2, fun j hj => ?_, fun j hj => ?_⟩
    · have := u3 j hj
      rw [k77 _ (by omega), k78 _ (by omega)] at this
      exact this
    · have := u4 j hj
      rw [k77 _ (by omega), k78 _ (by omega)] at this
      exact this
theorem cp_177 {w lm : Nat} (hw : w < 2) (hlm : lm ≤ 61) : ∀ (m i n : Nat) (S : St), i + m = lm → m < n → S.2.1 79 w = nI lm → (∀ j, j < lm → vp_nar .short (S.2.1 80 (122 + j)) = S.2.1 80 (122 + j) ∧ vp_nar .short (S.2.1 81 (122 + j)) = S.2.1 81 (122 + j)) → (∀ j, j < i → S.2.1 80 (61 * w + j) = S.2.1 80 (122 + j) ∧ S.2.1 81 (61 * w + j) = S.2.1 81 (122 + j)) → ∃ S', F_X12_readText_177 n (nI w) (nI i) S = some (-1, S') ∧ AgO fT aC8 lAll S S' ∧ (∀ j, j < lm → S'.2.1 80 (61 * w + j) = S.2.1 80 (122 + j) ∧ S'.2.1 81 (61 * w + j) = S.2.1 81 (122 + j)) ∧ (∀ j, j < 61 * w ∨ 61 * w + 61 ≤ j → S'.2.1 80 j = S.2.1 80 j ∧ S'.2.1 81 j = S.2.1 81 j)
  | m, i, 0, S, _, hn, _, _, _ => absurd hn (Nat.not_lt_zero m)
  | 0, i, n + 1, S, hi, _, h79, hb, hz => by
    have e : i = lm := hi
    subst e
    refine ⟨S, ?_, AgO.rfl, hz, fun j _ => ⟨rfl, rfl⟩⟩
    show gd (inb (nI w) 3) (if (S.2.1 79 (Int32.toNatClampNeg (nI w))) ≤ nI i then (some ((-1), S)) else _) = _
    rw [gd_t (inb_nI (by omega) (by decide)), nI_clamp (by omega), if_pos (by rw [h79]; exact Int32.le_refl _)]
  | m + 1, i, n + 1, S, hi, hn, h79, hb, hz => by
    let S1 : St := aset (aset S 80 (upd (S.2.1 80) (61 * w + i) (S.2.1 80 (122 + i)))) 81 (upd (S.2.1 81) (61 * w + i) (S.2.1 81 (122 + i)))
    have k77 : ∀ j, j ≠ 61 * w + i → S1.2.1 80 j = S.2.1 80 j := fun j hj => pk_un hj
    have k78 : ∀ j, j ≠ 61 * w + i → S1.2.1 81 j = S.2.1 81 j := fun j hj => pk_un hj
    have g77 : S1.2.1 80 (61 * w + i) = S.2.1 80 (122 + i) := pk_us
    have g78 : S1.2.1 81 (61 * w + i) = S.2.1 81 (122 + i) := pk_us
    have stp : F_X12_readText_177 (n + 1) (nI w) (nI i) S = F_X12_readText_177 n (nI w) (nI (i + 1)) S1 := by
      have e1 : (122 : Int32) + nI i = nI (122 + i) := nI_add 122 i
      show gd (inb (nI w) 3) (if (S.2.1 79 (Int32.toNatClampNeg (nI w))) ≤ nI i then (some ((-1), S)) else (gd (inb (122 + nI i) 183) (gd (inb ((61 * nI w) + nI i) 183) (gd (inb (122 + nI i) 183) (gd (inb ((61 * nI w) + nI i) 183) ((F_X12_readText_177 n) (nI w) (nI i + 1) (aset (aset S 80 (upd (S.2.1 80) (Int32.toNatClampNeg ((61 * nI w) + nI i)) (vp_nar .short (S.2.1 80 (Int32.toNatClampNeg (122 + nI i)))))) 81 (upd (S.2.1 81) (Int32.toNatClampNeg ((61 * nI w) + nI i)) (vp_nar .short (S.2.1 81 (Int32.toNatClampNeg (122 + nI i)))))))))))) = _
      have g1 : inb (nI (122 + i)) 183 = true := inb_nI (by omega) (by decide)
      have g2 : inb (nI (61 * w + i)) 183 = true := inb_nI (by omega) (by decide)
      rw [gd_t (inb_nI (by omega) (by decide)), nI_clamp (show w < 2 ^ 31 by omega), if_neg (by rw [h79]; exact nI_ge (by omega) (by omega)), e1, m61w hw, gd_t g1, gd_t g2, gd_t g1, gd_t g2, nI_clamp (by omega), nI_clamp (by omega), (hb i (by omega)).1, (hb i (by omega)).2, nI_1]
    obtain ⟨S', u1, u2, u3, u4⟩ := cp_177 hw hlm m (i + 1) n S1 (by omega) (by omega) h79 (fun j hj => by rw [k77 _ (by omega), k78 _ (by omega)]; exact hb j hj) (fun j hj => by
      by_cases c : j = i
      · rw [c, g77, g78, k77 _ (by omega), k78 _ (by omega)]; exact ⟨rfl, rfl⟩
      · rw [k77 _ (by omega), k78 _ (by omega), k77 _ (by omega), k78 _ (by omega)]; exact hz j (by omega))
    refine ⟨S', stp.trans u1, AgO.trans (AgO.aset (AgO.aset AgO.rfl _ (by decide)) _ (by decide)) u2, fun j hj => ?_, fun j hj => ?_⟩
    · have := u3 j hj
      rw [k77 _ (by omega), k78 _ (by omega)] at this
      exact this
    · have := u4 j hj
      rw [k77 _ (by omega), k78 _ (by omega)] at this
      exact this
end
