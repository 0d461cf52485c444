section
variable {tx : Nat → Nat} {len : Nat}
def fV (c s : Nat) : Bool := !decide (c = 63 ∧ 19 ≤ s ∧ s ≤ 23)
/-- all but the tape's end, the reader's own cells and law w -/
def AgT (w : Nat) (S S' : St) : Prop := AgO fV aL lAll S S' ∧ ∀ v, v < 2 → v ≠ w → (∀ i, i < 130 → S'.2.1 77 (130 * v + i) = S.2.1 77 (130 * v + i) ∧ S'.2.1 78 (130 * v + i) = S.2.1 78 (130 * v + i)) ∧ (∀ i, i < 61 → S'.2.1 80 (61 * v + i) = S.2.1 80 (61 * v + i) ∧ S'.2.1 81 (61 * v + i) = S.2.1 81 (61 * v + i)) ∧ S'.2.1 79 v = S.2.1 79 v
theorem fV_fU : ∀ c s, fV c s = true → fU c s = true := fun c s q => by
  unfold fV at q
  unfold fU
  rw [Bool.not_eq_true'] at q ⊢
  have := of_decide_eq_false q
  exact decide_eq_false (by omega)
theorem AgL.T {S S' : St} (h : AgL S S') (w : Nat) (x : Int32) : AgT w S (fset S' 63 19 x) := by
  refine ⟨AgO.fset (h.1.weak fV_fU (fun _ q => q) (fun _ q => q)) _ (by decide), fun v hv _ => ⟨fun i hi => ?_, fun i hi => ?_, ?_⟩⟩
  · exact h.2.1 (130 * v + i) (by omega)
  · exact h.2.2.1 (61 * v + i) (by omega)
  · exact h.2.2.2 v hv
theorem nar_b : ∀ c, c < 128 → vp_nar .byte (nI c) = nI c := by decide +kernel
theorem nar_s : ∀ c, c < 130 → vp_nar .short (nI c) = nI c := by decide +kernel
theorem tkA_b {t : Nat × Nat} (h : okT t) : vp_nar .byte (tkA t) = tkA t := by
  obtain ⟨a, b⟩ := t
  rcases h with ⟨h, _⟩ | ⟨h, _⟩ | h | h | ⟨h, h2⟩
  · have h' : a = 0 := h
    subst h'
    exact nar_b 1 (by decide)
  · have h' : a = 1 := h
    subst h'
    exact nar_b 2 (by decide)
  · rw [h]; exact nar_b 3 (by decide)
  · rw [h]; exact nar_b 4 (by decide)
  · have h' : a = 4 := h
    subst h'
    refine nar_b b ?_
    rcases sg_cases h2 with e | e | e | e | e | e | e | e | e | e <;> (have e' : b = _ := e; omega)
theorem toks_okT {P : Lns} (h : ∀ q ∈ P, wfL q) : ∀ t ∈ toks P, okT t := fun t ht => by
  obtain ⟨q, q1, q2⟩ := List.mem_flatMap.mp ht
  exact (h q q1).1 t q2
theorem getD_memI {α : Type} {l : List α} {i : Nat} (h : i < l.length) (d : α) : l.getD i d ∈ l := by
  rw [List.getD_eq_getElem?_getD, List.getElem?_eq_getElem h]
  exact List.getElem_mem h
/-- behind the lines -/
theorem read_end (hl : len ≤ 120) {N : Nat} (hN : 130 ≤ N) {w : Nat} (hw : w < 2) {S0 S : St} (ha : AgL S0 S) (h : RTE tx len S) :
  (∃ f S', crun tx len len ([], [], 0, 0, 0, true, false) = .inl f ∧ f ≤ len ∧ F_X12_readText_64 N (nI w) S = some (nI f, S') ∧ S'.1 63 19 = 0 ∧ AgT 2 S0 S') ∨
  (∃ P S', crun tx len len ([], [], 0, 0, 0, true, false) = .inr (codeC P) ∧ P ≠ [] ∧ (∀ q ∈ P, wfL q) ∧ F_X12_readText_64 N (nI w) S = some (-1, S') ∧ S'.1 63 19 = 0 ∧ AgT w S0 S' ∧ S'.2.1 79 w = nI P.length ∧ (∀ i, i < (toks P).length → S'.2.1 77 (130 * w + i) = tkA ((toks P).getD i (0, 0)) ∧ S'.2.1 78 (130 * w + i) = tkW ((toks P).getD i (0, 0))) ∧ (∀ k, k < P.length → S'.2.1 80 (61 * w + k) = nI (offL P k + (P.getD k ([], [])).1.length) ∧ S'.2.1 81 (61 * w + k) = nI (offL P (k + 1)))) := by
  rcases h with ⟨p, P, h1, hL, hP, h2, hwf, hx, hm, h59⟩ | ⟨f, p, la, h1, hf, hc⟩
  · have hp : p ≤ len := h1.2.2.1
    have h21 : S.1 63 21 = -1 := h1.1.2.2.1
    have h19 : S.1 63 19 = nI len := h1.1.1
    have h20 : S.1 63 20 = nI p := h1.1.2.1
    have n0 : ¬ (0 : Int32) ≤ S.1 63 21 := by rw [h21]; decide
    by_cases c : p < len
    · left
      refine ⟨p, fset (fset S 63 21 (nI p)) 63 19 0, mc_stop hm hx c (fun z => h59 ⟨c, z⟩), hp, ?_, rfl, ?_⟩
      · unfold F_X12_readText_64
        rw [if_neg n0, if_neg (by rw [h19, h20]; exact nI_ge c (by omega)), faulty_eq h1.1, Option.bind_some]
        show (if nI p < 0 then _ else (some (nI p, fset (fset S 63 21 (nI p)) 63 19 0))) = _
        rw [if_neg (nI_pos (by omega))]
      · exact (ha.trans (AgU.rfl.fs (nI p) (by decide)).L).T 2 0
    · have e : p = len := by omega
      subst e
      right
      let S88 : St := fset S 63 19 0
      have hla : (toks P).length ≤ p := h1.2.2.2
      have h77 : ∀ j, j < (toks P).length → S.2.1 77 (260 + j) = tkA ((toks P).getD j (0, 0)) ∧ S.2.1 78 (260 + j) = tkW ((toks P).getD j (0, 0)) := h1.2.1
      have hof : ∀ k, k < P.length → offL P k + (P.getD k ([], [])).1.length < 130 ∧ offL P (k + 1) < 130 := fun k hk => by
        have e1 := offL_succ P k hk
        have e2 := offL_le P (k + 1)
        omega
      obtain ⟨S2, u1, u2, u3, u4⟩ := cp_105 (N := N) hw (la := (toks P).length) (by omega) (toks P).length 0 N S88 (Nat.zero_add _) (by omega) h1.1.2.2.2.2.1 (fun j hj => by
        have e : S88.2.1 77 (260 + j) = tkA ((toks P).getD j (0, 0)) := (h77 j hj).1
        rw [e]
        exact tkA_b (toks_okT hwf _ (getD_memI hj _))) (fun j hj => absurd hj (Nat.not_lt_zero j))
      let S3 : St := aset S2 79 (upd (S2.2.1 79) w (S2.2.1 79 2))
      have e79 : S2.2.1 79 = S.2.1 79 := u2.2.1 79 (by decide)
      have e80 : S2.2.1 80 = S.2.1 80 := u2.2.1 80 (by decide)
      have e81 : S2.2.1 81 = S.2.1 81 := u2.2.1 81 (by decide)
      have f79 : S3.2.1 79 w = nI P.length := by
        show upd (S2.2.1 79) w (S2.2.1 79 2) w = _
        rw [pk_us, e79]
        exact hL.1
      have f80 : ∀ j, S3.2.1 80 j = S.2.1 80 j := fun j => by show S2.2.1 80 j = _; rw [e80]
      have f81 : ∀ j, S3.2.1 81 j = S.2.1 81 j := fun j => by show S2.2.1 81 j = _; rw [e81]
      obtain ⟨S4, v1, v2, v3, v4⟩ := cp_177 hw (lm := P.length) (by omega) P.length 0 N S3 (Nat.zero_add _) (by omega) f79 (fun j hj => by
        rw [f80, f81, (hL.2 j hj).1, (hL.2 j hj).2]
        exact ⟨nar_s _ (hof j hj).1, nar_s _ (hof j hj).2⟩) (fun j hj => absurd hj (Nat.not_lt_zero j))
      have k77 : S4.2.1 77 = S2.2.1 77 := v2.2.1 77 (by decide)
      have k78 : S4.2.1 78 = S2.2.1 78 := v2.2.1 78 (by decide)
      have k79 : S4.2.1 79 = S3.2.1 79 := v2.2.1 79 (by decide)
      refine ⟨P, S4, mc_end hm, hP, hwf, ?_, ?_, ⟨?_, fun v hv hvw => ⟨fun i hi => ?_, fun i hi => ?_, ?_⟩⟩, by rw [k79]; exact f79, fun i hi => ?_, fun k hk => ?_⟩
      · unfold F_X12_readText_64
        rw [if_neg n0, if_pos (by rw [h19, h20]; exact Int32.le_refl _)]
        show (if S.1 63 21 < 0 then (F_X12_readText_105 N N (nI w) (nI 0) S88) else _) = _
        rw [if_pos (by rw [h21]; decide), u1]
        exact v1
      · rw [v2.1 63 19 (by decide)]
        show S2.1 63 19 = 0
        rw [u2.1 63 19 (by decide)]
        rfl
      · have t1 := (ha.T w 0).1
        have t2 : AgO fV aL lAll S88 S2 := u2.weak (fun _ _ _ => rfl) (fun k q => by
          unfold aL at q
          unfold aC7
          rw [Bool.not_eq_true'] at q ⊢
          have := of_decide_eq_false q
          exact decide_eq_false (by omega)) (fun _ q => q)
        have t3 : AgO fV aL lAll S3 S4 := v2.weak (fun _ _ _ => rfl) (fun k q => by
          unfold aL at q
          unfold aC8
          rw [Bool.not_eq_true'] at q ⊢
          have := of_decide_eq_false q
          exact decide_eq_false (by omega)) (fun _ q => q)
        exact AgO.trans (AgO.trans t1 (AgO.aset t2 _ (by decide))) t3
      · rw [k77, k78, (u4 (130 * v + i) (by omega)).1, (u4 (130 * v + i) (by omega)).2]
        exact ha.2.1 (130 * v + i) (by omega)
      · rw [(v4 (61 * v + i) (by omega)).1, (v4 (61 * v + i) (by omega)).2, f80, f81]
        exact ha.2.2.1 (61 * v + i) (by omega)
      · rw [k79]
        show upd (S2.2.1 79) w (S2.2.1 79 2) v = _
        rw [pk_un hvw, e79]
        exact ha.2.2.2 v hv
      · rw [k77, k78, (u3 i hi).1, (u3 i hi).2]
        exact h77 i hi
      · rw [(v3 k hk).1, (v3 k hk).2, f80, f81]
        exact hL.2 k hk
  · left
    refine ⟨f, fset S 63 19 0, hc, hf, ?_, rfl, ha.T 2 0⟩
    have h21 : S.1 63 21 = nI f := h1.2.2.1
    unfold F_X12_readText_64
    rw [if_pos (by rw [h21]; exact le0 (by omega))]
    show (if S.1 63 21 < 0 then _ else (some (S.1 63 21, fset S 63 19 0))) = _
    rw [h21, if_neg (nI_pos (by omega))]
/-- the reference's reading of a text is the machine's -/
theorem read_ok (hl : len ≤ 120) (htx : ∀ i, i < len → tx i < 256) {N : Nat} (hN : 130 ≤ N) {w : Nat} (hw : w < 2) {S : St} (h19 : S.1 63 19 = nI len) (h76 : ∀ i, i < len → S.2.1 76 i = (nI (tx i)).toInt8.toInt32) :
  (∃ f S', crun tx len len ([], [], 0, 0, 0, true, false) = .inl f ∧ f ≤ len ∧ F_X12_readText N (nI w) S = some (nI f, S') ∧ S'.1 63 19 = 0 ∧ AgT 2 S S') ∨
  (∃ P S', crun tx len len ([], [], 0, 0, 0, true, false) = .inr (codeC P) ∧ P ≠ [] ∧ (∀ q ∈ P, wfL q) ∧ F_X12_readText N (nI w) S = some (-1, S') ∧ S'.1 63 19 = 0 ∧ AgT w S S' ∧ S'.2.1 79 w = nI P.length ∧ (∀ i, i < (toks P).length → S'.2.1 77 (130 * w + i) = tkA ((toks P).getD i (0, 0)) ∧ S'.2.1 78 (130 * w + i) = tkW ((toks P).getD i (0, 0))) ∧ (∀ k, k < P.length → S'.2.1 80 (61 * w + k) = nI (offL P k + (P.getD k ([], [])).1.length) ∧ S'.2.1 81 (61 * w + k) = nI (offL P (k + 1)))) := by
  let S17 : St := fset (fset (fset (fset S 63 20 0) 63 21 (-1)) 63 22 0) 63 23 0
  let S26 : St := aset S17 79 (upd (S17.2.1 79) 2 0)
  have a17 : AgU S S17 := (((AgU.rfl.fs 0 (by decide)).fs (-1) (by decide)).fs 0 (by decide)).fs 0 (by decide)
  have a26 : AgL S S26 := a17.L.u79 0
  have p26 : PR tx len S26 0 0 (toks []) := ⟨⟨h19, rfl, rfl, rfl, rfl, h76⟩, fun i hi => absurd hi (Nat.not_lt_zero i), Nat.zero_le _, Nat.le_refl _⟩
  have l26 : LnR S26 [] := ⟨(show upd (S17.2.1 79) 2 0 2 = nI 0 from pk_us), fun k hk => absurd hk (Nat.not_lt_zero k)⟩
  obtain ⟨S1, r1, a1, c1⟩ := line_ok hl htx hN p26 l26 (Nat.zero_le _)
  have stp : F_X12_readText N (nI w) S = F_X12_readText_31 N N (nI w) S1 := by
    have e : F_X12_readText N (nI w) S = (F_X12_oneLine N S26).bind (fun r_28 => F_X12_readText_31 N N (nI w) r_28) := rfl
    rw [e, r1, Option.bind_some]
  have fin : ∃ S', F_X12_readText_31 N N (nI w) S1 = F_X12_readText_64 N (nI w) S' ∧ AgL S1 S' ∧ RTE tx len S' := by
    rcases c1 with ⟨p1, q, w1, w2, w3, w4, w5, w6⟩ | ⟨f, p1, la, w1, w2, w3⟩
    · have e0 : crun tx len len ([], [], 0, 0, 0, true, false) = crun tx len (len - 0) ([], (codeC []).reverse, 0, 0, 0, true, false) := rfl
      refine rt_loop hl htx hN N S1 p1 ([] ++ [q]) w1 w2 (fun z => by cases z) (by show 2 * 1 ≤ p1 + 1; omega) (fun z hz => ?_) w5 (mc_next e0 w6) (by omega)
      rcases List.mem_cons.mp hz with e | e
      · rw [e]; exact w4
      · cases e
    · obtain ⟨n', rfl⟩ : ∃ n', N = n' + 1 := ⟨N - 1, by omega⟩
      refine ⟨S1, ?_, AgL.rfl, Or.inr ⟨f, p1, la, w1, w2, w3 []⟩⟩
      show (if 0 ≤ (S1.1 63 21) then (F_X12_readText_64 (n' + 1) (nI w) S1) else _) = _
      rw [if_pos (by rw [w1.2.2.1]; exact le0 (by omega))]
  obtain ⟨S2, s1, s2, s3⟩ := fin
  rw [stp, s1]
  exact read_end hl hN hw ((a26.trans a1).trans s2) s3
end
