section
variable {tx : Nat → Nat} {len : Nat}
theorem AgU.L {S S' : St} (h : AgU S S') : AgL S S' := by
  refine ⟨h.1.weak (fun _ _ q => q) (fun k q => ?_) (fun _ q => q), h.2, fun i _ => ?_, fun i _ => ?_⟩
  · unfold aL at q
    unfold aU
    rw [Bool.not_eq_true'] at q ⊢
    have := of_decide_eq_false q
    exact decide_eq_false (by omega)
  · rw [h.1.2.1 80 (by decide), h.1.2.1 81 (by decide)]; exact ⟨Eq.refl _, Eq.refl _⟩
  · rw [h.1.2.1 79 (by decide)]
theorem AgL.u80 {S S' : St} (h : AgL S S') {j : Nat} (hj : 122 ≤ j) (x : Int32) : AgL S (aset S' 80 (upd (S'.2.1 80) j x)) := by
  refine ⟨AgO.aset h.1 _ (by decide), h.2.1, fun i hi => ⟨?_, (h.2.2.1 i hi).2⟩, h.2.2.2⟩
  show upd (S'.2.1 80) j x i = _
  rw [pk_un (by omega)]
  exact (h.2.2.1 i hi).1
theorem AgL.u81 {S S' : St} (h : AgL S S') {j : Nat} (hj : 122 ≤ j) (x : Int32) : AgL S (aset S' 81 (upd (S'.2.1 81) j x)) := by
  refine ⟨AgO.aset h.1 _ (by decide), h.2.1, fun i hi => ⟨(h.2.2.1 i hi).1, ?_⟩, h.2.2.2⟩
  show upd (S'.2.1 81) j x i = _
  rw [pk_un (by omega)]
  exact (h.2.2.1 i hi).2
theorem AgL.u79 {S S' : St} (h : AgL S S') (x : Int32) : AgL S (aset S' 79 (upd (S'.2.1 79) 2 x)) := by
  refine ⟨AgO.aset h.1 _ (by decide), h.2.1, h.2.2.1, fun i hi => ?_⟩
  show upd (S'.2.1 79) 2 x i = _
  rw [pk_un (by omega)]
  exact h.2.2.2 i hi
theorem PB.same {S S' : St} {p la : Nat} {fl op : Int32} (h : PB tx len S p fl op la) (e1 : S'.1 = S.1) (e2 : S'.2.1 76 = S.2.1 76) : PB tx len S' p fl op la := by
  unfold PB
  rw [e1, e2]
  exact h
theorem PR.same {S S' : St} {p op : Nat} {TS : List (Nat × Nat)} (h : PR tx len S p op TS) (e1 : S'.1 = S.1) (e2 : S'.2.1 76 = S.2.1 76) (e3 : S'.2.1 77 = S.2.1 77) (e4 : S'.2.1 78 = S.2.1 78) : PR tx len S' p op TS := ⟨h.1.same e1 e2, h.2.1.same e3 e4, h.2.2⟩
/-- the machine at the end of what was read -/
def LEnd (tx : Nat → Nat) (len p1 : Nat) (O' : List Int32) (σ : CSt) : Prop := ∃ P m dg ak, σ = (P, m, uB P, 0, dg, false, ak) ∧ (∀ s ∈ P, 1 ≤ sgS s ∧ s < 256) ∧ (P.reverse.map (fun s => - nI s)) ++ m = O' ∧ (dg = 0 ∨ ¬ dgAt tx len p1) ∧ (cmpAt tx len p1 → sgS ((stl 4 P m (uB P)).1.headD 0) = 3) ∧ (p1 < len → tx p1 = 63 → ak = true)
def lineC (q : List (Nat × Nat) × List (Nat × Nat)) : List Int32 := q.2.reverse.map tkC ++ ((if q.1 = [] then [] else [-63]) ++ q.1.reverse.map tkC)
def LINE (tx : Nat → Nat) (len p : Nat) (Pl : Lns) (S : St) (r : Option St) : Prop := ∃ S', r = some S' ∧ AgL S S' ∧
  ((∃ p1 q, PR tx len S' p1 0 (toks (Pl ++ [q])) ∧ LnR S' (Pl ++ [q]) ∧ p < p1 ∧ wfL q ∧ NX tx len 1 p1 ∧ ∀ O, ∃ σ, crun tx len (len - p) ([], O, 0, 0, 0, true, false) = crun tx len (len - p1) σ ∧ LEnd tx len p1 (lineC q ++ O) σ) ∨
   (∃ f p1 la, PB tx len S' p1 (nI f) (S'.1 63 22) la ∧ f ≤ len ∧ ∀ O, crun tx len (len - p) ([], O, 0, 0, 0, true, false) = .inl f))
def l66 (S : St) (k : Nat) : St := aset (aset S 81 (upd (S.2.1 81) (122 + k) (vp_nar .short ((Int32.toInt16 (S.1 63 23)).toInt32)))) 79 (upd (S.2.1 79) 2 ((S.2.1 79 2) + 1))
theorem l66_eq {k : Nat} (hk : k ≤ 60) (S : St) : F_X12_oneLine_66 (nI (122 + k)) S = some (l66 S k) := by
  unfold F_X12_oneLine_66
  rw [gd_t (inb_nI (by omega) (by decide)), nI_clamp (by omega)]
  show gd (inb (2 : Int32) 3) (gd (inb (2 : Int32) 3) _) = _
  rw [gd_t (by decide), gd_t (by decide)]
  rfl
theorem l66_ag {S S' : St} (h : AgL S S') (k : Nat) : AgL S (l66 S' k) := (h.u81 (by omega) _).u79 _
/-- the line is noted -/
theorem l66_ln {S : St} {Pl : Lns} {q : List (Nat × Nat) × List (Nat × Nat)} {p : Nat} (hl : len ≤ 120) (hpr : PR tx len S p 0 (toks (Pl ++ [q]))) (h79 : S.2.1 79 2 = nI Pl.length) (hO : ∀ k, k < Pl.length → S.2.1 80 (122 + k) = nI (offL Pl k + (Pl.getD k ([], [])).1.length) ∧ S.2.1 81 (122 + k) = nI (offL Pl (k + 1))) (h80 : S.2.1 80 (122 + Pl.length) = nI ((toks Pl).length + q.1.length)) : LnR (l66 S Pl.length) (Pl ++ [q]) := by
  have hln : (Pl ++ [q]).length = Pl.length + 1 := List.length_append
  have hla : S.1 63 23 = nI (toks (Pl ++ [q])).length := hpr.1.2.2.2.2.1
  have hlb := hpr.2.2.2
  have hlc := hpr.2.2.1
  refine ⟨?_, fun k hk => ⟨?_, ?_⟩⟩
  · show upd (S.2.1 79) 2 ((S.2.1 79 2) + 1) 2 = _
    rw [pk_us, h79, nI_1, hln]
  · show S.2.1 80 (122 + k) = _
    rw [hln] at hk
    by_cases c : k = Pl.length
    · have e := getD_app_r Pl [q] ([], []) 0
      rw [Nat.add_zero] at e
      rw [c, h80, offL_app (Nat.le_refl _), offL_all, e]
      rfl
    · rw [(hO k (by omega)).1, offL_app (by omega), getD_app_l _ _ _ (by omega)]
  · show upd (S.2.1 81) (122 + Pl.length) (vp_nar .short ((Int32.toInt16 (S.1 63 23)).toInt32)) (122 + k) = _
    rw [hln] at hk
    by_cases c : k = Pl.length
    · rw [c, pk_us, hla, sh_n _ (by omega)]
      have e := offL_all (Pl ++ [q])
      rw [hln] at e
      rw [e]
    · rw [pk_un (by omega), (hO k (by omega)).2, offL_app (by omega)]
end
