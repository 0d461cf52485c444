/-! the reference's reader: bytes, steps laid -/
theorem by_lo : ∀ c, c < 256 → (c < 128 → (nI c).toInt8.toInt32 = nI c) ∧ (128 ≤ c → (nI c).toInt8.toInt32 < 0) := by decide +kernel
theorem lk_eq {c k : Nat} (hc : c < 256) (hk : k < 128) : (nI c).toInt8.toInt32 = nI k ↔ c = k := by
  constructor
  · intro h
    by_cases q : c < 128
    · rw [(by_lo c hc).1 q] at h
      exact nI_inj (by omega) (by omega) h
    · have := (by_lo c hc).2 (by omega)
      rw [h] at this
      exact absurd this (nI_pos (by omega))
  · intro h
    rw [h]
    exact (by_lo k (by omega)).1 hk
/-- what the reference looks at -/
def lkV (tx : Nat → Nat) (len p : Nat) : Int32 := if p < len then (nI (tx p)).toInt8.toInt32 else -1
def atC (tx : Nat → Nat) (len p k : Nat) : Prop := p < len ∧ tx p = k
theorem lkV_eq {tx : Nat → Nat} {len p k : Nat} (htx : ∀ i, i < len → tx i < 256) (hk : k < 128) : lkV tx len p = nI k ↔ atC tx len p k := by
  unfold lkV atC
  by_cases c : p < len
  · rw [if_pos c, lk_eq (htx p c) hk]
    exact ⟨fun h => ⟨c, h⟩, fun h => h.2⟩
  · rw [if_neg c]
    exact ⟨fun h => absurd (show nI k < 0 by rw [← h]; decide) (nI_pos (by omega)), fun h => absurd h.1 c⟩
/-- the reader's cells: at p, open op, la steps laid -/
def PB (tx : Nat → Nat) (len : Nat) (S : St) (p : Nat) (fl op : Int32) (la : Nat) : Prop := S.1 63 19 = nI len ∧ S.1 63 20 = nI p ∧ S.1 63 21 = fl ∧ S.1 63 22 = op ∧ S.1 63 23 = nI la ∧ (∀ i, i < len → S.2.1 76 i = (nI (tx i)).toInt8.toInt32)
def TkR (S : St) (TS : List (Nat × Nat)) : Prop := ∀ i, i < TS.length → S.2.1 77 (260 + i) = tkA (TS.getD i (0, 0)) ∧ S.2.1 78 (260 + i) = tkW (TS.getD i (0, 0))
def fU (c s : Nat) : Bool := !decide (c = 63 ∧ 20 ≤ s ∧ s ≤ 23)
def aU (k : Nat) : Bool := !decide (k = 77 ∨ k = 78)
def AgU (S S' : St) : Prop := AgO fU aU lAll S S' ∧ ∀ i, i < 260 → S'.2.1 77 i = S.2.1 77 i ∧ S'.2.1 78 i = S.2.1 78 i
theorem AgU.rfl {S : St} : AgU S S := ⟨AgO.rfl, fun _ _ => ⟨Eq.refl _, Eq.refl _⟩⟩
theorem AgU.trans {S S' S'' : St} (h : AgU S S') (h' : AgU S' S'') : AgU S S'' := ⟨AgO.trans h.1 h'.1, fun i hi => ⟨(h'.2 i hi).1.trans (h.2 i hi).1, (h'.2 i hi).2.trans (h.2 i hi).2⟩⟩
theorem AgU.fs {S S' : St} (h : AgU S S') {s : Nat} (x : Int32) (hs : fU 63 s = false) : AgU S (fset S' 63 s x) := ⟨AgO.fset h.1 _ hs, h.2⟩
section
variable {tx : Nat → Nat} {len : Nat}
theorem look_eq {S : St} {p la : Nat} {fl op : Int32} (hl : len ≤ 120) (h : PB tx len S p fl op la) (hp : p ≤ len) : F_X12_look S = some (lkV tx len p, S) := by
  obtain ⟨h1, h2, -, -, -, h6⟩ := h
  unfold F_X12_look lkV
  rw [h1, h2]
  by_cases c : p < len
  · rw [if_neg (nI_ge c (by omega)), if_pos c, gd_t (inb_nI (by omega) (by decide)), nI_clamp (by omega), h6 p c]
  · rw [if_pos (nI_le (by omega) (by omega)), if_neg c]
theorem PB.here {S : St} {p la : Nat} {fl op : Int32} (h : PB tx len S p fl op la) : PB tx len (fset S 63 20 ((S.1 63 20) + 1)) (p + 1) fl op la := by
  refine ⟨h.1, ?_, h.2.2.1, h.2.2.2.1, h.2.2.2.2.1, h.2.2.2.2.2⟩
  show S.1 63 20 + 1 = _
  rw [h.2.1, nI_1]
theorem here_ag (S : St) (x : Int32) : AgU S (fset S 63 20 x) := AgU.rfl.fs x (by decide)
def lay (S : St) (la : Nat) (t : Nat × Nat) : St := fset (aset (aset S 77 (upd (S.2.1 77) (260 + la) (tkA t))) 78 (upd (S.2.1 78) (260 + la) (tkW t))) 63 23 (nI (la + 1))
theorem lay_eq {S : St} {p la : Nat} {fl op x1 x2 : Int32} (h : PB tx len S p fl op la) (hla : la < 130) {t : Nat × Nat} (e1 : vp_nar .byte ((Int32.toInt8 x1).toInt32) = tkA t) (e2 : x2 = tkW t) : F_X12_addStep x1 x2 S = some (lay S la t) := by
  have h5 : S.1 63 23 = nI la := h.2.2.2.2.1
  have e : (260 : Int32) + nI la = nI (260 + la) := nI_add 260 la
  unfold F_X12_addStep
  show gd (inb (260 + (S.1 63 23)) 390) (gd (inb (260 + (S.1 63 23)) 390) (some (fset (aset (aset S 77 (upd (S.2.1 77) (Int32.toNatClampNeg (260 + (S.1 63 23))) (vp_nar .byte ((Int32.toInt8 x1).toInt32)))) 78 (upd (S.2.1 78) (Int32.toNatClampNeg (260 + (S.1 63 23))) x2)) 63 23 ((S.1 63 23) + 1)))) = _
  rw [h5, e, gd_t (inb_nI (by omega) (by decide)), gd_t (inb_nI (by omega) (by decide)), nI_clamp (by omega), nI_1, e1, e2]
  rfl
theorem PB.lay {S : St} {p la : Nat} {fl op : Int32} (h : PB tx len S p fl op la) (t : Nat × Nat) : PB tx len (lay S la t) p fl op (la + 1) := ⟨h.1, h.2.1, h.2.2.1, h.2.2.2.1, rfl, h.2.2.2.2.2⟩
theorem lay_ag (S : St) (la : Nat) (t : Nat × Nat) : AgU S (lay S la t) := by
  refine ⟨AgO.fset (AgO.aset (AgO.aset AgO.rfl _ (by decide)) _ (by decide)) _ (by decide), fun i hi => ⟨?_, ?_⟩⟩
  · show upd (S.2.1 77) (260 + la) (tkA t) i = _
    exact pk_un (by omega)
  · show upd (S.2.1 78) (260 + la) (tkW t) i = _
    exact pk_un (by omega)
theorem TkR.lay {S : St} {TS : List (Nat × Nat)} (h : TkR S TS) (t : Nat × Nat) : TkR (lay S TS.length t) (TS ++ [t]) := by
  intro i hi
  rw [List.length_append] at hi
  have hi' : i < TS.length + 1 := hi
  show upd (S.2.1 77) (260 + TS.length) (tkA t) (260 + i) = _ ∧ upd (S.2.1 78) (260 + TS.length) (tkW t) (260 + i) = _
  by_cases c : i = TS.length
  · have e := getD_app_r TS [t] (0, 0) 0
    rw [Nat.add_zero] at e
    rw [c, pk_us, pk_us, e]
    exact ⟨rfl, rfl⟩
  · rw [pk_un (by omega), pk_un (by omega), getD_app_l _ _ _ (by omega)]
    exact h i (by omega)
theorem TkR.same {S S' : St} {TS : List (Nat × Nat)} (h : TkR S TS) (e1 : S'.2.1 77 = S.2.1 77) (e2 : S'.2.1 78 = S.2.1 78) : TkR S' TS := by
  unfold TkR
  rw [e1, e2]
  exact h
theorem faulty_eq {S : St} {p la : Nat} {op : Int32} (h : PB tx len S p (-1) op la) : F_X12_faulty S = some (fset S 63 21 (nI p)) := by
  unfold F_X12_faulty
  rw [if_neg (by rw [h.2.2.1]; decide)]
  show some (fset S 63 21 (S.1 63 20)) = _
  rw [h.2.1]
end
/-! what the machine does with what the reference has read -/
/-- the signs in P leave, W stays -/
theorem stl_app {k : Nat} (hk : 1 ≤ k) {W : List Nat} : ∀ (P : List Nat) (m : List Int32), (∀ s ∈ P, k ≤ sgS s) → stl k (P ++ W) m (uB (P ++ W)) = stl k W ((P.reverse.map (fun s => - nI s)) ++ m) (uB W)
  | [], m, _ => rfl
  | s :: P, m, h => by
    have hs := h s (List.mem_cons_self ..)
    have hn : ¬ s = 40 := fun z => by rw [z, s40] at hs; omega
    have ih := stl_app (W := W) hk P ((- nI s) :: m) (fun z hz => h z (List.mem_cons_of_mem _ hz))
    show (if sgS s < k then _ else stl k (P ++ W) ((- nI s) :: m) (if sgS s = 6 then uB (s :: (P ++ W)) - 1 else uB (s :: (P ++ W)))) = _
    have eu : (if sgS s = 6 then uB (s :: (P ++ W)) - 1 else uB (s :: (P ++ W))) = uB (P ++ W) := by
      rw [uB_cons]
      by_cases d : sgS s = 6
      · rw [if_pos d, if_pos (Or.inr d)]; omega
      · rw [if_neg d, if_neg (fun z => z.elim hn d)]; omega
    rw [if_neg (by omega), eu, ih, List.reverse_cons, List.map_append, List.append_assoc]
    rfl
theorem stl_top_lt {k : Nat} {W : List Nat} (h : sgS (W.headD 0) < k) (m : List Int32) (o : Nat) : stl k W m o = (W, m, o) := by
  cases W with
  | nil => rfl
  | cons s W => exact if_pos h
theorem stl_all {k : Nat} (hk : 1 ≤ k) {W P : List Nat} (h : sgS (W.headD 0) < k) (hP : ∀ s ∈ P, k ≤ sgS s) (m : List Int32) : stl k (P ++ W) m (uB (P ++ W)) = (W, (P.reverse.map (fun s => - nI s)) ++ m, uB W) := by
  rw [stl_app hk P m hP, stl_top_lt h]
