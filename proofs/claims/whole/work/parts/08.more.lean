theorem Go.pick {l : Launch} {d : Nat} {mi : MI} {K : Option Value → St → Prop} {pc : Nat} {ls ls' : List (Nat × Value)} {st : List Value} {S : St} (ks : List Nat) (h : lv_pick ls ks = ls') (k : Go l d mi K pc ls' st S) : Go l d mi K pc ls st S := by
  intro p e R s m args below meth c cells slots Q g H locs lsA F hr hP hD hS hl
  refine k p e R s m args below meth c cells slots Q g H locs lsA F hr hP hD hS (lv_sub hl ks ?_)
  subst h
  unfold lv_pick trL
  rw [List.map_filterMap]
  congr 1
  funext q
  rw [List.getElem?_map]
theorem mx_code : Cond.code Lib.Math.max.name Lib.Math.max.code 2 (some .int) ∈ gTs := gt_mem 598 (by decide +kernel) (by decide +kernel)
theorem mn_code : Cond.code Lib.Math.min.name Lib.Math.min.code 2 (some .int) ∈ gTs := gt_mem 595 (by decide +kernel) (by decide +kernel)
theorem mx_st : Cond.static Lib.Math.max.name ∈ gTs := List.mem_filter.mpr ⟨by decide +kernel, by decide +kernel⟩
theorem mn_st : Cond.static Lib.Math.min.name ∈ gTs := List.mem_filter.mpr ⟨by decide +kernel, by decide +kernel⟩
theorem Go.mmax {l : Launch} {d : Nat} {mi : MI} {K : Option Value → St → Prop} {pc : Nat} {ls : List (Nat × Value)} {st : List Value} {S : St} {idx : Nat} {x y : Int32} (hd : decode mi.2.2.1 pc = .ok (.invokestatic idx, 3)) (hlk : Cond.methodLink mi.1 idx Lib.Math.max.name ∈ gTs) (hrest : (st.map fun v => v.category).sum ≤ 8) (k : Go l (d + 1) mi K (pc + 3) ls (.int (if x < y then y else x) :: st) S) : Go l (d + 1) mi K pc ls (.int y :: .int x :: st) S := by
  intro p e R s m args below meth c cells slots Q g H locs lsA F hr hP hD hS hl
  have hts := F.2.2.2.2.1
  have hR := F.2.2.2.2.2.2.2.2.1
  exact va_mmax F.1 F.2.1 (F.2.2.1.trans hl.1.symm) F.2.2.2.1 (hts _ hlk) (hts _ mx_st) (hts _ in_J9) (hts _ mx_code) (by omega) (by rw [cat_map]; omega) F.2.2.2.2.2.2.2.2.2.1 F.2.2.2.2.2.2.2.2.2.2 hd (k p e R s m args below meth c cells slots Q g H locs lsA F hr hP hD hS hl)
theorem Go.mmin {l : Launch} {d : Nat} {mi : MI} {K : Option Value → St → Prop} {pc : Nat} {ls : List (Nat × Value)} {st : List Value} {S : St} {idx : Nat} {x y : Int32} (hd : decode mi.2.2.1 pc = .ok (.invokestatic idx, 3)) (hlk : Cond.methodLink mi.1 idx Lib.Math.min.name ∈ gTs) (hrest : (st.map fun v => v.category).sum ≤ 8) (k : Go l (d + 1) mi K (pc + 3) ls (.int (if y < x then y else x) :: st) S) : Go l (d + 1) mi K pc ls (.int y :: .int x :: st) S := by
  intro p e R s m args below meth c cells slots Q g H locs lsA F hr hP hD hS hl
  have hts := F.2.2.2.2.1
  have hR := F.2.2.2.2.2.2.2.2.1
  exact va_mmin F.1 F.2.1 (F.2.2.1.trans hl.1.symm) F.2.2.2.1 (hts _ hlk) (hts _ mn_st) (hts _ in_J9) (hts _ mn_code) (by omega) (by rw [cat_map]; omega) F.2.2.2.2.2.2.2.2.2.1 F.2.2.2.2.2.2.2.2.2.2 hd (k p e R s m args below meth c cells slots Q g H locs lsA F hr hP hD hS hl)
def bI (b : Bool) : Int32 := if b = true then 1 else 0
theorem bI_n (b : Bool) : narrow .boolean (.int (bI b)) = .int (bI b) := by cases b <;> rfl
theorem bI_0 {b : Bool} : bI b = 0 ↔ b = false := by cases b <;> decide
theorem bI_ne {b : Bool} : ¬ bI b = 0 ↔ b = true := by cases b <;> decide
theorem bI_t {b : Bool} (h : b = true) : bI b = 1 := by rw [h]; rfl
theorem bI_f {b : Bool} (h : b = false) : bI b = 0 := by rw [h]; rfl
/-- how many of the first n numbers have a property -/
def cnt (p : Nat → Bool) : Nat → Nat
  | 0 => 0
  | n + 1 => cnt p n + (if p n = true then 1 else 0)
theorem cnt_le (p : Nat → Bool) : ∀ n, cnt p n ≤ n
  | 0 => Nat.le_refl 0
  | n + 1 => by
    have := cnt_le p n
    show cnt p n + _ ≤ n + 1
    split <;> omega
theorem res {r : Option Value} {S : St} : Res r S r S := ⟨rfl, rfl⟩
theorem res_i {x y : Int32} {S S' : St} (h : x = y) (hs : S = S') : Res (some (.int y)) S' (some (.int x)) S := ⟨by rw [h], hs⟩
