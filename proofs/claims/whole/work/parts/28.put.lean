theorem byte_rng (v : Int32) : -128 ≤ (Int32.toInt64 ((Int32.toInt8 v).toInt32)).toInt ∧ (Int32.toInt64 ((Int32.toInt8 v).toInt32)).toInt ≤ 127 := by
  have h1 := Int8.le_toInt v.toInt8
  have h2 := Int8.toInt_lt v.toInt8
  rw [Int32.toInt_toInt64, Int8.toInt_toInt32]
  omega
/-- what a row of sort t keeps of a number -/
def narT (t : Nat) (v : Int64) : Int64 := if t = 0 then Int32.toInt64 ((Int32.toInt8 (Int64.toInt32 v)).toInt32) else if t = 1 then Int32.toInt64 ((Int32.toInt16 (Int64.toInt32 v)).toInt32) else if t = 2 then Int32.toInt64 (Int64.toInt32 v) else if t = 3 then v else if (lg_cmp v 0) = 0 then 0 else 1
theorem F_narrowed {S : St} {b t : Nat} (ht : t < 5) (hs : S.1 (14 + b) 2 = nI t) (v : Int64) : F_X9_narrowed b v S = some (narT t v, S) := by
  unfold F_X9_narrowed narT
  rw [hs]
  rcases (show t = 0 ∨ t = 1 ∨ t = 2 ∨ t = 3 ∨ t = 4 by omega) with rfl | rfl | rfl | rfl | rfl
  · rfl
  · rfl
  · rfl
  · rfl
  · rw [if_neg (by decide), if_neg (by decide), if_neg (by decide), if_pos (by decide)]
    by_cases hv : lg_cmp v 0 = 0
    · rw [if_pos hv, if_neg (by decide), if_neg (by decide), if_neg (by decide), if_neg (by decide), if_pos hv]
    · rw [if_neg hv, if_neg (by decide), if_neg (by decide), if_neg (by decide), if_neg (by decide), if_neg hv]
theorem narT_0 (v : Int64) : narT 0 v = Int32.toInt64 ((Int32.toInt8 (Int64.toInt32 v)).toInt32) := if_pos rfl
theorem narT_1 (v : Int64) : narT 1 v = Int32.toInt64 ((Int32.toInt16 (Int64.toInt32 v)).toInt32) := (if_neg (by decide)).trans (if_pos rfl)
theorem narT_2 (v : Int64) : narT 2 v = Int32.toInt64 (Int64.toInt32 v) := (if_neg (by decide)).trans ((if_neg (by decide)).trans (if_pos rfl))
theorem narT_3 (v : Int64) : narT 3 v = v := (if_neg (by decide)).trans ((if_neg (by decide)).trans ((if_neg (by decide)).trans (if_pos rfl)))
theorem narT_4 (v : Int64) : narT 4 v = if (lg_cmp v 0) = 0 then 0 else 1 := (if_neg (by decide)).trans ((if_neg (by decide)).trans ((if_neg (by decide)).trans (if_neg (by decide))))
theorem F_put12 {S : St} {b j t : Nat} (hb : b ≤ 5) (hj : j < 60) (ht : t < 5) (hw : F_X12_whyNoPlace (nI b) (nI j) S = some (0, S)) (q3 : S.2.1 100 b = -2 - nI t) (v : Int64) : F_X12_put (nI b) (nI j) v S = some (1, lset S 102 (vp_updL (S.2.2 102) (60 * b + j) (narT t v))) := by
  have i6 : inb (nI b) 6 = true := inb_nI (by omega) (by decide)
  have i360 : inb (nI (60 * b + j)) 360 = true := inb_nI (by omega) (by decide)
  have cb : Int32.toNatClampNeg (nI b) = b := nI_clamp (by omega)
  have cx : Int32.toNatClampNeg (nI (60 * b + j)) = 60 * b + j := nI_clamp (by omega)
  have p0 : (0 : Int32) ≤ 0 := by decide
  unfold F_X12_put
  rw [hw, Option.bind_some]
  dsimp only
  rw [if_pos p0, gd_t i6, cb, q3, ix60, gd_t i360, cx]
  rcases (show t = 0 ∨ t = 1 ∨ t = 2 ∨ t = 3 ∨ t = 4 by omega) with rfl | rfl | rfl | rfl | rfl
  · rw [if_pos (by decide), narT_0]
  · rw [if_neg (by decide), if_pos (by decide), narT_1, gd_t i360]
  · rw [if_neg (by decide), if_neg (by decide), if_pos (by decide), narT_2, gd_t i360]
  · rw [if_neg (by decide), if_neg (by decide), if_neg (by decide), if_pos (by decide), narT_3, gd_t i360]
  · rw [if_neg (by decide), if_neg (by decide), if_neg (by decide), if_neg (by decide), narT_4]
    by_cases hv : lg_cmp v 0 = 0
    · rw [if_pos hv, if_pos hv, gd_t i360]
    · rw [if_neg hv, if_neg hv, gd_t i360]
/-- put -/
theorem st_put {S : St} (h : Inv S) (x y : Int32) (v : Int64) : Both (F_X11_put x y v) (F_X12_put x y v) S := by
  obtain ⟨V, kd, hI⟩ := id h
  obtain ⟨r, h1, h2, hr⟩ := place hI x y
  unfold F_X11_put F_X9_store
  rcases hr with ⟨hr, hr0⟩ | ⟨rfl, b, j, t, z, hb, rfl, rfl, hj, hz, ht, q1, q2, q3⟩
  · have : ¬ 0 ≤ r := Int32.not_le.mpr hr
    refine both_ro h (r := r) ?_ ?_
    · simp only [h1, Option.bind_some, if_neg hr0]
    · unfold F_X12_put
      simp only [h2 S rfl, Option.bind_some, if_neg this]
  · have i6 : inb (nI b) 6 = true := inb_nI (by omega) (by decide)
    have i60 : inb (nI j) 60 = true := inb_nI (by omega) (by decide)
    have i360 : inb (nI (60 * b + j)) 360 = true := inb_nI (by omega) (by decide)
    have cb : Int32.toNatClampNeg (nI b) = b := nI_clamp (by omega)
    have cj : Int32.toNatClampNeg (nI j) = j := nI_clamp (by omega)
    have cx : Int32.toNatClampNeg (nI (60 * b + j)) = 60 * b + j := nI_clamp (by omega)
    have p0 : (0 : Int32) ≤ 0 := by decide
    let S1 : St := lset S (57 + b) (vp_updL (S.2.2 (57 + b)) j (narT t v))
    let S2 : St := lset S1 102 (vp_updL (S.2.2 102) (60 * b + j) (narT t v))
    have e22 : S1.2.2 102 = S.2.2 102 := by
      show va_up S.2.2 (57 + b) _ 102 = _
      unfold va_up
      rw [if_neg (by omega)]
    have hw : F_X12_whyNoPlace (nI b) (nI j) S1 = some (0, S1) := h2 S1 rfl
    refine ⟨1, S1, S2, ?_, ?_, V, kd, ?_⟩
    · simp only [h1, Option.bind_some, if_true, gd_t i6, cb, F_narrowed ht q2, gd_t i60, cj]
      rfl
    · rw [F_put12 hb (by omega) ht hw q3 v, e22]
    · obtain ⟨hP, hT, hB, hTr, hSh, hRest⟩ := hI
      have ot : ∀ c, c < 6 → c ≠ b → ShB S kd c → IShelf (S.1 (14 + c) 0) (S.1 (14 + c) 1) (S.1 (14 + c) 2) (S.1 (14 + c) 3) (S.2.1 100 c) (S.2.1 101 c) (S.2.2 (57 + c)) (fun i => vp_updL (S.2.2 102) (60 * b + j) (narT t v) (60 * c + i)) kd := fun c hc hne hs => hs.e2 (fun i hi => pk_uLn (by omega))
      have nw : ShB S kd b → IShelf (S.1 (14 + b) 0) (S.1 (14 + b) 1) (S.1 (14 + b) 2) (S.1 (14 + b) 3) (S.2.1 100 b) (S.2.1 101 b) (vp_updL (S.2.2 (57 + b)) j (narT t v)) (fun i => vp_updL (S.2.2 102) (60 * b + j) (narT t v) (60 * b + i)) kd := by
        rintro ⟨a1, a2⟩
        refine ⟨fun i hi => ?_, ?_⟩
        · show vp_updL (S.2.2 (57 + b)) j (narT t v) i = vp_updL (S.2.2 102) (60 * b + j) (narT t v) (60 * b + i)
          by_cases hij : i = j
          · subst hij
            rw [pk_uLs, pk_uLs]
          · rw [pk_uLn hij, pk_uLn (by omega)]
            exact a1 i hi
        · refine a2.imp id (fun q => q.imp id ?_)
          rintro ⟨c1, t', z', c2, c3, c4, c5, c6, c7, c8⟩
          refine ⟨c1, t', z', c2, c3, c4, c5, c6, c7, fun ht0 i hi => ?_⟩
          by_cases hij : i = j
          · subst hij
            rw [pk_uLs]
            have : t = t' := nI_inj (by omega) (by omega) (q2.symm.trans c4)
            have t0 : t = 0 := this.trans ht0
            rw [t0]
            exact byte_rng _
          · rw [pk_uLn hij]
            exact c8 ht0 i hi
      refine ⟨hP, hT, hB, hTr, sh_all (fun c hc => ?_), hRest⟩
      have hsc := sh_at hSh hc
      have eA : S2.2.2 (57 + c) = va_up S.2.2 (57 + b) (vp_updL (S.2.2 (57 + b)) j (narT t v)) (57 + c) := by
        exact if_neg (by omega)
      have eB : S2.2.2 102 = vp_updL (S.2.2 102) (60 * b + j) (narT t v) := rfl
      show IShelf (S.1 (14 + c) 0) (S.1 (14 + c) 1) (S.1 (14 + c) 2) (S.1 (14 + c) 3) (S.2.1 100 c) (S.2.1 101 c) (S2.2.2 (57 + c)) (fun i => S2.2.2 102 (60 * c + i)) kd
      rw [eA, eB]
      by_cases hcb : c = b
      · subst hcb
        rw [va_up, if_pos rfl]
        exact nw hsc
      · rw [va_up, if_neg (by omega)]
        exact ot c hc hcb hsc
