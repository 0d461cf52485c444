theorem fN_of {b c s : Nat} (h : c ≠ 5 + b) : fN b c s = true := by unfold fN; simp [h]
theorem aN_of {b k : Nat} (h : k ≠ 36 + b ∧ k ≠ 38 + b ∧ k ≠ 40 + b) : aN b k = true := by unfold aN; simp [h]
theorem AgN.cl {b : Nat} {S S' : St} {V : Nat → Nat → Nat} (h : AgN b S S') (hb : b < 2) (hc : ClP S V) : ClP S' V := hc.agree (AgO.weak h (fun c s q => fN_of (by have := fCl_mem q; omega)) (fun k q => aN_of (by have := aCl_mem q; omega)) (fun k q => by cases q))
theorem say_eq {S : St} {V : Nat → Nat → Nat} {b : Nat} (hb : b < 2) (ok : OKV V) (hc : ClP S V) {l mn k : Nat} (hl : l < V 8 0) (hm : mn ≤ 2) (hk : k < 60) (h0 : S.1 (5 + b) 0 = nI k) (told lk : Int32) (hlk : nI (V 5 l) &&& (told ^^^ (-1)) = lk) : ∃ S', F_X7_say b (nI l) (nI mn) told S = some S' ∧ AgN b S S' ∧ S'.1 (5 + b) 0 = nI (k + 1) ∧ S'.1 (5 + b) 4 = S.1 (5 + b) 4 + ((nI (V 7 (V 0 l)) + nI (V 3 l)) + (if mn = 2 then nI (V 8 1) else 0)) ∧ S'.1 (5 + b) 5 = S.1 (5 + b) 5 + (if mn = 1 then 1 else 0) ∧ S'.1 (5 + b) 6 = S.1 (5 + b) 6 + (if lk = 0 then 0 else 1) ∧ S'.1 (5 + b) 7 = S.1 (5 + b) 7 + (if mn = 2 then 1 else 0) ∧ S'.2.1 (36 + b) = upd (S.2.1 (36 + b)) k (nI l) ∧ S'.2.1 (38 + b) = upd (S.2.1 (38 + b)) k (nI mn) ∧ S'.2.1 (40 + b) = upd (S.2.1 (40 + b)) k lk := by
  rcases (show b = 0 ∨ b = 1 by omega) with rfl | rfl
  · exact say_0 ok hc hl hm hk h0 told lk hlk
  · exact say_1 ok hc hl hm hk h0 told lk hlk
/-- the class's night b, k lines said -/
def NC (S : St) (b : Nat) (L : LawT) (V : Nat → Nat → Nat) (sd : Int32) (k : Nat) : Prop := S.1 (5 + b) 0 = nI k ∧ S.1 (5 + b) 4 = nsec L V sd k ∧ S.1 (5 + b) 5 = njp L V sd k ∧ S.1 (5 + b) 6 = nlc L V sd k ∧ S.1 (5 + b) 7 = ndr L V sd k ∧ ∀ i, i < k → S.2.1 (36 + b) i = nI (nl L V sd i) ∧ S.2.1 (38 + b) i = nI (nm L V sd i) ∧ S.2.1 (40 + b) i = nlk L V sd i
theorem stop_iff {n a : Nat} (hn : 1 ≤ n) (h20 : n ≤ 20) (ha : a ≤ 20) : (nI n - 1 ≤ nI a - 1) ↔ n ≤ a := by
  rw [pred_nI (f := n) (by omega)]
  by_cases c : a = 0
  · subst c
    constructor
    · intro q
      exact absurd q (Int32.not_le.mpr (Int32.lt_of_lt_of_le (show (nI 0 - 1 : Int32) < 0 by decide) (nI_pos' (by omega))))
    · intro q; omega
  · rw [pred_nI (by omega), nI_leI (by omega) (by omega)]
    omega
theorem na_le (L : LawT) {V : Nat → Nat → Nat} (sd : Int32) {k : Nat} (h : na L V sd k < V 8 0) : nl L V sd k < V 8 0 ∧ nm L V sd k ≤ 2 ∧ na L V sd (k + 1) = nl L V sd k + 1 := by
  obtain ⟨h1, h2⟩ := nCh_lt L V (nz sd (k + 1)) h
  exact ⟨h1, h2, rfl⟩
theorem nEnd_stop (L : LawT) (V : Nat → Nat → Nat) (sd : Int32) {m k : Nat} (h : V 8 0 ≤ na L V sd k) : nEnd L V sd m k = k := by
  cases m with
  | zero => rfl
  | succ m => exact if_pos h
theorem nEnd_go (L : LawT) (V : Nat → Nat → Nat) (sd : Int32) {m k : Nat} (h : ¬ V 8 0 ≤ na L V sd k) : nEnd L V sd (m + 1) k = nEnd L V sd m (k + 1) := if_neg h
section
variable {N b : Nat} {V : Nat → Nat → Nat} {L : LawT} {sd : Int32}
theorem p114 (hb : b < 2) (ok : OKV V) {S : St} (hc : ClP S V) {k : Nat} (hk : k < 60) (ha : na L V sd k < V 8 0) (hN : NC S b L V sd k) (k15 : Nat → Int32 → Int32 → Int32 → Int32 → St → Option (Int32 × St)) : ∃ S', F_X7_perform_114 k15 b (nz sd (k + 1)) (nt L V sd k) (nI k) (nI (nl L V sd k)) (nI (nm L V sd k)) S = k15 b (nz sd (k + 1)) (nI (na L V sd (k + 1)) - 1) (nt L V sd (k + 1)) (nI (k + 1)) S' ∧ AgN b S S' ∧ NC S' b L V sd (k + 1) := by
  have h20 := ok.1
  obtain ⟨h1, h2, h3⟩ := na_le L sd ha
  obtain ⟨n0, n4, n5, n6, n7, n8⟩ := hN
  obtain ⟨S', s1, s2, s3, s4, s5, s6, s7, s8, s9, s10⟩ := say_eq hb ok hc h1 h2 hk n0 (nt L V sd k) (nlk L V sd k) rfl
  have e25 := ((s2.cl hb hc).2.2.2.1 _ h1).2.2.2.2.1
  refine ⟨S', ?_, s2, s3, by rw [s4, n4]; rfl, by rw [s5, n5]; rfl, by rw [s6, n6]; rfl, by rw [s7, n7]; rfl, fun i hi => ?_⟩
  · unfold F_X7_perform_114
    rw [s1, Option.bind_some, gd_t (inb_nI (by omega) (by decide)), nI_clamp (by omega), e25, nI_1, h3, nI_pred]
    rfl
  · rw [s8, s9, s10]
    by_cases c : i = k
    · subst c
      exact ⟨pk_us, pk_us, pk_us⟩
    · rw [pk_un c, pk_un c, pk_un c]
      exact n8 i (by omega)
theorem cl_perf (hN : 130 ≤ N) (hb : b < 2) (ok : OKV V) (hn1 : 1 ≤ V 8 0) : ∀ (m k n : Nat) (S : St), ClP S V → (∀ i, i < V 8 0 → S.2.1 (42 + b) i = nI (knW L V i)) → NC S b L V sd k → na L V sd k ≤ V 8 0 → k + m = 60 → m < n → ∃ S', F_X7_perform_15 N n b (nz sd k) (nI (na L V sd k) - 1) (nt L V sd k) (nI k) S = some (nz sd (nEnd L V sd m k), S') ∧ AgN b S S' ∧ NC S' b L V sd (nEnd L V sd m k)
  | m, k, 0, S, _, _, _, _, _, hn => absurd hn (Nat.not_lt_zero m)
  | 0, k, n + 1, S, hc, hkn, hNC, _, hk, _ => by
    have e : k = 60 := hk
    refine ⟨S, ?_, AgO.rfl, hNC⟩
    show (if 60 ≤ nI k then (some (nz sd k, S)) else _) = _
    rw [if_pos (show (60 : Int32) ≤ nI k by rw [e]; decide)]
    rfl
  | m + 1, k, n + 1, S, hc, hkn, hNC, hal, hk, hn => by
    have h20 := ok.1
    have g60 : ¬ (60 : Int32) ≤ nI k := nI_ge (b := 60) (by omega) (by decide)
    by_cases hs : V 8 0 ≤ na L V sd k
    · rw [nEnd_stop L V sd hs]
      refine ⟨S, ?_, AgO.rfl, hNC⟩
      show (if 60 ≤ nI k then _ else (if ((S.1 1 0) - 1) ≤ nI (na L V sd k) - 1 then (some (nz sd k, S)) else _)) = _
      rw [if_neg g60, if_pos (by rw [hc.1]; exact (stop_iff hn1 h20 (by omega)).mpr hs)]
    · rw [nEnd_go L V sd hs]
      have ha : na L V sd k < V 8 0 := by omega
      obtain ⟨h1, h2, h3⟩ := na_le L sd ha
      obtain ⟨S1, s1, s2, s3⟩ := p114 hb ok hc (show k < 60 by omega) ha hNC (F_X7_perform_15 N n)
      have hkn1 : ∀ i, i < V 8 0 → S1.2.1 (42 + b) i = nI (knW L V i) := fun i hi => by
        rw [s2.2.1 _ (aN_of (by omega))]; exact hkn i hi
      obtain ⟨S2, u1, u2, u3⟩ := cl_perf hN hb ok hn1 m (k + 1) n S1 (s2.cl hb hc) hkn1 s3 (by omega) (by omega) (by omega)
      refine ⟨S2, ?_, s2.trans u2, u3⟩
      rw [← u1, ← s1]
      have stp : F_X7_perform_15 N (n + 1) b (nz sd k) (nI (na L V sd k) - 1) (nt L V sd k) (nI k) S = (if rz (nz sd (k + 1)) < nI (knW L V (na L V sd k)) then (F_X7_perform_114 (F_X7_perform_15 N n) b (nz sd (k + 1)) (nt L V sd k) (nI k) (nI (na L V sd k)) 0 S) else (if nI (na L V sd k) - 1 = (-1) then (F_X7_perform_84 (F_X7_perform_15 N n) b (nz sd (k + 1)) (nt L V sd k) (nI k) (nI (na L V sd k)) (-1) S) else ((F_X8_likeliestJump N (nI (na L V sd k) - 1) S).bind (fun r_81 => F_X7_perform_84 (F_X7_perform_15 N n) b (nz sd (k + 1)) (nt L V sd k) (nI k) (nI (na L V sd k)) r_81.1 r_81.2)))) := by
        show (if 60 ≤ nI k then _ else (if ((S.1 1 0) - 1) ≤ nI (na L V sd k) - 1 then _ else (gd (inb (nI (na L V sd k) - 1 + 1) 20) (if rz (nz sd (k + 1)) < (S.2.1 (42 + b) (Int32.toNatClampNeg (nI (na L V sd k) - 1 + 1))) then (F_X7_perform_114 (F_X7_perform_15 N n) b (nz sd (k + 1)) (nt L V sd k) (nI k) (nI (na L V sd k) - 1 + 1) 0 S) else (if nI (na L V sd k) - 1 = (-1) then (F_X7_perform_84 (F_X7_perform_15 N n) b (nz sd (k + 1)) (nt L V sd k) (nI k) (nI (na L V sd k) - 1 + 1) (-1) S) else ((F_X8_likeliestJump N (nI (na L V sd k) - 1) S).bind (fun r_81 => F_X7_perform_84 (F_X7_perform_15 N n) b (nz sd (k + 1)) (nt L V sd k) (nI k) (nI (na L V sd k) - 1 + 1) r_81.1 r_81.2))))))) = _
        rw [if_neg g60, if_neg (by rw [hc.1]; exact fun q => hs ((stop_iff hn1 h20 (by omega)).mp q)), Int32.sub_add_cancel, gd_t (inb_nI (by omega) (by decide)), nI_clamp (by omega), hkn _ ha]
      rw [stp]
      unfold nl nm nCh
      have w84 : ∀ (T : St), F_X7_perform_84 (F_X7_perform_15 N n) b (nz sd (k + 1)) (nt L V sd k) (nI k) (nI (na L V sd k)) (-1) T = F_X7_perform_114 (F_X7_perform_15 N n) b (nz sd (k + 1)) (nt L V sd k) (nI k) (nI (na L V sd k)) 2 T := fun T => by
        unfold F_X7_perform_84
        rw [if_pos rfl, if_pos rfl]
      by_cases c1 : rz (nz sd (k + 1)) < nI (knW L V (na L V sd k))
      · rw [if_pos c1, if_pos c1]; rfl
      · rw [if_neg c1, if_neg c1]
        by_cases c2 : na L V sd k = 0
        · rw [if_pos (show nI (na L V sd k) - 1 = (-1 : Int32) by rw [c2]; decide), if_pos c2, w84, c2]; rfl
        · rw [pred_nI (by omega), if_neg (show ¬ nI (na L V sd k - 1) = (-1 : Int32) from fun z => nI_pos (n := na L V sd k - 1) (by omega) (by rw [z]; decide)), if_neg c2, cl_like hN ok hc (by omega), Option.bind_some]
          have hll := lkj_le V (na L V sd k - 1) (V 8 0)
          by_cases c3 : lkj V (na L V sd k - 1) (V 8 0) = 0
          · rw [if_pos c3, c3]
            show F_X7_perform_84 (F_X7_perform_15 N n) b (nz sd (k + 1)) (nt L V sd k) (nI k) (nI (na L V sd k)) (-1) S = _
            rw [w84]; rfl
          · rw [if_neg c3, pred_nI (by omega)]
            have hne : ¬ nI (lkj V (na L V sd k - 1) (V 8 0) - 1) = (-1 : Int32) := fun z => nI_pos (n := lkj V (na L V sd k - 1) (V 8 0) - 1) (by omega) (by rw [z]; decide)
            show F_X7_perform_84 (F_X7_perform_15 N n) b (nz sd (k + 1)) (nt L V sd k) (nI k) (nI (na L V sd k)) (nI (lkj V (na L V sd k - 1) (V 8 0) - 1)) S = _
            unfold F_X7_perform_84
            rw [if_neg hne, if_neg hne]; rfl
/-- all cells but a night's of the class -/
theorem cl_perform (hN : 130 ≤ N) (hb : b < 2) (ok : OKV V) (hn1 : 1 ≤ V 8 0) {S : St} (hc : ClP S V) (hkn : ∀ i, i < V 8 0 → S.2.1 (42 + b) i = nI (knW L V i)) (sd : Int32) : ∃ S', F_X7_perform N b sd S = some (nz sd (nEnd L V sd 60 0), S') ∧ AgN b S S' ∧ NC S' b L V sd (nEnd L V sd 60 0) := by
  have hf : ∀ s, fN b (5 + b) s = false := fun s => by unfold fN; simp
  let S1 : St := fset (fset (fset (fset (fset S (5 + b) 0 0) (5 + b) 4 0) (5 + b) 5 0) (5 + b) 6 0) (5 + b) 7 0
  have ha : AgN b S S1 := AgO.fset (AgO.fset (AgO.fset (AgO.fset (AgO.fset AgO.rfl _ (hf _)) _ (hf _)) _ (hf _)) _ (hf _)) _ (hf _)
  have hN0 : NC S1 b L V sd 0 := by
    rcases (show b = 0 ∨ b = 1 by omega) with rfl | rfl
    · exact ⟨rfl, rfl, rfl, rfl, rfl, fun i hi => absurd hi (Nat.not_lt_zero i)⟩
    · exact ⟨rfl, rfl, rfl, rfl, rfl, fun i hi => absurd hi (Nat.not_lt_zero i)⟩
  obtain ⟨S2, u1, u2, u3⟩ := cl_perf (sd := sd) hN hb ok hn1 60 0 N S1 (ha.cl hb hc) (fun i hi => by rw [ha.2.1 _ (aN_of (by omega))]; exact hkn i hi) hN0 (Nat.zero_le _) (by omega) (by omega)
  exact ⟨S2, u1, ha.trans u2, u3⟩
theorem cl_learn (hN : 130 ≤ N) (hb : b < 2) (ok : OKV V) {L1 : LawT} (w0 : WfL L) : ∀ (m i n : Nat) (S : St), ClQ S V L L1 → (∀ j, j < i → S.2.1 (42 + b) j = nI (knW L V j)) → i + m = V 8 0 → m < n → ∃ S', F_X7_learn_2 N n b (nI i) S = some S' ∧ (∀ j, j < V 8 0 → S'.2.1 (42 + b) j = nI (knW L V j)) ∧ AgO fW (fun k => aW k && !decide (k = 42 + b)) lAll S S'
  | m, i, 0, S, _, _, _, hn => absurd hn (Nat.not_lt_zero m)
  | 0, i, n + 1, S, hc, hj, hi, _ => by
    have e : i = V 8 0 := hi
    refine ⟨S, ?_, by rw [← e]; exact hj, AgO.rfl⟩
    show (if (S.1 1 0) ≤ nI i then (some S) else _) = _
    rw [if_pos (by rw [hc.1.1, e]; exact Int32.le_refl _)]
  | m + 1, i, n + 1, S, hc, hj, hi, hn => by
    have h20 := ok.1
    have hii : i < V 8 0 := by omega
    obtain ⟨S1, s1, s2⟩ := cl_knows hN ok hc.1 w0 hc.2.1 hii
    let S2 : St := aset S1 (42 + b) (upd (S1.2.1 (42 + b)) i (nI (knW L V i)))
    have ha : AgO (fun _ _ => true) (fun k => !decide (k = 42 + b)) lAll S1 S2 := AgO.aset AgO.rfl _ (by simp)
    have hc2 : ClQ S2 V L L1 := by
      have hc1 := s2.clq hc
      refine ⟨hc1.1.agree (AgO.weak ha (fun _ _ _ => rfl) (fun k q => by have := aCl_mem q; simp; omega) (fun k q => by cases q)), hc1.2.1.agree (ha.1 _ _ rfl) (ha.2.1 _ (by simp; omega)), hc1.2.2.agree (ha.1 _ _ rfl) (ha.2.1 _ (by simp; omega))⟩
    have hag : AgO fW (fun k => aW k && !decide (k = 42 + b)) lAll S S2 := (AgO.weak s2 (fun _ _ q => q) (fun k q => (Bool.and_eq_true _ _ ▸ q).1) (fun _ q => q)).trans (AgO.weak ha (fun _ _ _ => rfl) (fun k q => (Bool.and_eq_true _ _ ▸ q).2) (fun _ q => q))
    obtain ⟨S3, u1, u2, u3⟩ := cl_learn hN hb ok w0 m (i + 1) n S2 hc2 (fun j hj2 => by
      show (aset S1 (42 + b) _).2.1 (42 + b) j = _
      rw [aset_get]
      by_cases c : j = i
      · rw [c, pk_us]
      · rw [pk_un c, s2.2.1 _ (aW_of (by omega))]
        exact hj j (by omega)) (by omega) (by omega)
    refine ⟨S3, ?_, u2, hag.trans u3⟩
    rw [← u1]
    show (if (S.1 1 0) ≤ nI i then _ else ((F_X8_knows N (nI i) S).bind (fun r_17 => gd (inb (nI i) 20) (F_X7_learn_2 N n b (nI i + 1) (aset r_17.2 (42 + b) (upd (r_17.2.2.1 (42 + b)) (Int32.toNatClampNeg (nI i)) r_17.1)))))) = _
    rw [if_neg (by rw [hc.1.1]; exact nI_ge hii (by omega)), s1, Option.bind_some, gd_t (inb_nI (by omega) (by decide)), nI_clamp (by omega), nI_1]
end
