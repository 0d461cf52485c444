/-- all cells but those of the reference's night and those in which laws are worked out -/
def fG (c s : Nat) : Bool := !decide ((c, s) ∈ ([(2, 3), (3, 3), (63, 34), (63, 39)] : List (Nat × Nat)))
def aG (k : Nat) : Bool := !decide (k ∈ ([32, 33, 82, 83, 86, 87, 88, 89] : List Nat))
def AgG (S S' : St) : Prop := AgO fG aG lAll S S'
theorem fG_of {c s : Nat} (h : ¬ ((c = 2 ∨ c = 3) ∧ s = 3) ∧ ¬ (c = 63 ∧ (s = 34 ∨ s = 39))) : fG c s = true := not_t (fun q => by
  have := of_decide_eq_true q
  simp only [List.mem_cons, List.not_mem_nil, or_false, Prod.mk.injEq] at this
  omega)
theorem aG_of {k : Nat} (h : ¬ (k = 32 ∨ k = 33 ∨ k = 82 ∨ k = 83 ∨ k = 86 ∨ k = 87 ∨ k = 88 ∨ k = 89)) : aG k = true := not_t (fun q => by
  have := of_decide_eq_true q
  simp only [List.mem_cons, List.not_mem_nil, or_false] at this
  omega)
theorem fG_fW {c s : Nat} (h : fG c s = true) : fW c s = true := by
  refine fW_of (fun q => ?_)
  rcases q with ⟨rfl | rfl, rfl⟩ <;> exact absurd h (by decide)
theorem aG_aW {k : Nat} (h : aG k = true) : aW k = true := by
  refine aW_of ?_
  rintro (rfl | rfl | rfl | rfl) <;> exact absurd h (by decide)
theorem AgW.g {S S' : St} (h : AgW S S') : AgG S S' := AgO.weak h (fun _ _ q => fG_fW q) (fun _ q => aG_aW q) (fun _ q => q)
theorem AgG.rlq {S S' : St} {V : Nat → Nat → Nat} {L0 L1 : LawT} (h : AgG S S') (hr : RlQ S V L0 L1) : RlQ S' V L0 L1 := by
  refine ⟨hr.1.agree (AgO.weak h (fun c s q => fG_of (by have := fRl_mem q; omega)) (fun k q => aG_of (by have := aRl_mem q; omega)) (fun k q => by cases q)), hr.2.1.agree (h.2.1 _ (by decide)) (h.2.1 _ (by decide)) (h.2.1 _ (by decide)) (h.2.1 _ (by decide)) (h.2.1 _ (by decide)) (h.2.1 _ (by decide)), hr.2.2.agree (h.2.1 _ (by decide)) (h.2.1 _ (by decide)) (h.2.1 _ (by decide)) (h.2.1 _ (by decide)) (h.2.1 _ (by decide)) (h.2.1 _ (by decide))⟩
theorem go_253 {S : St} {V : Nat → Nat → Nat} (ok : OKV V) (hr : RlP S V) {l : Nat} (hl : l < V 8 0) (k29 : Int32 → Int32 → St → Option (St)) (told : Int32) : F_X12_goNight_253 k29 told (nI l) S = k29 (told ||| nI (V 4 l)) (nI l) (fset S 63 34 (S.1 63 34 + 1)) := by
  have h20 := ok.1
  have e := (hr.2.2.2.1 l hl).2.2.2.2.1
  unfold F_X12_goNight_253
  rw [gd_t (inb_nI (by omega) (by decide)), nI_clamp (by omega), e]
theorem go_190 {S : St} {V : Nat → Nat → Nat} (ok : OKV V) (hr : RlP S V) {l k : Nat} (hl : l < V 8 0) (hk : k < 60) (h0 : S.1 63 34 = nI k) (k29 : Int32 → Int32 → St → Option (St)) (told x3 lk : Int32) (hlk : nI (V 5 l) &&& (told ^^^ (-1)) = lk) : F_X12_goNight_190 k29 told x3 (nI l) S = if lk = 0 then F_X12_goNight_253 k29 told (nI l) (aset (aset (aset S 86 (upd (S.2.1 86) k (nI l))) 87 (upd (S.2.1 87) k x3)) 88 (upd (S.2.1 88) k lk)) else F_X12_goNight_253 k29 told (nI l) (aset (aset (aset (aset S 86 (upd (S.2.1 86) k (nI l))) 87 (upd (S.2.1 87) k x3)) 88 (upd (S.2.1 88) k lk)) 89 (upd (S.2.1 89) 3 (S.2.1 89 3 + 1))) := by
  have h20 := ok.1
  have e5 := (hr.2.2.2.1 l hl).2.2.2.2.2.1
  have g1 : inb (S.1 63 34) 60 = true := by rw [h0]; exact inb_nI hk (by decide)
  have g2 : inb (nI l) 20 = true := inb_nI (by omega) (by decide)
  have g3 : inb (3 : Int32) 5 = true := by decide
  have ck : Int32.toNatClampNeg (S.1 63 34) = k := by rw [h0]; exact nI_clamp (by omega)
  have cl : Int32.toNatClampNeg (nI l) = l := nI_clamp (by omega)
  have c3 : Int32.toNatClampNeg (3 : Int32) = 3 := by decide
  show gd (inb (S.1 63 34) 60) (gd (inb (S.1 63 34) 60) (gd (inb (nI l) 20) (gd (inb (S.1 63 34) 60) (gd (inb (S.1 63 34) 60) (if upd (S.2.1 88) (Int32.toNatClampNeg (S.1 63 34)) ((S.2.1 69 (Int32.toNatClampNeg (nI l))) &&& (told ^^^ (-1))) (Int32.toNatClampNeg (S.1 63 34)) = 0 then F_X12_goNight_253 k29 told (nI l) (aset (aset (aset S 86 (upd (S.2.1 86) (Int32.toNatClampNeg (S.1 63 34)) (nI l))) 87 (upd (S.2.1 87) (Int32.toNatClampNeg (S.1 63 34)) x3)) 88 (upd (S.2.1 88) (Int32.toNatClampNeg (S.1 63 34)) ((S.2.1 69 (Int32.toNatClampNeg (nI l))) &&& (told ^^^ (-1))))) else gd (inb (3 : Int32) 5) (gd (inb (3 : Int32) 5) (F_X12_goNight_253 k29 told (nI l) (aset (aset (aset (aset S 86 (upd (S.2.1 86) (Int32.toNatClampNeg (S.1 63 34)) (nI l))) 87 (upd (S.2.1 87) (Int32.toNatClampNeg (S.1 63 34)) x3)) 88 (upd (S.2.1 88) (Int32.toNatClampNeg (S.1 63 34)) ((S.2.1 69 (Int32.toNatClampNeg (nI l))) &&& (told ^^^ (-1))))) 89 (upd (S.2.1 89) (Int32.toNatClampNeg (3 : Int32)) (S.2.1 89 (Int32.toNatClampNeg (3 : Int32)) + 1)))))))))) = _
  rw [ck, cl, c3, gd_t g1, gd_t g1, gd_t g2, gd_t g1, gd_t g1, pk_us, e5, hlk, gd_t g3, gd_t g3]
/-- the reference: one line said -/
theorem go_say {S : St} {V : Nat → Nat → Nat} (ok : OKV V) (hr : RlP S V) {l mn k : Nat} (hl : l < V 8 0) (hm : mn ≤ 2) (hk : k < 60) (h0 : S.1 63 34 = nI k) (k29 : Int32 → Int32 → St → Option (St)) (told lk : Int32) (hlk : nI (V 5 l) &&& (told ^^^ (-1)) = lk) : ∃ S', F_X12_goNight_117 k29 told (nI mn) (nI l) S = k29 (told ||| nI (V 4 l)) (nI l) S' ∧ AgG S S' ∧ S'.1 63 34 = nI (k + 1) ∧ S'.1 63 39 = S.1 63 39 ∧ S'.2.1 89 1 = S.2.1 89 1 + ((nI (V 7 (V 0 l)) + nI (V 3 l)) + (if mn = 2 then nI (V 8 1) else 0)) ∧ S'.2.1 89 2 = S.2.1 89 2 + (if mn = 1 then 1 else 0) ∧ S'.2.1 89 3 = S.2.1 89 3 + (if lk = 0 then 0 else 1) ∧ S'.2.1 89 4 = S.2.1 89 4 + (if mn = 2 then 1 else 0) ∧ S'.2.1 86 = upd (S.2.1 86) k (nI l) ∧ S'.2.1 87 = upd (S.2.1 87) k (nI mn) ∧ S'.2.1 88 = upd (S.2.1 88) k lk := by
  have h20 := ok.1
  obtain ⟨e0, -, -, e3, -, e5, -⟩ := hr.2.2.2.1 l hl
  have b0 := (ok.2.2.2.1 l hl).1
  have e7 := hr.2.2.2.2 (V 0 l) b0
  have e10 := hr.2.1
  have g2 : inb (nI l) 20 = true := inb_nI (by omega) (by decide)
  have g3 : inb (nI (V 0 l)) 6 = true := inb_nI b0 (by decide)
  have cl : Int32.toNatClampNeg (nI l) = l := nI_clamp (by omega)
  have c0 : Int32.toNatClampNeg (nI (V 0 l)) = V 0 l := nI_clamp (by omega)
  have c1 : Int32.toNatClampNeg (1 : Int32) = 1 := by decide
  have c2 : Int32.toNatClampNeg (2 : Int32) = 2 := by decide
  have c4 : Int32.toNatClampNeg (4 : Int32) = 4 := by decide
  have i1 : inb (1 : Int32) 5 = true := by decide
  have i2 : inb (2 : Int32) 5 = true := by decide
  have i4 : inb (4 : Int32) 5 = true := by decide
  have hz := (congrArg (fun q : Int32 => q + 1) h0).trans (nI_1 k)
  have agr : ∀ g : Nat → Int32, AgO fRl aRl lNo S (aset S 89 g) := fun g => AgO.aset AgO.rfl _ (by decide)
  have s117 : F_X12_goNight_117 k29 told (nI mn) (nI l) S = F_X12_goNight_157 k29 told (nI mn) (nI l) 1 (S.2.1 89 1) (nI (V 7 (V 0 l)) + nI (V 3 l)) (if mn = 2 then nI (V 8 1) else 0) S := by
    unfold F_X12_goNight_117
    rw [gd_t i1, gd_t g2, cl, e0, gd_t g3, gd_t g2, c0, e7, e3, c1, e10]
    by_cases q : mn = 2
    · rw [if_pos q, if_pos (show nI mn = 2 by rw [q]; rfl)]
    · rw [if_neg q, if_neg (show ¬ nI mn = 2 from fun z => q (nI_inj (b := 2) (by omega) (by decide) z))]
  rw [s117]
  generalize hw : (if mn = 2 then nI (V 8 1) else 0) = wt
  have tail : ∀ (S1 : St) (g : Nat → Int32), S1 = aset S 89 g → ∃ S', F_X12_goNight_190 k29 told (nI mn) (nI l) S1 = k29 (told ||| nI (V 4 l)) (nI l) S' ∧ AgG S S' ∧ S'.1 63 34 = nI (k + 1) ∧ S'.1 63 39 = S.1 63 39 ∧ S'.2.1 89 1 = g 1 ∧ S'.2.1 89 2 = g 2 ∧ S'.2.1 89 3 = g 3 + (if lk = 0 then 0 else 1) ∧ S'.2.1 89 4 = g 4 ∧ S'.2.1 86 = upd (S.2.1 86) k (nI l) ∧ S'.2.1 87 = upd (S.2.1 87) k (nI mn) ∧ S'.2.1 88 = upd (S.2.1 88) k lk := by
    intro S1 g hS1
    have hr1 : RlP S1 V := by rw [hS1]; exact hr.agree (agr g)
    rw [go_190 ok hr1 hl hk (by rw [hS1]; exact h0) k29 told (nI mn) lk hlk]
    have hr2 : ∀ f1 f2 f3 f4 : Nat → Int32, RlP (aset (aset (aset (aset S1 86 f1) 87 f2) 88 f3) 89 f4) V := fun f1 f2 f3 f4 => hr1.agree (AgO.aset (AgO.aset (AgO.aset (AgO.aset AgO.rfl _ (by decide)) _ (by decide)) _ (by decide)) _ (by decide))
    have hr3 : ∀ f1 f2 f3 : Nat → Int32, RlP (aset (aset (aset S1 86 f1) 87 f2) 88 f3) V := fun f1 f2 f3 => hr1.agree (AgO.aset (AgO.aset (AgO.aset AgO.rfl _ (by decide)) _ (by decide)) _ (by decide))
    by_cases q : lk = 0
    · rw [if_pos q, if_pos q, go_253 ok (hr3 _ _ _) hl, hS1]
      exact ⟨_, rfl, AgO.fset (AgO.aset (AgO.aset (AgO.aset (AgO.aset AgO.rfl _ (by decide)) _ (by decide)) _ (by decide)) _ (by decide)) _ (by decide), hz, rfl, rfl, rfl, (Int32.add_zero _).symm, rfl, rfl, rfl, rfl⟩
    · rw [if_neg q, if_neg q, go_253 ok (hr2 _ _ _ _) hl, hS1]
      exact ⟨_, rfl, AgO.fset (AgO.aset (AgO.aset (AgO.aset (AgO.aset (AgO.aset AgO.rfl _ (by decide)) _ (by decide)) _ (by decide)) _ (by decide)) _ (by decide)) _ (by decide), hz, rfl, rfl, rfl, rfl, rfl, rfl, rfl, rfl⟩
  rcases (show mn = 0 ∨ mn = 1 ∨ mn = 2 by omega) with rfl | rfl | rfl
  · have s157 : F_X12_goNight_157 k29 told (nI 0) (nI l) 1 (S.2.1 89 1) (nI (V 7 (V 0 l)) + nI (V 3 l)) wt S = F_X12_goNight_190 k29 told (nI 0) (nI l) (aset S 89 (upd (S.2.1 89) 1 (S.2.1 89 1 + (nI (V 7 (V 0 l)) + nI (V 3 l) + wt)))) := by
      unfold F_X12_goNight_157
      rw [gd_t i1, c1, if_neg (show ¬ nI 0 = 1 by decide), if_neg (show ¬ nI 0 = 2 by decide)]
    obtain ⟨S', t1, t2, t3, t4, t5, t6, t7, t8, t9⟩ := tail _ _ rfl
    rw [s157]
    exact ⟨S', t1, t2, t3, t4, t5, t6.trans (Int32.add_zero _).symm, t7, t8.trans (Int32.add_zero _).symm, t9⟩
  · have s157 : F_X12_goNight_157 k29 told (nI 1) (nI l) 1 (S.2.1 89 1) (nI (V 7 (V 0 l)) + nI (V 3 l)) wt S = F_X12_goNight_190 k29 told (nI 1) (nI l) (aset S 89 (upd (upd (S.2.1 89) 1 (S.2.1 89 1 + (nI (V 7 (V 0 l)) + nI (V 3 l) + wt))) 2 (S.2.1 89 2 + 1))) := by
      unfold F_X12_goNight_157
      rw [gd_t i1, c1, if_pos (show nI 1 = 1 from rfl), gd_t i2, gd_t i2, if_neg (show ¬ nI 1 = 2 by decide), aset_aset, c2]
      rfl
    obtain ⟨S', t1, t2, t3, t4, t5, t6, t7, t8, t9⟩ := tail _ _ rfl
    rw [s157]
    exact ⟨S', t1, t2, t3, t4, t5, t6, t7, t8.trans (Int32.add_zero _).symm, t9⟩
  · have s157 : F_X12_goNight_157 k29 told (nI 2) (nI l) 1 (S.2.1 89 1) (nI (V 7 (V 0 l)) + nI (V 3 l)) wt S = F_X12_goNight_190 k29 told (nI 2) (nI l) (aset S 89 (upd (upd (S.2.1 89) 1 (S.2.1 89 1 + (nI (V 7 (V 0 l)) + nI (V 3 l) + wt))) 4 (S.2.1 89 4 + 1))) := by
      unfold F_X12_goNight_157
      rw [gd_t i1, c1, if_neg (show ¬ nI 2 = 1 by decide), if_pos (show nI 2 = 2 from rfl), gd_t i4, gd_t i4, aset_aset, c4]
      rfl
    obtain ⟨S', t1, t2, t3, t4, t5, t6, t7, t8, t9⟩ := tail _ _ rfl
    rw [s157]
    exact ⟨S', t1, t2, t3, t4, t5, t6.trans (Int32.add_zero _).symm, t7, t8, t9⟩
/-- the reference's night, k lines said -/
def NR (S : St) (L : LawT) (V : Nat → Nat → Nat) (sd : Int32) (k : Nat) : Prop := S.1 63 34 = nI k ∧ S.1 63 39 = nz sd k ∧ S.2.1 89 1 = nsec L V sd k ∧ S.2.1 89 2 = njp L V sd k ∧ S.2.1 89 3 = nlc L V sd k ∧ S.2.1 89 4 = ndr L V sd k ∧ ∀ i, i < k → S.2.1 86 i = nI (nl L V sd i) ∧ S.2.1 87 i = nI (nm L V sd i) ∧ S.2.1 88 i = nlk L V sd i
section
variable {N : Nat} {V : Nat → Nat → Nat} {L L1 : LawT} {sd : Int32}
theorem rl_perf (hN : 130 ≤ N) (ok : OKV V) (w0 : WfL L) (hn1 : 1 ≤ V 8 0) : ∀ (m k n : Nat) (S : St), RlQ S V L L1 → NR S L V sd k → na L V sd k ≤ V 8 0 → k + m = 60 → m < n → ∃ S', F_X12_goNight_29 N n (nt L V sd k) (nI (na L V sd k) - 1) S = some S' ∧ AgG S S' ∧ NR S' L V sd (nEnd L V sd m k) ∧ S'.2.1 89 0 = nI (nEnd L V sd m k)
  | m, k, 0, S, _, _, _, _, hn => absurd hn (Nat.not_lt_zero m)
  | m, k, n + 1, S, hr, hNR, hal, hk, hn => by
    have h20 := ok.1
    obtain ⟨n0, n1, n2, n3, n4, n5, n6⟩ := id hNR
    have fin : k = nEnd L V sd m k → ∃ S', gd (inb (0 : Int32) 5) (some (aset S 89 (upd (S.2.1 89) (Int32.toNatClampNeg (0 : Int32)) (S.1 63 34)))) = some S' ∧ AgG S S' ∧ NR S' L V sd (nEnd L V sd m k) ∧ S'.2.1 89 0 = nI (nEnd L V sd m k) := by
      intro he
      refine ⟨_, gd_t (by decide), AgO.aset AgO.rfl _ (by decide), ?_, ?_⟩
      · rw [← he]
        exact hNR
      · rw [← he]
        exact n0
    by_cases hs : V 8 0 ≤ na L V sd k
    · obtain ⟨S', f1, f2⟩ := fin (nEnd_stop L V sd hs).symm
      refine ⟨S', ?_, f2⟩
      show (if ((S.1 63 1) - 1) ≤ nI (na L V sd k) - 1 then gd (inb (0 : Int32) 5) (some (aset S 89 (upd (S.2.1 89) (Int32.toNatClampNeg (0 : Int32)) (S.1 63 34)))) else _) = _
      rw [if_pos (by rw [hr.1.1]; exact (stop_iff hn1 h20 (by omega)).mpr hs)]
      exact f1
    · have hst : ¬ ((S.1 63 1) - 1) ≤ nI (na L V sd k) - 1 := by rw [hr.1.1]; exact fun q => hs ((stop_iff hn1 h20 (by omega)).mp q)
      cases m with
      | zero =>
        obtain ⟨S', f1, f2⟩ := fin rfl
        refine ⟨S', ?_, f2⟩
        have e : k = 60 := hk
        show (if ((S.1 63 1) - 1) ≤ nI (na L V sd k) - 1 then _ else (if 60 ≤ (S.1 63 34) then gd (inb (0 : Int32) 5) (some (aset S 89 (upd (S.2.1 89) (Int32.toNatClampNeg (0 : Int32)) (S.1 63 34)))) else _)) = _
        rw [if_neg hst, if_pos (show (60 : Int32) ≤ S.1 63 34 by rw [n0, e]; decide)]
        exact f1
      | succ m =>
        rw [nEnd_go L V sd hs]
        have ha : na L V sd k < V 8 0 := by omega
        obtain ⟨h1, h2, h3⟩ := na_le L sd ha
        let S1 : St := fset S 63 39 (nz sd (k + 1))
        have a1 : AgG S S1 := AgO.fset AgO.rfl _ (by decide)
        have hr1 := a1.rlq hr
        obtain ⟨S2, k1, k2⟩ := rl_knows hN ok hr1.1 w0 hr1.2.1 ha
        have hr2 := k2.rlq hr1
        have z34 : S2.1 63 34 = nI k := (k2.1 _ _ (by decide)).trans n0
        have z39 : S2.1 63 39 = nz sd (k + 1) := k2.1 _ _ (by decide)
        obtain ⟨S3, s1, s2, s3, s4, s5, s6, s7, s8, s9, s10, s11⟩ := go_say ok hr2.1 h1 h2 (show k < 60 by omega) z34 (F_X12_goNight_29 N n) (nt L V sd k) (nlk L V sd k) rfl
        have e89 : S2.2.1 89 = S.2.1 89 := k2.2.1 _ (by decide)
        have e86 : S2.2.1 86 = S.2.1 86 := k2.2.1 _ (by decide)
        have e87 : S2.2.1 87 = S.2.1 87 := k2.2.1 _ (by decide)
        have e88 : S2.2.1 88 = S.2.1 88 := k2.2.1 _ (by decide)
        have hNR3 : NR S3 L V sd (k + 1) := by
          refine ⟨s3, s4.trans z39, by rw [s5, e89, n2]; rfl, by rw [s6, e89, n3]; rfl, by rw [s7, e89, n4]; rfl, by rw [s8, e89, n5]; rfl, fun i hi => ?_⟩
          rw [s9, s10, s11, e86, e87, e88]
          by_cases c : i = k
          · subst c
            exact ⟨pk_us, pk_us, pk_us⟩
          · rw [pk_un c, pk_un c, pk_un c]
            exact n6 i (by omega)
        have ag3 : AgG S S3 := (a1.trans k2.g).trans s2
        obtain ⟨S4, u1, u2, u3, u4⟩ := rl_perf hN ok w0 hn1 m (k + 1) n S3 (ag3.rlq hr) hNR3 (by omega) (by omega) (by omega)
        refine ⟨S4, ?_, ag3.trans u2, u3, u4⟩
        have u1' : F_X12_goNight_29 N n (nt L V sd (k + 1)) (nI (nl L V sd k)) S3 = some S4 := by
          rw [← u1, h3, nI_pred]
        rw [← u1']
        have s1' : F_X12_goNight_117 (F_X12_goNight_29 N n) (nt L V sd k) (nI (nm L V sd k)) (nI (nl L V sd k)) S2 = F_X12_goNight_29 N n (nt L V sd (k + 1)) (nI (nl L V sd k)) S3 := s1
        rw [← s1']
        have ez : (S.1 63 39) * 1103515245 + 12345 = nz sd (k + 1) := by rw [n1]; rfl
        have stp : F_X12_goNight_29 N (n + 1) (nt L V sd k) (nI (na L V sd k) - 1) S = (if rz (nz sd (k + 1)) < nI (knW L V (na L V sd k)) then (F_X12_goNight_117 (F_X12_goNight_29 N n) (nt L V sd k) 0 (nI (na L V sd k)) S2) else ((F_X12_jumpOf N (nI (na L V sd k) - 1) S2).bind (fun r_92 => if 0 ≤ r_92.1 then (if r_92.1 < 0 then (F_X12_goNight_117 (F_X12_goNight_29 N n) (nt L V sd k) 1 (nI (na L V sd k)) r_92.2) else (F_X12_goNight_117 (F_X12_goNight_29 N n) (nt L V sd k) 1 r_92.1 r_92.2)) else (if r_92.1 < 0 then (F_X12_goNight_117 (F_X12_goNight_29 N n) (nt L V sd k) 2 (nI (na L V sd k)) r_92.2) else (F_X12_goNight_117 (F_X12_goNight_29 N n) (nt L V sd k) 2 r_92.1 r_92.2))))) := by
          show (if ((S.1 63 1) - 1) ≤ nI (na L V sd k) - 1 then _ else (if 60 ≤ (S.1 63 34) then _ else ((F_X12_knows N (nI (na L V sd k) - 1 + 1) (fset S 63 39 (((S.1 63 39) * 1103515245) + 12345))).bind (fun r_84 => if rz (((S.1 63 39) * 1103515245) + 12345) < r_84.1 then (F_X12_goNight_117 (F_X12_goNight_29 N n) (nt L V sd k) 0 (nI (na L V sd k) - 1 + 1) r_84.2) else ((F_X12_jumpOf N (nI (na L V sd k) - 1) r_84.2).bind (fun r_92 => if 0 ≤ r_92.1 then (if r_92.1 < 0 then (F_X12_goNight_117 (F_X12_goNight_29 N n) (nt L V sd k) 1 (nI (na L V sd k) - 1 + 1) r_92.2) else (F_X12_goNight_117 (F_X12_goNight_29 N n) (nt L V sd k) 1 r_92.1 r_92.2)) else (if r_92.1 < 0 then (F_X12_goNight_117 (F_X12_goNight_29 N n) (nt L V sd k) 2 (nI (na L V sd k) - 1 + 1) r_92.2) else (F_X12_goNight_117 (F_X12_goNight_29 N n) (nt L V sd k) 2 r_92.1 r_92.2)))))))) = _
          rw [if_neg hst, if_neg (show ¬ (60 : Int32) ≤ S.1 63 34 by rw [n0]; exact nI_ge (b := 60) (by omega) (by decide)), Int32.sub_add_cancel, ez]
          have k1' : F_X12_knows N (nI (na L V sd k)) (fset S 63 39 (nz sd (k + 1))) = _ := k1
          rw [k1', Option.bind_some]
        rw [stp]
        unfold nl nm nCh
        by_cases c1 : rz (nz sd (k + 1)) < nI (knW L V (na L V sd k))
        · rw [if_pos c1, if_pos c1]; rfl
        · rw [if_neg c1, if_neg c1]
          by_cases c2 : na L V sd k = 0
          · have hj : F_X12_jumpOf N (nI (na L V sd k) - 1) S2 = some (-1, S2) := by
              rw [c2]
              exact rl_like0 ok hr2.1 (V 8 0) 0 N (by omega) (by omega)
            rw [hj, Option.bind_some, if_pos c2]
            show (if (0 : Int32) ≤ -1 then _ else (if (-1 : Int32) < 0 then (F_X12_goNight_117 (F_X12_goNight_29 N n) (nt L V sd k) 2 (nI (na L V sd k)) S2) else _)) = _
            rw [if_neg (by decide), if_pos (by decide), c2]; rfl
          · rw [pred_nI (by omega), if_neg c2, rl_like hN ok hr2.1 (by omega), Option.bind_some]
            have hll := lkj_le V (na L V sd k - 1) (V 8 0)
            by_cases c3 : lkj V (na L V sd k - 1) (V 8 0) = 0
            · rw [if_pos c3, c3]
              show (if (0 : Int32) ≤ nI 0 - 1 then _ else (if (nI 0 - 1 : Int32) < 0 then (F_X12_goNight_117 (F_X12_goNight_29 N n) (nt L V sd k) 2 (nI (na L V sd k)) S2) else _)) = _
              rw [if_neg (by decide), if_pos (by decide)]; rfl
            · rw [if_neg c3, pred_nI (by omega)]
              show (if (0 : Int32) ≤ nI (lkj V (na L V sd k - 1) (V 8 0) - 1) then (if nI (lkj V (na L V sd k - 1) (V 8 0) - 1) < 0 then _ else (F_X12_goNight_117 (F_X12_goNight_29 N n) (nt L V sd k) 1 (nI (lkj V (na L V sd k - 1) (V 8 0) - 1)) S2)) else _) = _
              rw [if_pos (nI_pos' (by omega)), if_neg (nI_pos (by omega))]; rfl
theorem rl_clear (hN : 130 ≤ N) : ∀ (m i n : Nat) (S : St), i + m = 5 → m < n → (∀ j, j < i → S.2.1 89 j = 0) → ∃ S', F_X12_goNight_7 N n (nI i) S = F_X12_goNight_29 N N 0 (-1) S' ∧ (∀ j, j < 5 → S'.2.1 89 j = 0) ∧ ∃ g, S' = aset S 89 g
  | m, i, 0, S, _, hn, _ => absurd hn (Nat.not_lt_zero m)
  | 0, i, n + 1, S, hi, _, hz => by
    have e : i = 5 := hi
    refine ⟨S, ?_, by rw [← e]; exact hz, S.2.1 89, (aset_self S 89).symm⟩
    show (if 5 ≤ nI i then (F_X12_goNight_29 N N 0 (-1) S) else _) = _
    rw [if_pos (show (5 : Int32) ≤ nI i by rw [e]; decide)]
  | m + 1, i, n + 1, S, hi, hn, hz => by
    obtain ⟨S', u1, u2, g, u3⟩ := rl_clear hN m (i + 1) n (aset S 89 (upd (S.2.1 89) i 0)) (by omega) (by omega) (fun j hj => by
      rw [aset_get]
      by_cases c : j = i
      · rw [c, pk_us]
      · rw [pk_un c]; exact hz j (by omega))
    refine ⟨S', ?_, u2, g, by rw [u3, aset_aset]⟩
    rw [← u1]
    show (if 5 ≤ nI i then _ else (gd (inb (nI i) 5) (F_X12_goNight_7 N n (nI i + 1) (aset S 89 (upd (S.2.1 89) (Int32.toNatClampNeg (nI i)) (0 : Int32)))))) = _
    rw [if_neg (show ¬ (5 : Int32) ≤ nI i from nI_ge (b := 5) (by omega) (by decide)), gd_t (inb_nI (by omega) (by decide)), nI_clamp (by omega), nI_1]
theorem rl_night (hN : 130 ≤ N) (ok : OKV V) (w0 : WfL L) (hn1 : 1 ≤ V 8 0) {S : St} (hr : RlQ S V L L1) (sd : Int32) (hsd : S.1 63 39 = sd) : ∃ S', F_X12_goNight N S = some S' ∧ AgG S S' ∧ NR S' L V sd (nEnd L V sd 60 0) ∧ S'.2.1 89 0 = nI (nEnd L V sd 60 0) := by
  let S1 : St := fset S 63 34 0
  have a1 : AgG S S1 := AgO.fset AgO.rfl _ (by decide)
  obtain ⟨S2, c1, c2, g, c3⟩ := rl_clear (N := N) hN 5 0 N S1 (by omega) (by omega) (fun j hj => absurd hj (Nat.not_lt_zero j))
  have a2 : AgG S S2 := by rw [c3]; exact AgO.aset a1 _ (by decide)
  have hNR0 : NR S2 L V sd 0 := by
    refine ⟨by rw [c3]; rfl, by rw [c3]; exact hsd, c2 1 (by decide), c2 2 (by decide), c2 3 (by decide), c2 4 (by decide), fun i hi => absurd hi (Nat.not_lt_zero i)⟩
  obtain ⟨S3, u1, u2, u3, u4⟩ := rl_perf (sd := sd) hN ok w0 hn1 60 0 N S2 (a2.rlq hr) hNR0 (Nat.zero_le _) (by omega) (by omega)
  refine ⟨S3, ?_, a2.trans u2, u3, u4⟩
  unfold F_X12_goNight
  show F_X12_goNight_7 N N 0 S1 = _
  have c1' : F_X12_goNight_7 N N 0 S1 = _ := c1
  rw [c1']
  exact u1
end
