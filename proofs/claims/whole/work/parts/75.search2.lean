section
variable {N : Nat} {V : Nat → Nat → Nat} {t i0 T0 : Nat}
theorem st_steps {S : St} {F a0 nx : Nat} {ln tl pr : Nat → Nat} {g : Nat → List Nat} (ok : OKV V) (hB : BQ V t i0 T0 F a0 nx ln tl pr g) (hq : ∀ a, a < F → S.2.1 45 a = nI (qc (ln a) (tl a) (pr a))) (hF : F ≤ 5121) : ∀ (a c n : Nat), a < F → c + a ≤ 5120 → a < n → F_X10_stepsTo_4 n (nI a) (nI c) S = some (nI (c + (g a).length), S) := by
  have h20 := ok.1
  intro a
  induction a using Nat.strongRecOn with
  | ind a ih =>
    intro c n haF hca hn
    obtain ⟨n, rfl⟩ : ∃ k, n = k + 1 := ⟨n - 1, by omega⟩
    have g1 : ¬ (5121 : Int32) ≤ nI c := nI_ge (b := 5121) (by omega) (by decide)
    rcases Nat.eq_zero_or_pos a with z | z
    · subst z
      show (if 5121 ≤ nI c then _ else (if 0 < nI 0 then _ else (some (nI c, S)))) = _
      rw [if_neg g1, if_neg (show ¬ (0 : Int32) < nI 0 by decide), hB.1.2.2.2]
      rfl
    · obtain ⟨q1, q2, q3, q4, q5, q6⟩ := hB.2.2.1 a z haF
      obtain ⟨hl, hT⟩ := hB.2.1 a haF
      have hlen := (hB.len a haF).2 z
      have := ih (pr a) q1 (c + 1) n (by omega) (by omega) (by omega)
      show (if 5121 ≤ nI c then _ else (if 0 < nI a then (gd (inb (nI a) 5121) (F_X10_stepsTo_4 n ((S.2.1 45 (Int32.toNatClampNeg (nI a))) >>> (13 &&& 31)) (nI c + 1) S)) else _)) = _
      rw [if_neg g1, if_pos (h_0lt z (by omega)), gd_t (inb_nI (by omega) (by decide)), nI_clamp (by omega), hq a haF, qc_p (by omega) hT (by omega), nI_1, this]
      congr 3
      omega
theorem st_lineAt {S : St} {F a0 nx : Nat} {ln tl pr : Nat → Nat} {g : Nat → List Nat} (ok : OKV V) (hB : BQ V t i0 T0 F a0 nx ln tl pr g) (hq : ∀ a, a < F → S.2.1 45 a = nI (qc (ln a) (tl a) (pr a))) (hF : F ≤ 5121) {k : Nat} : ∀ (a n : Nat), a < F → k < (g a).length → a < n → F_X10_lineAt_12 n (nI k) (nI a) (nI ((g a).length - 1)) S = some (nI ((g a).getD k 0), S) := by
  have h20 := ok.1
  intro a
  induction a using Nat.strongRecOn with
  | ind a ih =>
    intro n haF hk hn
    obtain ⟨n, rfl⟩ : ∃ k, n = k + 1 := ⟨n - 1, by omega⟩
    have hla := (hB.len a haF).1
    have z : 1 ≤ a := by
      rcases Nat.eq_zero_or_pos a with z | z
      · subst z; rw [hB.1.2.2.2] at hk; exact absurd hk (Nat.not_lt_zero k)
      · exact z
    obtain ⟨q1, q2, q3, q4, q5, q6⟩ := hB.2.2.1 a z haF
    obtain ⟨hl, hT⟩ := hB.2.1 a haF
    have hlen := (hB.len a haF).2 z
    have ga : inb (nI a) 5121 = true := inb_nI (by omega) (by decide)
    show (if nI ((g a).length - 1) ≤ nI k then ((F_X10_lineOf (nI a) S).bind (fun r_36 => some (r_36.1, r_36.2))) else (gd (inb (nI a) 5121) (F_X10_lineAt_12 n (nI k) ((S.2.1 45 (Int32.toNatClampNeg (nI a))) >>> (13 &&& 31)) (nI ((g a).length - 1) + (-1)) S))) = _
    by_cases c : (g a).length - 1 ≤ k
    · rw [if_pos (nI_le c (by omega))]
      unfold F_X10_lineOf
      rw [gd_t ga, nI_clamp (by omega), hq a haF, qc_l (by omega) hT (by omega), Option.bind_some]
      have e : (g a).getD k 0 = ln a := by
        have e2 := getD_app_r (g (pr a)) [ln a] 0 0
        rw [Nat.add_zero] at e2
        rw [show k = (g (pr a)).length by omega, q6, e2]
        rfl
      rw [e]
    · rw [if_neg (nI_ge (by omega) (by omega)), gd_t ga, nI_clamp (by omega), hq a haF, qc_p (by omega) hT (by omega), sb_m1 (by omega)]
      have e1 : (g a).length - 1 - 1 = (g (pr a)).length - 1 := by omega
      have e2 : (g a).getD k 0 = (g (pr a)).getD k 0 := by
        rw [q6, getD_app_l _ _ _ (by omega)]
      rw [e1, e2]
      exact ih (pr a) q1 n (by omega) (by omega) (by omega)
/-- what the search tells -/
def Way (V : Nat → Nat → Nat) (N t i0 T0 : Nat) (r : Int32) (S : St) : Prop := (r = -1 ∧ ∀ ls, ¬ VPt V t ls i0 T0) ∨ ∃ P : List Nat, 1 ≤ P.length ∧ P.length ≤ 5121 ∧ r = nI P.length ∧ VPt V t P i0 T0 ∧ (∀ ls, VPt V t ls i0 T0 → Le2 P ls) ∧ (∀ j ∈ P, j < V 8 0) ∧ ∀ k, k < P.length → F_X10_lineAt N (nI P.length) (nI k) S = some (nI (P.getD k 0), S)
theorem VPt.mem {ls : List Nat} : ∀ {i T : Nat}, VPt V t ls i T → ∀ j ∈ ls, j < V 8 0 := by
  induction ls with
  | nil => intro i T h; exact h.elim
  | cons a ls ih =>
    intro i T h j hj
    obtain ⟨h1, h2, h3⟩ := h
    rcases List.mem_cons.mp hj with e | e
    · rw [e]; exact h1
    · by_cases c : a = t
      · rw [if_pos c] at h3
        rw [h3] at e
        cases e
      · rw [if_neg c] at h3
        exact ih h3 j e
theorem fnd_way (hN : 1000000000 ≤ N) (ok : OKV V) (ht : t < V 8 0) {S : St} {a0 : Nat} (h : Fnd V t i0 T0 a0 S) : ∃ r, F_X10_stepsTo N ((S.1 7 2) - 1) S = some (r, S) ∧ Way V N t i0 T0 r S := by
  have h20 := ok.1
  obtain ⟨F, ln, tl, pr, g, hB, ha0, hmg, hF, h72, hq, hqF⟩ := h
  obtain ⟨hl, hT⟩ := hB.2.1 a0 ha0
  have hla := (hB.len a0 ha0).1
  have ho := or256 ok ht hT
  have e72 : (S.1 7 2) - 1 = nI F := by rw [h72, nI_pred]
  have hP1 : (g a0 ++ [t]).length = (g a0).length + 1 := by rw [List.length_append]; rfl
  have hw1 : VPt V t [t] (ln a0) (tl a0) := ⟨ht, hmg, by rw [if_pos rfl]⟩
  have hw := hB.way a0 ha0 [t] hw1
  have F1 : 1 ≤ F := hB.1.1
  refine ⟨nI (g a0 ++ [t]).length, ?_, Or.inr ⟨g a0 ++ [t], by omega, by omega, rfl, hw, fun ls hv => ?_, VPt.mem hw, fun k hk => ?_⟩⟩
  · have := st_steps ok hB hq (by omega) a0 1 (N - 1) ha0 (by omega) (by omega)
    rw [e72]
    unfold F_X10_stepsTo
    obtain ⟨n, hn⟩ : ∃ n, N = n + 1 := ⟨N - 1, by omega⟩
    rw [hn] at this ⊢
    rw [Nat.add_sub_cancel] at this
    have key : ∀ c : Int32, ¬ 5121 ≤ c → F_X10_stepsTo_4 (n + 1) (nI F) c S = F_X10_stepsTo_4 n (nI a0) (c + 1) S := by
      intro c hcc
      show (if 5121 ≤ c then _ else (if 0 < nI F then (gd (inb (nI F) 5121) (F_X10_stepsTo_4 n ((S.2.1 45 (Int32.toNatClampNeg (nI F))) >>> (13 &&& 31)) (c + 1) S)) else _)) = _
      rw [if_neg hcc, if_pos (h_0lt F1 (by omega)), gd_t (inb_nI (by omega) (by decide)), nI_clamp (by omega), hqF, qc_p (by omega) ho (by omega)]
    rw [key 0 (by decide), hP1, Nat.add_comm]
    exact this
  · have := hB.min ha0 ls 0 (by omega) (by rw [hB.1.2.1, hB.1.2.2.1]; exact hv)
    rw [hB.1.2.2.2, List.nil_append] at this
    exact this
  · unfold F_X10_lineAt
    have e1 : nI (g a0 ++ [t]).length - 1 = nI (g a0).length := by rw [hP1, nI_pred]
    rw [e72, e1]
    obtain ⟨n, hn⟩ : ∃ n, N = n + 1 := ⟨N - 1, by omega⟩
    have gF : inb (nI F) 5121 = true := inb_nI (by omega) (by decide)
    rw [hn]
    show (if nI (g a0).length ≤ nI k then ((F_X10_lineOf (nI F) S).bind (fun r_36 => some (r_36.1, r_36.2))) else (gd (inb (nI F) 5121) (F_X10_lineAt_12 n (nI k) ((S.2.1 45 (Int32.toNatClampNeg (nI F))) >>> (13 &&& 31)) (nI (g a0).length + (-1)) S))) = _
    by_cases c : (g a0).length ≤ k
    · rw [if_pos (nI_le c (by omega))]
      unfold F_X10_lineOf
      rw [gd_t gF, nI_clamp (by omega), hqF, qc_l (by omega) ho (by omega), Option.bind_some]
      have e2 := getD_app_r (g a0) [t] 0 0
      rw [Nat.add_zero] at e2
      rw [show k = (g a0).length by omega, e2]
      rfl
    · rw [if_neg (nI_ge (by omega) (by omega)), gd_t gF, nI_clamp (by omega), hqF, qc_p (by omega) ho (by omega), sb_m1 (by omega), getD_app_l _ _ _ (by omega)]
      exact st_lineAt ok hB hq (by omega) a0 n ha0 (by omega) (by omega)
theorem cl_s54 (hN : 1000000000 ≤ N) (ok : OKV V) (ht : t < V 8 0) : ∀ (m a0 n : Nat) (S : St) (F : Nat) (ln tl pr : Nat → Nat) (g : Nat → List Nat), ClP S V → CQ S F ln tl pr → BQ V t i0 T0 F a0 0 ln tl pr g → a0 ≤ F → F ≤ 5121 → a0 + m = 5122 → m < n → ∃ S' r, F_X10_search_54 N n (nI t) (nI a0) S = some (r, S') ∧ AgB S S' ∧ Way V N t i0 T0 r S'
  | m, a0, 0, S, F, ln, tl, pr, g, _, _, _, _, _, _, hn => absurd hn (Nat.not_lt_zero m)
  | 0, a0, n + 1, S, F, ln, tl, pr, g, _, _, _, haF, hF, hm, _ => by omega
  | m + 1, a0, n + 1, S, F, ln, tl, pr, g, hc, hQ, hB, haF, hF, hm, hn => by
    by_cases c : a0 = F
    · subst c
      refine ⟨S, -1, ?_, AgO.rfl, Or.inl ⟨rfl, fun ls hv => ?_⟩⟩
      · show (if (S.1 7 2) ≤ nI a0 then (some ((-1), S)) else _) = _
        rw [if_pos (by rw [hQ.1]; exact Int32.le_refl _)]
      · exact hB.none ls 0 hB.1.1 (by rw [hB.1.2.1, hB.1.2.2.1]; exact hv)
    · have ha : a0 < F := by omega
      obtain ⟨S1, a1, u⟩ := cl_reaches (N := N) (by omega) ok ht hc hQ hB ha hF
      have stp : F_X10_search_54 N (n + 1) (nI t) (nI a0) S = ((F_X10_reaches N (nI a0) (nI t) S).bind (fun r_78 => if r_78.1 = 0 then (F_X10_search_54 N n (nI t) (nI (a0 + 1)) r_78.2) else ((F_X10_stepsTo N ((r_78.2.1 7 2) - 1) r_78.2).bind (fun r_91 => some (r_91.1, r_91.2))))) := by
        show (if (S.1 7 2) ≤ nI a0 then _ else (if 5121 ≤ nI a0 then _ else ((F_X10_reaches N (nI a0) (nI t) S).bind (fun r_78 => if r_78.1 = 0 then (F_X10_search_54 N n (nI t) (nI a0 + 1) r_78.2) else ((F_X10_stepsTo N ((r_78.2.1 7 2) - 1) r_78.2).bind (fun r_91 => some (r_91.1, r_91.2))))))) = _
        rw [if_neg (by rw [hQ.1]; exact nI_ge ha (by omega)), if_neg (show ¬ (5121 : Int32) ≤ nI a0 from nI_ge (b := 5121) (by omega) (by decide)), nI_1]
      rw [stp]
      rcases u with ⟨u1, u2⟩ | ⟨u1, F', ln', tl', pr', g', u2, u3, u4, u5⟩
      · obtain ⟨r, r1, r2⟩ := fnd_way hN ok ht u2
        refine ⟨S1, r, ?_, a1, r2⟩
        rw [u1, Option.bind_some]
        show (if (1 : Int32) = 0 then _ else ((F_X10_stepsTo N ((S1.1 7 2) - 1) S1).bind (fun r_91 => some (r_91.1, r_91.2)))) = _
        rw [if_neg (by decide), r1]
        rfl
      · obtain ⟨S2, r, v1, v2, v3⟩ := cl_s54 hN ok ht m (a0 + 1) n S1 F' ln' tl' pr' g' (a1.cl hc) u2 u3 (by omega) u5 (by omega) (by omega)
        refine ⟨S2, r, ?_, a1.trans v2, v3⟩
        rw [u1, Option.bind_some]
        exact v1
def tld (V : Nat → Nat → Nat) : Nat → Nat
  | 0 => 0
  | k + 1 => tld V k ||| V 4 k
theorem tld_lt (ok : OKV V) : ∀ k, k ≤ V 8 0 → tld V k < 256
  | 0, _ => by show 0 < 256; decide
  | k + 1, h => or256 ok (show k < V 8 0 by omega) (tld_lt ok k (by omega))
theorem cl_s14 (hN : 1000000000 ≤ N) (ok : OKV V) (ht : t < V 8 0) (hi0 : i0 < V 8 0) : ∀ (m k n : Nat) (S : St), ClP S V → (∀ T, T < 256 → S.2.1 44 T = 0) → k + m = i0 + 1 → m < n → ∃ S' r, F_X10_search_14 N n (nI i0) (nI t) (nI (tld V k)) (nI k) S = some (r, S') ∧ AgB S S' ∧ Way V N t i0 (tld V (i0 + 1)) r S'
  | m, k, 0, S, _, _, _, hn => absurd hn (Nat.not_lt_zero m)
  | 0, k, n + 1, S, hc, h44, hk, _ => by
    have h20 := ok.1
    have e : k = i0 + 1 := hk
    have hT := tld_lt ok (i0 + 1) (by omega)
    let S1 : St := fset S 7 2 0
    have hadd := add_eq (S := S1) (F := 0) (l := i0) (T := tld V (i0 + 1)) (p := 0) rfl (by decide) (by omega) hT (by decide)
    have hQ : CQ (addS S1 0 i0 (tld V (i0 + 1)) 0) 1 (fun _ => i0) (fun _ => tld V (i0 + 1)) (fun _ => 0) := by
      refine ⟨rfl, fun a ha => ?_, fun T hT2 => ⟨0, by decide, h44 T hT2, fun j _ => ?_⟩, rfl⟩
      · rw [show a = 0 by omega]
        show upd (S1.2.1 45) 0 (nI (qc i0 (tld V (i0 + 1)) 0)) 0 = _
        exact pk_us
      · rw [Nat.zero_testBit]
        constructor
        · intro z; cases z
        · rintro ⟨a, q1, q2, -⟩; omega
    have hB : BQ V t i0 (tld V (i0 + 1)) 1 0 0 (fun _ => i0) (fun _ => tld V (i0 + 1)) (fun _ => 0) (fun _ => []) := ⟨⟨Nat.le_refl _, rfl, rfl, rfl⟩, fun a _ => ⟨hi0, hT⟩, fun a a1 a2 => by omega, fun a b a1 ab b2 => by omega, fun a b a1 ab b2 => by omega, fun a j hcc _ _ _ => by omega, fun b b1 b2 _ => by omega⟩
    have a1 : AgB S (addS S1 0 i0 (tld V (i0 + 1)) 0) := AgO.trans (AgO.fset AgO.rfl _ (by decide)) (addS_ag S1 0 i0 (tld V (i0 + 1)) 0)
    obtain ⟨S2, r, v1, v2, v3⟩ := cl_s54 hN ok ht 5122 0 N (addS S1 0 i0 (tld V (i0 + 1)) 0) 1 _ _ _ _ (a1.cl hc) hQ hB (Nat.zero_le _) (by decide) (by omega) (by omega)
    refine ⟨S2, r, ?_, a1.trans v2, v3⟩
    show (if nI i0 < nI k then ((F_X10_add (nI i0) (nI (tld V k)) (0 : Int32) (fset S 7 2 0)).bind (fun r_48 => F_X10_search_54 N N (nI t) 0 r_48)) else _) = _
    rw [if_pos (by rw [e]; exact nI_lt (by omega) (by omega)), e]
    have hadd' : F_X10_add (nI i0) (nI (tld V (i0 + 1))) (0 : Int32) (fset S 7 2 0) = _ := hadd
    rw [hadd', Option.bind_some]
    exact v1
  | m + 1, k, n + 1, S, hc, h44, hk, hn => by
    have h20 := ok.1
    have hkk : k < V 8 0 := by omega
    have e4 := (hc.2.2.2.1 k hkk).2.2.2.2.1
    obtain ⟨S', r, v1, v2⟩ := cl_s14 hN ok ht hi0 m (k + 1) n S hc h44 (by omega) (by omega)
    refine ⟨S', r, ?_, v2⟩
    rw [← v1]
    show (if nI i0 < nI k then _ else (gd (inb (nI k) 20) (F_X10_search_14 N n (nI i0) (nI t) (nI (tld V k) ||| (S.2.1 25 (Int32.toNatClampNeg (nI k)))) (nI k + 1) S))) = _
    rw [if_neg (nI_nlt (by omega) (by omega)), gd_t (inb_nI (by omega) (by decide)), nI_clamp (by omega), e4, nI_or, nI_1]
    rfl
theorem fill44 : ∀ (m i n : Nat) (S : St), i + m = 256 → m < n → (∀ j, j < i → S.2.1 44 j = 0) → ∃ S', F_J7_fill_53178_5 n 44 256 0 (nI i) (nI 256) S = some S' ∧ AgB S S' ∧ ∀ j, j < 256 → S'.2.1 44 j = 0
  | m, i, 0, S, _, hn, _ => absurd hn (Nat.not_lt_zero m)
  | 0, i, n + 1, S, hi, _, hj => by
    have e : i = 256 := hi
    refine ⟨S, ?_, AgO.rfl, by rw [← e]; exact hj⟩
    show (if nI 256 ≤ nI i then (some S) else _) = _
    rw [if_pos (by rw [e]; exact Int32.le_refl _)]
  | m + 1, i, n + 1, S, hi, hn, hj => by
    obtain ⟨S', u1, u2, u3⟩ := fill44 m (i + 1) n (aset S 44 (upd (S.2.1 44) i 0)) (by omega) (by omega) (fun j hj2 => by
      rw [aset_get]
      by_cases c : j = i
      · rw [c, pk_us]
      · rw [pk_un c]; exact hj j (by omega))
    refine ⟨S', ?_, AgO.trans (AgO.aset AgO.rfl _ (by decide)) u2, u3⟩
    rw [← u1]
    show (if nI 256 ≤ nI i then _ else (gd (inb (nI i) 256) (F_J7_fill_53178_5 n 44 256 0 (nI i + 1) (nI 256) (aset S 44 (upd (S.2.1 44) (Int32.toNatClampNeg (nI i)) 0))))) = _
    rw [if_neg (nI_ge (by omega) (by decide)), gd_t (inb_nI (by omega) (by decide)), nI_clamp (by omega), nI_1]
theorem cl_search (hN : 1000000000 ≤ N) (ok : OKV V) (ht : t < V 8 0) (hi0 : i0 < V 8 0) {S : St} (hc : ClP S V) : ∃ S' r, F_X10_search N (nI i0) (nI t) S = some (r, S') ∧ AgB S S' ∧ Way V N t i0 (tld V (i0 + 1)) r S' := by
  have h20 := ok.1
  obtain ⟨S1, s1, s2, s3⟩ := fill44 256 0 N S (by omega) (by omega) (fun j hj => absurd hj (Nat.not_lt_zero j))
  obtain ⟨S2, r, v1, v2, v3⟩ := cl_s14 hN ok ht hi0 (i0 + 1) 0 N S1 (s2.cl hc) s3 (by omega) (by omega)
  refine ⟨S2, r, ?_, s2.trans v2, v3⟩
  unfold F_X10_search F_J7_fill_53178
  have s1' : F_J7_fill_53178_5 N 44 256 0 0 (Int32.ofNat 256) S = some S1 := s1
  rw [s1', Option.bind_some]
  exact v1
end
