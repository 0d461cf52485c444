/-! the class's search over the queue -/
def qc (l T p : Nat) : Nat := l + 32 * T + 8192 * p
theorem qc_eq {l T p : Nat} (hl : l < 32) (hT : T < 256) (hp : p < 8192) : (nI l ||| (nI T <<< ((5 : Int32) &&& 31))) ||| (nI p <<< ((13 : Int32) &&& 31)) = nI (qc l T p) := by
  have e1 : nI T <<< ((5 : Int32) &&& 31) = nI (T * 2 ^ 5) := pk_shlN _ 5 (by decide) (by omega)
  have e2 : nI p <<< ((13 : Int32) &&& 31) = nI (p * 2 ^ 13) := pk_shlN _ 13 (by decide) (by omega)
  rw [e1, e2, nI_or, nI_or]
  congr 1
  have e3 : l ||| T * 2 ^ 5 = l + 32 * T := by
    rw [Nat.or_comm, Nat.mul_comm, ← Nat.two_pow_add_eq_or_of_lt (by omega)]
    omega
  rw [e3, Nat.or_comm, Nat.mul_comm, ← Nat.two_pow_add_eq_or_of_lt (by omega)]
  unfold qc
  omega
theorem qc_l {l T p : Nat} (hl : l < 32) (hT : T < 256) (hp : p < 8192) : nI (qc l T p) &&& 31 = nI l := by
  rw [pk_andN (by unfold qc; omega) 5 (by decide)]
  congr 1
  unfold qc
  omega
theorem qc_t {l T p : Nat} (hl : l < 32) (hT : T < 256) (hp : p < 8192) : (nI (qc l T p) >>> ((5 : Int32) &&& 31)) &&& 255 = nI T := by
  rw [pk_shrN (by unfold qc; omega) _ 5 (by decide), pk_andN (by unfold qc; omega) 8 (by decide)]
  congr 1
  unfold qc
  omega
theorem qc_p {l T p : Nat} (hl : l < 32) (hT : T < 256) (hp : p < 8192) : nI (qc l T p) >>> ((13 : Int32) &&& 31) = nI p := by
  rw [pk_shrN (by unfold qc; omega) _ 13 (by decide)]
  congr 1
  unfold qc
  omega
def CQ (S : St) (F : Nat) (ln tl pr : Nat → Nat) : Prop := S.1 7 2 = nI F ∧ (∀ a, a < F → S.2.1 45 a = nI (qc (ln a) (tl a) (pr a))) ∧ (∀ T, T < 256 → ∃ mk, mk < 2 ^ 20 ∧ S.2.1 44 T = nI mk ∧ ∀ j, j < 20 → (mk.testBit j = true ↔ ∃ a, 1 ≤ a ∧ a < F ∧ ln a = j ∧ tl a = T)) ∧ pr 0 = 0
def fB (c _s : Nat) : Bool := !decide (c = 7)
def aB (k : Nat) : Bool := !decide (k = 44 ∨ k = 45)
def AgB (S S' : St) : Prop := AgO fB aB lAll S S'
theorem AgB.cl {V : Nat → Nat → Nat} {S S' : St} (h : AgB S S') (hc : ClP S V) : ClP S' V := hc.agree (AgO.weak h (fun c s q => by have := fCl_mem q; refine not_t (fun z => ?_); have := of_decide_eq_true z; omega) (fun k q => by have := aCl_mem q; refine not_t (fun z => ?_); have := of_decide_eq_true z; omega) (fun k q => by cases q))
def addS (S : St) (F l T p : Nat) : St := fset (aset S 45 (upd (S.2.1 45) F (nI (qc l T p)))) 7 2 (nI (F + 1))
theorem add_eq {S : St} {F l T p : Nat} (h : S.1 7 2 = nI F) (hF : F ≤ 5120) (hl : l < 32) (hT : T < 256) (hp : p < 8192) : F_X10_add (nI l) (nI T) (nI p) S = some (addS S F l T p) := by
  unfold F_X10_add
  rw [if_neg (by rw [h]; exact nI_ge (b := 5121) (by omega) (by decide)), gd_t (by rw [h]; exact inb_nI (by omega) (by decide)), qc_eq hl hT hp]
  show some (fset (aset S 45 (upd (S.2.1 45) (Int32.toNatClampNeg (S.1 7 2)) (nI (qc l T p)))) 7 2 (S.1 7 2 + 1)) = _
  rw [h, nI_clamp (by omega), nI_1]
  rfl
theorem addS_ag (S : St) (F l T p : Nat) : AgB S (addS S F l T p) := AgO.fset (AgO.aset AgO.rfl _ (by decide)) _ (by decide)
theorem two_sh : ∀ i, i < 20 → (2 : Int32) <<< (nI i &&& 31) = nI (2 ^ (i + 1)) := by decide +kernel
section
variable {N : Nat} {V : Nat → Nat → Nat} {t i0 T0 a0 : Nat}
/-- the queue behind a place that leads to the target -/
def Fnd (V : Nat → Nat → Nat) (t i0 T0 a0 : Nat) (S : St) : Prop := ∃ F ln tl pr g, BQ V t i0 T0 F a0 t ln tl pr g ∧ a0 < F ∧ mgB V (ln a0) (tl a0) t = true ∧ F ≤ 5120 ∧ S.1 7 2 = nI (F + 1) ∧ (∀ a, a < F → S.2.1 45 a = nI (qc (ln a) (tl a) (pr a))) ∧ S.2.1 45 F = nI (qc t (tl a0 ||| V 4 t) a0)
theorem cl_r37 (ok : OKV V) (ht : t < V 8 0) {li Ta : Nat} : ∀ (m nx n : Nat) (S : St) (F : Nat) (ln tl pr : Nat → Nat) (g : Nat → List Nat), ClP S V → CQ S F ln tl pr → BQ V t i0 T0 F a0 nx ln tl pr g → a0 < F → ln a0 = li → tl a0 = Ta → F ≤ 5121 → nx + m = V 8 0 → m < n → ∃ S', AgB S S' ∧ ((F_X10_reaches_37 n (nI a0) (nI t) (nI Ta) (nI (jm V li ||| 2 ^ (li + 1))) (nI nx) S = some (1, S') ∧ Fnd V t i0 T0 a0 S') ∨ (F_X10_reaches_37 n (nI a0) (nI t) (nI Ta) (nI (jm V li ||| 2 ^ (li + 1))) (nI nx) S = some (0, S') ∧ ∃ F' ln' tl' pr' g', CQ S' F' ln' tl' pr' ∧ BQ V t i0 T0 F' (a0 + 1) 0 ln' tl' pr' g' ∧ F ≤ F' ∧ F' ≤ 5121))
  | m, nx, 0, S, F, ln, tl, pr, g, _, _, _, _, _, _, _, _, hn => absurd hn (Nat.not_lt_zero m)
  | 0, nx, n + 1, S, F, ln, tl, pr, g, hc, hQ, hB, ha0, hli, hTa, hF, hnx, _ => by
    have e : nx = V 8 0 := hnx
    refine ⟨S, AgO.rfl, Or.inr ⟨?_, F, ln, tl, pr, g, hQ, ?_, Nat.le_refl _, hF⟩⟩
    · show (if (S.1 1 0) ≤ nI nx then (some (0, S)) else _) = _
      rw [if_pos (by rw [hc.1, e]; exact Int32.le_refl _)]
    · rw [e] at hB
      exact hB.next
  | m + 1, nx, n + 1, S, F, ln, tl, pr, g, hc, hQ, hB, ha0, hli, hTa, hF, hnx, hn => by
    have h20 := ok.1
    have hnn : nx < V 8 0 := by omega
    obtain ⟨hl1, hl2⟩ := hB.2.1 a0 ha0
    rw [hli] at hl1
    rw [hTa] at hl2
    have gi : inb (nI nx) 20 = true := inb_nI (by omega) (by decide)
    obtain ⟨-, -, -, -, e4, e5, -⟩ := hc.2.2.2.1 nx hnn
    have ho := or256 ok hnn hl2
    have hjm : jm V li < 2 ^ 20 := msk_lt h20
    have hpw : 2 ^ (li + 1) < 2 ^ 30 := Nat.pow_lt_pow_right (by decide) (by omega)
    have hmk : jm V li ||| 2 ^ (li + 1) < 2 ^ 30 := Nat.or_lt_two_pow (by omega) hpw
    have htb : (jm V li ||| 2 ^ (li + 1)).testBit nx = (decide (nx = li + 1) || jpB V li nx) := by
      rw [Nat.testBit_or, Nat.testBit_two_pow]
      unfold jm
      rw [maskOf_bit, decide_eq_true hnn, Bool.true_and, Bool.or_comm]
      congr 1
      rw [decide_eq_decide]
      omega
    obtain ⟨mk, k1, k2, k3⟩ := hQ.2.2.1 (Ta ||| V 4 nx) ho
    have stp : F_X10_reaches_37 (n + 1) (nI a0) (nI t) (nI Ta) (nI (jm V li ||| 2 ^ (li + 1))) (nI nx) S = (if ((nI (jm V li ||| 2 ^ (li + 1)) >>> (nI nx &&& 31)) &&& 1) = 0 then (F_X10_reaches_37 n (nI a0) (nI t) (nI Ta) (nI (jm V li ||| 2 ^ (li + 1))) (nI (nx + 1)) S) else (if (nI (V 5 nx) &&& (nI Ta ^^^ (-1))) = 0 then (if nI nx = nI t then ((F_X10_add (nI nx) (nI (Ta ||| V 4 nx)) (nI a0) S).bind (fun r_98 => some (1, r_98))) else (if ((nI mk >>> (nI nx &&& 31)) &&& 1) = 0 then ((F_X10_add (nI nx) (nI (Ta ||| V 4 nx)) (nI a0) (aset S 44 (upd (S.2.1 44) (Ta ||| V 4 nx) (nI mk ||| (1 <<< (nI nx &&& 31)))))).bind (fun r_138 => F_X10_reaches_37 n (nI a0) (nI t) (nI Ta) (nI (jm V li ||| 2 ^ (li + 1))) (nI (nx + 1)) r_138)) else (F_X10_reaches_37 n (nI a0) (nI t) (nI Ta) (nI (jm V li ||| 2 ^ (li + 1))) (nI (nx + 1)) S))) else (F_X10_reaches_37 n (nI a0) (nI t) (nI Ta) (nI (jm V li ||| 2 ^ (li + 1))) (nI (nx + 1)) S))) := by
      have g256 : inb (nI (Ta ||| V 4 nx)) 256 = true := inb_nI ho (by decide)
      show (if (S.1 1 0) ≤ nI nx then _ else (if ((nI (jm V li ||| 2 ^ (li + 1)) >>> (nI nx &&& 31)) &&& 1) = 0 then (F_X10_reaches_37 n (nI a0) (nI t) (nI Ta) (nI (jm V li ||| 2 ^ (li + 1))) (nI nx + 1) S) else (gd (inb (nI nx) 20) (if ((S.2.1 26 (Int32.toNatClampNeg (nI nx))) &&& (nI Ta ^^^ (-1))) = 0 then (gd (inb (nI nx) 20) (if nI nx = nI t then ((F_X10_add (nI nx) (nI Ta ||| (S.2.1 25 (Int32.toNatClampNeg (nI nx)))) (nI a0) S).bind (fun r_98 => some (1, r_98))) else (gd (inb (nI Ta ||| (S.2.1 25 (Int32.toNatClampNeg (nI nx)))) 256) (if (((S.2.1 44 (Int32.toNatClampNeg (nI Ta ||| (S.2.1 25 (Int32.toNatClampNeg (nI nx)))))) >>> (nI nx &&& 31)) &&& 1) = 0 then (gd (inb (nI Ta ||| (S.2.1 25 (Int32.toNatClampNeg (nI nx)))) 256) (gd (inb (nI Ta ||| (S.2.1 25 (Int32.toNatClampNeg (nI nx)))) 256) ((F_X10_add (nI nx) (nI Ta ||| (S.2.1 25 (Int32.toNatClampNeg (nI nx)))) (nI a0) (aset S 44 (upd (S.2.1 44) (Int32.toNatClampNeg (nI Ta ||| (S.2.1 25 (Int32.toNatClampNeg (nI nx))))) ((S.2.1 44 (Int32.toNatClampNeg (nI Ta ||| (S.2.1 25 (Int32.toNatClampNeg (nI nx)))))) ||| (1 <<< (nI nx &&& 31)))))).bind (fun r_138 => F_X10_reaches_37 n (nI a0) (nI t) (nI Ta) (nI (jm V li ||| 2 ^ (li + 1))) (nI nx + 1) r_138)))) else (F_X10_reaches_37 n (nI a0) (nI t) (nI Ta) (nI (jm V li ||| 2 ^ (li + 1))) (nI nx + 1) S))))) else (F_X10_reaches_37 n (nI a0) (nI t) (nI Ta) (nI (jm V li ||| 2 ^ (li + 1))) (nI nx + 1) S))))) = _
      rw [if_neg (by rw [hc.1]; exact nI_ge hnn (by omega)), gd_t gi, gd_t gi, nI_clamp (n := nx) (by omega), e4, e5, nI_or, gd_t g256, gd_t g256, gd_t g256, nI_clamp (n := Ta ||| V 4 nx) (by omega), k2, nI_1]
    have go : ∀ (S1 : St) (F1 : Nat) (ln1 tl1 pr1 : Nat → Nat) (g1 : Nat → List Nat), AgB S S1 → CQ S1 F1 ln1 tl1 pr1 → BQ V t i0 T0 F1 a0 (nx + 1) ln1 tl1 pr1 g1 → F ≤ F1 → ln1 a0 = li → tl1 a0 = Ta → F1 ≤ 5121 → ∃ S', AgB S S' ∧ ((F_X10_reaches_37 n (nI a0) (nI t) (nI Ta) (nI (jm V li ||| 2 ^ (li + 1))) (nI (nx + 1)) S1 = some (1, S') ∧ Fnd V t i0 T0 a0 S') ∨ (F_X10_reaches_37 n (nI a0) (nI t) (nI Ta) (nI (jm V li ||| 2 ^ (li + 1))) (nI (nx + 1)) S1 = some (0, S') ∧ ∃ F' ln' tl' pr' g', CQ S' F' ln' tl' pr' ∧ BQ V t i0 T0 F' (a0 + 1) 0 ln' tl' pr' g' ∧ F ≤ F' ∧ F' ≤ 5121)) := by
      intro S1 F1 ln1 tl1 pr1 g1 hA hQ1 hB1 hFF h1 h2 h3
      obtain ⟨S', u1, u2⟩ := cl_r37 ok ht m (nx + 1) n S1 F1 ln1 tl1 pr1 g1 (hA.cl hc) hQ1 hB1 (by omega) h1 h2 h3 (by omega) (by omega)
      refine ⟨S', hA.trans u1, u2.imp id (fun ⟨w1, F', ln', tl', pr', g', w2, w3, w4, w5⟩ => ⟨w1, F', ln', tl', pr', g', w2, w3, by omega, w5⟩)⟩
    rw [stp]
    by_cases c : (decide (nx = li + 1) || jpB V li nx) = true
    · rw [if_neg (fun z => by rw [(tst_bit (by omega) (by omega)).mp z] at htb; rw [← htb] at c; cases c)]
      by_cases d : (nI (V 5 nx) &&& (nI Ta ^^^ (-1))) = 0
      · rw [if_pos d]
        have hmg : mgB V (ln a0) (tl a0) nx = true := by
          unfold mgB
          rw [hli, hTa, c, decide_eq_true d]; rfl
        by_cases f : nx = t
        · subst f
          rw [if_pos rfl]
          have hro := hB.room ok hnn ho (fun b b1 b2 z => (hB.2.2.1 b b1 b2).2.2.1 z.1)
          rw [add_eq hQ.1 hro (by omega) ho (by omega), Option.bind_some]
          refine ⟨addS S F nx (Ta ||| V 4 nx) a0, addS_ag _ _ _ _ _, Or.inl ⟨rfl, F, ln, tl, pr, g, hB, ha0, hmg, hro, fset_get _ _ _ _, fun a ha => ?_, ?_⟩⟩
          · show upd (S.2.1 45) F _ a = _
            rw [pk_un (by omega)]
            exact hQ.2.1 a ha
          · show upd (S.2.1 45) F (nI (qc nx (Ta ||| V 4 nx) a0)) F = _
            rw [pk_us, hTa]
        · rw [if_neg (show ¬ nI nx = nI t from fun z => f (nI_inj (by omega) (by omega) z))]
          by_cases w : mk.testBit nx = true
          · rw [if_neg (fun z => by rw [(tst_bit (by omega) (by omega)).mp z] at w; cases w)]
            obtain ⟨b, b1, b2, b3, b4⟩ := (k3 nx (by omega)).mp w
            exact go S F ln tl pr g AgO.rfl hQ (hB.skip (fun _ _ => ⟨f, b, b1, b2, b3, by rw [hTa]; exact b4, (hB.2.2.1 b b1 b2).2.1⟩)) (Nat.le_refl _) hli hTa hF
          · rw [if_pos ((tst_bit (by omega) (by omega)).mpr (Bool.eq_false_iff.mpr w))]
            have hnew : ∀ b, 1 ≤ b → b < F → ¬ (ln b = nx ∧ tl b = tl a0 ||| V 4 nx) := fun b b1 b2 z => w ((k3 nx (by omega)).mpr ⟨b, b1, b2, z.1, by rw [← hTa]; exact z.2⟩)
            have hro := hB.room ok hnn (show tl a0 ||| V 4 nx < 256 by rw [hTa]; exact ho) hnew
            let S1 : St := aset S 44 (upd (S.2.1 44) (Ta ||| V 4 nx) (nI (mk ||| 2 ^ nx)))
            have eS1 : aset S 44 (upd (S.2.1 44) (Ta ||| V 4 nx) (nI mk ||| (1 <<< (nI nx &&& 31)))) = S1 := by
              show _ = aset S 44 (upd (S.2.1 44) (Ta ||| V 4 nx) (nI (mk ||| 2 ^ nx)))
              rw [bit_le _ (by omega), nI_or]
            rw [eS1, add_eq (S := S1) hQ.1 hro (by omega) ho (by omega), Option.bind_some]
            have hB2 := hB.add ok ha0 hnn f hmg hnew
            have na : a0 ≠ F := by omega
            refine go (addS S1 F nx (Ta ||| V 4 nx) a0) (F + 1) _ _ _ _ (AgO.trans (AgO.aset AgO.rfl _ (by decide)) (addS_ag S1 F nx (Ta ||| V 4 nx) a0)) ⟨fset_get _ _ _ _, fun a ha => ?_, fun T hT => ?_, by rw [upN_n _ _ (show (0 : Nat) ≠ F by omega)]; exact hQ.2.2.2⟩ hB2 (by omega) (by rw [upN_n _ _ na]; exact hli) (by rw [upN_n _ _ na]; exact hTa) (by omega)
            · show upd (S.2.1 45) F (nI (qc nx (Ta ||| V 4 nx) a0)) a = _
              by_cases z : a = F
              · rw [z, pk_us, upN_s, upN_s, upN_s, hTa]
              · rw [pk_un z, upN_n _ _ z, upN_n _ _ z, upN_n _ _ z]
                exact hQ.2.1 a (by omega)
            · by_cases z : T = Ta ||| V 4 nx
              · subst z
                refine ⟨mk ||| 2 ^ nx, Nat.or_lt_two_pow k1 (Nat.pow_lt_pow_right (by decide) (by omega)), pk_us, fun j hj => ?_⟩
                rw [Nat.testBit_or, Nat.testBit_two_pow, Bool.or_eq_true, decide_eq_true_eq, k3 j hj]
                constructor
                · rintro (⟨a, q1, q2, q3, q4⟩ | q)
                  · have nf : a ≠ F := by omega
                    exact ⟨a, q1, by omega, by rw [upN_n _ _ nf]; exact q3, by rw [upN_n _ _ nf]; exact q4⟩
                  · exact ⟨F, by omega, by omega, by rw [upN_s]; exact q, by rw [upN_s, hTa]⟩
                · rintro ⟨a, q1, q2, q3, q4⟩
                  by_cases nf : a = F
                  · subst nf
                    rw [upN_s] at q3
                    exact Or.inr q3
                  · rw [upN_n _ _ nf] at q3 q4
                    exact Or.inl ⟨a, q1, by omega, q3, q4⟩
              · obtain ⟨mk2, p1, p2, p3⟩ := hQ.2.2.1 T hT
                refine ⟨mk2, p1, ?_, fun j hj => ?_⟩
                · show upd (S.2.1 44) (Ta ||| V 4 nx) (nI (mk ||| 2 ^ nx)) T = _
                  rw [pk_un z]; exact p2
                · rw [p3 j hj]
                  constructor
                  · rintro ⟨a, q1, q2, q3, q4⟩
                    have nf : a ≠ F := by omega
                    exact ⟨a, q1, by omega, by rw [upN_n _ _ nf]; exact q3, by rw [upN_n _ _ nf]; exact q4⟩
                  · rintro ⟨a, q1, q2, q3, q4⟩
                    by_cases nf : a = F
                    · subst nf
                      rw [upN_s, hTa] at q4
                      exact absurd q4.symm z
                    · rw [upN_n _ _ nf] at q3 q4
                      exact ⟨a, q1, by omega, q3, q4⟩
      · rw [if_neg d]
        refine go S F ln tl pr g AgO.rfl hQ (hB.skip (fun _ hm => ?_)) (Nat.le_refl _) hli hTa hF
        unfold mgB at hm
        rw [hli, hTa, decide_eq_false d, Bool.and_false] at hm
        cases hm
    · rw [if_pos ((tst_bit (by omega) (by omega)).mpr (by rw [htb]; exact Bool.eq_false_iff.mpr c))]
      refine go S F ln tl pr g AgO.rfl hQ (hB.skip (fun _ hm => ?_)) (Nat.le_refl _) hli hTa hF
      unfold mgB at hm
      rw [hli, Bool.eq_false_iff.mpr c, Bool.false_and] at hm
      cases hm
theorem cl_reaches (hN : 130 ≤ N) (ok : OKV V) (ht : t < V 8 0) {S : St} {F : Nat} {ln tl pr : Nat → Nat} {g : Nat → List Nat} (hc : ClP S V) (hQ : CQ S F ln tl pr) (hB : BQ V t i0 T0 F a0 0 ln tl pr g) (ha0 : a0 < F) (hF : F ≤ 5121) : ∃ S', AgB S S' ∧ ((F_X10_reaches N (nI a0) (nI t) S = some (1, S') ∧ Fnd V t i0 T0 a0 S') ∨ (F_X10_reaches N (nI a0) (nI t) S = some (0, S') ∧ ∃ F' ln' tl' pr' g', CQ S' F' ln' tl' pr' ∧ BQ V t i0 T0 F' (a0 + 1) 0 ln' tl' pr' g' ∧ F ≤ F' ∧ F' ≤ 5121)) := by
  have h20 := ok.1
  obtain ⟨hl, hT⟩ := hB.2.1 a0 ha0
  have hp : pr a0 < 8192 := by
    rcases Nat.eq_zero_or_pos a0 with z | z
    · rw [z, hQ.2.2.2]; decide
    · have := (hB.2.2.1 a0 z ha0).1
      omega
  have hq := hQ.2.1 a0 ha0
  obtain ⟨S', u1, u2⟩ := cl_r37 ok ht (V 8 0) 0 N S F ln tl pr g hc hQ hB ha0 rfl rfl hF (by omega) (by omega)
  refine ⟨S', u1, ?_⟩
  have e : F_X10_reaches N (nI a0) (nI t) S = F_X10_reaches_37 N (nI a0) (nI t) (nI (tl a0)) (nI (jm V (ln a0) ||| 2 ^ (ln a0 + 1))) 0 S := by
    unfold F_X10_reaches F_X10_lineOf
    rw [gd_t (inb_nI (by omega) (by decide)), nI_clamp (by omega), hq, qc_l (by omega) hT hp, Option.bind_some]
    show gd (inb (nI a0) 5121) ((F_X8_jumpsFrom (nI (ln a0)) S).bind (fun r_24 => F_X10_reaches_37 N (nI a0) (nI t) (((S.2.1 45 a0) >>> (5 &&& 31)) &&& 255) (r_24.1 ||| (2 <<< (nI (ln a0) &&& 31))) 0 r_24.2)) = _
    rw [gd_t (inb_nI (by omega) (by decide)), jf_eq ok hc hl, Option.bind_some, hq, qc_t (by omega) hT hp, two_sh _ (by omega), nI_or]
  rw [e]
  exact u2
end
